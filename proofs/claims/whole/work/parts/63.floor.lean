/-! Phase B: floor divisions by 16, 256, 4096, class and reference; the reference's sine -/
theorem floor_16 {sh : zShp} {M : zMem} (p0 : Int32) : ∃ r : Int32, zX12_floor sh p0 (16 : Int32) M = some r ∧ r.toInt = p0.toInt / 16 := by
  have hd : (16 : Int32).toInt = 16 := rfl
  have hr := r_rng p0
  have hz : ¬ (16 : Int32) = 0 := by decide
  have ht : (p0 / (16 : Int32)).toInt = p0.toInt / 16 + if 0 ≤ p0.toInt ∨ (16 : Int) ∣ p0.toInt then 0 else 1 := by
    rw [Int32.toInt_div, hd, Int.tdiv_eq_ediv]
    rw [show Int.sign 16 = 1 from rfl]
    split <;> exact r_bm (by omega) (by omega)
  unfold zX12_floor zjX12_floor_10 zjX12_floor_21
  rw [rgd (rnz hz)]
  by_cases h0 : 0 ≤ p0
  · have h0' : 0 ≤ p0.toInt := r_le.mp h0
    rw [if_pos h0]
    exact ⟨_, rfl, by rw [ht, if_pos (Or.inl h0')]; omega⟩
  · have h0' : ¬ 0 ≤ p0.toInt := fun h => h0 (r_le.mpr h)
    rw [if_neg h0]
    have hm : (zrem p0 (16 : Int32)).toInt = p0.toInt - (p0 / (16 : Int32)).toInt * 16 := by
      unfold zrem
      have h1 : (p0 / (16 : Int32) * (16 : Int32)).toInt = (p0 / (16 : Int32)).toInt * 16 := by
        rw [r_mul (by rw [hd, ht]; split <;> omega) (by rw [hd, ht]; split <;> omega), hd]
      rw [r_sub (by rw [h1, ht]; split <;> omega) (by rw [h1, ht]; split <;> omega), h1]
    by_cases hq : (zrem p0 (16 : Int32)) = 0
    · rw [if_pos hq]
      have hq' := r_eq.mp hq
      rw [hm, ht] at hq'
      have e0 : (0 : Int32).toInt = 0 := rfl
      rw [e0] at hq'
      refine ⟨_, rfl, ?_⟩
      rw [ht]
      split at hq' <;> rename_i g
      · rw [if_pos g]; omega
      · omega
    · rw [if_neg hq, rgd (rnz hz)]
      have hq' : ¬ (zrem p0 (16 : Int32)).toInt = 0 := fun h => hq (r_eq.mpr h)
      rw [hm, ht] at hq'
      have e1 : (1 : Int32).toInt = 1 := rfl
      refine ⟨_, rfl, ?_⟩
      split at hq' <;> rename_i g
      · omega
      · rw [r_sub (by rw [ht, if_neg g, e1]; omega) (by rw [ht, if_neg g, e1]; omega), ht, if_neg g, e1]; omega
theorem floor_256 {sh : zShp} {M : zMem} (p0 : Int32) : ∃ r : Int32, zX12_floor sh p0 (256 : Int32) M = some r ∧ r.toInt = p0.toInt / 256 := by
  have hd : (256 : Int32).toInt = 256 := rfl
  have hr := r_rng p0
  have hz : ¬ (256 : Int32) = 0 := by decide
  have ht : (p0 / (256 : Int32)).toInt = p0.toInt / 256 + if 0 ≤ p0.toInt ∨ (256 : Int) ∣ p0.toInt then 0 else 1 := by
    rw [Int32.toInt_div, hd, Int.tdiv_eq_ediv]
    rw [show Int.sign 256 = 1 from rfl]
    split <;> exact r_bm (by omega) (by omega)
  unfold zX12_floor zjX12_floor_10 zjX12_floor_21
  rw [rgd (rnz hz)]
  by_cases h0 : 0 ≤ p0
  · have h0' : 0 ≤ p0.toInt := r_le.mp h0
    rw [if_pos h0]
    exact ⟨_, rfl, by rw [ht, if_pos (Or.inl h0')]; omega⟩
  · have h0' : ¬ 0 ≤ p0.toInt := fun h => h0 (r_le.mpr h)
    rw [if_neg h0]
    have hm : (zrem p0 (256 : Int32)).toInt = p0.toInt - (p0 / (256 : Int32)).toInt * 256 := by
      unfold zrem
      have h1 : (p0 / (256 : Int32) * (256 : Int32)).toInt = (p0 / (256 : Int32)).toInt * 256 := by
        rw [r_mul (by rw [hd, ht]; split <;> omega) (by rw [hd, ht]; split <;> omega), hd]
      rw [r_sub (by rw [h1, ht]; split <;> omega) (by rw [h1, ht]; split <;> omega), h1]
    by_cases hq : (zrem p0 (256 : Int32)) = 0
    · rw [if_pos hq]
      have hq' := r_eq.mp hq
      rw [hm, ht] at hq'
      have e0 : (0 : Int32).toInt = 0 := rfl
      rw [e0] at hq'
      refine ⟨_, rfl, ?_⟩
      rw [ht]
      split at hq' <;> rename_i g
      · rw [if_pos g]; omega
      · omega
    · rw [if_neg hq, rgd (rnz hz)]
      have hq' : ¬ (zrem p0 (256 : Int32)).toInt = 0 := fun h => hq (r_eq.mpr h)
      rw [hm, ht] at hq'
      have e1 : (1 : Int32).toInt = 1 := rfl
      refine ⟨_, rfl, ?_⟩
      split at hq' <;> rename_i g
      · omega
      · rw [r_sub (by rw [ht, if_neg g, e1]; omega) (by rw [ht, if_neg g, e1]; omega), ht, if_neg g, e1]; omega
theorem floor_4096 {sh : zShp} {M : zMem} (p0 : Int32) : ∃ r : Int32, zX12_floor sh p0 (4096 : Int32) M = some r ∧ r.toInt = p0.toInt / 4096 := by
  have hd : (4096 : Int32).toInt = 4096 := rfl
  have hr := r_rng p0
  have hz : ¬ (4096 : Int32) = 0 := by decide
  have ht : (p0 / (4096 : Int32)).toInt = p0.toInt / 4096 + if 0 ≤ p0.toInt ∨ (4096 : Int) ∣ p0.toInt then 0 else 1 := by
    rw [Int32.toInt_div, hd, Int.tdiv_eq_ediv]
    rw [show Int.sign 4096 = 1 from rfl]
    split <;> exact r_bm (by omega) (by omega)
  unfold zX12_floor zjX12_floor_10 zjX12_floor_21
  rw [rgd (rnz hz)]
  by_cases h0 : 0 ≤ p0
  · have h0' : 0 ≤ p0.toInt := r_le.mp h0
    rw [if_pos h0]
    exact ⟨_, rfl, by rw [ht, if_pos (Or.inl h0')]; omega⟩
  · have h0' : ¬ 0 ≤ p0.toInt := fun h => h0 (r_le.mpr h)
    rw [if_neg h0]
    have hm : (zrem p0 (4096 : Int32)).toInt = p0.toInt - (p0 / (4096 : Int32)).toInt * 4096 := by
      unfold zrem
      have h1 : (p0 / (4096 : Int32) * (4096 : Int32)).toInt = (p0 / (4096 : Int32)).toInt * 4096 := by
        rw [r_mul (by rw [hd, ht]; split <;> omega) (by rw [hd, ht]; split <;> omega), hd]
      rw [r_sub (by rw [h1, ht]; split <;> omega) (by rw [h1, ht]; split <;> omega), h1]
    by_cases hq : (zrem p0 (4096 : Int32)) = 0
    · rw [if_pos hq]
      have hq' := r_eq.mp hq
      rw [hm, ht] at hq'
      have e0 : (0 : Int32).toInt = 0 := rfl
      rw [e0] at hq'
      refine ⟨_, rfl, ?_⟩
      rw [ht]
      split at hq' <;> rename_i g
      · rw [if_pos g]; omega
      · omega
    · rw [if_neg hq, rgd (rnz hz)]
      have hq' : ¬ (zrem p0 (4096 : Int32)).toInt = 0 := fun h => hq (r_eq.mpr h)
      rw [hm, ht] at hq'
      have e1 : (1 : Int32).toInt = 1 := rfl
      refine ⟨_, rfl, ?_⟩
      split at hq' <;> rename_i g
      · omega
      · rw [r_sub (by rw [ht, if_neg g, e1]; omega) (by rw [ht, if_neg g, e1]; omega), ht, if_neg g, e1]; omega
