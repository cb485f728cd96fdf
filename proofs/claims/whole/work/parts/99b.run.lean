/-! Phase B: run -/
theorem left_loop {N : zMem} {L : List Int} {t : Nat} (hL : rmL L) (e0 : zR N 0 0 = 1) (ht : t ≤ L.length) (hr : ∀ k, k < L.length → zI N 1 (130 + k) = iI (L.getD k 0)) (hd : (if zI N 1 17 = 1 then zI N 1 19 + zI N 1 18 else 2 * zI N 1 12 + zI N 1 14) - zI N 1 15 = nI t) : ∀ (r i F : Nat), i + r = t → r < F → zlX12_left_40 shM 0 N F (iI (psum L i)) (nI i) = some (iI (psum L t)) := by
  have h60 := hL.1
  intro r
  induction r with
  | zero =>
    intro i F h1 hF
    obtain ⟨F, rfl⟩ : ∃ x, F = x + 1 := ⟨F - 1, by omega⟩
    obtain rfl : i = t := by omega
    simp only [zlX12_left_40]
    unfold zbX12_left_40
    rw [allTicks_eq e0, rob, e0, show zlen shM 1 = 194 from rfl, rgd (by decide), show (15 : Int32).toNatClampNeg = 15 from rfl, hd, if_pos (nI_le (by omega) (by omega))]
  | succ r ih =>
    intro i F h1 hF
    obtain ⟨F, rfl⟩ : ∃ x, F = x + 1 := ⟨F - 1, by omega⟩
    simp only [zlX12_left_40]
    unfold zbX12_left_40
    rw [allTicks_eq e0, rob, e0, show zlen shM 1 = 194 from rfl, rgd (by decide), show (15 : Int32).toNatClampNeg = 15 from rfl, hd, if_neg (nI_ge (by omega) (by omega)), show (130 : Int32) + nI i = nI (130 + i) by rw [show (130 : Int32) = nI 130 from rfl, nI_add], rgd (in_a (by omega) (by omega)), nI_clamp (by omega), hr i (by omega), iI_add, ← psum_s, rbd, nI_1]
    exact ih (i + 1) F (by omega) (by omega)
theorem left_eq {M N : zMem} {bb sb it nA nB b : Nat} (hB : Bx M N bb sb it nA nB) (hb : stB b) (hx : rSx (vSt M b) (zI N 1) nA) : ∃ v, zX8_microsLeft shC b M = some v ∧ zX12_left shM 0 N = some v := by
  have n0 : zR N 0 0 = 1 := hB.2.2.1.o.1
  have s8 : zI M b 8 = zI N 1 1 := by have := hx.2.2.2.2.2.2.2.1; rw [vSt_at rfl] at this; exact this
  have z1 : zR M b 1 = b + 2 := by simp only [hB.2.1.s hb]
  have z2 : zR M (b + 2) 2 = b + 5 := by simp only [hB.2.1.s hb]
  have z5 : zR M (b + 5) 0 = b + 6 := by simp only [hB.2.1.s hb]
  have l61 : zlen shC (b + 6) = 61 := (lnS hb).2.2.2.1
  unfold zX8_microsLeft zjX8_microsLeft_46 zX12_left
  rw [n0, show zlen shM 1 = 194 from rfl, rgd (show zin (1 : Int32) 194 = true by decide), show (1 : Int32).toNatClampNeg = 1 from rfl, s8]
  rcases hx.2.2.2.2.2.2.2.2.2 with ⟨h0, -⟩ | ⟨h0, hm⟩
  · rw [if_pos h0, if_pos h0]; exact ⟨_, rfl, rfl⟩
  · have h1n : ¬ (zI N 1 1 = 0) := by rw [h0]; decide
    rw [if_neg h1n, if_neg h1n, rgd (show zin (17 : Int32) 194 = true by decide), rgd (show zin (3 : Int32) 194 = true by decide), rgd (show zin (16 : Int32) 194 = true by decide), show (17 : Int32).toNatClampNeg = 17 from rfl, show (3 : Int32).toNatClampNeg = 3 from rfl, show (16 : Int32).toNatClampNeg = 16 from rfl]
    obtain ⟨k1, k2, k3, k4, k5, k6, k7, k8, k9, k10, k11, ⟨k12, k12'⟩, L, k13, k14, k15, k16⟩ := hm
    have h60 := k13.1
    rw [vSt_at rfl] at k1 k7 k12
    have c9 : zI M b 9 = zI N 1 17 := k12
    have c11 : zI M b 11 = zI N 1 16 := k7
    rcases k16 with ⟨m17, m12, mr, E, rest, D, m8, m13, m9, m14, m15, mD0, mD, m10, mW, me, mG⟩ | ⟨m17, m18, mr, H, D, m15, m19, mH0, mH1, mHD, mD, m10, mG⟩
    · rw [c9, if_pos m17, if_pos m17, z1, k1, c11]
      exact ⟨_, rfl, rfl⟩
    · have h17n : ¬ (zI N 1 17 = 0) := by rw [m17]; decide
      rw [vSt_at rfl] at m10
      have c10 : zI M b 10 = iI (H + L.length - D) := m10
      have hll := left_loop (t := (H + L.length - D).toNat) k13 n0 (by omega) mr (by rw [if_pos m17, m19, m18, m15, iI_add, iI_sub, iI_n]; congr 1; omega) (H + L.length - D).toNat 0 zF (by omega) (by unfold zF; omega)
      have h14 := k14 (H + L.length - D).toNat (by omega)
      rw [vSt_at (by unfold relS; simp; omega)] at h14
      rw [c9, if_neg h17n, if_neg h17n, z1, z2, z5, c10, l61, rgd (iI_in (by omega) (by omega) (by omega)), iI_cl (by omega) (by omega), h14]
      exact ⟨_, rfl, hll⟩
theorem run_loop {bb sb it nA nB p : Nat} (hp : p ≤ 500) : ∀ (r i F F' : Nat) (T : Int) (M N : zMem), i + r = p → r < F → r < F' → T ≤ 1000000 - r → Bx M N bb sb it nA nB → rSt (vSt M 28) (zI N 1) nA T → zI M 34 0 = 0 → ∃ M1 N1 v, zlX11_run_36 shC 0 (nI p) F (nI i) M = some (v, M1) ∧ zlX12_run_27 shM 0 (nI p) F' (nI i) N = some (v, N1) ∧ rSt (vSt M1 28) (zI N1 1) nA (T + r) ∧ M1.2.2 = M.2.2 ∧ N1.2.2 = N.2.2 ∧ (∀ k j, ¬ (28 ≤ k ∧ k < 40) → zI M1 k j = zI M k j) ∧ zI M1 34 0 = 0 ∧ (∀ k j, k ≠ 1 → k ≠ 14 → k ≠ 15 → ¬ (k = 0 ∧ 36 ≤ j ∧ j ≤ 44) → zI N1 k j = zI N k j) := by
  intro r
  induction r with
  | zero =>
    intro i F F' T M N h1 hF hF' hT hB hS hG
    obtain ⟨F, rfl⟩ : ∃ x, F = x + 1 := ⟨F - 1, by omega⟩
    obtain ⟨F', rfl⟩ : ∃ x, F' = x + 1 := ⟨F' - 1, by omega⟩
    have hle : nI p ≤ nI i := nI_le (by omega) (by omega)
    have e2 : zR M 0 2 = 28 := by simp only [hB.2.1.o]
    obtain ⟨v, v1, v2⟩ := left_eq hB st28 (rSt_x.mp hS).2.2
    refine ⟨M, N, v, ?_, ?_, hS.w (by omega), rfl, rfl, fun _ _ _ => rfl, hG, fun _ _ _ _ _ _ => rfl⟩
    · simp only [zlX11_run_36]
      unfold zbX11_run_36
      rw [if_pos hle, e2, v1, rob]
    · simp only [zlX12_run_27]
      unfold zbX12_run_27
      rw [if_pos hle, v2, rob]
  | succ r ih =>
    intro i F F' T M N h1 hF hF' hT hB hS hG
    obtain ⟨F, rfl⟩ : ∃ x, F = x + 1 := ⟨F - 1, by omega⟩
    obtain ⟨F', rfl⟩ : ∃ x, F' = x + 1 := ⟨F' - 1, by omega⟩
    have hle : ¬ nI p ≤ nI i := nI_ge (by omega) (by omega)
    have e2 : zR M 0 2 = 28 := by simp only [hB.2.1.o]
    have e11 : zR M 0 11 = bb := by simp only [hB.2.1.o]
    obtain ⟨M1, N1, a1, a2, a3, a4, a5, a6, a7, a8, -⟩ := tick_eq hB st28 hS (by omega) hG
    have hb := hB.1
    have hB1 : Bx M1 N1 bb sb it nA nB := hB.sm a4 a5 (fun k j hk => a6 k j (by omega)) (fun k j hk => a8 k j (by omega) (by omega) (by omega) (by omega))
    obtain ⟨M2, N2, v, b1, b2, b3, b4, b5, b6, b7, b8⟩ := ih (i + 1) F F' (T + 1) M1 N1 (by omega) (by omega) (by omega) (by omega) hB1 a3 a7
    refine ⟨M2, N2, v, ?_, ?_, b3.w (by omega), b4.trans a4, b5.trans a5, fun k j h => by rw [b6 k j h]; exact a6 k j h, b7, fun k j g1 g2 g3 g4 => by rw [b8 k j g1 g2 g3 g4]; exact a8 k j g1 g2 g3 g4⟩
    · simp only [zlX11_run_36]
      unfold zbX11_run_36
      rw [if_neg hle, e2, e11, a1, rob, nI_1]
      exact b1
    · simp only [zlX12_run_27]
      unfold zbX12_run_27
      rw [if_neg hle, a2, rob, nI_1]
      exact b2
theorem B_run_ok : B_run Inv := by
  intro n M N v1 hn hI
  have hU := Inv_up n M N hI
  obtain ⟨bb, sb, it, nA, nB, h1, h2, h3, h4, h5, h6, h7, h8, h9⟩ := hI
  have hb : bb = 1 ∨ bb = 13 := by omega
  have h11 : zR M 0 11 = bb := by simp only [h2.o]
  have e4 : zR M 0 4 = 52 := by simp only [h2.o]
  have e2 : zR M 0 2 = 28 := by simp only [h2.o]
  have hn3 : nA ≤ 3 := h6.1
  unfold zX11_run zX12_run zjX11_run_21 zjX12_run_19
  rw [within_eq, rob, isIn_l v1 1 500 _ _ rfl rfl, rob, h11, h6.2.2.1, h6.2.2.2.1]
  simp only [bI_0]
  by_cases c1 : (1 : Int32) ≤ v1 ∧ v1 ≤ 500
  · rw [if_neg (nn c1), if_neg (nn c1)]
    by_cases c2 : nI nA = 0
    · exact ⟨-1, M, N, if_pos c2, if_pos c2, hU⟩
    · rw [if_neg c2, if_neg c2]
      have q1 : 1 ≤ v1.toInt := r_le.mp c1.1
      have q2 : v1.toInt ≤ 500 := r_le.mp c1.2
      obtain ⟨p, hp⟩ : ∃ p : Nat, (p : Int) = v1.toInt := ⟨v1.toInt.toNat, by omega⟩
      have hv : v1 = nI p := by rw [iI_n, hp, iI_t]
      obtain ⟨M1, N1, t1, t2, t3, t4, t5, t6, t7, t8⟩ := keep_act h2 h3 hn3 h9 h8
      have eV : vSt M1 28 = vSt M 28 := vSt_same (fun k j g1 g2 g3 => t6 k j (by omega))
      have eN : zI N1 1 = zI N 1 := by funext j; exact t7 1 j (by omega) (by omega)
      have hS1 : rSt (vSt M1 28) (zI N1 1) nA (500 * n) := by rw [eV, eN]; exact h8
      have hG1 := t8 h5.2.2
      have hB1 : Bx M1 N1 bb sb it nA nB := Bx.sm ⟨hb, h2, h3, h6, h7⟩ t4 t5 (fun k j hk => t6 k j (by omega)) (fun k j hk => t7 k j (by omega) (by omega))
      obtain ⟨M2, N2, v, b1, b2, b3, b4, b5, b6, b7, b8⟩ := run_loop (p := p) (by omega) p 0 zF zF (500 * n) M1 N1 (by omega) (by unfold zF; omega) (by unfold zF; omega) (by omega) hB1 hS1 (hG1.2.2 28 st28)
      refine ⟨v, M2, N2, ?_, ?_, Inv_of h1 h2 h3 h4 h5 h6 h7 (b4.trans t4) (b5.trans t5) (fun k j hk => ?_) (fun k j hk => ?_) ?_ (b3.w (by omega)) ?_⟩
      · rw [e4, e2, t1, rob, hv]; exact b1
      · rw [t2, rob, hv]; exact b2
      · clear e4 e2 h11
        rw [b6 k j (by omega)]; exact t6 k j (by omega)
      · clear e4 e2 h11
        rw [b8 k j (by omega) (by omega) (by omega) (by omega)]; exact t7 k j (by omega) (by omega)
      · clear e4 e2 h11
        refine ⟨by rw [b6 _ _ (by omega)]; exact hG1.1, by rw [b6 _ _ (by omega)]; exact hG1.2.1, fun c hc => ?_⟩
        by_cases g : c = 28
        · subst g; exact b7
        · have hd := stB_d hc st28 g
          rw [b6 _ _ (by omega)]; exact hG1.2.2 c hc
      · clear e4 e2 h11
        exact (t3.w (by omega)).sm (fun k j g1 g2 => b6 k j (by omega)) (fun k j g => b8 k j (by omega) (by omega) (by omega) (by omega))
  · rw [if_pos c1]
    refine ⟨-1, M, N, rfl, ?_, hU⟩
    rw [if_pos c1]
    split <;> rfl
