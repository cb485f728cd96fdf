/-! Phase B: stamp -/
theorem due_both {M N : zMem} {W X : Nat} {L : List Int} {rest E : Int} (h : mvP M 174 L W rest E) (hR : zR N 0 35 = 14) (cL : rpM N L) (c43 : zI N 0 43 = iI rest) (c44 : zI N 0 44 = iI E) (h1 : 1 ≤ X) (h2 : X ≤ W) : ∃ v, zX4_dueAt shC 174 (nI X) M = some v ∧ zX12_due shM 0 (nI X) N = some v := by
  have h' := h
  obtain ⟨hm, hr, h4, h8, h9, hL, hW, hWe, he⟩ := h'
  have he' := he
  obtain ⟨y1, y2, y3⟩ := he'
  have h60 := hL.1
  have hps := psum_b hL L.length
  obtain ⟨T, hT⟩ : ∃ T : Nat, (T : Int) = 2 * L.length + E := ⟨(2 * (L.length : Int) + E).toNat, by omega⟩
  have gE : ∀ k : Nat, T ≤ k → fG L E rest k = W := fun k hk => by
    rw [fG_end he (by omega) (by omega)]
    omega
  have gT := gE T (Nat.le_refl _)
  have hg : ∀ k : Nat, 0 ≤ fG L E rest k ∧ fG L E rest k ≤ 70000 := fun k => by
    by_cases c : T ≤ k
    · have := gE k c
      omega
    · have := fG_b hL he k (by omega)
      omega
  obtain ⟨K, k1, k2, k3⟩ := due_ex (L := L) (E := E) (rest := rest) (p := (X : Int)) (by omega) T (by omega)
  have hlo : ∀ k : Nat, k ≤ K → fG L E rest k < X := fun k hk => by
    have := fG_mn hL he k (K - k) (by omega)
    rw [show k + (K - k) = K by omega] at this
    omega
  have hhi : ∀ k : Nat, K + 1 ≤ k → (X : Int) ≤ fG L E rest k := fun k hk => by
    by_cases c : T ≤ k
    · have := gE k c
      omega
    · have := fG_mn hL he (K + 1) (k - (K + 1)) (by omega)
      rw [show K + 1 + (k - (K + 1)) = k by omega] at this
      omega
  refine ⟨iI (1000 * K + 1000 * ((X : Int) - fG L E rest K) / fS L E rest K), ?_, ?_⟩
  · unfold zX4_dueAt
    rw [ticksC h, rob, ← hT, ← iI_n, iI_n X]
    have u := dueC_lp h rfl (p := (X : Int)) (K := K) (by omega) (by omega) hg hlo hhi 16 0 zF 1 T (by omega) (by unfold zF; omega) (by omega) (by omega) (by omega) (by omega)
    rw [show (1 : Int32) = nI 1 from rfl, show (0 : Int32) = nI 0 from rfl, u]
    exact dueC_end h rfl (by omega) (by omega) hg k2 k3
  · unfold zX12_due
    have u := dueM_lp hL hR cL c43 c44 he (by omega) (p := (X : Int)) (K := K) (by omega) (by omega) (fun k hk => ⟨(hg k).1, hlo k hk⟩) k3 (fun k _ => (hg k).2) K 0 zF (by omega) (by unfold zF; omega)
    rw [show fG L E rest ((0 : Nat) : Int) = 0 from fG_0] at u
    rw [iI_n X]
    exact u
theorem B_stamp_ok : B_stamp Inv := by
  intro n M N v1 v2 v3 v4 v5 hn hI
  have hU := Inv_up n M N hI
  obtain ⟨bb, sb, it, nA, nB, r, M1, N1, d, hB, t1, t2, hI1, hB1, hQ, t3, hS1⟩ := ask_inv hI v1 v2 v3
  obtain ⟨hb, hC, hN, h6, h7⟩ := hB
  have hn3 : nA ≤ 3 := h6.1
  have h11 : zR M 0 11 = bb := by simp only [hC.o]
  have f5 : zR M1 0 5 = 174 := by simp only [hB1.2.1.o]
  have e37 : zR N1 0 37 = 15 := by simp only [hB1.2.2.1.o]
  have e35 : zR N1 0 35 = 14 := by simp only [hB1.2.2.1.o]
  unfold zX11_stamp zX12_stamp zjX11_stamp_37 zjX12_stamp_40
  rw [axisC h11 h6.2.2.1 h6.1, axisM h6.2.2.2.1 h6.1, rob, rob, t1, rob2, t2, rob2]
  simp only [bI_0]
  by_cases c1 : 0 ≤ v4.toInt ∧ v4.toInt < nA
  · rw [if_neg (nn c1), if_neg (nn c1)]
    obtain ⟨a, ha, rfl⟩ := ax_ex c1
    have ha3 : a < 3 := by omega
    rcases t3 with ⟨rfl, ld, W, S, L, rest, E, a1, a2, a3, a4, a5, a6, a7, a8, c38, c39, c40, c43, c44, cL, c15⟩ | rfl
    · have a4' := a4
      obtain ⟨hm, hr, h4, h8, h9, hL, hW, hWe, he⟩ := a4'
      have n10 : ¬ (1 : Int32) = 0 := by decide
      have hda := a3 a ha3
      have hA7 := a7 a ha3
      have wy : zX4_wayOf shC 174 (nI a) M1 = some (iI ((d a).natAbs : Int)) := by
        unfold zX4_wayOf
        rw [hm.2.1, show zlen shC (174 + 2) = 3 from rfl, rgd (in_a ha3 (by omega)), nI_clamp (by omega), show zI M1 (174 + 2) a = iI (d a) from hA7, iI_abs (by omega) (by omega)]
      rw [if_neg n10, if_neg n10, f5, wy, rob, within_eq, rob, e37, show zlen shM 15 = 3 from rfl, rgd (in_a ha3 (by omega)), nI_clamp (by omega), c15 a ha3, size_eq, rob, iI_abs (by omega) (by omega), isIn_l v5 1 (iI ((d a).natAbs : Int)) _ _ rfl (Int32.toInt_toInt64 _), rob]
      simp only [bI_0]
      by_cases c2 : (1 : Int32) ≤ v5 ∧ v5 ≤ iI ((d a).natAbs : Int)
      · rw [if_neg (nn c2), if_neg (nn c2)]
        have g1 := r_le.mp c2.1
        have g2 := r_le.mp c2.2
        rw [iI_i (by omega) (by omega)] at g2
        rw [show (1 : Int32).toInt = 1 from rfl] at g1
        obtain ⟨m, hm5⟩ : ∃ m : Int, m = v5.toInt := ⟨_, rfl⟩
        obtain rfl : v5 = iI m := by rw [hm5, iI_t]
        rw [← hm5] at g1 g2
        clear c2 hm5
        have b1 : 0 ≤ (2 * m - 1) * (W : Int) := Int.mul_nonneg (by omega) (by omega)
        have q0 : 0 ≤ ((2 * m - 1) * (W : Int) + 2 * ((d a).natAbs : Int) - 1) / (2 * ((d a).natAbs : Int)) := Int.ediv_nonneg (by omega) (by omega)
        obtain ⟨X, hX⟩ : ∃ X : Nat, (X : Int) = ((2 * m - 1) * (W : Int) + 2 * ((d a).natAbs : Int) - 1) / (2 * ((d a).natAbs : Int)) := ⟨(((2 * m - 1) * (W : Int) + 2 * ((d a).natAbs : Int) - 1) / (2 * ((d a).natAbs : Int))).toNat, Int.toNat_of_nonneg q0⟩
        have hD0 : (0 : Int) < ((d a).natAbs : Int) := by omega
        have hW0 : (0 : Int) < (W : Int) := by omega
        have x1 : 1 ≤ X := by
          have i0 := lead_iff (x := 0) (m := m) (D := ((d a).natAbs : Int)) (W := (W : Int)) hD0 hW0
          rw [← hX, show 2 * (0 : Int) * ((d a).natAbs : Int) + W = W by rw [Int.mul_zero, Int.zero_mul, Int.zero_add], Int.ediv_eq_zero_of_lt (by omega) (by omega)] at i0
          have i1 : ¬ ((X : Int) ≤ 0) := fun h => by
            have := i0.mpr h
            omega
          omega
        have x2 : X ≤ W := by
          have i0 := lead_iff (x := (W : Int)) (m := m) (D := ((d a).natAbs : Int)) (W := (W : Int)) hD0 hW0
          rw [← hX, show 2 * (W : Int) * ((d a).natAbs : Int) + W = W + ((d a).natAbs : Int) * (2 * W) by rw [Int.mul_comm ((d a).natAbs : Int)]; omega, Int.add_mul_ediv_right _ _ (by omega), Int.ediv_eq_zero_of_lt (by omega) (by omega)] at i0
          have := i0.mp (by omega)
          omega
        obtain ⟨v, u1, u2⟩ := due_both a4 e35 cL c43 c44 x1 x2
        refine ⟨v, M1, N1, ?_, ?_, hI1⟩
        · rw [leadC hm rfl ha3 h4 hA7 a2 hW (by omega) (by omega) g1 (by omega) hX, rob, u1, rob]
        · rw [show (1 : Int32) = nI 1 from rfl, leadM_lp v1 v2 v3 ha3 e37 (c15 a ha3) c39 a2 hW (by omega) (by omega) g1 (by omega) hX x2 (X - 1) 1 zF (by omega) (by omega) (by unfold zF; omega), u2, rob]
      · rw [if_pos c2, if_pos c2]
        exact ⟨_, M1, N1, rfl, rfl, hI1⟩
    · exact ⟨_, M1, N1, if_pos rfl, if_pos rfl, hI1⟩
  · exact ⟨_, M, N, if_pos c1, if_pos c1, hU⟩
