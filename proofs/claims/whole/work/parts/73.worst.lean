/-! Phase B: the worst speed, speeds that stall -/
theorem worst_loop {N : zMem} {bb sb it nA nB a s P : Nat} (ha : a < nA) (hs : s ≤ 60) (hsp : zI N 4 (6 * a) = nI s) (hP : P ≤ 500) : ∀ (r w F F' : Nat) (M : zMem) (x3 x4 : Int32), w + r = s + 1 → r < F → r < F' → Bx M N bb sb it nA nB → (∀ a, a < nA → zI M (37 + a) 3 = zI N 1 (48 + 6 * a + 3)) → zX12_shakeOf shM 0 (nI a) x3 (nI P) N = some x4 → ∃ (v : Int32) (M1 : zMem), zlX11_worst_28 shC 0 (nI a) (nI P) F x3 x4 (nI w) M = some (v, M1) ∧ zlX12_worst_27 shM 0 (nI a) (nI P) N F' x3 (nI w) = some v ∧ only 181 M M1 := by
  intro r
  induction r with
  | zero =>
    intro w F F' M x3 x4 h1 h2 h3 hB hL hx
    obtain ⟨F, rfl⟩ : ∃ x, F = x + 1 := ⟨F - 1, by omega⟩
    obtain ⟨F', rfl⟩ : ∃ x, F' = x + 1 := ⟨F' - 1, by omega⟩
    have ha3 : a < 3 := by have := hB.2.2.2.1.1; omega
    have e1 := (hB.2.2.2.1.2.2.2.2.2.2.2.2.2.2.2.1 a ha).1 0 (by omega)
    have i0 := ix6 (c := 0) ha3 (show 0 < 6 by omega) rfl
    rw [Int32.add_zero] at i0
    have e1 : zI M (bb + 9 + a) 1 = zI N 4 (6 * a) := e1
    rw [show 6 * a + 0 = 6 * a from rfl] at i0
    refine ⟨x3, M, ?_, ?_, only.rf _ _⟩
    · simp only [zlX11_worst_28]
      unfold zbX11_worst_28
      simp only [hB.2.1.o, hB.2.1.b hB.1, lnB hB.1, rgd (in_a ha3 (show 3 < 2147483648 by omega)), nI_clamp (show a < 2 ^ 31 by omega), hB.2.1.ax hB.1 ha3]
      rw [e1, hsp, if_pos (nI_lt (by omega) (by omega))]
    · simp only [zlX12_worst_27]
      unfold zbX12_worst_27
      rw [i0.1]
      simp only [hB.2.2.1.o, lnM, i0.2, gd_t]
      rw [hsp, if_pos (nI_lt (by omega) (by omega))]
  | succ r ih =>
    intro w F F' M x3 x4 h1 h2 h3 hB hL hx
    obtain ⟨F, rfl⟩ : ∃ x, F = x + 1 := ⟨F - 1, by omega⟩
    obtain ⟨F', rfl⟩ : ∃ x, F' = x + 1 := ⟨F' - 1, by omega⟩
    have h3' : nA ≤ 3 := hB.2.2.2.1.1
    have ha3 : a < 3 := by omega
    have e1 := (hB.2.2.2.1.2.2.2.2.2.2.2.2.2.2.2.1 a ha).1 0 (by omega)
    have i0 := ix6 (c := 0) ha3 (show 0 < 6 by omega) rfl
    rw [Int32.add_zero] at i0
    have e1 : zI M (bb + 9 + a) 1 = zI N 4 (6 * a) := e1
    rw [show 6 * a + 0 = 6 * a from rfl] at i0
    obtain ⟨u, M1, s1, s2, s3, s4⟩ := shake_eq (T := 0) hB hL ha (nI w) hP
    have hB1 := hB.o s3 (by omega)
    have hL1 := Bx.ld hL s3 h3'
    have hcl : zlX11_worst_28 shC 0 (nI a) (nI P) (F + 1) x3 x4 (nI w) M = zbX11_worst_28 shC 0 (nI a) (nI P) (zlX11_worst_28 shC 0 (nI a) (nI P) F) x3 x4 (nI w) M := rfl
    have hml : zlX12_worst_27 shM 0 (nI a) (nI P) N (F' + 1) x3 (nI w) = zbX12_worst_27 shM 0 (nI a) (nI P) N (zlX12_worst_27 shM 0 (nI a) (nI P) N F') x3 (nI w) := rfl
    rw [hcl, hml]
    unfold zbX11_worst_28 zbX12_worst_27 zjX11_worst_69 zjX12_worst_62
    rw [i0.1]
    simp only [hB.2.1.o, hB.2.1.b hB.1, lnB hB.1, rgd (in_a ha3 (show 3 < 2147483648 by omega)), nI_clamp (show a < 2 ^ 31 by omega), hB.2.1.ax hB.1 ha3, hB.2.2.1.o, lnM, i0.2, gd_t]
    rw [e1, hsp, if_neg (nI_nlt (by omega) (by omega)), if_neg (nI_nlt (by omega) (by omega)), s1, s2, hx, rob2, rob, rob, nI_1]
    by_cases g : u ≤ x4
    · rw [if_pos g, if_pos g]
      obtain ⟨v, M2, t1, t2, t3⟩ := ih (w + 1) F F' M1 x3 x4 (by omega) (by omega) (by omega) hB1 hL1 hx
      exact ⟨v, M2, t1, t2, s3.tr t3⟩
    · rw [if_neg g, if_neg g]
      obtain ⟨v, M2, t1, t2, t3⟩ := ih (w + 1) F F' M1 (nI w) u (by omega) (by omega) (by omega) hB1 hL1 s2
      exact ⟨v, M2, t1, t2, s3.tr t3⟩
theorem B_worst_ok : B_worst Inv := by
  intro n M N v1 v2 hn hI
  have hU := Inv_up n M N hI
  obtain ⟨bb, sb, it, nA, nB, hB, hS⟩ := Inv_Bx hI
  have hBB := hB
  obtain ⟨hb, hC, hN, h6, h7⟩ := hB
  have h11 : zR M 0 11 = bb := by simp only [hC.o]
  have hL : ∀ a, a < nA → zI M (37 + a) 3 = zI N 1 (48 + 6 * a + 3) := fun a ha => hS.load ha (by have := h6.1; omega)
  unfold zX11_worst zX12_worst zjX11_worst_18 zjX12_worst_20
  rw [axisC h11 h6.2.2.1 h6.1, axisM h6.2.2.2.1 h6.1, rob, rob, within_eq, rob, isIn_l v2 1 100 _ _ rfl rfl, rob]
  simp only [bI_0]
  by_cases c1 : 0 ≤ v1.toInt ∧ v1.toInt < nA
  · rw [if_neg (nn c1), if_neg (nn c1)]
    obtain ⟨a, ha, rfl⟩ := ax_ex c1
    have h3' : nA ≤ 3 := h6.1
    have ha3 : a < 3 := by omega
    by_cases c3 : (1 : Int32) ≤ v2 ∧ v2 ≤ 100
    · rw [if_neg (nn c3), if_neg (nn c3)]
      have g1 : 1 ≤ v2.toInt := r_le.mp c3.1
      have g2 : v2.toInt ≤ 100 := r_le.mp c3.2
      obtain ⟨P, hP, rfl⟩ := ax_ex (nA := 101) (x := v2) ⟨by omega, by omega⟩
      have hsb := (h6.2.2.2.2.2.2.2.2.2.2.2.1 a ha).2.1
      unfold btw at hsb
      obtain ⟨s, hs, hsp⟩ := ax_ex (nA := 61) (x := zI N 4 (6 * a)) ⟨by omega, by omega⟩
      have hs1 : 1 ≤ s := by rw [hsp, nI_toInt (by omega)] at hsb; omega
      have e1 := (h6.2.2.2.2.2.2.2.2.2.2.2.1 a ha).1 0 (by omega)
      have e1 : zI M (bb + 9 + a) 1 = zI N 4 (6 * a) := e1
      obtain ⟨u, M1, s1, s2, s3, s4⟩ := shake_eq (T := 0) hBB hL ha 1 (show P ≤ 500 by omega)
      obtain ⟨v, M2, t1, t2, t3⟩ := worst_loop (N := N) (sb := sb) (it := it) (nB := nB) ha (show s ≤ 60 by omega) hsp (show P ≤ 500 by omega) (s - 1) 2 999999 zF M1 1 u (by omega) (by omega) (by unfold zF; omega) (hBB.o s3 (by omega)) (Bx.ld hL s3 h3') s2
      refine ⟨v, M2, N, ?_, t2, Inv_same hI ((s3.tr t3).C (by omega)) (sameN.rf N)⟩
      show zbX11_worst_28 _ _ _ _ (zlX11_worst_28 shC 0 (nI a) (nI P) 999999) _ _ _ _ = _
      unfold zbX11_worst_28 zjX11_worst_69
      simp only [hC.o, hC.b hb, lnB hb, rgd (in_a ha3 (show 3 < 2147483648 by omega)), nI_clamp (show a < 2 ^ 31 by omega), hC.ax hb ha3]
      rw [e1, hsp, if_neg (show ¬ nI s < (1 : Int32) from nI_nlt (b := 1) (by omega) (by omega)), s1, rob2, if_neg (fun g => by have : u.toInt ≤ -1 := r_le.mp g; omega)]
      exact t1
    · exact ⟨_, M, N, if_pos c3, if_pos c3, hU⟩
  · exact ⟨_, M, N, if_pos c1, if_pos c1, hU⟩
theorem stall_loop {N : zMem} {bb sb it nA nB a s P : Nat} (ha : a < nA) (hs : s ≤ 60) (hsp : zI N 4 (6 * a) = nI s) (hP : P ≤ 500) : ∀ (r w F F' : Nat) (M : zMem) (x3 : Int32), w + r = s + 1 → r < F → r < F' → Bx M N bb sb it nA nB → (∀ a, a < nA → zI M (37 + a) 3 = zI N 1 (48 + 6 * a + 3)) → ∃ (v : Int32) (M1 : zMem), zlX11_unsafe_25 shC 0 (nI a) (nI P) F x3 (nI w) M = some (v, M1) ∧ zlX12_unsafe_27 shM 0 (nI a) (nI P) N F' x3 (nI w) = some v ∧ only 181 M M1 := by
  intro r
  induction r with
  | zero =>
    intro w F F' M x3 h1 h2 h3 hB hL
    obtain ⟨F, rfl⟩ : ∃ x, F = x + 1 := ⟨F - 1, by omega⟩
    obtain ⟨F', rfl⟩ : ∃ x, F' = x + 1 := ⟨F' - 1, by omega⟩
    have ha3 : a < 3 := by have := hB.2.2.2.1.1; omega
    have e1 := (hB.2.2.2.1.2.2.2.2.2.2.2.2.2.2.2.1 a ha).1 0 (by omega)
    have i0 := ix6 (c := 0) ha3 (show 0 < 6 by omega) rfl
    rw [Int32.add_zero] at i0
    have e1 : zI M (bb + 9 + a) 1 = zI N 4 (6 * a) := e1
    rw [show 6 * a + 0 = 6 * a from rfl] at i0
    refine ⟨x3, M, ?_, ?_, only.rf _ _⟩
    · simp only [zlX11_unsafe_25]
      unfold zbX11_unsafe_25
      simp only [hB.2.1.o, hB.2.1.b hB.1, lnB hB.1, rgd (in_a ha3 (show 3 < 2147483648 by omega)), nI_clamp (show a < 2 ^ 31 by omega), hB.2.1.ax hB.1 ha3]
      rw [e1, hsp, if_pos (nI_lt (by omega) (by omega))]
    · simp only [zlX12_unsafe_27]
      unfold zbX12_unsafe_27
      rw [i0.1]
      simp only [hB.2.2.1.o, lnM, i0.2, gd_t]
      rw [hsp, if_pos (nI_lt (by omega) (by omega))]
  | succ r ih =>
    intro w F F' M x3 h1 h2 h3 hB hL
    obtain ⟨F, rfl⟩ : ∃ x, F = x + 1 := ⟨F - 1, by omega⟩
    obtain ⟨F', rfl⟩ : ∃ x, F' = x + 1 := ⟨F' - 1, by omega⟩
    have h3' : nA ≤ 3 := hB.2.2.2.1.1
    have ha3 : a < 3 := by omega
    have e1 := (hB.2.2.2.1.2.2.2.2.2.2.2.2.2.2.2.1 a ha).1 0 (by omega)
    have i0 := ix6 (c := 0) ha3 (show 0 < 6 by omega) rfl
    rw [Int32.add_zero] at i0
    have e1 : zI M (bb + 9 + a) 1 = zI N 4 (6 * a) := e1
    rw [show 6 * a + 0 = 6 * a from rfl] at i0
    obtain ⟨u, M1, s1, s2, s3, s4⟩ := shake_eq (T := 0) hB hL ha (nI w) hP
    have hB1 := hB.o s3 (by omega)
    have hL1 := Bx.ld hL s3 h3'
    have hcl : zlX11_unsafe_25 shC 0 (nI a) (nI P) (F + 1) x3 (nI w) M = zbX11_unsafe_25 shC 0 (nI a) (nI P) (zlX11_unsafe_25 shC 0 (nI a) (nI P) F) x3 (nI w) M := rfl
    have hml : zlX12_unsafe_27 shM 0 (nI a) (nI P) N (F' + 1) x3 (nI w) = zbX12_unsafe_27 shM 0 (nI a) (nI P) N (zlX12_unsafe_27 shM 0 (nI a) (nI P) N F') x3 (nI w) := rfl
    have e11 : zR M 0 11 = bb := by simp only [hB.2.1.o]
    rw [hcl, hml]
    unfold zbX11_unsafe_25 zbX12_unsafe_27 zjX11_unsafe_72 zjX12_unsafe_70 zjX12_unsafe_71
    rw [i0.1, e11, bandsC hB.1 hB.2.1 hB.2.2.2.1, bandsM hB.2.2.1 hB.2.2.2.1]
    simp only [hB.2.1.b hB.1, lnB hB.1, rgd (in_a ha3 (show 3 < 2147483648 by omega)), nI_clamp (show a < 2 ^ 31 by omega), hB.2.1.ax hB.1 ha3, hB.2.2.1.o, lnM, i0.2, gd_t, truth_eq, rob]
    rw [e1, hsp, if_neg (nI_nlt (by omega) (by omega)), if_neg (nI_nlt (by omega) (by omega)), s1, s2, rob2, rob, nI_1]
    have e0 : bI ((0 : Int32) ≠ 0) = 0 := rfl
    have e1' : bI ((1 : Int32) ≠ 0) = 1 := rfl
    rw [e0, e1', Int32.add_zero]
    by_cases g : fBn N (nI a) (nI w) nB = 0
    · rw [if_pos g, if_pos g]
      by_cases k : u < 1024
      · rw [if_pos k, if_pos k]
        obtain ⟨v, M2, t1, t2, t3⟩ := ih (w + 1) F F' M1 x3 (by omega) (by omega) (by omega) hB1 hL1
        exact ⟨v, M2, t1, t2, s3.tr t3⟩
      · rw [if_neg k, if_neg k]
        obtain ⟨v, M2, t1, t2, t3⟩ := ih (w + 1) F F' M1 (x3 + 1) (by omega) (by omega) (by omega) hB1 hL1
        exact ⟨v, M2, t1, t2, s3.tr t3⟩
    · rw [if_neg g, if_neg g]
      exact ih (w + 1) F F' M x3 (by omega) (by omega) (by omega) hB hL
theorem B_unsafe_ok : B_unsafe Inv := by
  intro n M N v1 v2 hn hI
  have hU := Inv_up n M N hI
  obtain ⟨bb, sb, it, nA, nB, hB, hS⟩ := Inv_Bx hI
  have hBB := hB
  obtain ⟨hb, hC, hN, h6, h7⟩ := hB
  have h11 : zR M 0 11 = bb := by simp only [hC.o]
  have hL : ∀ a, a < nA → zI M (37 + a) 3 = zI N 1 (48 + 6 * a + 3) := fun a ha => hS.load ha (by have := h6.1; omega)
  unfold zX11_unsafe zX12_unsafe zjX11_unsafe_18 zjX12_unsafe_20
  rw [axisC h11 h6.2.2.1 h6.1, axisM h6.2.2.2.1 h6.1, rob, rob, within_eq, rob, isIn_l v2 1 100 _ _ rfl rfl, rob]
  simp only [bI_0]
  by_cases c1 : 0 ≤ v1.toInt ∧ v1.toInt < nA
  · rw [if_neg (nn c1), if_neg (nn c1)]
    obtain ⟨a, ha, rfl⟩ := ax_ex c1
    by_cases c3 : (1 : Int32) ≤ v2 ∧ v2 ≤ 100
    · rw [if_neg (nn c3), if_neg (nn c3)]
      have g1 : 1 ≤ v2.toInt := r_le.mp c3.1
      have g2 : v2.toInt ≤ 100 := r_le.mp c3.2
      obtain ⟨P, hP, rfl⟩ := ax_ex (nA := 101) (x := v2) ⟨by omega, by omega⟩
      have hsb := (h6.2.2.2.2.2.2.2.2.2.2.2.1 a ha).2.1
      unfold btw at hsb
      obtain ⟨s, hs, hsp⟩ := ax_ex (nA := 61) (x := zI N 4 (6 * a)) ⟨by omega, by omega⟩
      obtain ⟨v, M2, t1, t2, t3⟩ := stall_loop (N := N) (sb := sb) (it := it) (nB := nB) ha (show s ≤ 60 by omega) hsp (show P ≤ 500 by omega) s 1 zF zF M 0 (by omega) (by unfold zF; omega) (by unfold zF; omega) hBB hL
      exact ⟨v, M2, N, t1, t2, Inv_same hI (t3.C (by omega)) (sameN.rf N)⟩
    · exact ⟨_, M, N, if_pos c3, if_pos c3, hU⟩
  · exact ⟨_, M, N, if_pos c1, if_pos c1, hU⟩
