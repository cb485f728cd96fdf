/-! Phase B: bench, begun and ended -/
theorem clr_ok {M : zMem} {bb sb it : Nat} (hC : rfC M bb sb it) : ∃ M1, zX8_clear shC 28 M = some M1 ∧ M1.2.2 = M.2.2 ∧ (∀ a j, a < 3 → j < 6 → zI M1 (37 + a) j = 0) ∧ zI M1 28 4 = 0 ∧ zI M1 28 5 = 0 ∧ zI M1 28 6 = 0 ∧ zI M1 28 7 = -1 ∧ zI M1 28 8 = 0 ∧ zI M1 28 9 = 0 ∧ zI M1 28 10 = 0 ∧ ∀ k j, k ≠ 28 → ¬ (37 ≤ k ∧ k < 40) → zI M1 k j = zI M k j := by
  have loop : ∀ (r a F : Nat) (M : zMem), a + r = 3 → r < F → rfC M bb sb it → (∀ a' j, a' < a → j < 6 → zI M (37 + a') j = 0) → ∃ M1, zlX8_clear_2 shC 28 F (nI a) M = some M1 ∧ M1.2.2 = M.2.2 ∧ (∀ a j, a < 3 → j < 6 → zI M1 (37 + a) j = 0) ∧ zI M1 28 4 = 0 ∧ zI M1 28 5 = 0 ∧ zI M1 28 6 = 0 ∧ zI M1 28 7 = -1 ∧ zI M1 28 8 = 0 ∧ zI M1 28 9 = 0 ∧ zI M1 28 10 = 0 ∧ ∀ k j, k ≠ 28 → ¬ (37 ≤ k ∧ k < 40) → zI M1 k j = zI M k j := by
    intro r
    induction r with
    | zero =>
      intro a F M h1 hF hC h0
      obtain ⟨F, rfl⟩ : ∃ x, F = x + 1 := ⟨F - 1, by omega⟩
      obtain rfl : a = 3 := by omega
      have e0 : zR M 28 0 = 29 := (hC.s (b := 28) (by unfold stB; omega)).1
      rw [show zlX8_clear_2 shC 28 (F + 1) (nI 3) M = zbX8_clear_2 shC 28 (zlX8_clear_2 shC 28 F) (nI 3) M from rfl]
      unfold zbX8_clear_2 zX8_stop
      rw [e0, show zlen shC 29 = 3 from rfl, if_pos (show Int32.ofNat 3 ≤ nI 3 by decide)]
      clear e0
      simp only [rbd, rob]
      refine ⟨_, rfl, rfl, fun a j ha hj => ?_, ?_, ?_, ?_, ?_, ?_, ?_, ?_, fun k j q _ => ?_⟩
      · rw [rI_pI, if_neg (by omega), rI_pI, if_neg (by omega), rI_pI, if_neg (by omega), rI_pI, if_neg (by omega), rI_pI, if_neg (by omega), rI_pI, if_neg (by omega), rI_pI, if_neg (by omega)]
        exact h0 a j ha hj
      · rw [rI_pI, if_pos ⟨rfl, rfl⟩]
      · rw [rI_pI, if_neg (by omega), rI_pI, if_neg (by omega), rI_pI, if_neg (by omega), rI_pI, if_neg (by omega), rI_pI, if_neg (by omega), rI_pI, if_neg (by omega), rI_pI, if_pos ⟨rfl, rfl⟩]
      · rw [rI_pI, if_neg (by omega), rI_pI, if_neg (by omega), rI_pI, if_neg (by omega), rI_pI, if_neg (by omega), rI_pI, if_neg (by omega), rI_pI, if_pos ⟨rfl, rfl⟩]
      · rw [rI_pI, if_neg (by omega), rI_pI, if_neg (by omega), rI_pI, if_neg (by omega), rI_pI, if_neg (by omega), rI_pI, if_pos ⟨rfl, rfl⟩]
      · rw [rI_pI, if_neg (by omega), rI_pI, if_neg (by omega), rI_pI, if_neg (by omega), rI_pI, if_pos ⟨rfl, rfl⟩]
      · rw [rI_pI, if_neg (by omega), rI_pI, if_neg (by omega), rI_pI, if_pos ⟨rfl, rfl⟩]
      · rw [rI_pI, if_neg (by omega), rI_pI, if_pos ⟨rfl, rfl⟩]
      · rw [rI_pI, if_neg (by omega), rI_pI, if_neg (by omega), rI_pI, if_neg (by omega), rI_pI, if_neg (by omega), rI_pI, if_neg (by omega), rI_pI, if_neg (by omega), rI_pI, if_neg (by omega)]
    | succ r ih =>
      intro a F M h1 hF hC h0
      obtain ⟨F, rfl⟩ : ∃ x, F = x + 1 := ⟨F - 1, by omega⟩
      have hx : ∀ k j, k ≠ 37 + a → zI (zpI (zpI (zpI (zpI (zpI (zpI M (37 + a) 0 0) (37 + a) 1 0) (37 + a) 2 0) (37 + a) 3 0) (37 + a) 4 0) (37 + a) 5 0) k j = zI M k j := fun k j q => by
        rw [rI_pI, if_neg (by omega), rI_pI, if_neg (by omega), rI_pI, if_neg (by omega), rI_pI, if_neg (by omega), rI_pI, if_neg (by omega), rI_pI, if_neg (by omega)]
      have hy : ∀ j, j < 6 → zI (zpI (zpI (zpI (zpI (zpI (zpI M (37 + a) 0 0) (37 + a) 1 0) (37 + a) 2 0) (37 + a) 3 0) (37 + a) 4 0) (37 + a) 5 0) (37 + a) j = 0 := fun j hj => by
        rcases (show j = 0 ∨ j = 1 ∨ j = 2 ∨ j = 3 ∨ j = 4 ∨ j = 5 by omega) with rfl | rfl | rfl | rfl | rfl | rfl
        · rw [rI_pI, if_neg (by omega), rI_pI, if_neg (by omega), rI_pI, if_neg (by omega), rI_pI, if_neg (by omega), rI_pI, if_neg (by omega), rI_pI, if_pos ⟨rfl, rfl⟩]
        · rw [rI_pI, if_neg (by omega), rI_pI, if_neg (by omega), rI_pI, if_neg (by omega), rI_pI, if_neg (by omega), rI_pI, if_pos ⟨rfl, rfl⟩]
        · rw [rI_pI, if_neg (by omega), rI_pI, if_neg (by omega), rI_pI, if_neg (by omega), rI_pI, if_pos ⟨rfl, rfl⟩]
        · rw [rI_pI, if_neg (by omega), rI_pI, if_neg (by omega), rI_pI, if_pos ⟨rfl, rfl⟩]
        · rw [rI_pI, if_neg (by omega), rI_pI, if_pos ⟨rfl, rfl⟩]
        · rw [rI_pI, if_pos ⟨rfl, rfl⟩]
      obtain ⟨M1, a1, a2, a3, a4, a5, a6, a7, a8, a9, a10, a11⟩ := ih (a + 1) F (zpI (zpI (zpI (zpI (zpI (zpI M (37 + a) 0 0) (37 + a) 1 0) (37 + a) 2 0) (37 + a) 3 0) (37 + a) 4 0) (37 + a) 5 0) (by omega) (by omega) hC (fun a' j ha' hj => by
        by_cases c : a' = a
        · rw [c]; exact hy j hj
        · rw [hx _ _ (by omega)]
          exact h0 a' j (by omega) hj)
      refine ⟨M1, ?_, a2, a3, a4, a5, a6, a7, a8, a9, a10, fun k j q q' => by rw [a11 k j q q', hx k j (by omega)]⟩
      have hS := hC.s (b := 28) (by unfold stB; omega)
      have e0 : zR M 28 0 = 29 := hS.1
      have er : zR M 29 a = 37 + a := by
        rcases (show a = 0 ∨ a = 1 ∨ a = 2 by omega) with rfl | rfl | rfl
        · exact hS.2.2.2.2.1
        · exact hS.2.2.2.2.2.1
        · exact hS.2.2.2.2.2.2.1
      rw [show zlX8_clear_2 shC 28 (F + 1) (nI a) M = zbX8_clear_2 shC 28 (zlX8_clear_2 shC 28 F) (nI a) M from rfl]
      unfold zbX8_clear_2 zX7_clear zX7_letGo
      rw [e0, show zlen shC 29 = 3 from rfl, if_neg (show ¬ Int32.ofNat 3 ≤ nI a from nI_ge (b := 3) (by omega) (by omega)), rgd (in_a (by omega) (by omega)), nI_clamp (by omega), er, nI_1]
      simp only [rbd, rob]
      rw [show -(0 : Int32) = 0 from rfl]
      exact a1
  unfold zX8_clear
  exact loop 3 0 zF M (by omega) (by unfold zF; omega) hC (fun a' j ha' _ => absurd ha' (by omega))
theorem start_ok {M N : zMem} {bb sb it : Nat} (h1 : (bb = 1 ∧ sb = 13) ∨ (bb = 13 ∧ sb = 1)) (hC : rfC M bb sb it) (hN : rfN N) (h4 : IvT M N) (h7 : IvP M N) : ∃ len tx M1 N1 p s, zX6_start shC 27 sb M = some M1 ∧ zX12_bench shM 0 N = zlX12_bench_92 shM 0 zF N1 ∧ rds M1 N1 bb sb len tx p s ∧ RBv (vS sb M1) (vN N1) (zJ N1 3) 0 0 ∧ (∀ k j, ¬ (k = 27 ∧ 2 ≤ j ∧ j ≤ 8) → ¬ (sb ≤ k ∧ k < sb + 12 ∧ k ≠ sb + 6) → zI M1 k j = zI M k j) ∧ N1.2.2 = N.2.2 ∧ zI N1 0 2 = 0 ∧ ∀ k j, keepN k j → ¬ (k = 0 ∧ j = 2) → zI N1 k j = zI N k j := by
  have hs : sb = 1 ∨ sb = 13 := by omega
  obtain ⟨t1, ⟨t2, t3⟩, t4⟩ := h4
  obtain ⟨len, hlen⟩ : ∃ len : Nat, (len : Int) = (zI N 0 2).toInt := ⟨(zI N 0 2).toInt.toNat, by omega⟩
  have hN2 : zI N 0 2 = nI len := by rw [iI_n, hlen, iI_t]
  have hl9 : len ≤ 900 := by omega
  have hC4 : rfC (zpI (zpI (zpI (zpR M 27 1 sb) 27 2 0) 27 7 0) 27 8 (-1)) bb sb sb := hC.into
  obtain ⟨M7, c1, c2, c3, c4, c5, c6, c7, c8, c9, c10⟩ := clear_ok hC4 hs
  have e1 : zR (zpI (zpI (zpI (zpR M 27 1 sb) 27 2 0) 27 7 0) 27 8 (-1)) 27 1 = sb := by simp only [hC4.o]
  have x4 : ∀ k j, ¬ (k = 27 ∧ (j = 2 ∨ j = 7 ∨ j = 8)) → zI (zpI (zpI (zpI (zpR M 27 1 sb) 27 2 0) 27 7 0) 27 8 (-1)) k j = zI M k j := fun k j q => by
    rw [rI_pI, if_neg (by omega), rI_pI, if_neg (by omega), rI_pI, if_neg (by omega), rI_pR]
  have m2 : zI M7 27 2 = 0 := by rw [c10 27 2 (by omega), rI_pI, if_neg (by omega), rI_pI, if_neg (by omega), rI_pI, if_pos ⟨rfl, rfl⟩]
  have m7 : zI M7 27 7 = 0 := by rw [c10 27 7 (by omega), rI_pI, if_neg (by omega), rI_pI, if_pos ⟨rfl, rfl⟩]
  have m8 : zI M7 27 8 = -1 := by rw [c10 27 8 (by omega), rI_pI, if_pos ⟨rfl, rfl⟩]
  have m25 : zI M7 25 1 = nI len := by rw [c10 25 1 (by omega), x4 25 1 (by omega), t1, hN2]
  have m26 : ∀ i, zI M7 26 i = zI M 26 i := fun i => by rw [c10 26 i (by omega), x4 26 i (by omega)]
  have hC7 : rfC M7 bb sb sb := hC4.sm c2
  generalize hN31 : zpI (zpI (zpI (zpI (zpI (zpI (zpI (zpI (zpI (zpI (zpI N 0 3 (nI len)) 0 2 0) 0 4 0) 0 8 0) 0 9 (-1)) 0 23 0) 0 25 0) 0 27 0) 0 30 300) 0 31 5) 0 32 0 = N31
  have y : ∀ k j, ¬ (k = 0 ∧ (j = 3 ∨ j = 2 ∨ j = 4 ∨ j = 8 ∨ j = 9 ∨ j = 23 ∨ j = 25 ∨ j = 27 ∨ j = 30 ∨ j = 31 ∨ j = 32)) → zI N31 k j = zI N k j := fun k j q => by
    subst hN31
    rw [rI_pI, if_neg (by omega), rI_pI, if_neg (by omega), rI_pI, if_neg (by omega), rI_pI, if_neg (by omega), rI_pI, if_neg (by omega), rI_pI, if_neg (by omega), rI_pI, if_neg (by omega), rI_pI, if_neg (by omega), rI_pI, if_neg (by omega), rI_pI, if_neg (by omega), rI_pI, if_neg (by omega)]
  have n3 : zI N31 0 3 = nI len := by subst hN31; simp only [rI_pI]; rfl
  have n2 : zI N31 0 2 = 0 := by subst hN31; simp only [rI_pI]; rfl
  have n4 : zI N31 0 4 = 0 := by subst hN31; simp only [rI_pI]; rfl
  have n8 : zI N31 0 8 = 0 := by subst hN31; simp only [rI_pI]; rfl
  have n9 : zI N31 0 9 = -1 := by subst hN31; simp only [rI_pI]; rfl
  have n23 : zI N31 0 23 = 0 := by subst hN31; simp only [rI_pI]; rfl
  have n25 : zI N31 0 25 = 0 := by subst hN31; simp only [rI_pI]; rfl
  have n27 : zI N31 0 27 = 0 := by subst hN31; simp only [rI_pI]; rfl
  have n30 : zI N31 0 30 = 300 := by subst hN31; simp only [rI_pI]; rfl
  have n31 : zI N31 0 31 = 5 := by subst hN31; simp only [rI_pI]; rfl
  have n32 : zI N31 0 32 = 0 := by subst hN31; simp only [rI_pI]; rfl
  have hRN : N31.2.2 = N.2.2 := by subst hN31; rfl
  have hN31' : rfN N31 := hN.sm hRN
  have loop : ∀ (r i F : Nat) (N : zMem), i + r = 65 → r < F → rfN N → (∀ j, j < i → zI N 9 j = 0 ∧ zI N 10 j = 0) → ∃ N1, zlX12_bench_62 shM 0 F (nI i) N = (zob (zX12_goOn shM 0 N1) fun M_14 => zlX12_bench_92 shM 0 zF M_14) ∧ N1.2.2 = N.2.2 ∧ (∀ j, j ≤ 64 → zI N1 9 j = 0 ∧ zI N1 10 j = 0) ∧ ∀ k j, k ≠ 9 → k ≠ 10 → zI N1 k j = zI N k j := by
    clear hlen hN2 t1 t2 t3 t4 c2 c3 c4 c5 c6 c7 c8 c9 c10 e1 x4 m2 m7 m8 m25 m26 n3 n2 n4 n8 n9 n23 n25 n27 n30 n31 n32 y hRN hN31 c1
    intro r
    induction r with
    | zero =>
      intro i F N h1 hF hN h0
      obtain ⟨F, rfl⟩ : ∃ x, F = x + 1 := ⟨F - 1, by omega⟩
      obtain rfl : i = 65 := by omega
      refine ⟨N, ?_, rfl, fun j hj => h0 j (by omega), fun _ _ _ _ => rfl⟩
      rw [show zlX12_bench_62 shM 0 (F + 1) (nI 65) N = zbX12_bench_62 shM 0 (zlX12_bench_62 shM 0 F) (nI 65) N from rfl]
      unfold zbX12_bench_62
      rw [if_pos (show (64 : Int32) < nI 65 by decide)]
    | succ r ih =>
      intro i F N h1 hF hN h0
      obtain ⟨F, rfl⟩ : ∃ x, F = x + 1 := ⟨F - 1, by omega⟩
      obtain ⟨N1, a1, a2, a3, a4⟩ := ih (i + 1) F (zpI (zpI N 9 i 0) 10 i 0) (by omega) (by omega) hN (fun j hj => by
        rw [rI_pI, if_neg (by omega), rI_pI, rI_pI, rI_pI, if_neg (show ¬ (10 = 9 ∧ j = i) by omega)]
        by_cases c : j = i
        · rw [if_pos ⟨rfl, c⟩, if_pos ⟨rfl, c⟩]; exact ⟨rfl, rfl⟩
        · rw [if_neg (by omega), if_neg (by omega)]
          exact h0 j (by omega))
      refine ⟨N1, ?_, a2, a3, fun k j a b => by rw [a4 k j a b, rI_pI, if_neg (by omega), rI_pI, if_neg (by omega)]⟩
      have e19 : zR N 0 19 = 9 := by simp only [hN.o]
      have e20 : zR N 0 20 = 10 := by simp only [hN.o]
      have hcl : (nI i).toNatClampNeg = i := nI_clamp (by omega)
      have hin : zin (nI i) 65 = true := in_a (by omega) (by omega)
      rw [show zlX12_bench_62 shM 0 (F + 1) (nI i) N = zbX12_bench_62 shM 0 (zlX12_bench_62 shM 0 F) (nI i) N from rfl]
      unfold zbX12_bench_62
      rw [if_neg (show ¬ (64 : Int32) < nI i from nI_nlt (a := 64) (by omega) (by omega))]
      simp only [rbd, rR_pI, e19, e20, show zlen shM 9 = 65 from rfl, show zlen shM 10 = 65 from rfl, hcl, nI_1, show vp_nar .boolean (0 : Int32) = 0 from rfl]
      rw [rgd hin, rgd hin]
      exact a1
  obtain ⟨N', d1, d2, d3, d4⟩ := loop 65 0 zF N31 (by omega) (by unfold zF; omega) hN31' (fun j hj => absurd hj (by omega))
  clear loop
  have hN' : rfN N' := hN31'.sm d2
  have tq : ∀ i, i < len → 0 ≤ (zI N 2 i).toInt := fun i hi => by
    rw [← t4 i (by omega), r_and255]
    omega
  have hT : txt M7 N' len (fun i => if i < len then zI N 2 i else -1) := by
    refine ⟨hl9, m25, by rw [d4 0 3 (by omega) (by omega)]; exact n3, fun i hi => ?_, fun i hi => if_neg (by omega)⟩
    have e : (fun i => if i < len then zI N 2 i else (-1 : Int32)) i = zI N 2 i := if_pos hi
    rw [e, m26, d4 2 i (by omega) (by omega), y 2 i (by omega)]
    exact ⟨t4 i (by omega), rfl, tq i hi⟩
  obtain ⟨M9, N9, p, s, f1, f2, f3, f4, f5, f6⟩ := step_ok (p := 0) hC7 hN' hT m2 (by rw [d4 0 4 (by omega) (by omega)]; exact n4) (by omega)
  refine ⟨len, _, M9, N9, p, s, ?_, ?_, ⟨hC7.sm f3.1, hN'.sm f4.1, hT.st f3 f4, f5, ?_, ?_, ?_, ?_⟩, ?_, fun k j a b => ?_, f4.1.trans (d2.trans hRN), ?_, fun k j a b => ?_⟩
  · unfold zX6_start
    simp only [rbd]
    rw [e1, c1, rob, f1, rob]
  · unfold zX12_bench
    simp only [rbd]
    rw [hN2, hN31, show (0 : Int32) = nI 0 from rfl, d1, f2, rob]
  · rw [f4.2.1 0 8 (by omega), d4 0 8 (by omega) (by omega)]; exact n8
  · rw [f3.2 27 7 (by omega)]; exact m7
  · rw [f3.2 27 8 (by omega)]; exact m8
  · rw [f4.2.1 0 9 (by omega), d4 0 9 (by omega) (by omega)]; exact n9
  · rw [vS_nm hs f3.n, vN_gn f4]
    have vr : ∀ j, rlN 0 j → vN N' 0 j = zI N31 0 j := fun j hj => by rw [vN_at hj, d4 0 j (by omega) (by omega)]
    refine ⟨by omega, by omega, by rw [vS_at (by omega)]; exact c4, by rw [vr 23 (by unfold rlN; omega), n23]; rfl, by rw [vS_at (by omega)]; exact c5, by rw [vr 25 (by unfold rlN; omega), n25]; rfl, ⟨by rw [vS_at (by omega), vr 27 (by unfold rlN; omega), n27]; exact c6, by rw [vS_at (by omega), vr 30 (by unfold rlN; omega), n30]; exact c7, by rw [vr 30 (by unfold rlN; omega), n30]; unfold btw; decide, by rw [vS_at (by omega), vr 31 (by unfold rlN; omega), n31]; exact c8, by rw [vr 31 (by unfold rlN; omega), n31]; unfold btw; decide, by rw [vS_at (by omega), vr 32 (by unfold rlN; omega), n32]; exact c9⟩, fun a ha => absurd ha (by omega), fun b hb => absurd hb (by omega), fun q hq => ?_⟩
    have p6 : zI M (sb + 6) q = zI N 12 q := by
      rcases hs with rfl | rfl
      · exact (h7 q hq).1
      · exact (h7 q hq).2.1
    have r9 : vN N' 9 q = 0 := by rw [vN_at (by unfold rlN; omega)]; exact (d3 q hq).1
    have r10 : vN N' 10 q = 0 := by rw [vN_at (by unfold rlN; omega)]; exact (d3 q hq).2
    have r12 : vN N' 12 q = zI N 12 q := by rw [vN_at (by unfold rlN; omega), d4 12 q (by omega) (by omega), y 12 q (by omega)]
    have u6 : zI (zpI (zpI (zpI (zpR M 27 1 sb) 27 2 0) 27 7 0) 27 8 (-1)) (sb + 6) q = zI N 12 q := by rw [x4 _ _ (by omega)]; exact p6
    refine ⟨by rw [vS_at (by omega), r12, c10 _ _ (by omega)]; exact u6, by rw [vS_at (by omega), r12, r9, (c3 q hq).1, u6, Int32.add_zero], by rw [r9]; unfold btw; decide, by rw [vS_at (by omega), r10]; exact (c3 q hq).2⟩
  · rw [f3.2 k j (by omega), c10 k j (by omega), x4 k j (by omega)]
  · rw [f4.2.1 0 2 (by omega), d4 0 2 (by omega) (by omega)]; exact n2
  · unfold keepN at a
    rw [f4.2.1 k j (by omega), d4 k j (by omega) (by omega), y k j (by omega)]
theorem B_bench_ok : B_bench Inv := by
  intro n M N hn hI
  obtain ⟨bb, sb, it, nA, nB, h1, h2, h3, h4, h5, h6, h7, h8, h9⟩ := hI
  have hs : sb = 1 ∨ sb = 13 := by omega
  have e01 : zR M 0 1 = 27 := by simp only [h2.o]
  have e012 : zR M 0 12 = sb := by simp only [h2.o]
  unfold zX11_bench
  rw [e01, e012]
  clear e01 e012
  obtain ⟨len, tx, M1, N1, p, s, a1, a2, a3, a4, a5, a6, a7, a8⟩ := start_ok h1 h2 h3 h4 h7
  rw [a1, rob, a2]
  obtain ⟨r, M2, N2, b1, b2, b3, b4, b5⟩ := rd_loop hs 901 0 zF zF p s 0 0 M1 N1 (by omega) (by unfold zF; omega) (by unfold zF; omega) (by omega) a3 a4
  have b1 : zlX11_bench_15 shC 0 zF 1 0 M1 = zjX11_bench_50 shC 0 r M2 := b1
  rw [b1, b2]
  have FM : ∀ k j, ¬ (k = 27 ∧ 2 ≤ j ∧ j ≤ 8) → ¬ (sb ≤ k ∧ k < sb + 12 ∧ k ≠ sb + 6) → zI M2 k j = zI M k j := fun k j q q' => (b3.2 k j q q').trans (a5 k j q q')
  have FN : ∀ k j, keepN k j → ¬ (k = 0 ∧ j = 2) → zI N2 k j = zI N k j := fun k j q q' => (b4.2 k j (Or.inl q)).trans (a8 k j q q')
  have n2 : zI N2 0 2 = 0 := (b4.2 0 2 (Or.inl (by unfold keepN; omega))).trans a7
  have hC2 : rfC M2 bb sb sb := a3.1.sm b3.1
  have hN2 : rfN N2 := h3.sm (b4.1.trans a6)
  have o0 : zR M2 0 0 = 25 := by simp only [hC2.o]
  have G3 : G0 M2 := ⟨by rw [FM 178 0 (by omega) (by omega)]; exact h5.2.2.1, by rw [FM 180 0 (by omega) (by omega)]; exact h5.2.2.2.1, fun b hb => by rw [FM (b + 6) 0 (by unfold stB at hb; omega) (by unfold stB at hb; omega)]; exact h5.2.2.2.2 b hb⟩
  clear a1 a2 a5 a6 a7 a8 b1 b2 b3 b4
  unfold zjX11_bench_50 zjX12_bench_113
  rw [o0]
  clear o0
  rcases b5 with ⟨rfl, p1, s1, nA', nB', c1, c2⟩ | ⟨rfl, c1⟩
  · obtain ⟨k1, k2, k3, k4, k5, k6, k7, k8, k9, k10⟩ := c2
    have g8 := c1.2.2.2.2.1
    have g9 : zI N2 0 9 = -1 := c1.2.2.2.2.2.2.2
    have m7 : zI M2 27 7 = 0 := c1.2.2.2.2.2.1
    have m8 : zI M2 27 8 = -1 := c1.2.2.2.2.2.2.1
    have sA : ∀ k j, k < 12 → vS sb M2 k j = zI M2 (sb + k) j := fun k j h => vS_at h
    rw [vS_at (by omega)] at k3 k5
    rw [vN_at (by unfold rlN; omega)] at k4 k6
    simp only [rbd]
    have w11 : zR (zpI M2 25 1 0) 0 11 = bb := by rw [rR_pI]; simp only [hC2.o]
    have w12 : zR (zpI M2 25 1 0) 0 12 = sb := by rw [rR_pI]; simp only [hC2.o]
    rw [w11, w12, if_neg n1_0]
    clear w11 w12
    have hC7 : rfC (zpR (zpR (zpI M2 25 1 0) 0 11 sb) 0 12 bb) sb bb sb := rfC.swap (M := zpI M2 25 1 0) hC2
    obtain ⟨M3, d1, d2, d3, d4, d5, d6, d7, d8, d9, d10, d11⟩ := clr_ok hC7
    have hC3 : rfC M3 sb bb sb := hC7.sm d2
    have w2 : zR (zpR (zpR (zpI M2 25 1 0) 0 11 sb) 0 12 bb) 0 2 = 28 := by simp only [hC7.o]
    have w4 : zR M3 0 4 = 52 := by simp only [hC3.o]
    have w11 : zR (zpI M3 52 2 0) 0 11 = sb := by rw [rR_pI]; simp only [hC3.o]
    rw [w2, d1, rob, w4, w11]
    clear w2 w4 w11
    have FM3 : ∀ k j, k ≠ 28 → ¬ (37 ≤ k ∧ k < 40) → zI M3 k j = (if k = 25 ∧ j = 1 then 0 else zI M2 k j) := fun k j q q' => (d11 k j q q').trans rfl
    have e8 : zI (zpI (zpI N2 0 10 (zI N2 0 8)) 0 11 (zI (zpI N2 0 10 (zI N2 0 8)) 0 9)) 0 8 = 0 := by rw [rI_pI, if_neg (by omega), rI_pI, if_neg (by omega)]; exact g8
    rw [if_pos (show zI (zpI (zpI N2 0 10 (zI N2 0 8)) 0 11 (zI (zpI N2 0 10 (zI N2 0 8)) 0 9)) 0 8 ≤ 0 by rw [e8]; decide), g8, show zI (zpI N2 0 10 0) 0 9 = -1 by rw [rI_pI, if_neg (by omega)]; exact g9]
    obtain ⟨N3, t1, t2, t3, t4, t5, t6, t7, t8, t9, t10, t11, t12⟩ := takes_ok (N := zpI (zpI N2 0 10 0) 0 11 (-1)) hN2
    have ex : ∀ k j, ¬ (k = 0 ∧ (j = 10 ∨ j = 11)) → zI (zpI (zpI N2 0 10 0) 0 11 (-1)) k j = zI N2 k j := fun k j q => by rw [rI_pI, if_neg (by omega), rI_pI, if_neg (by omega)]
    rw [ex _ _ (by omega)] at t3 t4 t5 t6 t7
    rw [t1, rob]
    have m6 : zI (zpI M3 52 2 0) sb 6 = nI nA' := by rw [rI_pI, if_neg (by omega), FM3 sb 6 (by omega) (by omega), if_neg (by omega)]; exact k3
    refine ⟨zI N3 0 22, zpI M3 52 2 0, N3, by rw [m6, t3, k4], rfl, sb, bb, sb, nA', nB', by omega, hC3, hN2.sm t2, ⟨?_, ?_, fun i hi => ?_⟩, ⟨?_, ?_, ?_⟩, ?_, fun q hq => ?_, ?_, ?_⟩
    · rw [rI_pI, if_neg (by omega), FM3 25 1 (by omega) (by omega), if_pos ⟨rfl, rfl⟩, t12 0 2 (by omega), ex 0 2 (by omega), n2]
    · rw [t12 0 2 (by omega), ex 0 2 (by omega), n2]; unfold btw; decide
    · rw [t12 0 2 (by omega), ex 0 2 (by omega), n2, show (0 : Int32).toInt = 0 from rfl] at hi
      omega
    · rw [rI_pI, if_neg (by omega), FM3 27 7 (by omega) (by omega), if_neg (by omega), t12 0 10 (by omega), rI_pI, if_neg (by omega), rI_pI, if_pos ⟨rfl, rfl⟩]; exact m7
    · rw [rI_pI, if_neg (by omega), FM3 27 8 (by omega) (by omega), if_neg (by omega), t12 0 11 (by omega), rI_pI, if_pos ⟨rfl, rfl⟩]; exact m8
    · refine ⟨by rw [rI_pI, if_neg (by omega), FM3 178 0 (by omega) (by omega), if_neg (by omega)]; exact G3.1, by rw [rI_pI, if_neg (by omega), FM3 180 0 (by omega) (by omega), if_neg (by omega)]; exact G3.2.1, fun b hb => ?_⟩
      have hb' := hb
      unfold stB at hb'
      rw [rI_pI, if_neg (by omega), FM3 (b + 6) 0 (by omega) (by omega), if_neg (by omega)]
      exact G3.2.2 b hb
    · have cl : ∀ k j, sb ≤ k → k < sb + 12 → zI (zpI M3 52 2 0) k j = zI M2 k j := fun k j q q' => by rw [rI_pI, if_neg (by omega), FM3 k j (by omega) (by omega), if_neg (by omega)]
      obtain ⟨r1, r2, r3, r4, r5, r6⟩ := k7
      rw [vS_at (by omega), vN_at (by unfold rlN; omega)] at r1 r2 r4
      rw [vN_at (by unfold rlN; omega)] at r3 r5
      refine ⟨k1, k2, by rw [cl _ _ (by omega) (by omega)]; exact k3, by rw [t3]; exact k4, by rw [cl _ _ (by omega) (by omega)]; exact k5, by rw [t4]; exact k6, by rw [cl _ _ (by omega) (by omega), t5]; exact r1, by rw [cl _ _ (by omega) (by omega), t6]; exact r2, by rw [t6]; exact r3, by rw [cl _ _ (by omega) (by omega), t7]; exact r4, by rw [t7]; exact r5, fun a ha => ?_, fun b hb => ?_, fun q hq => ?_⟩
      · obtain ⟨q0, q1, q2, q3, q4, q5, q6, q7, q8⟩ := k8 a ha
        have ea : ∀ j, j < 6 → zI N3 4 (6 * a + j) = vN N2 5 (6 * a + j) := fun j hj => by
          rw [(t9 (6 * a + j) (by omega)).1, ex _ _ (by omega), vN_at (by unfold rlN; omega)]
        have ea0 : zI N3 4 (6 * a) = vN N2 5 (6 * a) := ea 0 (by omega)
        refine ⟨fun j hj => ?_, by rw [ea0]; exact q1, by rw [ea 1 (by omega)]; exact q2, by rw [ea 2 (by omega)]; exact q3, by rw [ea 3 (by omega)]; exact q4, by rw [ea 4 (by omega)]; exact q5, by rw [ea 5 (by omega)]; exact q6⟩
        rw [cl _ _ (by omega) (by omega), ea j hj, ← q0 j hj, sA _ _ (by omega), show sb + (9 + a) = sb + 9 + a by omega]
      · obtain ⟨q1, q2, q3, q4⟩ := k9 b hb
        have eb : ∀ j, j < 3 → zI N3 6 (3 * b + j) = vN N2 7 (3 * b + j) := fun j hj => by
          rw [(t9 (3 * b + j) (by omega)).2, ex _ _ (by omega), vN_at (by unfold rlN; omega)]
        have eb0 : zI N3 6 (3 * b) = vN N2 7 (3 * b) := eb 0 (by omega)
        rw [cl _ _ (by omega) (by omega), cl _ _ (by omega) (by omega), cl _ _ (by omega) (by omega), eb0, eb 1 (by omega), eb 2 (by omega), ← q1, ← q2, ← q3, sA _ _ (by omega), sA _ _ (by omega), sA _ _ (by omega)]
        refine ⟨rfl, rfl, rfl, ?_⟩
        rw [← sA 3 b (by omega), q2]
        exact q4
      · obtain ⟨q1, q2, q3, q4⟩ := k10 q hq
        rw [vS_at (by omega), vN_at (by unfold rlN; omega), vN_at (by unfold rlN; omega)] at q2
        rw [vN_at (by unfold rlN; omega)] at q3
        rw [cl _ _ (by omega) (by omega), t10 q hq, ex _ _ (by omega), t12 12 q (by omega), ex _ _ (by omega)]
        exact ⟨q2, q3⟩
    · have n12 : zI N3 12 q = zI N 12 q := by rw [t12 12 q (by omega), ex _ _ (by omega), FN 12 q (by unfold keepN; omega) (by omega)]
      rw [rI_pI, if_neg (by omega), rI_pI, if_neg (by omega), FM3 7 q (by omega) (by omega), if_neg (by omega), FM3 19 q (by omega) (by omega), if_neg (by omega), FM 7 q (by omega) (by omega), FM 19 q (by omega) (by omega), n12]
      exact h7 q hq
    · have f1 : ∀ j, j < 194 → j ≠ 22 → zI N3 1 j = 0 := fun j hj q => by rw [t11 j hj, if_neg q]
      have vs : ∀ j, 4 ≤ j → j < 13 → vSt (zpI M3 52 2 0) 28 0 j = zI M3 28 j := fun j q1 q2 => by
        unfold vSt
        rw [if_pos (by unfold relS; simp; omega), rI_pI, if_neg (by omega)]
      have vr : ∀ a j, a < 3 → j < 6 → vSt (zpI M3 52 2 0) 28 (9 + a) j = 0 := fun a j ha hj => by
        unfold vSt
        rw [if_pos (by unfold relS; simp; omega), rI_pI, if_neg (by omega), show 28 + (9 + a) = 37 + a by omega]
        exact d3 a j ha hj
      refine ⟨by rw [vs 5 (by omega) (by omega), f1 0 (by omega) (by omega)]; exact d5, by rw [f1 0 (by omega) (by omega)]; unfold btw; rw [show (0 : Int32).toInt = 0 from rfl]; omega, by rw [vs 6 (by omega) (by omega), f1 21 (by omega) (by omega)]; exact d6, by rw [vs 7 (by omega) (by omega), t11 22 (by omega), if_pos rfl]; exact d7, by rw [vs 4 (by omega) (by omega), f1 23 (by omega) (by omega)]; exact d4, by rw [f1 23 (by omega) (by omega)]; unfold btw; decide, fun i q1 q2 => ?_, fun i a q1 q2 => ?_, fun a ha => ?_, by rw [vs 8 (by omega) (by omega), f1 1 (by omega) (by omega)]; exact d8, Or.inl (by rw [vs 9 (by omega) (by omega)]; exact d9), Or.inl ⟨f1 1 (by omega) (by omega), by rw [vs 10 (by omega) (by omega)]; exact d10⟩⟩
      · rw [f1 23 (by omega) (by omega), show (0 : Int32).toInt = 0 from rfl] at q2
        omega
      · rw [f1 23 (by omega) (by omega), show (0 : Int32).toInt = 0 from rfl] at q1
        omega
      · refine ⟨fun j hj => by rw [vr a j (by omega) hj, f1 (48 + 6 * a + j) (by omega) (by omega)], ?_, ?_, ?_, ?_⟩
        · rw [f1 (48 + 6 * a) (by omega) (by omega)]; unfold btw; decide
        · rw [f1 (48 + 6 * a + 3) (by omega) (by omega)]; unfold btw; decide
        · rw [f1 (48 + 6 * a + 4) (by omega) (by omega)]; unfold btw; decide
        · rw [f1 (48 + 6 * a + 5) (by omega) (by omega)]; decide
    · obtain ⟨kept, next, u1, u2, u3, u4, u5, u6⟩ := h9
      refine ⟨0, next, by omega, u2, by rw [rI_pI, if_pos ⟨rfl, rfl⟩]; rfl, t8, ?_, fun i hi => absurd hi (by omega)⟩
      rw [rI_pI, if_neg (by omega), FM3 52 1 (by omega) (by omega), if_neg (by omega), FM 52 1 (by omega) (by omega)]
      exact u5
  · obtain ⟨q1, q2⟩ := bad_n c1
    obtain ⟨c, v1, v2, v3, v4, v5⟩ := c1
    simp only [rbd]
    have e8 : zI (zpI (zpI N2 0 10 (zI N2 0 8)) 0 11 (zI (zpI N2 0 10 (zI N2 0 8)) 0 9)) 0 8 = zI N2 0 8 := by rw [rI_pI, if_neg (by omega), rI_pI, if_neg (by omega)]
    rw [if_pos trivial, if_neg (show ¬ zI (zpI (zpI N2 0 10 (zI N2 0 8)) 0 11 (zI (zpI N2 0 10 (zI N2 0 8)) 0 9)) 0 8 ≤ 0 by rw [e8]; exact q2)]
    have ex : ∀ k j, ¬ (k = 0 ∧ (j = 10 ∨ j = 11)) → zI (zpI (zpI N2 0 10 (zI N2 0 8)) 0 11 (zI (zpI N2 0 10 (zI N2 0 8)) 0 9)) k j = zI N2 k j := fun k j q => by rw [rI_pI, if_neg (by omega), rI_pI, if_neg (by omega)]
    have FM3 : ∀ k j, ¬ (k = 27 ∧ 2 ≤ j ∧ j ≤ 8) → ¬ (sb ≤ k ∧ k < sb + 12 ∧ k ≠ sb + 6) → ¬ (k = 25 ∧ j = 1) → zI (zpI M2 25 1 0) k j = zI M k j := fun k j a b c => by rw [rI_pI, if_neg c, FM k j a b]
    have FN3 : ∀ k j, keepN k j → ¬ (k = 0 ∧ (j = 2 ∨ j = 10 ∨ j = 11)) → zI (zpI (zpI N2 0 10 (zI N2 0 8)) 0 11 (zI (zpI N2 0 10 (zI N2 0 8)) 0 9)) k j = zI N k j := fun k j a b => by rw [ex k j (by omega), FN k j a (by omega)]
    refine ⟨-1, zpI M2 25 1 0, _, rfl, rfl, Inv_up n _ _ ⟨bb, sb, sb, nA, nB, h1, hC2, hN2, ⟨?_, ?_, fun i hi => ?_⟩, ⟨?_, ?_, ?_⟩, h6.sm (fun k j q q' => FM3 k j (by omega) (by omega) (by omega)) (fun k j q => FN3 k j (by unfold keepN; omega) (by omega)), h7.sm (fun k j q => FM3 k j (by omega) (by omega) (by omega)) (fun j => FN3 12 j (by unfold keepN; omega) (by omega)), ?_, h9.sm (fun k j q q' => FM3 k j (by omega) (by omega) (by omega)) (fun k j q => FN3 k j (by unfold keepN; omega) (by omega))⟩⟩
    · rw [rI_pI, if_pos ⟨rfl, rfl⟩, ex 0 2 (by omega), n2]
    · rw [ex 0 2 (by omega), n2]; unfold btw; decide
    · rw [ex 0 2 (by omega), n2, show (0 : Int32).toInt = 0 from rfl] at hi
      omega
    · rw [rI_pI, if_neg (by omega), rI_pI, if_neg (by omega), rI_pI, if_pos ⟨rfl, rfl⟩, v3, v4]
    · rw [rI_pI, if_neg (by omega), rI_pI, if_pos ⟨rfl, rfl⟩, rI_pI, if_neg (by omega)]
      exact v5
    · refine ⟨by rw [rI_pI, if_neg (by omega)]; exact G3.1, by rw [rI_pI, if_neg (by omega)]; exact G3.2.1, fun b hb => ?_⟩
      have hb' := hb
      unfold stB at hb'
      rw [rI_pI, if_neg (by omega)]
      exact G3.2.2 b hb
    · have e : zI (zpI (zpI N2 0 10 (zI N2 0 8)) 0 11 (zI (zpI N2 0 10 (zI N2 0 8)) 0 9)) 1 = zI N 1 := funext fun j => FN3 1 j (by unfold keepN; omega) (by omega)
      rw [e, vSt_same (M := M) (b := 28) (fun k j q q' q'' => FM3 k j (by omega) (by omega) (by omega))]
      exact h8
