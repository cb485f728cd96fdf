/-! Phase B: feed -/
theorem bm256 (y : Int) : (Int.bmod y 256) % 256 = y % 256 := by
  unfold Int.bmod
  dsimp only
  split <;> omega
theorem byte_and (y : Int32) : (vp_nar .byte (y.toInt8.toInt32)) &&& 255 = y &&& 255 := by
  have e : vp_nar .byte (y.toInt8.toInt32) = y.toInt8.toInt32.toInt8.toInt32 := rfl
  have h1 : ((y.toInt8.toInt32.toInt8.toInt32) &&& 255).toInt = (y.toInt8.toInt32.toInt8.toInt32).toInt % 256 := r_mask (k := 8) (by decide) (by omega)
  have h2 : (y &&& 255).toInt = y.toInt % 256 := r_mask (k := 8) (by decide) (by omega)
  rw [e, r_eq, h1, h2, Int8.toInt_toInt32, Int32.toInt_toInt8, Int8.toInt_toInt32, Int32.toInt_toInt8]
  exact (bm256 _).trans (bm256 _)
/-- the tapes agree -/
def tpe (M N : zMem) (t : Nat) : Prop := zI M 25 1 = nI t ∧ zI N 0 2 = nI t ∧ ∀ i : Nat, i < t → zI M 26 i &&& 255 = zI N 2 i
theorem one_byte {M N : zMem} {t : Nat} (ht : t + 1 ≤ 900) (h : tpe M N t) (y : Int32) : tpe (zpI (zpI M 26 t (vp_nar .byte (y.toInt8.toInt32))) 25 1 (nI (t + 1))) (zpI (zpI N 2 t (y &&& 255)) 0 2 (nI (t + 1))) (t + 1) := by
  refine ⟨by rw [rI_pI, if_pos ⟨rfl, rfl⟩], by rw [rI_pI, if_pos ⟨rfl, rfl⟩], fun i hi => ?_⟩
  have q1 : ∀ (w : Int32), zI (zpI (zpI M 26 t w) 25 1 (nI (t + 1))) 26 i = if i = t then w else zI M 26 i := fun w => by
    rw [rI_pI, if_neg (by omega), rI_pI]
    by_cases g : i = t
    · rw [if_pos ⟨rfl, g⟩, if_pos g]
    · rw [if_neg (by omega), if_neg g]
  have q2 : ∀ (w : Int32), zI (zpI (zpI N 2 t w) 0 2 (nI (t + 1))) 2 i = if i = t then w else zI N 2 i := fun w => by
    rw [rI_pI, if_neg (by omega), rI_pI]
    by_cases g : i = t
    · rw [if_pos ⟨rfl, g⟩, if_pos g]
    · rw [if_neg (by omega), if_neg g]
  rw [q1, q2]
  by_cases g : i = t
  · rw [if_pos g, if_pos g]; exact byte_and y
  · rw [if_neg g, if_neg g]; exact h.2.2 i (by omega)
/-- what feed touches -/
def fdT (M N M1 N1 : zMem) : Prop := M1.2.2 = M.2.2 ∧ N1.2.2 = N.2.2 ∧ (∀ k j, k ≠ 26 → ¬ (k = 25 ∧ j = 1) → zI M1 k j = zI M k j) ∧ (∀ k j, k ≠ 2 → ¬ (k = 0 ∧ j = 2) → zI N1 k j = zI N k j)
theorem fdT.trans {M N M1 N1 M2 N2 : zMem} (h : fdT M N M1 N1) (g : fdT M1 N1 M2 N2) : fdT M N M2 N2 := ⟨g.1.trans h.1, g.2.1.trans h.2.1, fun k j a b => (g.2.2.1 k j a b).trans (h.2.2.1 k j a b), fun k j a b => (g.2.2.2 k j a b).trans (h.2.2.2 k j a b)⟩
theorem byte_st {bb sb it t : Nat} {M N : zMem} (hC : rfC M bb sb it) (hN : rfN N) (ht : t + 1 ≤ 900) (h : tpe M N t) (y x : Int32) (hx : ¬ x < 0) (F F' : Nat) : ∃ M1 N1, zlX10_put_3 shC 25 y (F + 1) x M = zlX10_put_3 shC 25 y F (x + -8) M1 ∧ zlX12_four_3 shM 0 y (F' + 1) x N = zlX12_four_3 shM 0 y F' (x + -8) N1 ∧ tpe M1 N1 (t + 1) ∧ fdT M N M1 N1 := by
  have e25 : zR M 25 0 = 26 := by simp only [hC.o]
  have n1 : zR N 0 1 = 2 := by simp only [hN.o]
  refine ⟨zpI (zpI M 26 t (vp_nar .byte ((y >>> (x &&& 31)).toInt8.toInt32))) 25 1 (nI (t + 1)), zpI (zpI N 2 t ((y >>> (x &&& 31)) &&& 255)) 0 2 (nI (t + 1)), ?_, ?_, one_byte ht h (y >>> (x &&& 31)), rfl, rfl, fun k j a b => ?_, fun k j a b => ?_⟩
  · simp only [zlX10_put_3]
    unfold zbX10_put_3
    rw [if_neg hx, e25, show zlen shC 26 = 900 from rfl, h.1, if_neg (show ¬ Int32.ofNat 900 ≤ nI t from nI_ge (b := 900) (by omega) (by omega)), rgd (in_a (by omega) (by omega)), nI_clamp (by omega)]
    simp only [rbd]
    rw [rI_pI, if_neg (by omega), h.1, nI_1]
  · simp only [zlX12_four_3]
    unfold zbX12_four_3
    rw [if_neg hx, n1, show zlen shM 2 = 900 from rfl, h.2.1, rgd (in_a (by omega) (by omega)), nI_clamp (by omega)]
    simp only [rbd]
    rw [rI_pI, if_neg (by omega), h.2.1, nI_1]
  · rw [rI_pI, if_neg b, rI_pI, if_neg (fun q => a q.1)]
  · rw [rI_pI, if_neg b, rI_pI, if_neg (fun q => a q.1)]
theorem four_eq {bb sb it t : Nat} {M N : zMem} (hC : rfC M bb sb it) (hN : rfN N) (ht : t + 4 ≤ 900) (h : tpe M N t) (y : Int32) : ∃ M1 N1, zX10_put shC 25 y M = some M1 ∧ zX12_four shM 0 y N = some N1 ∧ tpe M1 N1 (t + 4) ∧ fdT M N M1 N1 := by
  obtain ⟨M1, N1, a1, a2, a3, a4⟩ := byte_st hC hN (by omega) h y 24 (by decide) (999995 + 1 + 1 + 1 + 1) (999995 + 1 + 1 + 1 + 1)
  obtain ⟨M2, N2, b1, b2, b3, b4⟩ := byte_st (hC.sm a4.1) (hN.sm a4.2.1) (by omega) a3 y (24 + -8) (by decide) (999995 + 1 + 1 + 1) (999995 + 1 + 1 + 1)
  obtain ⟨M3, N3, c1, c2, c3, c4⟩ := byte_st (hC.sm (a4.trans b4).1) (hN.sm (a4.trans b4).2.1) (by omega) b3 y (24 + -8 + -8) (by decide) (999995 + 1 + 1) (999995 + 1 + 1)
  obtain ⟨M4, N4, d1, d2, d3, d4⟩ := byte_st (hC.sm ((a4.trans b4).trans c4).1) (hN.sm ((a4.trans b4).trans c4).2.1) (by omega) c3 y (24 + -8 + -8 + -8) (by decide) (999995 + 1) (999995 + 1)
  refine ⟨M4, N4, ?_, ?_, d3, ((a4.trans b4).trans c4).trans d4⟩
  · unfold zX10_put
    rw [show zlX10_put_3 shC 25 y zF 24 M = zlX10_put_3 shC 25 y (999995 + 1 + 1 + 1 + 1 + 1) 24 M from rfl, a1, b1, c1, d1, show zlX10_put_3 shC 25 y (999995 + 1) (24 + -8 + -8 + -8 + -8) M4 = zbX10_put_3 shC 25 y (zlX10_put_3 shC 25 y 999995) (24 + -8 + -8 + -8 + -8) M4 from rfl]
    unfold zbX10_put_3 zjX10_put_48
    rw [if_pos (by decide)]
  · unfold zX12_four
    rw [show zlX12_four_3 shM 0 y zF 24 N = zlX12_four_3 shM 0 y (999995 + 1 + 1 + 1 + 1 + 1) 24 N from rfl, a2, b2, c2, d2, show zlX12_four_3 shM 0 y (999995 + 1) (24 + -8 + -8 + -8 + -8) N4 = zbX12_four_3 shM 0 y (zlX12_four_3 shM 0 y 999995) (24 + -8 + -8 + -8 + -8) N4 from rfl]
    unfold zbX12_four_3
    rw [if_pos (by decide)]
theorem B_feed_ok : B_feed Inv := by
  intro n M N v1 v2 v3 v4 v5 hn hI
  have hU := Inv_up n M N hI
  obtain ⟨bb, sb, it, nA, nB, h1, h2, h3, h4, h5, h6, h7, h8, h9⟩ := hI
  have e0 : zR M 0 0 = 25 := by simp only [h2.o]
  obtain ⟨p1, ⟨p2, p3⟩, p4⟩ := h4
  obtain ⟨t, ht⟩ : ∃ t : Nat, (t : Int) = (zI N 0 2).toInt := ⟨(zI N 0 2).toInt.toNat, by omega⟩
  have hN2 : zI N 0 2 = nI t := by rw [iI_n, ht, iI_t]
  have h0 : tpe M N t := ⟨by rw [p1]; exact hN2, hN2, fun i hi => p4 i (by omega)⟩
  unfold zX11_feed zX12_feed
  rw [e0, h0.1, h0.2.1, show nI t + (20 : Int32) = nI (t + 20) by rw [show (20 : Int32) = nI 20 from rfl, nI_add]]
  by_cases c : t + 20 ≤ 900
  · have hle : nI (t + 20) ≤ (900 : Int32) := nI_le (b := 900) (by omega) (by omega)
    rw [if_pos hle, if_pos hle]
    obtain ⟨M1, N1, a1, a2, a3, a4⟩ := four_eq h2 h3 (by omega) h0 v1
    obtain ⟨M2, N2, b1, b2, b3, b4'⟩ := four_eq (h2.sm a4.1) (h3.sm a4.2.1) (by omega) a3 v2
    have b4 := a4.trans b4'
    obtain ⟨M3, N3, c1, c2, c3, c4'⟩ := four_eq (h2.sm b4.1) (h3.sm b4.2.1) (by omega) b3 v3
    have c4 := b4.trans c4'
    obtain ⟨M4, N4, d1, d2, d3, d4'⟩ := four_eq (h2.sm c4.1) (h3.sm c4.2.1) (by omega) c3 v4
    have d4 := c4.trans d4'
    obtain ⟨M5, N5, f1, f2, f3, f4'⟩ := four_eq (h2.sm d4.1) (h3.sm d4.2.1) (by omega) d3 v5
    have f4 := d4.trans f4'
    have z1 : zR M1 0 0 = 25 := by unfold zR; rw [a4.1]; exact e0
    have z2 : zR M2 0 0 = 25 := by unfold zR; rw [b4.1]; exact e0
    have z3 : zR M3 0 0 = 25 := by unfold zR; rw [c4.1]; exact e0
    have z4 : zR M4 0 0 = 25 := by unfold zR; rw [d4.1]; exact e0
    have z5 : zR M5 0 0 = 25 := by unfold zR; rw [f4.1]; exact e0
    rw [a1, a2, rob, rob, z1, b1, b2, rob, rob, z2, c1, c2, rob, rob, z3, d1, d2, rob, rob, z4, f1, f2, rob, rob, z5, f3.1, f3.2.1]
    clear e0 z1 z2 z3 z4 z5
    obtain ⟨g1, g2, g3, g4⟩ := f4
    refine ⟨_, M5, N5, rfl, rfl, Inv_up n M5 N5 ⟨bb, sb, it, nA, nB, h1, h2.sm g1, h3.sm g2, ⟨?_, ?_, fun i hi => ?_⟩, ⟨?_, ?_, ?_⟩, h6.sm (fun k j q1 q2 => g3 k j (by omega) (by omega)) (fun k j q => g4 k j (by omega) (by omega)), h7.sm (fun k j q => g3 k j (by omega) (by omega)) (fun j => g4 12 j (by omega) (by omega)), ?_, h9.sm (fun k j q1 q2 => g3 k j (by omega) (by omega)) (fun k j q => g4 k j (by omega) (by omega))⟩⟩
    · rw [f3.1, f3.2.1]
    · rw [f3.2.1]; unfold btw; rw [nI_toInt (by omega)]; omega
    · rw [f3.2.1, nI_toInt (by omega)] at hi
      exact f3.2.2 i (by omega)
    · rw [g3 27 7 (by omega) (by omega), g4 0 10 (by omega) (by omega)]; exact h5.1
    · rw [g3 27 8 (by omega) (by omega), g4 0 11 (by omega) (by omega)]; exact h5.2.1
    · exact ⟨by rw [g3 _ _ (by omega) (by omega)]; exact h5.2.2.1, by rw [g3 _ _ (by omega) (by omega)]; exact h5.2.2.2.1, fun b hb => by rw [g3 _ _ (by unfold stB at hb; omega) (by unfold stB at hb; omega)]; exact h5.2.2.2.2 b hb⟩
    · rw [vSt_same (M := M) (M1 := M5) (b := 28) (fun k j q1 q2 q3 => g3 k j (by omega) (by omega)), show zI N5 1 = zI N 1 from funext fun j => g4 1 j (by omega) (by omega)]
      exact h8
  · have hle : ¬ nI (t + 20) ≤ (900 : Int32) := nI_ge (a := 900) (by omega) (by omega)
    exact ⟨-1, M, N, if_neg hle, if_neg hle, hU⟩
