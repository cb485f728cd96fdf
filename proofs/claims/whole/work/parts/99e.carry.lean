/-! Phase B: what an axis carries -/
def IvX (n : Nat) (M N : zMem) (bb sb it nA nB : Nat) : Prop := ((bb = 1 ∧ sb = 13) ∨ (bb = 13 ∧ sb = 1)) ∧ rfC M bb sb it ∧ rfN N ∧ IvT M N ∧ IvF M N ∧ IvB M N bb nA nB ∧ IvP M N ∧ rSt (vSt M 28) (zI N 1) nA (500 * n) ∧ IvH M N nA (500 * n)
theorem ahead_X {n bb sb it nA nB : Nat} {M N : zMem} (h1 : (bb = 1 ∧ sb = 13) ∨ (bb = 13 ∧ sb = 1)) (h2 : rfC M bb sb it) (h3 : rfN N) (h4 : IvT M N) (h5 : IvF M N) (h6 : IvB M N bb nA nB) (h7 : IvP M N) (h8 : rSt (vSt M 28) (zI N 1) nA (500 * n)) (h9 : IvH M N nA (500 * n)) : ∃ M1 N1, zX8_copyFrom shC 40 28 M = some M1 ∧ zX12_puts shM 0 N = some N1 ∧ Bx M1 N1 bb sb it nA nB ∧ rSt (vSt M1 40) (zI N1 1) nA (500 * n) ∧ zI M1 46 0 = 0 ∧ (∀ M2 N2, ah M1 N1 M2 N2 → ∃ N3, zX12_takesBack shM 0 N2 = some N3 ∧ (∀ j, j < 194 → zI N3 1 j = zI N 1 j) ∧ IvX n M2 N3 bb sb it nA nB) ∧ ah M1 N1 M N1 ∧ (∀ j, zI N1 1 j = zI N 1 j) ∧ vSt M1 40 = vSt M 28 := by
  have hb : bb = 1 ∨ bb = 13 := by omega
  have hn3 : nA ≤ 3 := h6.1
  have hb8 : zisB (zI M 28 8) = true := by
    have := h8.2.2.2.2.2.2.2.2.2.1
    rw [vSt_at rfl] at this
    have this : zI M 28 8 = zI N 1 1 := this
    rw [this]
    rcases h8.2.2.2.2.2.2.2.2.2.2.2 with g | g
    · rw [g.1]; rfl
    · rw [g.1]; rfl
  have hb9 : zisB (zI M 28 9) = true := by
    have := h8.2.2.2.2.2.2.2.2.2.2.1
    rw [vSt_at rfl] at this
    have this : zI M 28 9 = 0 ∨ zI M 28 9 = 1 := this
    rcases this with g | g
    · rw [g]; rfl
    · rw [g]; rfl
  obtain ⟨M1, a1, a2, a3, a4⟩ := copy_st h2 st40 st28 (by omega) hb8 hb9
  obtain ⟨N1, b1, b2, b3, b4⟩ := puts_loop h3 194 0 zF N (by omega) (by unfold zF; omega) rfl (fun _ _ _ => rfl) (fun i hi => by omega)
  have hG0 : zI M1 46 0 = 0 := by
    have := congrFun (congrFun a2 6) 0
    rw [vSt_at rfl, vSt_at rfl] at this
    exact this.trans (h5.2.2.2.2 28 st28)
  refine ⟨M1, N1, a1, b1, Bx.sm ⟨hb, h2, h3, h6, h7⟩ a3 b2 (fun k j hk => a4 k j (by omega)) (fun k j hk => b3 k j (by omega)), ?_, hG0, fun M2 N2 g => ?_, ⟨a3.symm, rfl, fun k j h => (a4 k j (by omega)).symm, h5.2.2.2.2 40 st40, fun _ _ _ _ _ _ => rfl⟩, fun j => b3 1 j (by omega), a2⟩
  · rw [a2]
    exact h8.cf hn3 (fun j hj => b3 1 j (by omega))
  · obtain ⟨g1, g2, g3, g4, g5⟩ := g
    obtain ⟨N3, c1, c2, c3, c4⟩ := back_loop (h3.sm (g2.trans b2)) 194 0 zF N2 (by omega) (by unfold zF; omega) rfl (fun _ _ _ => rfl) (fun i hi => by omega)
    have kM : ∀ k j, ¬ (40 ≤ k ∧ k < 52) → zI M2 k j = zI M k j := fun k j h => by rw [g3 k j h]; exact a4 k j (by omega)
    have kN : ∀ k j, k ≠ 1 → k ≠ 14 → k ≠ 15 → k ≠ 17 → ¬ (k = 0 ∧ 36 ≤ j ∧ j ≤ 44) → zI N3 k j = zI N k j := fun k j q1 q2 q3 q4 q5 => by rw [c3 k j q1, g5 k j q1 q2 q3 q5]; exact b3 k j q4
    have k1 : ∀ j, j < 194 → zI N3 1 j = zI N 1 j := fun j hj => by rw [c4 j hj, g5 17 j (by omega) (by omega) (by omega) (by omega)]; exact b4 j hj
    refine ⟨N3, c1, k1, h1, h2.sm (g1.trans a3), h3.sm (c2.trans (g2.trans b2)), h4.sm (fun k j q => kM k j (by omega)) (fun k j q => kN k j (by omega) (by omega) (by omega) (by omega) (by omega)), ⟨?_, ?_, ?_⟩, h6.sm (fun k j q1 q2 => kM k j (by omega)) (fun k j q => kN k j (by omega) (by omega) (by omega) (by omega) (by omega)), h7.sm (fun k j q => kM k j (by omega)) (fun j => kN 12 j (by omega) (by omega) (by omega) (by omega) (by omega)), ?_, ?_⟩
    · rw [kM 27 7 (by omega), kN 0 10 (by omega) (by omega) (by omega) (by omega) (by omega)]; exact h5.1
    · rw [kM 27 8 (by omega), kN 0 11 (by omega) (by omega) (by omega) (by omega) (by omega)]; exact h5.2.1
    · refine ⟨by rw [kM _ _ (by omega)]; exact h5.2.2.1, by rw [kM _ _ (by omega)]; exact h5.2.2.2.1, fun c hc => ?_⟩
      by_cases q : c = 40
      · subst q; exact g4
      · have hd := stB_d hc st40 q
        rw [kM _ _ (by omega)]; exact h5.2.2.2.2 c hc
    · rw [vSt_same (M := M) (M1 := M2) (b := 28) (fun k j q1 q2 q3 => kM k j (by omega))]
      exact h8.cf hn3 k1
    · exact h9.sm (fun k j q1 q2 => kM k j (by omega)) (fun k j q => kN k j (by omega) (by omega) (by omega) (by omega) (by omega))
theorem rSt.setb {M N : zMem} {nA a j0 b : Nat} {T : Int} {v : Int32} (h : rSt (vSt M b) (zI N 1) nA T) (h3 : nA ≤ 3) (ha : a < nA) (hj : j0 < 6) (hb : (j0 = 3 ∧ btw v (-2000) 2000) ∨ (j0 = 4 ∧ btw v 0 2048) ∨ j0 = 1 ∨ j0 = 2 ∨ (j0 = 0 ∧ btw v (-30000) 30000) ∨ (j0 = 5 ∧ 0 ≤ v.toInt)) : rSt (vSt (zpI M (b + 9 + a) j0 v) b) (zI (zpI N 1 (48 + 6 * a + j0) v) 1) nA T := by
  refine h.up h3 (fun k j hk => ?_) (fun j hj1 hj2 => ?_) (fun c hc => ?_)
  · unfold vSt
    rw [rI_pI, if_neg (show ¬ (b + k = b + 9 + a ∧ j = j0) by omega)]
  · rw [rI_pI, if_neg (by omega)]
  · obtain ⟨g1, g2, g3, g4, g5⟩ := h.2.2.2.2.2.2.2.2.1 c hc
    by_cases hca : c = a
    · subst hca
      refine ⟨fun j hj2 => ?_, ?_, ?_, ?_, ?_⟩
      · have := g1 j hj2
        rw [vSt_ro (by omega) hj2] at this ⊢
        rw [rI_pI, rI_pI]
        by_cases hjj : j = j0
        · rw [if_pos ⟨rfl, hjj⟩, if_pos ⟨rfl, by omega⟩]
        · rw [if_neg (fun q => hjj q.2), if_neg (by omega)]; exact this
      · rw [rI_pI]
        by_cases hjj : j0 = 0
        · rw [if_pos ⟨rfl, by omega⟩]
          rcases hb with q | q | q | q | q | q <;> first | exact q.2 | omega
        · rw [if_neg (by omega)]; exact g2
      · rw [rI_pI]
        by_cases hjj : j0 = 3
        · rw [if_pos ⟨rfl, by omega⟩]
          rcases hb with q | q | q | q | q | q <;> first | exact q.2 | omega
        · rw [if_neg (by omega)]; exact g3
      · rw [rI_pI]
        by_cases hjj : j0 = 4
        · rw [if_pos ⟨rfl, by omega⟩]
          rcases hb with q | q | q | q | q | q <;> first | exact q.2 | omega
        · rw [if_neg (by omega)]; exact g4
      · rw [rI_pI]
        by_cases hjj : j0 = 5
        · rw [if_pos ⟨rfl, by omega⟩]
          rcases hb with q | q | q | q | q | q <;> first | exact q.2 | omega
        · rw [if_neg (by omega)]; exact g5
    · rw [rI_pI, if_neg (by omega), rI_pI, if_neg (by omega), rI_pI, if_neg (by omega), rI_pI, if_neg (by omega)]
      refine ⟨fun j hj2 => ?_, g2, g3, g4, g5⟩
      have := g1 j hj2
      rw [vSt_ro (by omega) hj2] at this ⊢
      rw [rI_pI, if_neg (by omega), rI_pI, if_neg (by omega)]
      exact this
theorem carry_in {bb sb it nA nB a p : Nat} (ha : a < nA) (hp : p ≤ 200) (x4 : Int32) (kk : Nat → Int32 → zMem → Option (Int32 × zMem)) : ∀ (r i F F' : Nat) (T : Int) (M N : zMem), i + r = p → r < F → r < F' → T ≤ 1000000 - r → Bx M N bb sb it nA nB → rSt (vSt M 40) (zI N 1) nA T → zI M 46 0 = 0 → ∃ M1 N1, zlX11_carries_76 shC 0 (nI a) (nI p) kk F (40 + 9 + a) x4 (nI i) M = (if zI N1 1 (48 + 6 * a + 5) = 0 then some (x4, M1) else kk (40 + 9 + a) (x4 + -1) M1) ∧ zlX12_bears_14 shM 0 (nI a) x4 (nI p) F' (nI i) N = (zob (zX12_takesBack shM 0 N1) fun Y => some (if zI N1 1 (48 + 6 * a + 5) = 0 then 1 else 0, Y)) ∧ ah M N M1 N1 := by
  have stop : ∀ M N : zMem, ∀ T : Int, Bx M N bb sb it nA nB → rSt (vSt M 40) (zI N 1) nA T → zjX11_carries_106 shC 0 (nI a) (nI p) kk (40 + 9 + a) x4 M = (if zI N 1 (48 + 6 * a + 5) = 0 then some (x4, M) else kk (40 + 9 + a) (x4 + -1) M) ∧ zjX12_bears_39 shM 0 (nI a) x4 (nI p) N = (zob (zX12_takesBack shM 0 N) fun Y => some (if zI N 1 (48 + 6 * a + 5) = 0 then 1 else 0, Y)) := fun M N T hB hS => by
    have hn3 : nA ≤ 3 := hB.2.2.2.1.1
    have ha3 : a < 3 := by omega
    have hro := h_ro hS ha ha3
    unfold zjX11_carries_106 zjX12_bears_39 zjX12_bears_53
    rw [hro.2.2, axisAt_5 hB.2.2.1.o.1 ha3, rob]
    refine ⟨rfl, ?_⟩
    by_cases c : zI N 1 (48 + 6 * a + 5) = 0
    · rw [if_pos c]
      simp only [if_pos c, rgd isB1]
    · rw [if_neg c]
      simp only [if_neg c, rgd isB0]
  intro r
  induction r with
  | zero =>
    intro i F F' T M N h1 hF hF' hT hB hS hG
    obtain ⟨F, rfl⟩ : ∃ x, F = x + 1 := ⟨F - 1, by omega⟩
    obtain ⟨F', rfl⟩ : ∃ x, F' = x + 1 := ⟨F' - 1, by omega⟩
    have hle : nI p ≤ nI i := nI_le (by omega) (by omega)
    refine ⟨M, N, ?_, ?_, rfl, rfl, fun _ _ _ => rfl, hG, fun _ _ _ _ _ _ => rfl⟩
    · simp only [zlX11_carries_76]
      unfold zbX11_carries_76
      rw [if_pos hle]
      exact (stop M N T hB hS).1
    · simp only [zlX12_bears_14]
      unfold zbX12_bears_14
      rw [if_pos hle]
      exact (stop M N T hB hS).2
  | succ r ih =>
    intro i F F' T M N h1 hF hF' hT hB hS hG
    obtain ⟨F, rfl⟩ : ∃ x, F = x + 1 := ⟨F - 1, by omega⟩
    obtain ⟨F', rfl⟩ : ∃ x, F' = x + 1 := ⟨F' - 1, by omega⟩
    have hn3 : nA ≤ 3 := hB.2.2.2.1.1
    have ha3 : a < 3 := by omega
    have hro := h_ro hS ha ha3
    have hle : ¬ nI p ≤ nI i := nI_ge (by omega) (by omega)
    have e3 : zR M 0 3 = 40 := by simp only [hB.2.1.o]
    have e11 : zR M 0 11 = bb := by simp only [hB.2.1.o]
    by_cases c : zI N 1 (48 + 6 * a + 5) = 0
    · obtain ⟨M1, N1, a1, a2, a3, a4⟩ := tick_ah hB hS (by omega) hG
      obtain ⟨M2, N2, b1, b2, b3⟩ := ih (i + 1) F F' (T + 1) M1 N1 (by omega) (by omega) (by omega) (by omega) (hB.ah a4) a3 a4.2.2.2.1
      refine ⟨M2, N2, ?_, ?_, a4.trans b3⟩
      · simp only [zlX11_carries_76]
        unfold zbX11_carries_76
        rw [if_neg hle, hro.2.2, if_pos c, e3, e11, a1, rob, nI_1]
        exact b1
      · simp only [zlX12_bears_14]
        unfold zbX12_bears_14
        rw [if_neg hle, axisAt_5 hB.2.2.1.o.1 ha3, rob, if_pos c, a2, rob, nI_1]
        exact b2
    · refine ⟨M, N, ?_, ?_, rfl, rfl, fun _ _ _ => rfl, hG, fun _ _ _ _ _ _ => rfl⟩
      · simp only [zlX11_carries_76]
        unfold zbX11_carries_76
        rw [if_neg hle, hro.2.2, if_neg c]
        exact (stop M N T hB hS).1
      · simp only [zlX12_bears_14]
        unfold zbX12_bears_14
        rw [if_neg hle, axisAt_5 hB.2.2.1.o.1 ha3, rob, if_neg c]
        exact (stop M N T hB hS).2
/-- one load tried -/
theorem carry_try {n bb sb it nA nB a p x : Nat} (hn : n < 512) (ha : a < nA) (hp : p ≤ 200) (hx : x ≤ 2000) (kk : Nat → Int32 → zMem → Option (Int32 × zMem)) {M N : zMem} (h : IvX n M N bb sb it nA nB) : ∃ M2 N3 q, (zob (zX8_copyFrom shC 40 28 M) fun Y => zlX11_carries_76 shC 0 (nI a) (nI p) kk zF (40 + 9 + a) (nI x) 0 (zpI Y (40 + 9 + a) 3 (nI x))) = (if q = 0 then kk (40 + 9 + a) (nI x + -1) M2 else some (nI x, M2)) ∧ zX12_bears shM 0 (nI a) (nI x) (nI p) N = some (q, N3) ∧ (∀ j, j < 194 → zI N3 1 j = zI N 1 j) ∧ IvX n M2 N3 bb sb it nA nB := by
  have hn3 : nA ≤ 3 := h.2.2.2.2.2.1.1
  have ha3 : a < 3 := by omega
  obtain ⟨M1, N1, t1, t2, t3, t4, t5, t6, t7, t8, t9⟩ := (ahead_X h.1 h.2.1 h.2.2.1 h.2.2.2.1 h.2.2.2.2.1 h.2.2.2.2.2.1 h.2.2.2.2.2.2.1 h.2.2.2.2.2.2.2.1 h.2.2.2.2.2.2.2.2)
  have hS := t4.setb (v := nI x) (j0 := 3) hn3 ha (by omega) (Or.inl ⟨rfl, by unfold btw; rw [nI_toInt (by omega)]; omega⟩)
  have hA : ah M1 N1 (zpI M1 (40 + 9 + a) 3 (nI x)) (zpI N1 1 (48 + 6 * a + 3) (nI x)) := ⟨rfl, rfl, fun k j g => by rw [rI_pI, if_neg (by omega)], by rw [rI_pI, if_neg (by omega)]; exact t5, fun k j g1 g2 g3 g4 => by rw [rI_pI, if_neg (by omega)]⟩
  obtain ⟨M2, N2, b1, b2, b3⟩ := carry_in ha hp (nI x) kk p 0 zF zF (500 * n) (zpI M1 (40 + 9 + a) 3 (nI x)) (zpI N1 1 (48 + 6 * a + 3) (nI x)) (by omega) (by unfold zF; omega) (by unfold zF; omega) (by omega) (t3.ah hA) hS hA.2.2.2.1
  obtain ⟨N3, d1, d2, d3⟩ := t6 M2 N2 (hA.trans b3)
  refine ⟨M2, N3, if zI N2 1 (48 + 6 * a + 5) = 0 then 1 else 0, ?_, ?_, d2, d3⟩
  · rw [t1, rob]
    refine b1.trans ?_
    by_cases c : zI N2 1 (48 + 6 * a + 5) = 0
    · rw [if_pos c, if_pos c, if_neg (show ¬ (1 : Int32) = 0 by decide)]
    · rw [if_neg c, if_neg c, if_pos rfl]
  · unfold zX12_bears
    rw [t2, rob, sets_3 t3.2.2.1.o.1 ha3, rob]
    refine b2.trans ?_
    rw [d1, rob]
theorem carry_out {n bb sb it nA nB a p : Nat} (hn : n < 512) (ha : a < nA) (hp : p ≤ 200) : ∀ (x F F' : Nat) (M N : zMem), x ≤ 2000 → x + 1 < F → x + 1 < F' → IvX n M N bb sb it nA nB → ∃ v M1 N1, zlX11_carries_51 shC 0 (nI a) (nI p) F (40 + 9 + a) (nI x) M = some (v, M1) ∧ zlX12_carries_26 shM 0 (nI a) (nI p) F' (nI x) N = some (v, N1) ∧ IvX n M1 N1 bb sb it nA nB := by
  intro x
  induction x with
  | zero =>
    intro F F' M N hx hF hF' h
    obtain ⟨F, rfl⟩ : ∃ y, F = y + 1 + 1 := ⟨F - 2, by omega⟩
    obtain ⟨F', rfl⟩ : ∃ y, F' = y + 1 + 1 := ⟨F' - 2, by omega⟩
    have e3 : zR M 0 3 = 40 := by simp only [h.2.1.o]
    have e2 : zR M 0 2 = 28 := by simp only [h.2.1.o]
    obtain ⟨M2, N3, q, b1, b2, b3, b4⟩ := carry_try (x := 0) hn ha hp (by omega) (zlX11_carries_51 shC 0 (nI a) (nI p) (F + 1)) h
    have bC : zlX11_carries_51 shC 0 (nI a) (nI p) (F + 1 + 1) (40 + 9 + a) (nI 0) M = (if q = 0 then some (-1, M2) else some (nI 0, M2)) := by
      rw [show zlX11_carries_51 shC 0 (nI a) (nI p) (F + 1 + 1) (40 + 9 + a) (nI 0) M = zbX11_carries_51 shC 0 (nI a) (nI p) (zlX11_carries_51 shC 0 (nI a) (nI p) (F + 1)) (40 + 9 + a) (nI 0) M from rfl]
      unfold zbX11_carries_51
      rw [if_neg (by decide), e3, e2]
      exact b1
    have bM : zlX12_carries_26 shM 0 (nI a) (nI p) (F' + 1 + 1) (nI 0) N = (if q = 0 then some (-1, N3) else some (nI 0, N3)) := by
      rw [show zlX12_carries_26 shM 0 (nI a) (nI p) (F' + 1 + 1) (nI 0) N = zbX12_carries_26 shM 0 (nI a) (nI p) (zlX12_carries_26 shM 0 (nI a) (nI p) (F' + 1)) (nI 0) N from rfl]
      unfold zbX12_carries_26
      rw [if_neg (by decide), b2, rob2]
      rfl
    rw [bC, bM]
    by_cases c : q = 0
    · rw [if_pos c, if_pos c]; exact ⟨_, M2, N3, rfl, rfl, b4⟩
    · rw [if_neg c, if_neg c]; exact ⟨_, M2, N3, rfl, rfl, b4⟩
  | succ x ih =>
    intro F F' M N hx hF hF' h
    obtain ⟨F, rfl⟩ : ∃ y, F = y + 1 := ⟨F - 1, by omega⟩
    obtain ⟨F', rfl⟩ : ∃ y, F' = y + 1 := ⟨F' - 1, by omega⟩
    have e3 : zR M 0 3 = 40 := by simp only [h.2.1.o]
    have e2 : zR M 0 2 = 28 := by simp only [h.2.1.o]
    have hlt : ¬ nI (x + 1) < 0 := by rw [r_lt, nI_toInt (by omega)]; show ¬ _ < (0 : Int); omega
    have hpr : nI (x + 1) + -1 = nI x := by
      rw [iI_n (x + 1), iI_n x, show (-1 : Int32) = iI (-1) from rfl, iI_add]
      congr 1
      omega
    obtain ⟨M2, N3, q, b1, b2, b3, b4⟩ := carry_try (x := x + 1) hn ha hp (by omega) (zlX11_carries_51 shC 0 (nI a) (nI p) F) h
    obtain ⟨v, M4, N4, i1, i2, i3⟩ := ih F F' M2 N3 (by omega) (by omega) (by omega) b4
    have bC : zlX11_carries_51 shC 0 (nI a) (nI p) (F + 1) (40 + 9 + a) (nI (x + 1)) M = (if q = 0 then some (v, M4) else some (nI (x + 1), M2)) := by
      rw [show zlX11_carries_51 shC 0 (nI a) (nI p) (F + 1) (40 + 9 + a) (nI (x + 1)) M = zbX11_carries_51 shC 0 (nI a) (nI p) (zlX11_carries_51 shC 0 (nI a) (nI p) F) (40 + 9 + a) (nI (x + 1)) M from rfl]
      unfold zbX11_carries_51
      rw [if_neg hlt, e3, e2]
      refine b1.trans ?_
      rw [hpr, i1]
    have bM : zlX12_carries_26 shM 0 (nI a) (nI p) (F' + 1) (nI (x + 1)) N = (if q = 0 then some (v, N4) else some (nI (x + 1), N3)) := by
      rw [show zlX12_carries_26 shM 0 (nI a) (nI p) (F' + 1) (nI (x + 1)) N = zbX12_carries_26 shM 0 (nI a) (nI p) (zlX12_carries_26 shM 0 (nI a) (nI p) F') (nI (x + 1)) N from rfl]
      unfold zbX12_carries_26
      rw [if_neg hlt, b2, rob2, hpr, i2]
    rw [bC, bM]
    by_cases c : q = 0
    · rw [if_pos c, if_pos c]; exact ⟨_, M4, N4, rfl, rfl, i3⟩
    · rw [if_neg c, if_neg c]; exact ⟨_, M2, N3, rfl, rfl, b4⟩
theorem carry_st {n bb sb it nA nB a p : Nat} (ha : a < nA) : ∀ (x F' : Nat) (M N : zMem), x ≤ 2000 → x + 1 < F' → IvX n M N bb sb it nA nB → ¬ zI N 1 (48 + 6 * a + 5) = 0 → ∃ N1, zlX12_carries_26 shM 0 (nI a) (nI p) F' (nI x) N = some (-1, N1) ∧ IvX n M N1 bb sb it nA nB := by
  have one : ∀ (y : Int32) (M N : zMem), IvX n M N bb sb it nA nB → ¬ zI N 1 (48 + 6 * a + 5) = 0 → ∃ N3, zX12_bears shM 0 (nI a) y (nI p) N = some (0, N3) ∧ (∀ j, j < 194 → zI N3 1 j = zI N 1 j) ∧ IvX n M N3 bb sb it nA nB := fun y M N h h5 => by
    have hn3 : nA ≤ 3 := h.2.2.2.2.2.1.1
    have ha3 : a < 3 := by omega
    obtain ⟨M1, N1, t1, t2, t3, t4, t5, t6, t7, t8, t9⟩ := (ahead_X h.1 h.2.1 h.2.2.1 h.2.2.2.1 h.2.2.2.2.1 h.2.2.2.2.2.1 h.2.2.2.2.2.2.1 h.2.2.2.2.2.2.2.1 h.2.2.2.2.2.2.2.2)
    obtain ⟨N3, d1, d2, d3⟩ := t6 M (zpI N1 1 (48 + 6 * a + 3) y) ⟨t7.1, rfl, t7.2.2.1, t7.2.2.2.1, fun k j g1 g2 g3 g4 => by rw [rI_pI, if_neg (by omega)]⟩
    have c5 : ¬ zI (zpI N1 1 (48 + 6 * a + 3) y) 1 (48 + 6 * a + 5) = 0 := by rw [rI_pI, if_neg (by omega), t8]; exact h5
    have n0 : zR (zpI N1 1 (48 + 6 * a + 3) y) 0 0 = 1 := t3.2.2.1.o.1
    refine ⟨N3, ?_, d2, d3⟩
    unfold zX12_bears
    rw [t2, rob, sets_3 t3.2.2.1.o.1 ha3, rob, show zlX12_bears_14 shM 0 (nI a) y (nI p) zF 0 (zpI N1 1 (48 + 6 * a + 3) y) = zbX12_bears_14 shM 0 (nI a) y (nI p) (zlX12_bears_14 shM 0 (nI a) y (nI p) 999999) 0 (zpI N1 1 (48 + 6 * a + 3) y) from rfl]
    unfold zbX12_bears_14 zjX12_bears_39 zjX12_bears_53
    rw [axisAt_5 n0 ha3, rob, rob, if_neg c5, if_neg c5, d1, rob, rgd isB0]
    split <;> rfl
  intro x
  induction x with
  | zero =>
    intro F' M N hx hF' h h5
    obtain ⟨F', rfl⟩ : ∃ y, F' = y + 1 + 1 := ⟨F' - 2, by omega⟩
    obtain ⟨N3, b2, b3, b4⟩ := one (nI 0) M N h h5
    refine ⟨N3, ?_, b4⟩
    rw [show zlX12_carries_26 shM 0 (nI a) (nI p) (F' + 1 + 1) (nI 0) N = zbX12_carries_26 shM 0 (nI a) (nI p) (zlX12_carries_26 shM 0 (nI a) (nI p) (F' + 1)) (nI 0) N from rfl]
    unfold zbX12_carries_26
    rw [if_neg (by decide), b2, rob2, if_pos rfl]
    rfl
  | succ x ih =>
    intro F' M N hx hF' h h5
    obtain ⟨F', rfl⟩ : ∃ y, F' = y + 1 := ⟨F' - 1, by omega⟩
    have hn3 : nA ≤ 3 := h.2.2.2.2.2.1.1
    have hlt : ¬ nI (x + 1) < 0 := by rw [r_lt, nI_toInt (by omega)]; show ¬ _ < (0 : Int); omega
    have hpr : nI (x + 1) + -1 = nI x := by
      rw [iI_n (x + 1), iI_n x, show (-1 : Int32) = iI (-1) from rfl, iI_add]
      congr 1
      omega
    obtain ⟨N3, b2, b3, b4⟩ := one (nI (x + 1)) M N h h5
    obtain ⟨N4, i1, i2⟩ := ih F' M N3 (by omega) (by omega) b4 (by rw [b3 _ (by omega)]; exact h5)
    refine ⟨N4, ?_, i2⟩
    rw [show zlX12_carries_26 shM 0 (nI a) (nI p) (F' + 1) (nI (x + 1)) N = zbX12_carries_26 shM 0 (nI a) (nI p) (zlX12_carries_26 shM 0 (nI a) (nI p) F') (nI (x + 1)) N from rfl]
    unfold zbX12_carries_26
    rw [if_neg hlt, b2, rob2, if_pos rfl, hpr]
    exact i1
theorem B_carries_ok : B_carries Inv := by
  intro n M N v1 v2 hn hI
  have hU := Inv_up n M N hI
  obtain ⟨bb, sb, it, nA, nB, h1, h2, h3, h4, h5, h6, h7, h8, h9⟩ := hI
  have hX : IvX n M N bb sb it nA nB := ⟨h1, h2, h3, h4, h5, h6, h7, h8, h9⟩
  have h11 : zR M 0 11 = bb := by simp only [h2.o]
  have e3 : zR M 0 3 = 40 := by simp only [h2.o]
  have e2 : zR M 0 2 = 28 := by simp only [h2.o]
  have e28 : zR M 28 0 = 28 + 1 := by simp only [h2.s st28]
  have e40 : zR M 40 0 = 40 + 1 := by simp only [h2.s st40]
  have hn3 : nA ≤ 3 := h6.1
  unfold zX11_carries zX12_carries zjX11_carries_34 zjX12_carries_20
  rw [axisC h11 h6.2.2.1 h6.1, axisM h6.2.2.2.1 h6.1, rob, rob, within_eq, rob, isIn_l v2 1 200 _ _ rfl rfl, rob]
  simp only [bI_0]
  by_cases c1 : 0 ≤ v1.toInt ∧ v1.toInt < nA
  · rw [if_neg (nn c1), if_neg (nn c1)]
    obtain ⟨a, ha, rfl⟩ := ax_ex c1
    have ha3 : a < 3 := by omega
    by_cases c2 : (1 : Int32) ≤ v2 ∧ v2 ≤ 200
    · rw [if_neg (nn c2), if_neg (nn c2)]
      have q1 : 1 ≤ v2.toInt := r_le.mp c2.1
      have q2 : v2.toInt ≤ 200 := r_le.mp c2.2
      obtain ⟨p, hp⟩ : ∃ p : Nat, (p : Int) = v2.toInt := ⟨v2.toInt.toNat, by omega⟩
      have hv : v2 = nI p := by rw [iI_n, hp, iI_t]
      have hro := h_ro h8 ha ha3
      have g5 : 0 ≤ (zI N 1 (48 + 6 * a + 5)).toInt := (h8.2.2.2.2.2.2.2.2.1 a ha).2.2.2.2
      rw [e2, e28, show zlen shC (28 + 1) = 3 from rfl, rgd (in_a ha3 (by omega)), nI_clamp (by omega), h2.ro st28 ha3, hro.2.2, e3, e40, show zlen shC (40 + 1) = 3 from rfl, rgd (in_a ha3 (by omega)), h2.ro st40 ha3, hv]
      by_cases c : zI N 1 (48 + 6 * a + 5) = 0
      · rw [if_pos (show zI N 1 (48 + 6 * a + 5) ≤ 0 by rw [c]; decide)]
        obtain ⟨v, M1, N1, b1, b2, b3⟩ := carry_out (p := p) hn ha (by omega) 2000 zF zF M N (by omega) (by unfold zF; omega) (by unfold zF; omega) hX
        exact ⟨v, M1, N1, b1, b2, Inv_up n M1 N1 ⟨bb, sb, it, nA, nB, b3⟩⟩
      · have c' : ¬ zI N 1 (48 + 6 * a + 5) ≤ 0 := fun h => c (by rw [r_le] at h; rw [r_eq]; have : (0 : Int32).toInt = 0 := rfl; omega)
        obtain ⟨N1, b2, b3⟩ := carry_st (p := p) ha 2000 zF M N (by omega) (by unfold zF; omega) hX c
        exact ⟨-1, M, N1, if_neg c', b2, Inv_up n M N1 ⟨bb, sb, it, nA, nB, b3⟩⟩
    · exact ⟨-1, M, N, if_pos c2, if_pos c2, hU⟩
  · exact ⟨-1, M, N, if_pos c1, if_pos c1, hU⟩
