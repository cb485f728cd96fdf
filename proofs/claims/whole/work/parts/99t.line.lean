/-! Phase B: the lines of a bench -/
theorem btw_n {v : Nat} {a b : Int} (h : a ≤ v ∧ (v : Int) ≤ b) (hb : v ≤ 100000) : btw (nI v) a b := by
  unfold btw
  rw [nI_toInt (by omega)]
  exact h
theorem RBv.motor {S R : Nat → Nat → Int32} {J : Nat → Int64} {nA nB a v w x : Nat} (h : RBv S R J nA nB) (ha : a < nA) (h1 : 1 ≤ v ∧ v ≤ 9999) (h2 : 1 ≤ w ∧ w ≤ 999) (h3 : 0 ≤ x ∧ x ≤ 90) : RBv (zu2 (zu2 (zu2 (zu2 S (9 + a) 7 1) (9 + a) 4 (nI v)) (9 + a) 5 (nI w)) (9 + a) 6 (nI x)) (zu2 (zu2 (zu2 (zu2 R 11 a 1) 5 (6 * a + 3) (nI v)) 5 (6 * a + 4) (nI w)) 5 (6 * a + 5) (nI x)) J nA nB := by
  obtain ⟨g1, g2, g3, g4, g5, g6, g7, g8, g9, g10⟩ := h
  generalize hS : zu2 (zu2 (zu2 (zu2 S (9 + a) 7 1) (9 + a) 4 (nI v)) (9 + a) 5 (nI w)) (9 + a) 6 (nI x) = S1
  generalize hR : zu2 (zu2 (zu2 (zu2 R 11 a 1) 5 (6 * a + 3) (nI v)) 5 (6 * a + 4) (nI w)) 5 (6 * a + 5) (nI x) = R1
  have eS : ∀ k j, ¬ (k = 9 + a ∧ 4 ≤ j) → S1 k j = S k j := fun k j q => by subst hS; rw [zu2_n (by omega), zu2_n (by omega), zu2_n (by omega), zu2_n (by omega)]
  have eR : ∀ k j, ¬ (k = 11 ∧ j = a) → ¬ (k = 5 ∧ 6 * a + 3 ≤ j ∧ j ≤ 6 * a + 5) → R1 k j = R k j := fun k j q q' => by subst hR; rw [zu2_n (by omega), zu2_n (by omega), zu2_n (by omega), zu2_n (by omega)]
  have s7 : S1 (9 + a) 7 = 1 := by subst hS; rw [zu2_n (by omega), zu2_n (by omega), zu2_n (by omega), zu2_p]
  have s4 : S1 (9 + a) 4 = nI v := by subst hS; rw [zu2_n (by omega), zu2_n (by omega), zu2_p]
  have s5 : S1 (9 + a) 5 = nI w := by subst hS; rw [zu2_n (by omega), zu2_p]
  have s6 : S1 (9 + a) 6 = nI x := by subst hS; rw [zu2_p]
  have t7 : R1 11 a = 1 := by subst hR; rw [zu2_n (by omega), zu2_n (by omega), zu2_n (by omega), zu2_p]
  have t4 : R1 5 (6 * a + 3) = nI v := by subst hR; rw [zu2_n (by omega), zu2_n (by omega), zu2_p]
  have t5 : R1 5 (6 * a + 4) = nI w := by subst hR; rw [zu2_n (by omega), zu2_p]
  have t6 : R1 5 (6 * a + 5) = nI x := by subst hR; rw [zu2_p]
  clear hS hR
  refine ⟨g1, g2, by rw [eS _ _ (by omega)]; exact g3, by rw [eR _ _ (by omega) (by omega)]; exact g4, by rw [eS _ _ (by omega)]; exact g5, by rw [eR _ _ (by omega) (by omega)]; exact g6, g7.cg (fun j _ => eS _ _ (by omega)) (fun j _ => eR _ _ (by omega) (by omega)), fun a' ha' => ?_, fun b hb => (g9 b hb).cg (eS _ _ (by omega)) (eS _ _ (by omega)) (eS _ _ (by omega)) (fun j hj => eR _ _ (by omega) (by omega)), fun q hq => (g10 q hq).cg (eS _ _ (by omega)) (eS _ _ (by omega)) (eS _ _ (by omega)) (eR _ _ (by omega) (by omega)) (eR _ _ (by omega) (by omega)) (eR _ _ (by omega) (by omega))⟩
  by_cases c : a' = a
  · subst c
    obtain ⟨k0, k1, k2, k3, k4, k5, k6, k7, k8⟩ := g8 a' ha'
    refine ⟨fun j hj => ?_, by rw [eR _ _ (by omega) (by omega)]; exact k1, by rw [eR _ _ (by omega) (by omega)]; exact k2, by rw [eR _ _ (by omega) (by omega)]; exact k3, by rw [t4]; exact btw_n (by omega) (by omega), by rw [t5]; exact btw_n (by omega) (by omega), by rw [t6]; exact btw_n (by omega) (by omega), by rw [s7, t7], by rw [eS _ _ (by omega)]; exact k8⟩
    by_cases d : j < 3
    · rw [eS _ _ (by omega), eR _ _ (by omega) (by omega)]
      exact k0 j hj
    · rcases (show j = 3 ∨ j = 4 ∨ j = 5 by omega) with rfl | rfl | rfl
      · rw [s4, t4]
      · rw [s5, t5]
      · rw [s6, t6]
  · exact (g8 a' ha').cg (fun j hj => eS _ _ (by omega)) (fun j hj => eR _ _ (by omega) (by omega)) (eR _ _ (by omega) (by omega)) rfl
theorem RBv.axis {S R : Nat → Nat → Int32} {J : Nat → Int64} {nA nB v w x : Nat} {nm : Int32} {nw : Int64} (h : RBv S R J nA nB) (ha : nA < 3) (hw : wRel nm nw) (h1 : 1 ≤ v ∧ v ≤ 60) (h2 : 1 ≤ w ∧ w ≤ 30) (h3 : 1 ≤ x ∧ x ≤ 10) : RBv (zu2 (zu2 (zu2 (zu2 (zu2 (zu2 (zu2 (zu2 (zu2 S (9 + nA) 0 nm) (9 + nA) 4 1000) (9 + nA) 5 40) (9 + nA) 6 20) (9 + nA) 7 0) (9 + nA) 1 (nI v)) (9 + nA) 2 (nI w)) (9 + nA) 3 (nI x)) 0 6 (nI (nA + 1))) (zu2 (zu2 (zu2 (zu2 (zu2 (zu2 (zu2 (zu2 R 5 (6 * nA) (nI v)) 5 (6 * nA + 1) (nI w)) 5 (6 * nA + 2) (nI x)) 5 (6 * nA + 3) 1000) 5 (6 * nA + 4) 40) 5 (6 * nA + 5) 20) 11 nA 0) 0 23 (nI (nA + 1))) (fun i => if i = nA then nw else J i) (nA + 1) nB := by
  obtain ⟨g1, g2, g3, g4, g5, g6, g7, g8, g9, g10⟩ := h
  generalize hS : zu2 (zu2 (zu2 (zu2 (zu2 (zu2 (zu2 (zu2 (zu2 S (9 + nA) 0 nm) (9 + nA) 4 1000) (9 + nA) 5 40) (9 + nA) 6 20) (9 + nA) 7 0) (9 + nA) 1 (nI v)) (9 + nA) 2 (nI w)) (9 + nA) 3 (nI x)) 0 6 (nI (nA + 1)) = S1
  generalize hR : zu2 (zu2 (zu2 (zu2 (zu2 (zu2 (zu2 (zu2 R 5 (6 * nA) (nI v)) 5 (6 * nA + 1) (nI w)) 5 (6 * nA + 2) (nI x)) 5 (6 * nA + 3) 1000) 5 (6 * nA + 4) 40) 5 (6 * nA + 5) 20) 11 nA 0) 0 23 (nI (nA + 1)) = R1
  have eS : ∀ k j, ¬ k = 9 + nA → ¬ (k = 0 ∧ j = 6) → S1 k j = S k j := fun k j q q' => by subst hS; simp (disch := omega) only [zu2_n]
  have eR : ∀ k j, ¬ (k = 11 ∧ j = nA) → ¬ (k = 5 ∧ 6 * nA ≤ j ∧ j ≤ 6 * nA + 5) → ¬ (k = 0 ∧ j = 23) → R1 k j = R k j := fun k j q q' q'' => by subst hR; simp (disch := omega) only [zu2_n]
  have s0 : S1 (9 + nA) 0 = nm := by subst hS; simp (disch := omega) only [zu2_n, zu2_p]
  have s1 : S1 (9 + nA) 1 = nI v := by subst hS; simp (disch := omega) only [zu2_n, zu2_p]
  have s2 : S1 (9 + nA) 2 = nI w := by subst hS; simp (disch := omega) only [zu2_n, zu2_p]
  have s3 : S1 (9 + nA) 3 = nI x := by subst hS; simp (disch := omega) only [zu2_n, zu2_p]
  have s4 : S1 (9 + nA) 4 = 1000 := by subst hS; simp (disch := omega) only [zu2_n, zu2_p]
  have s5 : S1 (9 + nA) 5 = 40 := by subst hS; simp (disch := omega) only [zu2_n, zu2_p]
  have s6 : S1 (9 + nA) 6 = 20 := by subst hS; simp (disch := omega) only [zu2_n, zu2_p]
  have s7 : S1 (9 + nA) 7 = 0 := by subst hS; simp (disch := omega) only [zu2_n, zu2_p]
  have s8 : S1 0 6 = nI (nA + 1) := by subst hS; rw [zu2_p]
  have t1 : R1 5 (6 * nA) = nI v := by subst hR; simp (disch := omega) only [zu2_n, zu2_p]
  have t2 : R1 5 (6 * nA + 1) = nI w := by subst hR; simp (disch := omega) only [zu2_n, zu2_p]
  have t3 : R1 5 (6 * nA + 2) = nI x := by subst hR; simp (disch := omega) only [zu2_n, zu2_p]
  have t4 : R1 5 (6 * nA + 3) = 1000 := by subst hR; simp (disch := omega) only [zu2_n, zu2_p]
  have t5 : R1 5 (6 * nA + 4) = 40 := by subst hR; simp (disch := omega) only [zu2_n, zu2_p]
  have t6 : R1 5 (6 * nA + 5) = 20 := by subst hR; simp (disch := omega) only [zu2_n, zu2_p]
  have t7 : R1 11 nA = 0 := by subst hR; simp (disch := omega) only [zu2_n, zu2_p]
  have t8 : R1 0 23 = nI (nA + 1) := by subst hR; rw [zu2_p]
  clear hS hR
  refine ⟨by omega, g2, s8, t8, by rw [eS _ _ (by omega) (by omega)]; exact g5, by rw [eR _ _ (by omega) (by omega) (by omega)]; exact g6, g7.cg (fun j _ => eS _ _ (by omega) (by omega)) (fun j _ => eR _ _ (by omega) (by omega) (by omega)), fun a ha' => ?_, fun b hb => (g9 b hb).cg (eS _ _ (by omega) (by omega)) (eS _ _ (by omega) (by omega)) (eS _ _ (by omega) (by omega)) (fun j hj => eR _ _ (by omega) (by omega) (by omega)), fun q hq => (g10 q hq).cg (eS _ _ (by omega) (by omega)) (eS _ _ (by omega) (by omega)) (eS _ _ (by omega) (by omega)) (eR _ _ (by omega) (by omega) (by omega)) (eR _ _ (by omega) (by omega) (by omega)) (eR _ _ (by omega) (by omega) (by omega))⟩
  by_cases c : a = nA
  · subst c
    refine ⟨fun j hj => ?_, by rw [t1]; exact btw_n (by omega) (by omega), by rw [t2]; exact btw_n (by omega) (by omega), by rw [t3]; exact btw_n (by omega) (by omega), by rw [t4]; exact btw_n (v := 1000) (by omega) (by omega), by rw [t5]; exact btw_n (v := 40) (by omega) (by omega), by rw [t6]; exact btw_n (v := 20) (by omega) (by omega), by rw [s7, t7], by rw [s0, show (fun i => if i = a then nw else J i) a = nw from if_pos rfl]; exact hw⟩
    rcases (show j = 0 ∨ j = 1 ∨ j = 2 ∨ j = 3 ∨ j = 4 ∨ j = 5 by omega) with rfl | rfl | rfl | rfl | rfl | rfl
    · exact s1.trans t1.symm
    · exact s2.trans t2.symm
    · exact s3.trans t3.symm
    · exact s4.trans t4.symm
    · exact s5.trans t5.symm
    · exact s6.trans t6.symm
  · exact (g8 a (by omega)).cg (fun j hj => eS _ _ (by omega) (by omega)) (fun j hj => eR _ _ (by omega) (by omega) (by omega)) (eR _ _ (by omega) (by omega) (by omega)) (if_neg c)
theorem RBv.band {S R : Nat → Nat → Int32} {J : Nat → Int64} {nA nB a v w : Nat} (h : RBv S R J nA nB) (hb : nB < 6) (h1 : 1 ≤ v ∧ v ≤ 60) : RBv (zu2 (zu2 (zu2 (zu2 S 2 nB (nI a)) 3 nB (nI v)) 4 nB (nI w)) 0 7 (nI (nB + 1))) (zu2 (zu2 (zu2 (zu2 R 7 (3 * nB) (nI a)) 7 (3 * nB + 1) (nI v)) 7 (3 * nB + 2) (nI w)) 0 25 (nI (nB + 1))) J nA (nB + 1) := by
  obtain ⟨g1, g2, g3, g4, g5, g6, g7, g8, g9, g10⟩ := h
  generalize hS : zu2 (zu2 (zu2 (zu2 S 2 nB (nI a)) 3 nB (nI v)) 4 nB (nI w)) 0 7 (nI (nB + 1)) = S1
  generalize hR : zu2 (zu2 (zu2 (zu2 R 7 (3 * nB) (nI a)) 7 (3 * nB + 1) (nI v)) 7 (3 * nB + 2) (nI w)) 0 25 (nI (nB + 1)) = R1
  have eS : ∀ k j, ¬ (2 ≤ k ∧ k ≤ 4 ∧ j = nB) → ¬ (k = 0 ∧ j = 7) → S1 k j = S k j := fun k j q q' => by subst hS; simp (disch := omega) only [zu2_n]
  have eR : ∀ k j, ¬ (k = 7 ∧ 3 * nB ≤ j ∧ j ≤ 3 * nB + 2) → ¬ (k = 0 ∧ j = 25) → R1 k j = R k j := fun k j q q' => by subst hR; simp (disch := omega) only [zu2_n]
  have s2 : S1 2 nB = nI a := by subst hS; simp (disch := omega) only [zu2_n, zu2_p]
  have s3 : S1 3 nB = nI v := by subst hS; simp (disch := omega) only [zu2_n, zu2_p]
  have s4 : S1 4 nB = nI w := by subst hS; simp (disch := omega) only [zu2_n, zu2_p]
  have s8 : S1 0 7 = nI (nB + 1) := by subst hS; rw [zu2_p]
  have t2 : R1 7 (3 * nB) = nI a := by subst hR; simp (disch := omega) only [zu2_n, zu2_p]
  have t3 : R1 7 (3 * nB + 1) = nI v := by subst hR; simp (disch := omega) only [zu2_n, zu2_p]
  have t4 : R1 7 (3 * nB + 2) = nI w := by subst hR; simp (disch := omega) only [zu2_n, zu2_p]
  have t8 : R1 0 25 = nI (nB + 1) := by subst hR; rw [zu2_p]
  clear hS hR
  refine ⟨g1, by omega, by rw [eS _ _ (by omega) (by omega)]; exact g3, by rw [eR _ _ (by omega) (by omega)]; exact g4, s8, t8, g7.cg (fun j _ => eS _ _ (by omega) (by omega)) (fun j _ => eR _ _ (by omega) (by omega)), fun a ha' => (g8 a ha').cg (fun j hj => eS _ _ (by omega) (by omega)) (fun j hj => eR _ _ (by omega) (by omega)) (eR _ _ (by omega) (by omega)) rfl, fun b hb => ?_, fun q hq => (g10 q hq).cg (eS _ _ (by omega) (by omega)) (eS _ _ (by omega) (by omega)) (eS _ _ (by omega) (by omega)) (eR _ _ (by omega) (by omega)) (eR _ _ (by omega) (by omega)) (eR _ _ (by omega) (by omega))⟩
  by_cases c : b = nB
  · subst c
    refine ⟨by rw [s2, t2], by rw [s3, t3], by rw [s4, t4], by rw [t3, nI_toInt (by omega)]; omega⟩
  · exact (g9 b (by omega)).cg (eS _ _ (by omega) (by omega)) (eS _ _ (by omega) (by omega)) (eS _ _ (by omega) (by omega)) (fun j hj => eR _ _ (by omega) (by omega))
theorem RBv.fix {S R : Nat → Nat → Int32} {J : Nat → Int64} {nA nB q : Nat} {x : Int32} (h : RBv S R J nA nB) (hq : q ≤ 64) (h1 : btw x (-200) 200) : RBv (zu2 (zu2 (zu2 S 7 q (S 6 q + x)) 8 q 1) 0 8 (S 0 8 + 1)) (zu2 (zu2 (zu2 R 10 q 1) 9 q x) 0 27 (R 0 27 + 1)) J nA nB := by
  obtain ⟨g1, g2, g3, g4, g5, g6, g7, g8, g9, g10⟩ := h
  generalize hS : zu2 (zu2 (zu2 S 7 q (S 6 q + x)) 8 q 1) 0 8 (S 0 8 + 1) = S1
  generalize hR : zu2 (zu2 (zu2 R 10 q 1) 9 q x) 0 27 (R 0 27 + 1) = R1
  have eS : ∀ k j, ¬ ((k = 7 ∨ k = 8) ∧ j = q) → ¬ (k = 0 ∧ j = 8) → S1 k j = S k j := fun k j q q' => by subst hS; simp (disch := omega) only [zu2_n]
  have eR : ∀ k j, ¬ ((k = 9 ∨ k = 10) ∧ j = q) → ¬ (k = 0 ∧ j = 27) → R1 k j = R k j := fun k j q q' => by subst hR; simp (disch := omega) only [zu2_n]
  have s7 : S1 7 q = S 6 q + x := by subst hS; simp (disch := omega) only [zu2_n, zu2_p]
  have s8 : S1 8 q = 1 := by subst hS; simp (disch := omega) only [zu2_n, zu2_p]
  have s9 : S1 0 8 = S 0 8 + 1 := by subst hS; rw [zu2_p]
  have t7 : R1 9 q = x := by subst hR; simp (disch := omega) only [zu2_n, zu2_p]
  have t8 : R1 10 q = 1 := by subst hR; simp (disch := omega) only [zu2_n, zu2_p]
  have t9 : R1 0 27 = R 0 27 + 1 := by subst hR; rw [zu2_p]
  clear hS hR
  obtain ⟨c1, c2, c3, c4, c5, c6⟩ := g7
  refine ⟨g1, g2, by rw [eS _ _ (by omega) (by omega)]; exact g3, by rw [eR _ _ (by omega) (by omega)]; exact g4, by rw [eS _ _ (by omega) (by omega)]; exact g5, by rw [eR _ _ (by omega) (by omega)]; exact g6, ⟨by rw [s9, t9, c1], by rw [eS _ _ (by omega) (by omega), eR _ _ (by omega) (by omega)]; exact c2, by rw [eR _ _ (by omega) (by omega)]; exact c3, by rw [eS _ _ (by omega) (by omega), eR _ _ (by omega) (by omega)]; exact c4, by rw [eR _ _ (by omega) (by omega)]; exact c5, by rw [eS _ _ (by omega) (by omega), eR _ _ (by omega) (by omega)]; exact c6⟩, fun a ha' => (g8 a ha').cg (fun j hj => eS _ _ (by omega) (by omega)) (fun j hj => eR _ _ (by omega) (by omega)) (eR _ _ (by omega) (by omega)) rfl, fun b hb => (g9 b hb).cg (eS _ _ (by omega) (by omega)) (eS _ _ (by omega) (by omega)) (eS _ _ (by omega) (by omega)) (fun j hj => eR _ _ (by omega) (by omega)), fun q' hq' => ?_⟩
  by_cases c : q' = q
  · subst c
    have k := g10 q' hq'
    refine ⟨by rw [eS _ _ (by omega) (by omega), eR _ _ (by omega) (by omega)]; exact k.1, by rw [s7, t7, eR _ _ (by omega) (by omega), k.1], by rw [t7]; exact h1, by rw [s8, t8]⟩
  · exact (g10 q' hq').cg (eS _ _ (by omega) (by omega)) (eS _ _ (by omega) (by omega)) (eS _ _ (by omega) (by omega)) (eR _ _ (by omega) (by omega)) (eR _ _ (by omega) (by omega)) (eR _ _ (by omega) (by omega))
theorem i6 (n c : Nat) : (6 : Int32) * nI n + nI c = nI (6 * n + c) := by
  rw [show (6 : Int32) = nI 6 from rfl, iI_n, iI_n, iI_mul, iI_n, iI_add, iI_n]
  congr 1
theorem i6' (n : Nat) : (6 : Int32) * nI n = nI (6 * n) := by
  rw [show (6 : Int32) = nI 6 from rfl, iI_n, iI_n, iI_mul, iI_n]
  congr 1
theorem i3' (n : Nat) : (3 : Int32) * nI n = nI (3 * n) := by
  rw [show (3 : Int32) = nI 3 from rfl, iI_n, iI_n, iI_mul, iI_n]
  congr 1
theorem nI_m1 {a : Nat} (h : a < 100000) : ¬ nI a = -1 := fun e => by
  have := congrArg Int32.toInt e
  rw [nI_toInt (by omega), show (-1 : Int32).toInt = -1 from rfl] at this
  omega
theorem ax_er {M : zMem} {bb sb it : Nat} (hC : rfC M bb sb it) (hs : sb = 1 ∨ sb = 13) {a : Nat} (ha : a < 3) : zR M (sb + 1) a = sb + (9 + a) := by
  have hax := hC.b hs
  rcases (show a = 0 ∨ a = 1 ∨ a = 2 by omega) with rfl | rfl | rfl
  · exact hax.2.2.2.2.2.2.1
  · exact hax.2.2.2.2.2.2.2.1
  · exact hax.2.2.2.2.2.2.2.2.1
theorem wrong_k {N N1 : zMem} {c : Int32} (h : zX12_wrong shM 0 c N = some N1) : zI N1 0 23 = zI N 0 23 := by
  unfold zX12_wrong zjX12_wrong_22 at h
  simp only [rbd] at h
  split at h
  · split at h
    · injection h with h; subst h; rw [rI_pI, if_neg (by omega), rI_pI, if_neg (by omega)]
    · injection h with h; subst h; rw [rI_pI, if_neg (by omega), rI_pI, if_neg (by omega)]
  · injection h with h; subst h; rfl
/-- a name of an axis told ahead -/
theorem here_ok {M N N0 : zMem} {bb sb len p s nA nB : Nat} {tx : Nat → Int32} (hs : sb = 1 ∨ sb = 13) (h : rds M N bb sb len tx p s) (hb : RBv (vS sb M) (vN N) (zJ N 3) nA nB) (hg : zX12_goOn shM 0 N0 = some N) : (∃ a, a < nA ∧ zX12_axisHere shM 0 N0 = some (nI a, N) ∧ zX6_isName shC 27 M = some 1 ∧ zX1_axisNamed shC sb (zI M 27 5) M = some (nI a)) ∨ (∃ x M1 N1, zX12_axisHere shM 0 N0 = some (x, N1) ∧ bad M1 N1 ∧ frC sb M M1 ∧ frN N N1 ∧ ∀ f, zX6_takeAxis shC 27 f M = some (-1, M1)) := by
  have e1 : zR M 27 1 = sb := by simp only [h.1.o]
  have h3 := hb.1
  have n6 : zI M sb 6 = nI nA := by have := hb.2.2.1; rw [vS_at (by omega)] at this; exact this
  have n23 : zI N 0 23 = nI nA := by have := hb.2.2.2.1; rw [vN_at (by unfold rlN; omega)] at this; exact this
  have hnm : ∀ a, a < nA → wRel (zI M (sb + 9 + a) 0) (zJ N 3 a) := fun a ha => by
    have := (hb.2.2.2.2.2.2.2.1 a ha).2.2.2.2.2.2.2.2
    rw [vS_at (by omega), show sb + (9 + a) = sb + 9 + a by omega] at this
    exact this
  unfold zX12_axisHere zX6_takeAxis zjX12_axisHere_30
  rw [hg, rob, e1]
  rcases name_q h.2.2.2.1 h.2.2.2.2.1 with ⟨b1, b2, b3, b4⟩ | ⟨b1, b2⟩
  · obtain ⟨r, c1, c2, c3⟩ := name_at h.1 h.2.1 hs h3 n6 n23 hnm b4
    rw [b2, rob, c2, rob, good_1 h.2.2.2.2.1, rob, if_neg n1_0, b1, c1]
    rcases c3 with rfl | ⟨a, ha, rfl⟩
    · obtain ⟨M1, N1, d1, d2, d3, d4, d5⟩ := refuse_ok h (c := 3) (c' := 3) rfl (by omega) (by omega)
      rw [if_pos rfl, d2, rob]
      refine Or.inr ⟨_, M1, N1, rfl, d3, d4, d5, fun f => ?_⟩
      rw [rob, if_neg n1_0, rob, if_pos rfl, d1, rob2]
    · rw [if_neg (nI_m1 (by omega))]
      exact Or.inl ⟨a, ha, rfl, rfl, rfl⟩
  · obtain ⟨M1, N1, d1, d2, d3, d4, d5⟩ := refuse_ok h (c := 2) (c' := 2) rfl (by omega) (by omega)
    obtain ⟨x, hx⟩ := nameAt_t (h.2.1.sm d5.1) h3 ((wrong_k d2).trans n23)
    rw [b2, d2, rob, rob, hx, rob, good_0 d3, rob, if_pos rfl]
    refine Or.inr ⟨_, M1, N1, rfl, d3, d4, d5, fun f => ?_⟩
    rw [b1, rob, if_pos rfl, d1, rob2]
