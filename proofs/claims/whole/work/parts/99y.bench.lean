/-! Phase B: bench -/
theorem takes_ok {N : zMem} (hN : rfN N) : ∃ N1, zX12_takes shM 0 N = some N1 ∧ N1.2.2 = N.2.2 ∧ zI N1 0 22 = zI N 0 23 ∧ zI N1 0 24 = zI N 0 25 ∧ zI N1 0 26 = zI N 0 27 ∧ zI N1 0 28 = zI N 0 30 ∧ zI N1 0 29 = zI N 0 31 ∧ zI N1 0 46 = 0 ∧ (∀ j, j < 18 → zI N1 4 j = zI N 5 j ∧ zI N1 6 j = zI N 7 j) ∧ (∀ j, j ≤ 64 → zI N1 8 j = zI N 9 j) ∧ (∀ j, j < 194 → zI N1 1 j = if j = 22 then -1 else 0) ∧ ∀ k j, k = 2 ∨ k = 12 ∨ (k = 0 ∧ (j = 2 ∨ j = 10 ∨ j = 11)) → zI N1 k j = zI N k j := by
  have l3 : ∀ (r i F : Nat) (N : zMem), i + r = 194 → r < F → rfN N → (∀ j, j < i → zI N 1 j = 0) → ∃ N1, zlX12_takes_106 shM 0 F (nI i) N = some N1 ∧ N1.2.2 = N.2.2 ∧ (∀ j, j < 194 → zI N1 1 j = if j = 22 then -1 else 0) ∧ zI N1 0 46 = 0 ∧ ∀ k j, k ≠ 1 → ¬ (k = 0 ∧ j = 46) → zI N1 k j = zI N k j := by
    intro r
    induction r with
    | zero =>
      intro i F N h1 hF hN h0
      obtain ⟨F, rfl⟩ : ∃ x, F = x + 1 := ⟨F - 1, by omega⟩
      obtain rfl : i = 194 := by omega
      have e0 : zR N 0 0 = 1 := by simp only [hN.o]
      rw [show zlX12_takes_106 shM 0 (F + 1) (nI 194) N = zbX12_takes_106 shM 0 (zlX12_takes_106 shM 0 F) (nI 194) N from rfl]
      unfold zbX12_takes_106
      rw [if_pos (show (194 : Int32) ≤ nI 194 by decide), e0, show zlen shM 1 = 194 from rfl, rgd (show zin (22 : Int32) 194 = true by decide), show (22 : Int32).toNatClampNeg = 22 from rfl, rbd, rbd]
      clear e0
      refine ⟨_, rfl, rfl, fun j hj => ?_, by rw [rI_pI, if_pos ⟨rfl, rfl⟩], fun k j a b => by rw [rI_pI, if_neg b, rI_pI, if_neg (by omega)]⟩
      rw [rI_pI, if_neg (by omega), rI_pI]
      by_cases c : j = 22
      · rw [if_pos ⟨rfl, c⟩, if_pos c]
      · rw [if_neg (by omega), if_neg c]
        exact h0 j hj
    | succ r ih =>
      intro i F N h1 hF hN h0
      obtain ⟨F, rfl⟩ : ∃ x, F = x + 1 := ⟨F - 1, by omega⟩
      obtain ⟨N1, a1, a2, a3, a4, a5⟩ := ih (i + 1) F (zpI N 1 i 0) (by omega) (by omega) hN (fun j hj => by
        rw [rI_pI]
        by_cases c : j = i
        · rw [if_pos ⟨rfl, c⟩]
        · rw [if_neg (by omega)]
          exact h0 j (by omega))
      refine ⟨N1, ?_, a2, a3, a4, fun k j a b => by rw [a5 k j a b, rI_pI, if_neg (by omega)]⟩
      have e0 : zR N 0 0 = 1 := by simp only [hN.o]
      rw [show zlX12_takes_106 shM 0 (F + 1) (nI i) N = zbX12_takes_106 shM 0 (zlX12_takes_106 shM 0 F) (nI i) N from rfl]
      unfold zbX12_takes_106
      rw [if_neg (show ¬ (194 : Int32) ≤ nI i from nI_ge (b := 194) (by omega) (by omega)), e0, show zlen shM 1 = 194 from rfl, rgd (in_a (by omega) (by omega)), nI_clamp (by omega), rbd, nI_1]
      exact a1
  have l2 : ∀ (r i F : Nat) (N : zMem), i + r = 65 → r < F → rfN N → (∀ j, j < i → zI N 8 j = zI N 9 j) → ∃ N1, zlX12_takes_80 shM 0 F (nI i) N = some N1 ∧ N1.2.2 = N.2.2 ∧ (∀ j, j < 194 → zI N1 1 j = if j = 22 then -1 else 0) ∧ zI N1 0 46 = 0 ∧ (∀ j, j ≤ 64 → zI N1 8 j = zI N 9 j) ∧ ∀ k j, k ≠ 1 → k ≠ 8 → ¬ (k = 0 ∧ j = 46) → zI N1 k j = zI N k j := by
    intro r
    induction r with
    | zero =>
      intro i F N h1 hF hN h0
      obtain ⟨F, rfl⟩ : ∃ x, F = x + 1 := ⟨F - 1, by omega⟩
      obtain rfl : i = 65 := by omega
      obtain ⟨N1, a1, a2, a3, a4, a5⟩ := l3 194 0 zF N (by omega) (by unfold zF; omega) hN (fun j hj => absurd hj (by omega))
      refine ⟨N1, ?_, a2, a3, a4, fun j hj => by rw [a5 8 j (by omega) (by omega)]; exact h0 j (by omega), fun k j a b c => a5 k j a c⟩
      rw [show zlX12_takes_80 shM 0 (F + 1) (nI 65) N = zbX12_takes_80 shM 0 (zlX12_takes_80 shM 0 F) (nI 65) N from rfl]
      unfold zbX12_takes_80
      rw [if_pos (show (64 : Int32) < nI 65 by decide)]
      exact a1
    | succ r ih =>
      intro i F N h1 hF hN h0
      obtain ⟨F, rfl⟩ : ∃ x, F = x + 1 := ⟨F - 1, by omega⟩
      obtain ⟨N1, a1, a2, a3, a4, a5, a6⟩ := ih (i + 1) F (zpI N 8 i (zI N 9 i)) (by omega) (by omega) hN (fun j hj => by
        rw [rI_pI, rI_pI, if_neg (show ¬ (9 = 8 ∧ j = i) by omega)]
        by_cases c : j = i
        · rw [if_pos ⟨rfl, c⟩, c]
        · rw [if_neg (by omega)]
          exact h0 j (by omega))
      refine ⟨N1, ?_, a2, a3, a4, fun j hj => by rw [a5 j hj, rI_pI, if_neg (by omega)], fun k j a b c => by rw [a6 k j a b c, rI_pI, if_neg (by omega)]⟩
      have e19 : zR N 0 19 = 9 := by simp only [hN.o]
      have e18 : zR N 0 18 = 8 := by simp only [hN.o]
      rw [show zlX12_takes_80 shM 0 (F + 1) (nI i) N = zbX12_takes_80 shM 0 (zlX12_takes_80 shM 0 F) (nI i) N from rfl]
      unfold zbX12_takes_80
      rw [if_neg (show ¬ (64 : Int32) < nI i from nI_nlt (a := 64) (by omega) (by omega)), e19, e18, show zlen shM 9 = 65 from rfl, show zlen shM 8 = 65 from rfl, rgd (in_a (by omega) (by omega)), rgd (in_a (by omega) (by omega)), nI_clamp (by omega), rbd, nI_1]
      exact a1
  have l1 : ∀ (r i F : Nat) (N : zMem), i + r = 18 → r < F → rfN N → (∀ j, j < i → zI N 4 j = zI N 5 j ∧ zI N 6 j = zI N 7 j) → ∃ N1, zlX12_takes_42 shM 0 F (nI i) N = some N1 ∧ N1.2.2 = N.2.2 ∧ (∀ j, j < 194 → zI N1 1 j = if j = 22 then -1 else 0) ∧ zI N1 0 46 = 0 ∧ (∀ j, j ≤ 64 → zI N1 8 j = zI N 9 j) ∧ (∀ j, j < 18 → zI N1 4 j = zI N 5 j ∧ zI N1 6 j = zI N 7 j) ∧ ∀ k j, k ≠ 1 → k ≠ 8 → k ≠ 4 → k ≠ 6 → ¬ (k = 0 ∧ j = 46) → zI N1 k j = zI N k j := by
    intro r
    induction r with
    | zero =>
      intro i F N h1 hF hN h0
      obtain ⟨F, rfl⟩ : ∃ x, F = x + 1 := ⟨F - 1, by omega⟩
      obtain rfl : i = 18 := by omega
      obtain ⟨N1, a1, a2, a3, a4, a5, a6⟩ := l2 65 0 zF N (by omega) (by unfold zF; omega) hN (fun j hj => absurd hj (by omega))
      refine ⟨N1, ?_, a2, a3, a4, a5, fun j hj => by rw [a6 4 j (by omega) (by omega) (by omega), a6 6 j (by omega) (by omega) (by omega)]; exact h0 j hj, fun k j a b c d e => a6 k j a b e⟩
      rw [show zlX12_takes_42 shM 0 (F + 1) (nI 18) N = zbX12_takes_42 shM 0 (zlX12_takes_42 shM 0 F) (nI 18) N from rfl]
      unfold zbX12_takes_42
      rw [if_pos (show (18 : Int32) ≤ nI 18 by decide)]
      exact a1
    | succ r ih =>
      intro i F N h1 hF hN h0
      obtain ⟨F, rfl⟩ : ∃ x, F = x + 1 := ⟨F - 1, by omega⟩
      have e7 : zI (zpI N 4 i (zI N 5 i)) 7 i = zI N 7 i := by rw [rI_pI, if_neg (by omega)]
      obtain ⟨N1, a1, a2, a3, a4, a5, a6, a7⟩ := ih (i + 1) F (zpI (zpI N 4 i (zI N 5 i)) 6 i (zI N 7 i)) (by omega) (by omega) hN (fun j hj => by
        rw [rI_pI, if_neg (by omega), rI_pI, rI_pI, if_neg (show ¬ (5 = 6 ∧ j = i) by omega), rI_pI, if_neg (show ¬ (5 = 4 ∧ j = i) by omega), rI_pI, rI_pI, if_neg (show ¬ (6 = 4 ∧ j = i) by omega), rI_pI, if_neg (show ¬ (7 = 6 ∧ j = i) by omega), rI_pI, if_neg (show ¬ (7 = 4 ∧ j = i) by omega)]
        by_cases c : j = i
        · rw [if_pos ⟨rfl, c⟩, if_pos ⟨rfl, c⟩, c]
          exact ⟨rfl, rfl⟩
        · rw [if_neg (by omega), if_neg (by omega)]
          exact h0 j (by omega))
      refine ⟨N1, ?_, a2, a3, a4, fun j hj => by rw [a5 j hj, rI_pI, if_neg (by omega), rI_pI, if_neg (by omega)], fun j hj => by
        have := a6 j hj
        rw [rI_pI, if_neg (by omega), rI_pI, if_neg (by omega), rI_pI, if_neg (by omega), rI_pI, if_neg (by omega)] at this
        exact this, fun k j a b c d e => by rw [a7 k j a b c d e, rI_pI, if_neg (by omega), rI_pI, if_neg (by omega)]⟩
      have e15 : zR N 0 15 = 5 := by simp only [hN.o]
      have e14 : zR N 0 14 = 4 := by simp only [hN.o]
      have e17 : zR N 0 17 = 7 := by simp only [hN.o]
      have e16 : zR N 0 16 = 6 := by simp only [hN.o]
      have hi : zin (nI i) 18 = true := in_a (by omega) (by omega)
      have hcl : (nI i).toNatClampNeg = i := nI_clamp (by omega)
      rw [show zlX12_takes_42 shM 0 (F + 1) (nI i) N = zbX12_takes_42 shM 0 (zlX12_takes_42 shM 0 F) (nI i) N from rfl]
      unfold zbX12_takes_42
      rw [if_neg (show ¬ (18 : Int32) ≤ nI i from nI_ge (b := 18) (by omega) (by omega))]
      simp only [rbd, rR_pI, e15, e14, e17, e16, show zlen shM 5 = 18 from rfl, show zlen shM 4 = 18 from rfl, show zlen shM 7 = 18 from rfl, show zlen shM 6 = 18 from rfl, hcl, e7, nI_1]
      rw [rgd hi, rgd hi, rgd hi, rgd hi]
      exact a1
  unfold zX12_takes
  simp only [rbd]
  obtain ⟨N1, a1, a2, a3, a4, a5, a6, a7⟩ := l1 18 0 zF (zpI (zpI (zpI (zpI (zpI N 0 22 (zI N 0 23)) 0 24 (zI N 0 25)) 0 26 (zI N 0 27)) 0 28 (zI N 0 30)) 0 29 (zI N 0 31)) (by omega) (by unfold zF; omega) hN (fun j hj => absurd hj (by omega))
  clear l1 l2 l3
  have ex : ∀ k j, ¬ (k = 0 ∧ (j = 22 ∨ j = 24 ∨ j = 26 ∨ j = 28 ∨ j = 29)) → zI (zpI (zpI (zpI (zpI (zpI N 0 22 (zI N 0 23)) 0 24 (zI N 0 25)) 0 26 (zI N 0 27)) 0 28 (zI N 0 30)) 0 29 (zI N 0 31)) k j = zI N k j := fun k j q => by
    rw [rI_pI, if_neg (by omega), rI_pI, if_neg (by omega), rI_pI, if_neg (by omega), rI_pI, if_neg (by omega), rI_pI, if_neg (by omega)]
  refine ⟨N1, ?_, a2, ?_, ?_, ?_, ?_, ?_, a4, fun j hj => by rw [← ex 5 j (by omega), ← ex 7 j (by omega)]; exact a6 j hj, fun j hj => by rw [← ex 9 j (by omega)]; exact a5 j hj, a3, fun k j q => by rw [a7 k j (by omega) (by omega) (by omega) (by omega) (by omega), ex k j (by omega)]⟩
  · simp only [rI_pI] at a1 ⊢
    exact a1
  · rw [a7 0 22 (by omega) (by omega) (by omega) (by omega) (by omega), rI_pI, if_neg (by omega), rI_pI, if_neg (by omega), rI_pI, if_neg (by omega), rI_pI, if_neg (by omega), rI_pI, if_pos ⟨rfl, rfl⟩]
  · rw [a7 0 24 (by omega) (by omega) (by omega) (by omega) (by omega), rI_pI, if_neg (by omega), rI_pI, if_neg (by omega), rI_pI, if_neg (by omega), rI_pI, if_pos ⟨rfl, rfl⟩]
  · rw [a7 0 26 (by omega) (by omega) (by omega) (by omega) (by omega), rI_pI, if_neg (by omega), rI_pI, if_neg (by omega), rI_pI, if_pos ⟨rfl, rfl⟩]
  · rw [a7 0 28 (by omega) (by omega) (by omega) (by omega) (by omega), rI_pI, if_neg (by omega), rI_pI, if_pos ⟨rfl, rfl⟩]
  · rw [a7 0 29 (by omega) (by omega) (by omega) (by omega) (by omega), rI_pI, if_pos ⟨rfl, rfl⟩]
