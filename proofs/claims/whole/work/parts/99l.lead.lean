/-! Phase B: which lead an axis waits for -/
theorem leadM_lp {N : zMem} {a W X : Nat} {d m : Int} (p1 p2 p3 : Int32) (ha3 : a < 3) (r37 : zR N 0 37 = 15) (h15 : zI N 15 a = iI d) (h39 : zI N 0 39 = nI W) (hW : 1 ≤ W) (hW2 : W ≤ 60000) (hd0 : 0 < d.natAbs) (hd : d.natAbs ≤ 60000) (hm0 : 1 ≤ m) (hm : m ≤ 60000) (hX : (X : Int) = ((2 * m - 1) * W + 2 * d.natAbs - 1) / (2 * d.natAbs)) (hX2 : X ≤ W) : ∀ (r x F : Nat), x + r = X → 1 ≤ x → r < F → zlX12_stamp_45 shM 0 p1 p2 p3 (nI a) (iI m) F (nI x) N = (zob (zX12_due shM 0 (nI X) N) fun q => some (q, N)) := by
  have key : ∀ x : Nat, x ≤ X → (iI m ≤ zabs (iI (fPa x d W))) = ((X : Int) ≤ x) := fun x hx => by
    have hb := fPa_b (s := (x : Int)) (d := d) (W := W) hW (by omega) (by omega)
    have hi := lead_iff (x := (x : Int)) (m := m) (D := (d.natAbs : Int)) (W := (W : Int)) (by omega) (by omega)
    have he : ((fPa x d W).natAbs : Int) = (2 * (x : Int) * d.natAbs + W) / (2 * W) := by
      unfold fPa
      split <;> omega
    rw [iI_abs (by omega) (by omega), iI_le (by omega) (by omega) (by omega) (by omega), he, hX]
    exact propext hi
  intro r
  induction r with
  | zero =>
    intro x F h1 hx hF
    obtain ⟨F, rfl⟩ : ∃ y, F = y + 1 := ⟨F - 1, by omega⟩
    obtain rfl : x = X := by omega
    simp only [zlX12_stamp_45]
    unfold zbX12_stamp_45
    rw [r37, show zlen shM 15 = 3 from rfl, rgd (in_a ha3 (by omega)), nI_clamp (by omega), h15, h39, iI_n x, goneByM hW hW2 (by omega) (by omega) hd, rob, size_eq, rob, if_pos (by rw [key x (Nat.le_refl _)]; omega)]
  | succ r ih =>
    intro x F h1 hx hF
    obtain ⟨F, rfl⟩ : ∃ y, F = y + 1 := ⟨F - 1, by omega⟩
    simp only [zlX12_stamp_45]
    unfold zbX12_stamp_45
    rw [r37, show zlen shM 15 = 3 from rfl, rgd (in_a ha3 (by omega)), nI_clamp (by omega), h15, h39, iI_n x, goneByM hW hW2 (by omega) (by omega) hd, rob, size_eq, rob, if_neg (by rw [key x (by omega)]; omega), ← iI_n, nI_1]
    exact ih (x + 1) F (by omega) (by omega) (by omega)
