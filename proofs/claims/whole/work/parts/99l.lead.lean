/-! Phase B: which lead an axis waits for -/
theorem leadM_lp {N : zMem} {a W X : Nat} {d m : Int} (p1 p2 p3 : Int32) (ha3 : a < 3) (r37 : zR N 0 37 = 15) (h15 : zI N 15 a = iI d) (h39 : zI N 0 39 = nI W) (hW : 1 ≤ W) (hW2 : W ≤ 60000) (hd0 : 0 < d.natAbs) (hd : d.natAbs ≤ 60000) (hm0 : 1 ≤ m) (hm : m ≤ 60000) (hX : (X : Int) = ((2 * m - 1) * W + 2 * d.natAbs - 1) / (2 * d.natAbs)) (hX2 : X ≤ W) : ∀ (r x F : Nat), x + r = X → 1 ≤ x → r < F → zlX12_stamp_45 shM 0 p1 p2 p3 (nI a) (iI m) F (nI x) N = (zob (zX12_due shM 0 (nI X) N) fun q => some (q, N)) := by
  have key : ∀ x : Nat, x ≤ X → (iI m ≤ zabs (iI (fPa x d W))) = ((X : Int) ≤ x) := fun x hx => by
    have hb := fPa_b (s := (x : Int)) (d := d) (W := W) hW (by omega) (by omega)
    have hi := lead_iff (x := (x : Int)) (m := m) (D := (d.natAbs : Int)) (W := (W : Int)) (by omega) (by omega)
    have he : ((fPa x d W).natAbs : Int) = (2 * (x : Int) * d.natAbs + W) / (2 * W) := by
      unfold fPa
      split <;> omega
    rw [iI_abs (by omega) (by omega), iI_le (by omega) (by omega) (by omega) (by omega), he, hX]
    exact propext hi
  intro r
  induction r with
  | zero =>
    intro x F h1 hx hF
    obtain ⟨F, rfl⟩ : ∃ y, F = y + 1 := ⟨F - 1, by omega⟩
    obtain rfl : x = X := by omega
    simp only [zlX12_stamp_45]
    unfold zbX12_stamp_45
    rw [r37, show zlen shM 15 = 3 from rfl, rgd (in_a ha3 (by omega)), nI_clamp (by omega), h15, h39, iI_n x, goneByM hW hW2 (by omega) (by omega) hd, rob, size_eq, rob, if_pos (by rw [key x (Nat.le_refl _)]; omega)]
  | succ r ih =>
    intro x F h1 hx hF
    obtain ⟨F, rfl⟩ : ∃ y, F = y + 1 := ⟨F - 1, by omega⟩
    simp only [zlX12_stamp_45]
    unfold zbX12_stamp_45
    rw [r37, show zlen shM 15 = 3 from rfl, rgd (in_a ha3 (by omega)), nI_clamp (by omega), h15, h39, iI_n x, goneByM hW hW2 (by omega) (by omega) hd, rob, size_eq, rob, if_neg (by rw [key x (by omega)]; omega), ← iI_n, nI_1]
    exact ih (x + 1) F (by omega) (by omega) (by omega)
theorem leadC {M : zMem} {mb W a X : Nat} {d m : Int} (hm : mvB M mb) (hl2 : zlen shC (mb + 2) = 3) (ha3 : a < 3) (h4 : zI M mb 4 = nI W) (hby : zI M (mb + 2) a = iI d) (hW : 1 ≤ W) (hW2 : W ≤ 60000) (hd0 : 0 < d.natAbs) (hd : d.natAbs ≤ 60000) (hm0 : 1 ≤ m) (hm2 : m ≤ 60000) (hX : (X : Int) = ((2 * m - 1) * W + 2 * d.natAbs - 1) / (2 * d.natAbs)) : zX4_leadFor shC mb (nI a) (iI m) M = some (nI X) := by
  have b1 : 0 ≤ (2 * m - 1) * (W : Int) := Int.mul_nonneg (by omega) (by omega)
  have b2 : (2 * m - 1) * (W : Int) ≤ 120000 * (W : Int) := Int.mul_le_mul_of_nonneg_right (by omega) (by omega)
  have hc : (0 : Int32) ≤ lg_cmp (lI (2 * (d.natAbs : Int))) (1 : Int64) := by
    have h : ¬ (lg_cmp (lI (2 * (d.natAbs : Int))) (1 : Int64) < 0) := by
      rw [cmp_lt, Int64.lt_iff_toInt_lt, lI_i (by omega) (by omega), show (1 : Int64).toInt = 1 from rfl]
      omega
    rw [r_lt] at h
    rw [r_le]
    omega
  unfold zX4_leadFor zjX4_leadFor_42 zX4_wayOf
  rw [hm.2.1, hl2, rgd (in_a ha3 (by omega)), nI_clamp (by omega), hby, rob, iI_abs (by omega) (by omega), iI_l (by omega) (by omega), show (2 : Int64) = lI 2 from rfl, lI_mul, rbd, if_pos hc, rgd (lI_nz (by omega) (by omega) (by omega)), iI_l (a := m) (by omega) (by omega), lI_mul, show (1 : Int64) = lI 1 from rfl, lI_sub, h4, iI_n W, iI_l (a := (W : Int)) (by omega) (by omega), lI_mul, lI_add, lI_sub, lI_divp (by omega) (by omega) (by omega) (by omega), lI_32, ← hX, ← iI_n]
