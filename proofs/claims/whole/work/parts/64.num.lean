/-! Phase B: Int32 and Int64 by integers -/
def iI (a : Int) : Int32 := Int32.ofInt a
def lI (a : Int) : Int64 := Int64.ofInt a
theorem n_lt {a b : Int32} (h : ¬ a < b) : b.toInt ≤ a.toInt := Int.not_lt.mp (fun g => h (r_lt.mpr g))
theorem n_le {a b : Int32} (h : ¬ a ≤ b) : b.toInt < a.toInt := Int.not_le.mp (fun g => h (r_le.mpr g))
theorem iI_t (x : Int32) : iI x.toInt = x := Int32.ofInt_toInt x
theorem iI_ex (x : Int32) : ∃ a : Int, x = iI a ∧ -2147483648 ≤ a ∧ a ≤ 2147483647 := ⟨x.toInt, (iI_t x).symm, (r_rng x).1, (r_rng x).2⟩
theorem iI_i {a : Int} (h1 : -2147483648 ≤ a) (h2 : a ≤ 2147483647) : (iI a).toInt = a := Int32.toInt_ofInt_of_le (by omega) (by omega)
theorem iI_n (n : Nat) : nI n = iI (n : Int) := Int32.ofInt_eq_ofNat.symm
theorem iI_lit {n : Nat} : (no_index (OfNat.ofNat n) : Int32) = iI (n : Int) := Int32.ofInt_eq_ofNat.symm
theorem lI_lit {n : Nat} : (no_index (OfNat.ofNat n) : Int64) = lI (n : Int) := Int64.ofInt_eq_ofNat.symm
theorem iI_add (a b : Int) : iI a + iI b = iI (a + b) := (Int32.ofInt_add a b).symm
theorem iI_sub (a b : Int) : iI a - iI b = iI (a - b) := (Int32.ofInt_sub a b).symm
theorem iI_mul (a b : Int) : iI a * iI b = iI (a * b) := (Int32.ofInt_mul a b).symm
theorem iI_neg (a : Int) : - iI a = iI (- a) := (Int32.ofInt_neg a).symm
theorem iI_lt {a b : Int} (h1 : -2147483648 ≤ a) (h2 : a ≤ 2147483647) (h3 : -2147483648 ≤ b) (h4 : b ≤ 2147483647) : (iI a < iI b) = (a < b) := by rw [r_lt, iI_i h1 h2, iI_i h3 h4]
theorem iI_le {a b : Int} (h1 : -2147483648 ≤ a) (h2 : a ≤ 2147483647) (h3 : -2147483648 ≤ b) (h4 : b ≤ 2147483647) : (iI a ≤ iI b) = (a ≤ b) := by rw [r_le, iI_i h1 h2, iI_i h3 h4]
theorem iI_eq {a b : Int} (h1 : -2147483648 ≤ a) (h2 : a ≤ 2147483647) (h3 : -2147483648 ≤ b) (h4 : b ≤ 2147483647) : (iI a = iI b) = (a = b) := by rw [r_eq, iI_i h1 h2, iI_i h3 h4]
theorem iI_div {a b : Int} (h1 : -2147483647 ≤ a) (h2 : a ≤ 2147483647) (h3 : -2147483648 ≤ b) (h4 : b ≤ 2147483647) (h5 : b ≠ 0) : iI a / iI b = iI (a.tdiv b) := by
  have e1 : (iI a).toInt = a := iI_i (by omega) h2
  have e2 : (iI b).toInt = b := iI_i h3 h4
  have h := Int.natAbs_tdiv_le_natAbs a b
  rw [r_eq, r_div (by rw [e1]; exact h1) (by rw [e2]; exact h5), e1, e2, iI_i (by omega) (by omega)]
theorem iI_divp {a b : Int} (h1 : 0 ≤ a) (h2 : a ≤ 2147483647) (h3 : 0 < b) (h4 : b ≤ 2147483647) : iI a / iI b = iI (a / b) := by
  rw [iI_div (by omega) h2 (by omega) h4 (by omega), Int.tdiv_eq_ediv_of_nonneg h1]
theorem iI_remp {a b : Int} (h1 : 0 ≤ a) (h2 : a ≤ 2147483647) (h3 : 0 < b) (h4 : b ≤ 2147483647) : zrem (iI a) (iI b) = iI (a % b) := by
  unfold zrem
  rw [iI_divp h1 h2 h3 h4, iI_mul, iI_sub]
  congr 1
  have := Int.emod_add_mul_ediv a b
  rw [Int.mul_comm] at this
  omega
theorem iI_max {a b : Int} (h1 : -2147483648 ≤ a) (h2 : a ≤ 2147483647) (h3 : -2147483648 ≤ b) (h4 : b ≤ 2147483647) : zmax (iI a) (iI b) = iI (max a b) := by
  unfold zmax
  simp only [iI_lt h1 h2 h3 h4]
  by_cases h : a < b
  · rw [if_pos h, Int.max_eq_right (by omega)]
  · rw [if_neg h, Int.max_eq_left (by omega)]
theorem iI_min {a b : Int} (h1 : -2147483648 ≤ a) (h2 : a ≤ 2147483647) (h3 : -2147483648 ≤ b) (h4 : b ≤ 2147483647) : zmin (iI a) (iI b) = iI (min a b) := by
  unfold zmin
  simp only [iI_lt h3 h4 h1 h2]
  by_cases h : b < a
  · rw [if_pos h, Int.min_eq_right (by omega)]
  · rw [if_neg h, Int.min_eq_left (by omega)]
theorem iI_abs {a : Int} (h1 : -2147483647 ≤ a) (h2 : a ≤ 2147483647) : zabs (iI a) = iI (a.natAbs : Int) := by
  unfold zabs
  have e0 : (0 : Int32) = iI 0 := rfl
  simp only [e0, iI_le (a := 0) (b := a) (by omega) (by omega) (by omega) (by omega), iI_sub]
  by_cases h : 0 ≤ a
  · rw [if_pos h]; congr 1; omega
  · rw [if_neg h]; congr 1; omega
theorem iI_in {a : Int} {n : Nat} (h1 : 0 ≤ a) (h2 : a < n) (h3 : a ≤ 2147483647) : zin (iI a) n = true := by
  have e1 : (iI a).toInt = a := iI_i (by omega) h3
  exact rin (by rw [e1]; exact h1) (by rw [e1]; exact h2)
theorem iI_cl {a : Int} (h1 : -2147483648 ≤ a) (h3 : a ≤ 2147483647) : (iI a).toNatClampNeg = a.toNat := by
  rw [rcl, iI_i h1 h3]
theorem iI_nz {a : Int} (h1 : -2147483648 ≤ a) (h2 : a ≤ 2147483647) (h : a ≠ 0) : znz (iI a) = true := rnz (by
  intro e
  have := r_eq.mp e
  rw [iI_i h1 h2] at this
  exact h this)
theorem iI_l {a : Int} (h1 : -2147483648 ≤ a) (h2 : a ≤ 2147483647) : (iI a).toInt64 = lI a := by
  rw [← Int64.ofInt_int32ToInt, iI_i h1 h2]; rfl
theorem lI_i {a : Int} (h1 : -9223372036854775808 ≤ a) (h2 : a ≤ 9223372036854775807) : (lI a).toInt = a := Int64.toInt_ofInt_of_le (by omega) (by omega)
theorem lI_32 (a : Int) : (lI a).toInt32 = iI a := Int64.toInt32_ofInt
theorem lI_add (a b : Int) : lI a + lI b = lI (a + b) := (Int64.ofInt_add a b).symm
theorem lI_sub (a b : Int) : lI a - lI b = lI (a - b) := (Int64.ofInt_sub a b).symm
theorem lI_mul (a b : Int) : lI a * lI b = lI (a * b) := (Int64.ofInt_mul a b).symm
theorem lI_div {a b : Int} (h1 : -9223372036854775807 ≤ a) (h2 : a ≤ 9223372036854775807) (h3 : -9223372036854775808 ≤ b) (h4 : b ≤ 9223372036854775807) : lI a / lI b = lI (a.tdiv b) := by
  have e1 : (lI a).toInt = a := lI_i (by omega) h2
  have e2 : (lI b).toInt = b := lI_i h3 h4
  have h := Int.natAbs_tdiv_le_natAbs a b
  have e3 : (lI (a.tdiv b)).toInt = a.tdiv b := lI_i (by omega) (by omega)
  rw [← Int64.toInt_inj, Int64.toInt_div, e1, e2, e3]
  apply Int.bmod_eq_of_le <;> omega
theorem lI_divp {a b : Int} (h1 : 0 ≤ a) (h2 : a ≤ 9223372036854775807) (h3 : 0 < b) (h4 : b ≤ 9223372036854775807) : lI a / lI b = lI (a / b) := by
  rw [lI_div (by omega) h2 (by omega) h4, Int.tdiv_eq_ediv_of_nonneg h1]
theorem lI_nz {a : Int} (h1 : -9223372036854775808 ≤ a) (h2 : a ≤ 9223372036854775807) (h : a ≠ 0) : znzL (lI a) = true := rnzL (by
  intro e
  have := Int64.toInt_inj.mpr e
  rw [lI_i h1 h2] at this
  exact h this)
theorem r_iI {x : Int32} {a : Int} (h : x.toInt = a) : x = iI a := by rw [← h, iI_t]
/-! truth values -/
def bI (p : Prop) [Decidable p] : Int32 := if p then 1 else 0
theorem bI_0 (p : Prop) [Decidable p] : (bI p = 0) = ¬ p := by
  unfold bI
  by_cases h : p <;> simp [h]
theorem bI_1 (p : Prop) [Decidable p] : (bI p = 1) = p := by
  unfold bI
  by_cases h : p <;> simp [h]
theorem bI_B (p : Prop) [Decidable p] : zisB (bI p) = true := by
  unfold bI
  by_cases h : p <;> simp [h, zisB]
theorem bI_t {p : Prop} [Decidable p] (h : p) : bI p = 1 := if_pos h
theorem bI_f {p : Prop} [Decidable p] (h : ¬ p) : bI p = 0 := if_neg h
theorem gd_t {α : Type} {X : Option α} : zgd true X = X := rfl
theorem isB0 : zisB 0 = true := rfl
theorem isB1 : zisB 1 = true := rfl
theorem within_eq {sh : zShp} {M : zMem} (a b c : Int32) : zX11_isWithin sh a b c M = some (bI (b ≤ a ∧ a ≤ c)) := by
  unfold zX11_isWithin zjX11_isWithin_14 zjX11_isWithin_15
  by_cases h1 : a < b
  · rw [if_pos h1, bI_f (fun h => by have := r_lt.mp h1; have := r_le.mp h.1; omega)]; rfl
  · rw [if_neg h1]
    by_cases h2 : c < a
    · rw [if_pos h2, bI_f (fun h => by have := r_lt.mp h2; have := r_le.mp h.2; omega)]; rfl
    · rw [if_neg h2, bI_t ⟨r_le.mpr (by have := n_lt h1; omega), r_le.mpr (by have := n_lt h2; omega)⟩]; rfl
theorem cmp_lt (a b : Int64) : (lg_cmp a b < 0) = (a < b) := by
  unfold lg_cmp
  by_cases h1 : a > b
  · rw [if_pos h1]
    have : ¬ a < b := fun h => by have := Int64.lt_iff_toInt_lt.mp h; have := Int64.lt_iff_toInt_lt.mp h1; omega
    simp [this]
  · rw [if_neg h1]
    by_cases h2 : a = b
    · rw [if_pos h2]; subst h2; simp
    · rw [if_neg h2]
      have : a < b := Int64.lt_iff_toInt_lt.mpr (by
        have g1 : ¬ b.toInt < a.toInt := fun h => h1 (Int64.lt_iff_toInt_lt.mpr h)
        have g2 : ¬ a.toInt = b.toInt := fun h => h2 (Int64.toInt_inj.mp h)
        omega)
      simp only [this, eq_iff_iff, iff_true]
      decide
theorem cmp_gt (a b : Int64) : (0 < lg_cmp a b) = (b < a) := by
  unfold lg_cmp
  by_cases h1 : a > b
  · rw [if_pos h1]
    have : b < a := h1
    simp only [this, eq_iff_iff, iff_true]
    decide
  · rw [if_neg h1]
    have h1' : ¬ b < a := h1
    by_cases h2 : a = b
    · rw [if_pos h2]; subst h2; simp
    · rw [if_neg h2]
      simp only [h1', eq_iff_iff, iff_false]
      decide
theorem isIn_eq {sh : zShp} {M : zMem} (a b c : Int64) : zX12_isIn sh a b c M = some (bI (b.toInt ≤ a.toInt ∧ a.toInt ≤ c.toInt)) := by
  unfold zX12_isIn zjX12_isIn_17 zjX12_isIn_18
  simp only [cmp_lt, cmp_gt, Int64.lt_iff_toInt_lt]
  by_cases h1 : a.toInt < b.toInt
  · rw [if_pos h1, bI_f (by omega)]; rfl
  · rw [if_neg h1]
    by_cases h2 : c.toInt < a.toInt
    · rw [if_pos h2, bI_f (by omega)]; rfl
    · rw [if_neg h2, bI_t (by omega)]; rfl
/-- of ints that are widened -/
theorem isIn_i {sh : zShp} {M : zMem} (a b c : Int32) : zX12_isIn sh a.toInt64 b.toInt64 c.toInt64 M = some (bI (b ≤ a ∧ a ≤ c)) := by
  rw [isIn_eq, Int32.toInt_toInt64, Int32.toInt_toInt64, Int32.toInt_toInt64]
  congr 1
  simp only [r_le]
theorem truth_eq {sh : zShp} {M : zMem} (a : Int32) : zX12_truth sh a M = some (bI (a ≠ 0)) := by
  unfold zX12_truth zjX12_truth_9
  by_cases h : a = 0
  · rw [if_pos h, bI_f (fun g => g h)]
  · rw [if_neg h, bI_t h]
theorem size_eq {sh : zShp} {M : zMem} (a : Int32) : zX12_size sh a M = some (zabs a) := by
  unfold zX12_size zjX12_size_10 zabs
  by_cases h : 0 ≤ a
  · rw [if_pos h, if_pos h]
  · rw [if_neg h, if_neg h, Int32.zero_sub]
theorem greater_eq {sh : zShp} {M : zMem} (a b : Int32) : zX12_greater sh a b M = some (zmax a b) := by
  unfold zX12_greater zjX12_greater_10 zmax
  by_cases h : a < b
  · rw [if_pos h, if_pos (Int32.le_of_lt h)]
  · rw [if_neg h]
    by_cases h2 : a ≤ b
    · have : a = b := r_eq.mpr (by have := n_lt h; have := r_le.mp h2; omega)
      rw [if_pos h2, this]
    · rw [if_neg h2]
theorem lesser_eq {sh : zShp} {M : zMem} (a b : Int32) : zX12_lesser sh a b M = some (zmin a b) := by
  unfold zX12_lesser zjX12_lesser_10 zmin
  by_cases h : b < a
  · rw [if_pos h, if_pos (Int32.le_of_lt h)]
  · rw [if_neg h]
    by_cases h2 : b ≤ a
    · have : a = b := r_eq.mpr (by have := n_lt h; have := r_le.mp h2; omega)
      rw [if_pos h2, this]
    · rw [if_neg h2]
