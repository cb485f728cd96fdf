/-! Phase B: memory, and numbers as integers -/
theorem rI_pI (M : zMem) (k j : Nat) (v : Int32) (a b : Nat) : zI (zpI M k j v) a b = if a = k ∧ b = j then v else zI M a b := rfl
theorem rR_pI (M : zMem) (k j : Nat) (v : Int32) (a b : Nat) : zR (zpI M k j v) a b = zR M a b := rfl
theorem rJ_pI (M : zMem) (k j : Nat) (v : Int32) (a b : Nat) : zJ (zpI M k j v) a b = zJ M a b := rfl
theorem rI_pJ (M : zMem) (k j : Nat) (v : Int64) (a b : Nat) : zI (zpJ M k j v) a b = zI M a b := rfl
theorem rR_pJ (M : zMem) (k j : Nat) (v : Int64) (a b : Nat) : zR (zpJ M k j v) a b = zR M a b := rfl
theorem rJ_pJ (M : zMem) (k j : Nat) (v : Int64) (a b : Nat) : zJ (zpJ M k j v) a b = if a = k ∧ b = j then v else zJ M a b := rfl
theorem rI_pR (M : zMem) (k j : Nat) (v : Nat) (a b : Nat) : zI (zpR M k j v) a b = zI M a b := rfl
theorem rJ_pR (M : zMem) (k j : Nat) (v : Nat) (a b : Nat) : zJ (zpR M k j v) a b = zJ M a b := rfl
theorem rR_pR (M : zMem) (k j : Nat) (v : Nat) (a b : Nat) : zR (zpR M k j v) a b = if a = k ∧ b = j then v else zR M a b := rfl
theorem rI_pC (M : zMem) (a sp b dp n k j : Nat) : zI (zpC M a sp b dp n) k j = if k = b then va_cpy (zI M a) (zI M b) sp dp n j else zI M k j := rfl
theorem rR_pC (M : zMem) (a sp b dp n k j : Nat) : zR (zpC M a sp b dp n) k j = zR M k j := rfl
theorem rJ_pC (M : zMem) (a sp b dp n k j : Nat) : zJ (zpC M a sp b dp n) k j = zJ M k j := rfl
theorem rbd {α β : Type} (x : α) (f : α → β) : zbd x f = f x := rfl
theorem rob {α β : Type} (a : α) (f : α → Option β) : zob (some a) f = f a := rfl
theorem rob2 {α β γ : Type} (a : α) (b : β) (f : α → β → Option γ) : zob2 (some (a, b)) f = f a b := rfl
theorem rgd {α : Type} {b : Bool} {X : Option α} (h : b = true) : zgd b X = X := by unfold zgd; rw [if_pos h]
theorem rin {i : Int32} {n : Nat} (h1 : 0 ≤ i.toInt) (h2 : i.toInt < n) : zin i n = true := by
  unfold zin
  rw [Bool.and_eq_true, decide_eq_true_eq, decide_eq_true_eq]
  exact ⟨h1, h2⟩
theorem rnz {i : Int32} (h : i ≠ 0) : znz i = true := by simp [znz, h]
theorem rnzL {i : Int64} (h : i ≠ 0) : znzL i = true := by simp [znzL, h]
theorem rcl (i : Int32) : i.toNatClampNeg = i.toInt.toNat := rfl
theorem r_rng (a : Int32) : -2147483648 ≤ a.toInt ∧ a.toInt ≤ 2147483647 := ⟨Int32.le_toInt a, Int32.toInt_le a⟩
theorem r_bm {x : Int} (h1 : -2147483648 ≤ x) (h2 : x ≤ 2147483647) : x.bmod (2 ^ 32) = x := by
  apply Int.bmod_eq_of_le <;> omega
theorem r_add {a b : Int32} (h1 : -2147483648 ≤ a.toInt + b.toInt) (h2 : a.toInt + b.toInt ≤ 2147483647) : (a + b).toInt = a.toInt + b.toInt := by
  rw [Int32.toInt_add]; exact r_bm h1 h2
theorem r_sub {a b : Int32} (h1 : -2147483648 ≤ a.toInt - b.toInt) (h2 : a.toInt - b.toInt ≤ 2147483647) : (a - b).toInt = a.toInt - b.toInt := by
  rw [Int32.toInt_sub]; exact r_bm h1 h2
theorem r_mul {a b : Int32} (h1 : -2147483648 ≤ a.toInt * b.toInt) (h2 : a.toInt * b.toInt ≤ 2147483647) : (a * b).toInt = a.toInt * b.toInt := by
  rw [Int32.toInt_mul]; exact r_bm h1 h2
theorem r_neg {a : Int32} (h1 : -2147483647 ≤ a.toInt) : (-a).toInt = -a.toInt := by
  rw [Int32.toInt_neg]; have := r_rng a; exact r_bm (by omega) (by omega)
theorem r_div {a b : Int32} (h1 : -2147483647 ≤ a.toInt) (hb : b.toInt ≠ 0) : (a / b).toInt = a.toInt.tdiv b.toInt := by
  rw [Int32.toInt_div]
  have := r_rng a
  have h3 := Int.natAbs_tdiv_le_natAbs a.toInt b.toInt
  exact r_bm (by omega) (by omega)
theorem r_eq {a b : Int32} : a = b ↔ a.toInt = b.toInt := Int32.toInt_inj.symm
theorem r_lt {a b : Int32} : a < b ↔ a.toInt < b.toInt := Int32.lt_iff_toInt_lt
theorem r_le {a b : Int32} : a ≤ b ↔ a.toInt ≤ b.toInt := Int32.le_iff_toInt_le
