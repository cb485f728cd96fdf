/-! Phase B: words as numbers -/
def c27 : List Nat → Nat
  | [] => 0
  | x :: l => 27 * c27 l + x
def c256 : List Nat → Nat
  | [] => 0
  | x :: l => 256 * c256 l + (x + 96)
def ltr (l : List Nat) : Prop := ∀ x ∈ l, 1 ≤ x ∧ x ≤ 26
theorem ltr.tl {x : Nat} {l : List Nat} (h : ltr (x :: l)) : (1 ≤ x ∧ x ≤ 26) ∧ ltr l := ⟨h x (List.mem_cons_self), fun y hy => h y (List.mem_cons_of_mem _ hy)⟩
theorem c27_inj : ∀ l m : List Nat, ltr l → ltr m → c27 l = c27 m → l = m := by
  intro l
  induction l with
  | nil =>
    intro m _ hm e
    cases m with
    | nil => rfl
    | cons y m =>
      have := hm.tl.1
      have e : 0 = 27 * c27 m + y := e
      omega
  | cons x l ih =>
    intro m hl hm e
    have hx := hl.tl
    cases m with
    | nil =>
      have e : 27 * c27 l + x = 0 := e
      omega
    | cons y m =>
      have hy := hm.tl
      have e : 27 * c27 l + x = 27 * c27 m + y := e
      rw [show x = y by omega, ih m hx.2 hy.2 (by omega)]
theorem c256_inj : ∀ l m : List Nat, ltr l → ltr m → c256 l = c256 m → l = m := by
  intro l
  induction l with
  | nil =>
    intro m _ hm e
    cases m with
    | nil => rfl
    | cons y m =>
      have := hm.tl.1
      have e : 0 = 256 * c256 m + (y + 96) := e
      omega
  | cons x l ih =>
    intro m hl hm e
    have hx := hl.tl
    cases m with
    | nil =>
      have e : 256 * c256 l + (x + 96) = 0 := e
      omega
    | cons y m =>
      have hy := hm.tl
      have e : 256 * c256 l + (x + 96) = 256 * c256 m + (y + 96) := e
      rw [show x = y by omega, ih m hx.2 hy.2 (by omega)]
theorem c27_b : ∀ l : List Nat, ltr l → c27 l < 27 ^ l.length := by
  intro l
  induction l with
  | nil => intro _; decide
  | cons x l ih =>
    intro h
    have h1 := ih h.tl.2
    have h2 := h.tl.1
    rw [List.length_cons, Nat.pow_succ]
    show 27 * c27 l + x < _
    omega
theorem c256_b : ∀ l : List Nat, ltr l → c256 l < 256 ^ l.length := by
  intro l
  induction l with
  | nil => intro _; decide
  | cons x l ih =>
    intro h
    have h1 := ih h.tl.2
    have h2 := h.tl.1
    rw [List.length_cons, Nat.pow_succ]
    show 256 * c256 l + (x + 96) < _
    omega
/-- one word: the class's number and the reference's -/
def wRel (v : Int32) (w : Int64) : Prop := ∃ l : List Nat, l.length ≤ 6 ∧ ltr l ∧ v = nI (c27 l) ∧ w = lI (c256 l : Nat)
theorem wRel.eq {v v' : Int32} {w w' : Int64} (h : wRel v w) (h' : wRel v' w') : (v = v') = (w = w') := by
  obtain ⟨l, a1, a2, rfl, rfl⟩ := h
  obtain ⟨m, b1, b2, rfl, rfl⟩ := h'
  have p1 := c27_b l a2
  have p2 := c27_b m b2
  have q1 := c256_b l a2
  have q2 := c256_b m b2
  have r1 : 27 ^ l.length ≤ 27 ^ 6 := Nat.pow_le_pow_right (by omega) a1
  have r2 : 27 ^ m.length ≤ 27 ^ 6 := Nat.pow_le_pow_right (by omega) b1
  have s1 : 256 ^ l.length ≤ 256 ^ 6 := Nat.pow_le_pow_right (by omega) a1
  have s2 : 256 ^ m.length ≤ 256 ^ 6 := Nat.pow_le_pow_right (by omega) b1
  apply propext
  constructor
  · intro e
    have e := congrArg Int32.toInt e
    rw [nI_toInt (by omega), nI_toInt (by omega)] at e
    rw [c27_inj l m a2 b2 (by omega)]
  · intro e
    have e := congrArg Int64.toInt e
    rw [lI_i (by omega) (by omega), lI_i (by omega) (by omega)] at e
    rw [c256_inj l m a2 b2 (by omega)]
theorem ltr_dec {l : List Nat} (h : l.all (fun x => decide (1 ≤ x) && decide (x ≤ 26)) = true) : ltr l := fun x hx => by
  have := List.all_eq_true.mp h x hx
  rw [Bool.and_eq_true, decide_eq_true_eq, decide_eq_true_eq] at this
  exact this
/-- the words of the document -/
def kwd (k : Nat) (W : Int64) : Prop := wRel (zcf k (zslen.getD k 0)) W
theorem kw0 : kwd 0 1635281267 := ⟨[19, 9, 24, 1], by decide, ltr_dec (by decide), by decide +kernel, by decide +kernel⟩
theorem kw1 : kwd 1 1650552420 := ⟨[4, 14, 1, 2], by decide, ltr_dec (by decide), by decide +kernel, by decide +kernel⟩
theorem kw2 : kwd 2 1668245868 := ⟨[12, 9, 15, 3], by decide, ltr_dec (by decide), by decide +kernel, by decide +kernel⟩
theorem kw3 : kwd 3 1684106608 := ⟨[16, 13, 1, 4], by decide, ltr_dec (by decide), by decide +kernel, by decide +kernel⟩
theorem kw4 : kwd 4 6711672 := ⟨[24, 9, 6], by decide, ltr_dec (by decide), by decide +kernel, by decide +kernel⟩
theorem kw5 : kwd 5 1734437230 := ⟨[14, 9, 1, 7], by decide, ltr_dec (by decide), by decide +kernel, by decide +kernel⟩
theorem kw6 : kwd 6 1752132708 := ⟨[4, 12, 15, 8], by decide, ltr_dec (by decide), by decide +kernel, by decide +kernel⟩
theorem kw7 : kwd 7 1785033323 := ⟨[11, 18, 5, 10], by decide, ltr_dec (by decide), by decide +kernel, by decide +kernel⟩
theorem kw8 : kwd 8 1819243379 := ⟨[19, 19, 15, 12], by decide, ltr_dec (by decide), by decide +kernel, by decide +kernel⟩
theorem kw9 : kwd 9 1835103091 := ⟨[19, 19, 1, 13], by decide, ltr_dec (by decide), by decide +kernel, by decide +kernel⟩
theorem kw10 : kwd 10 470021336946 := ⟨[18, 15, 20, 15, 13], by decide, ltr_dec (by decide), by decide +kernel, by decide +kernel⟩
theorem kw11 : kwd 11 495806932324 := ⟨[4, 5, 5, 16, 19], by decide, ltr_dec (by decide), by decide +kernel, by decide +kernel⟩
theorem kw12 : kwd 12 126948234783865 := ⟨[25, 12, 16, 16, 21, 19], by decide, ltr_dec (by decide), by decide +kernel, by decide +kernel⟩
theorem sh8 {a b : Nat} (ha : a < 2 ^ 48) (hb : b < 256) : (lI (a : Int) <<< ((8 : Int32).toInt64 &&& 63)) ||| (iI (b : Int)).toInt64 = lI ((256 * a + b : Nat) : Int) := by
  rw [iI_l (by omega) (by omega), show (8 : Int32).toInt64 &&& 63 = (8 : Int64) from by decide]
  apply Int64.toBitVec_inj.mp
  have e0 : ∀ n : Nat, (lI (n : Int)).toBitVec = BitVec.ofNat 64 n := fun n => by
    show (Int64.ofInt (n : Int)).toBitVec = _
    rw [Int64.toBitVec_ofInt, BitVec.ofInt_natCast]
  rw [Int64.toBitVec_or, Int64.toBitVec_shiftLeft, e0, e0, e0, show ((8 : Int64).toBitVec.smod 64) = 8#64 from by decide]
  apply BitVec.eq_of_toNat_eq
  rw [BitVec.toNat_or, BitVec.toNat_ofNat, BitVec.toNat_ofNat, Nat.mod_eq_of_lt (by omega : b < 2 ^ 64), Nat.mod_eq_of_lt (by omega : 256 * a + b < 2 ^ 64)]
  have e1 : (BitVec.ofNat 64 a <<< 8#64).toNat = a <<< 8 := by
    show (BitVec.ofNat 64 a <<< (8#64).toNat).toNat = _
    rw [BitVec.toNat_shiftLeft, BitVec.toNat_ofNat, Nat.mod_eq_of_lt (by omega : a < 2 ^ 64), Nat.shiftLeft_eq, show (8#64).toNat = 8 from rfl]
    exact (Nat.mod_eq_of_lt (by omega)).trans (Nat.shiftLeft_eq a 8).symm
  rw [e1, ← Nat.shiftLeft_add_eq_or_of_lt (by omega : b < 2 ^ 8), Nat.shiftLeft_eq]
  omega
