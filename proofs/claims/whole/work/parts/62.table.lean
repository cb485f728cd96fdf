/-! Phase B: the table's wave -/
def fW (row : Nat → Int32) (n : Int) : Int32 := if n / 64 % 4 = 0 then row (n % 64).toNat else if n / 64 % 4 = 1 then row (64 - n % 64).toNat else if n / 64 % 4 = 2 then -(row (n % 64).toNat) else -(row (64 - n % 64).toNat)
theorem r_q4 (x : Int32) (k : Int32) : ((x >>> ((6 : Int32) &&& 31)) &&& 3) = k ↔ x.toInt / 64 % 4 = k.toInt := by rw [r_eq, r_and3, r_shr6]
theorem r_64m (x : Int32) : ((64 : Int32) - (x &&& 63)).toInt = 64 - x.toInt % 64 := by
  have h := r_and63 x
  have h64 : (64 : Int32).toInt = 64 := rfl
  rw [r_sub (by rw [h, h64]; omega) (by rw [h, h64]; omega), h, h64]
theorem wave_eq {sh : zShp} {k0 : Nat} {M : zMem} (p1 : Int32) (hl : 65 ≤ zlen sh k0) : zX9_wave sh k0 p1 M = some (fW (zI M k0) p1.toInt) := by
  have h63 := r_and63 p1
  have h64 := r_64m p1
  unfold zX9_wave fW
  simp only [r_q4, rcl, h63, h64]
  rw [rgd (rin (by rw [h63]; omega) (by rw [h63]; omega)), rgd (rin (by rw [h64]; omega) (by rw [h64]; omega)), rgd (rin (by rw [h63]; omega) (by rw [h63]; omega)), rgd (rin (by rw [h64]; omega) (by rw [h64]; omega))]
  have e0 : (0 : Int32).toInt = 0 := rfl
  have e1 : (1 : Int32).toInt = 1 := rfl
  have e2 : (2 : Int32).toInt = 2 := rfl
  rw [e0, e1, e2]
  split
  · rfl
  · split
    · rfl
    · split <;> rfl
