/-! Phase B: masks and shifts -/
theorem r_bn (x : Int32) : x.toInt = if 2 * x.toBitVec.toNat < 2 ^ 32 then (x.toBitVec.toNat : Int) else (x.toBitVec.toNat : Int) - 2 ^ 32 := BitVec.toInt_eq_toNat_cond x.toBitVec
theorem r_mask {x m : Int32} {k : Nat} (hm : m.toBitVec.toNat = 2 ^ k - 1) (hk : k < 31) : (x &&& m).toInt = x.toInt % 2 ^ k := by
  have e : (x &&& m).toBitVec.toNat = x.toBitVec.toNat % 2 ^ k := by
    rw [Int32.toBitVec_and, BitVec.toNat_and, hm, Nat.and_two_pow_sub_one_eq_mod]
  have hp : 2 ^ k ≤ 2 ^ 30 := Nat.pow_le_pow_right (by omega) (by omega)
  have hpos : 0 < 2 ^ k := Nat.pow_pos (by omega)
  have hlt : x.toBitVec.toNat % 2 ^ k < 2 ^ k := Nat.mod_lt _ hpos
  rw [r_bn (x &&& m), e, if_pos (by omega), r_bn x]
  have hd : (2 : Int) ^ 32 = 2 ^ k * 2 ^ (32 - k) := by
    rw [← Int.pow_add]
    congr 1
    omega
  split
  · norm_cast
  · rw [hd, Int.sub_mul_emod_self_left]
    norm_cast
theorem r_and63 (x : Int32) : (x &&& 63).toInt = x.toInt % 64 := r_mask (k := 6) (by decide) (by omega)
theorem r_and3 (x : Int32) : (x &&& 3).toInt = x.toInt % 4 := r_mask (k := 2) (by decide) (by omega)
theorem r_and255 (x : Int32) : (x &&& 255).toInt = x.toInt % 256 := r_mask (k := 8) (by decide) (by omega)
theorem r_shr6 (x : Int32) : (x >>> ((6 : Int32) &&& 31)).toInt = x.toInt / 64 := by
  have e : (x >>> ((6 : Int32) &&& 31)).toBitVec = x.toBitVec.sshiftRight 6 := rfl
  show (x >>> ((6 : Int32) &&& 31)).toBitVec.toInt = _
  rw [e, BitVec.toInt_sshiftRight, Int.shiftRight_eq_div_pow]
  rfl
