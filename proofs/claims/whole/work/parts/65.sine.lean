/-! Phase B: floor divisions as values; the reference's sine -/
theorem floorM16 {sh : zShp} {M : zMem} (x : Int32) : zX12_floor sh x (16 : Int32) M = some (iI (x.toInt / 16)) := by
  obtain ⟨r, h1, h2⟩ := floor_16 (sh := sh) (M := M) x
  rw [h1, r_iI h2]
theorem floorM256 {sh : zShp} {M : zMem} (x : Int32) : zX12_floor sh x (256 : Int32) M = some (iI (x.toInt / 256)) := by
  obtain ⟨r, h1, h2⟩ := floor_256 (sh := sh) (M := M) x
  rw [h1, r_iI h2]
theorem floorM4096 {sh : zShp} {M : zMem} (x : Int32) : zX12_floor sh x (4096 : Int32) M = some (iI (x.toInt / 4096)) := by
  obtain ⟨r, h1, h2⟩ := floor_4096 (sh := sh) (M := M) x
  rw [h1, r_iI h2]
theorem r_xor {a b : Int32} (hb : 0 ≤ b.toInt) : (0 ≤ a ^^^ b) = (0 ≤ a) := by
  have h := BitVec.msb_xor (x := a.toBitVec) (y := b.toBitVec)
  rw [BitVec.msb_eq_toInt, BitVec.msb_eq_toInt, BitVec.msb_eq_toInt] at h
  have e1 : (a.toBitVec ^^^ b.toBitVec).toInt = (a ^^^ b).toInt := rfl
  have e2 : a.toBitVec.toInt = a.toInt := rfl
  have e3 : b.toBitVec.toInt = b.toInt := rfl
  have e0 : (0 : Int32).toInt = 0 := rfl
  rw [e1, e2, e3] at h
  rw [r_le, r_le, e0]
  have hb' : ¬ b.toInt < 0 := by omega
  simp only [hb', decide_false, Bool.xor_false, decide_eq_decide] at h
  rw [eq_iff_iff]
  omega
theorem floorC16 {sh : zShp} {M : zMem} (x : Int32) : zJ9_floorDiv_7cf53 sh x (16 : Int32) M = some (iI (x.toInt / 16)) := by
  obtain ⟨a, rfl, h1, h2⟩ := iI_ex x
  have hd : (16 : Int32) = iI 16 := rfl
  have e1 : (1 : Int32) = iI 1 := rfl
  have e0 : (0 : Int32) = iI 0 := rfl
  have ht : iI a / iI 16 = iI (a / 16 + if 0 ≤ a ∨ (16 : Int) ∣ a then 0 else 1) := by
    rw [r_eq, Int32.toInt_div, iI_i h1 h2, iI_i (by omega) (by omega), Int.tdiv_eq_ediv]
    rw [show Int.sign 16 = 1 from rfl]
    rw [iI_i (by split <;> omega) (by split <;> omega)]
    split <;> exact r_bm (by omega) (by omega)
  unfold zJ9_floorDiv_7cf53 zjJ9_floorDiv_7cf53_21
  rw [hd, rgd (iI_nz (by omega) (by omega) (by omega)), iI_i h1 h2]
  have hx : (0 ≤ iI a ^^^ iI 16) = (0 ≤ a) := by
    rw [r_xor (by rw [iI_i (by omega) (by omega)]; omega), e0, iI_le (by omega) (by omega) h1 h2]
  simp only [hx]
  rw [ht, iI_mul]
  by_cases h0 : 0 ≤ a
  · rw [if_pos h0, if_pos (Or.inl h0), Int.add_zero]
  · rw [if_neg h0]
    have he : (iI ((a / 16 + if 0 ≤ a ∨ (16 : Int) ∣ a then 0 else 1) * 16) = iI a) = ((a / 16 + if 0 ≤ a ∨ (16 : Int) ∣ a then 0 else 1) * 16 = a) := iI_eq (by split <;> omega) (by split <;> omega) h1 h2
    simp only [he]
    by_cases hq : (16 : Int) ∣ a
    · rw [if_pos (Or.inr hq), if_pos (by omega), Int.add_zero]
    · rw [if_neg (by omega), if_neg (by omega), e1, iI_sub]
      congr 2
      omega
theorem floorC4096 {sh : zShp} {M : zMem} (x : Int32) : zJ9_floorDiv_7cf53 sh x (4096 : Int32) M = some (iI (x.toInt / 4096)) := by
  obtain ⟨a, rfl, h1, h2⟩ := iI_ex x
  have hd : (4096 : Int32) = iI 4096 := rfl
  have e1 : (1 : Int32) = iI 1 := rfl
  have e0 : (0 : Int32) = iI 0 := rfl
  have ht : iI a / iI 4096 = iI (a / 4096 + if 0 ≤ a ∨ (4096 : Int) ∣ a then 0 else 1) := by
    rw [r_eq, Int32.toInt_div, iI_i h1 h2, iI_i (by omega) (by omega), Int.tdiv_eq_ediv]
    rw [show Int.sign 4096 = 1 from rfl]
    rw [iI_i (by split <;> omega) (by split <;> omega)]
    split <;> exact r_bm (by omega) (by omega)
  unfold zJ9_floorDiv_7cf53 zjJ9_floorDiv_7cf53_21
  rw [hd, rgd (iI_nz (by omega) (by omega) (by omega)), iI_i h1 h2]
  have hx : (0 ≤ iI a ^^^ iI 4096) = (0 ≤ a) := by
    rw [r_xor (by rw [iI_i (by omega) (by omega)]; omega), e0, iI_le (by omega) (by omega) h1 h2]
  simp only [hx]
  rw [ht, iI_mul]
  by_cases h0 : 0 ≤ a
  · rw [if_pos h0, if_pos (Or.inl h0), Int.add_zero]
  · rw [if_neg h0]
    have he : (iI ((a / 4096 + if 0 ≤ a ∨ (4096 : Int) ∣ a then 0 else 1) * 4096) = iI a) = ((a / 4096 + if 0 ≤ a ∨ (4096 : Int) ∣ a then 0 else 1) * 4096 = a) := iI_eq (by split <;> omega) (by split <;> omega) h1 h2
    simp only [he]
    by_cases hq : (4096 : Int) ∣ a
    · rw [if_pos (Or.inr hq), if_pos (by omega), Int.add_zero]
    · rw [if_neg (by omega), if_neg (by omega), e1, iI_sub]
      congr 2
      omega
theorem tableAt_eq {N : zMem} (h33 : zR N 0 33 = 12) (h18 : zR N 0 18 = 8) {q : Int} (h1 : 0 ≤ q) (h2 : q ≤ 64) (p2 : Int32) : zX12_tableAt shM 0 (iI q) p2 N = some (zI N 12 q.toNat + (if p2 = 0 then 0 else zI N 8 q.toNat)) := by
  unfold zX12_tableAt zjX12_tableAt_20
  rw [h33, h18, rgd (iI_in h1 (by show q < ((65 : Nat) : Int); omega) (by omega)), rgd (iI_in h1 (by show q < ((65 : Nat) : Int); omega) (by omega)), iI_cl (by omega) (by omega)]
  by_cases h : p2 = 0
  · rw [if_pos h, if_pos h]
  · rw [if_neg h, if_neg h]
theorem sine_eq {N : zMem} (h33 : zR N 0 33 = 12) (h18 : zR N 0 18 = 8) (x p2 : Int32) : zX12_sine shM 0 x p2 N = some (fW (fun q => zI N 12 q + (if p2 = 0 then 0 else zI N 8 q)) x.toInt) := by
  obtain ⟨a, rfl, h1, h2⟩ := iI_ex x
  have e64 : (64 : Int32) = iI 64 := rfl
  have e128 : (128 : Int32) = iI 128 := rfl
  have e256 : (256 : Int32) = iI 256 := rfl
  have e2 : (2 : Int32) = iI 2 := rfl
  have e0 : (0 : Int32) = iI 0 := rfl
  unfold zX12_sine zjX12_sine_49 zjX12_sine_66
  rw [floorM256, rob, rbd, iI_i h1 h2, e256, iI_mul, iI_sub, e64, e2, e128, show a - 256 * (a / 256) = a % 256 by omega, iI_divp (by omega) (by omega) (by omega) (by omega), iI_remp (by omega) (by omega) (by omega) (by omega), iI_remp (by omega) (by omega) (by omega) (by omega), iI_sub, tableAt_eq h33 h18 (by omega) (by omega), tableAt_eq h33 h18 (by omega) (by omega), rob, rob]
  have hc : (iI 128 ≤ iI (a % 256)) = (128 ≤ a % 256) := iI_le (by omega) (by omega) (by omega) (by omega)
  have hz : (iI (a % 256 / 64 % 2) = (0 : Int32)) = (a % 256 / 64 % 2 = 0) := by rw [e0, iI_eq (by omega) (by omega) (by omega) (by omega)]
  simp only [hc, hz]
  rw [show a % 256 % 64 = a % 64 by omega]
  unfold fW
  rcases (show a / 64 % 4 = 0 ∨ a / 64 % 4 = 1 ∨ a / 64 % 4 = 2 ∨ a / 64 % 4 = 3 by omega) with h | h | h | h
  · rw [if_pos (show a % 256 / 64 % 2 = 0 by omega), if_neg (show ¬ 128 ≤ a % 256 by omega), if_pos (show a / 64 % 4 = 0 by omega)]
  · rw [if_neg (show ¬ a % 256 / 64 % 2 = 0 by omega), if_neg (show ¬ 128 ≤ a % 256 by omega), if_neg (show ¬ a / 64 % 4 = 0 by omega), if_pos (show a / 64 % 4 = 1 by omega)]
  · rw [if_pos (show a % 256 / 64 % 2 = 0 by omega), if_pos (show 128 ≤ a % 256 by omega), if_neg (show ¬ a / 64 % 4 = 0 by omega), if_neg (show ¬ a / 64 % 4 = 1 by omega), if_pos (show a / 64 % 4 = 2 by omega)]
  · rw [if_neg (show ¬ a % 256 / 64 % 2 = 0 by omega), if_pos (show 128 ≤ a % 256 by omega), if_neg (show ¬ a / 64 % 4 = 0 by omega), if_neg (show ¬ a / 64 % 4 = 1 by omega), if_neg (show ¬ a / 64 % 4 = 2 by omega)]
/-- the reference's table with corrections -/
def fRow (N : zMem) (q : Nat) : Int32 := zI N 12 q + zI N 8 q
theorem fW_per (row : Nat → Int32) (a b : Int) (h : a % 256 = b % 256) : fW row a = fW row b := by
  unfold fW
  rw [show a / 64 % 4 = b / 64 % 4 by omega, show a % 64 = b % 64 by omega]
theorem currentOf_1 {N : zMem} (h33 : zR N 0 33 = 12) (h18 : zR N 0 18 = 8) (x : Int32) : zX12_currentOf shM 0 x 1 N = some (fW (fRow N) x.toInt) := by
  unfold zX12_currentOf zjX12_currentOf_26
  rw [if_pos rfl, sine_eq h33 h18, rob]
  rfl
theorem currentOf_0 {N : zMem} (h33 : zR N 0 33 = 12) (h18 : zR N 0 18 = 8) (x p2 : Int32) (hp : ¬ p2 = 1) : zX12_currentOf shM 0 x p2 N = some (fW (fRow N) (x.toInt + 64)) := by
  obtain ⟨a, rfl, h1, h2⟩ := iI_ex x
  have e256 : (256 : Int32) = iI 256 := rfl
  have e64 : (64 : Int32) = iI 64 := rfl
  unfold zX12_currentOf zjX12_currentOf_26
  rw [if_neg hp, floorM256, rob, sine_eq h33 h18, rob, iI_i h1 h2, e256, e64, iI_mul, iI_sub, iI_add, iI_i (by omega) (by omega), fW_per (b := a + 64) _ _ (by omega)]
  rfl
theorem fW_64 (row : Nat → Int32) (x : Int32) : fW row (x + 64).toInt = fW row (x.toInt + 64) := by
  obtain ⟨a, rfl, h1, h2⟩ := iI_ex x
  have e64 : (64 : Int32) = iI 64 := rfl
  apply fW_per
  rw [iI_i h1 h2, e64, iI_add]
  by_cases h : a + 64 ≤ 2147483647
  · rw [iI_i (by omega) h]
  · have : iI (a + 64) = iI (a + 64 - 4294967296) := by
      rw [r_eq]
      show (Int32.ofInt (a + 64)).toInt = (Int32.ofInt (a + 64 - 4294967296)).toInt
      rw [Int32.toInt_ofInt, Int32.toInt_ofInt]
      rw [show a + 64 - 4294967296 = a + 64 - 1 * (Int32.size : Int) by rw [show (Int32.size : Int) = 4294967296 from rfl]; omega, Int.sub_mul_bmod_self_right]
    rw [this, iI_i (by omega) (by omega)]
    omega
theorem fW_ext {r1 r2 : Nat → Int32} (h : ∀ q, q ≤ 64 → r1 q = r2 q) (a : Int) : fW r1 a = fW r2 a := by
  unfold fW
  rw [h (a % 64).toNat (by omega), h (64 - a % 64).toNat (by omega)]
