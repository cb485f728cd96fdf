/-! Phase B: roots, field -/
def rtN (S : Nat) : Nat → Nat → Nat
  | 0, v => v
  | k + 1, v => rtN S k (if (v + 2 ^ k) * (v + 2 ^ k) ≤ S then v + 2 ^ k else v)
theorem rtN_lt {S : Nat} : ∀ (k v : Nat), rtN S k v < v + 2 ^ k := by
  intro k
  induction k with
  | zero => intro v; unfold rtN; omega
  | succ k ih =>
    intro v
    unfold rtN
    have hp : 2 ^ (k + 1) = 2 ^ k + 2 ^ k := by rw [Nat.pow_succ]; omega
    by_cases h : (v + 2 ^ k) * (v + 2 ^ k) ≤ S
    · rw [if_pos h]; have := ih (v + 2 ^ k); omega
    · rw [if_neg h]; have := ih v; have : 0 < 2 ^ k := Nat.pow_pos (by omega); omega
def bt : Nat → Int32
  | 0 => 0
  | k + 1 => nI (2 ^ k)
theorem r_shr1 (x : Int32) : (x >>> ((1 : Int32) &&& 31)).toInt = x.toInt / 2 := by
  have e : (x >>> ((1 : Int32) &&& 31)).toBitVec = x.toBitVec.sshiftRight 1 := rfl
  show (x >>> ((1 : Int32) &&& 31)).toBitVec.toInt = _
  rw [e, BitVec.toInt_sshiftRight, Int.shiftRight_eq_div_pow]
  rfl
theorem bt_s {k : Nat} (hk : k < 15) : bt (k + 1) >>> ((1 : Int32) &&& 31) = bt k := by
  rw [r_eq, r_shr1]
  cases k with
  | zero => rfl
  | succ k =>
    show (nI (2 ^ (k + 1))).toInt / 2 = (nI (2 ^ k)).toInt
    have h1 : 2 ^ (k + 1) ≤ 2 ^ 15 := Nat.pow_le_pow_right (by omega) (by omega)
    have h2 : 2 ^ (k + 1) = 2 ^ k * 2 := Nat.pow_succ ..
    rw [nI_toInt (by omega), nI_toInt (by omega)]
    omega
theorem sq_b {a : Nat} (h : a ≤ 32768) : a * a ≤ 1073741824 := Nat.mul_le_mul h h
theorem rootC_loop {M : zMem} {S : Nat} (hS : S < 4194304) : ∀ (k v F : Nat), k ≤ 15 → v + 2 ^ k ≤ 32768 → k < F → zlX9_squareRoot_6 shC (nI S) M F (nI v) (bt k) = some (nI (rtN S k v)) := by
  intro k
  induction k with
  | zero =>
    intro v F h1 h2 hF
    obtain ⟨F, rfl⟩ : ∃ x, F = x + 1 := ⟨F - 1, by omega⟩
    simp only [zlX9_squareRoot_6]
    unfold zbX9_squareRoot_6
    rw [if_pos (show bt 0 ≤ 0 by decide)]
    rfl
  | succ k ih =>
    intro v F h1 h2 hF
    obtain ⟨F, rfl⟩ : ∃ x, F = x + 1 := ⟨F - 1, by omega⟩
    have hp : 2 ^ (k + 1) = 2 ^ k + 2 ^ k := by rw [Nat.pow_succ]; omega
    have h0 : 0 < 2 ^ k := Nat.pow_pos (by omega)
    have hq := sq_b (a := v + 2 ^ k) (by omega)
    simp only [zlX9_squareRoot_6]
    unfold zbX9_squareRoot_6 zjX9_squareRoot_23 rtN
    rw [if_neg (show ¬ bt (k + 1) ≤ 0 from nI_nle (by omega) (by omega)), show nI v + bt (k + 1) = nI (v + 2 ^ k) from nI_add _ _, pk_mul, rbd, bt_s (by omega), rbd]
    by_cases h : (v + 2 ^ k) * (v + 2 ^ k) ≤ S
    · rw [if_neg (nI_nlt h (by omega)), if_pos h]
      exact ih _ F (by omega) (by omega) (by omega)
    · rw [if_pos (nI_lt (by omega) (by omega)), if_neg h]
      exact ih _ F (by omega) (by omega) (by omega)
theorem rootM_loop {N : zMem} {p : Int32} {S : Nat} (hS : S < 4194304) : ∀ (k v F : Nat), k ≤ 15 → v + 2 ^ k ≤ 32768 → k < F → zlX12_rootAt_31 shM 0 p N F (nI S) (nI v) (bt k) = some (nI (rtN S k v)) := by
  intro k
  induction k with
  | zero =>
    intro v F h1 h2 hF
    obtain ⟨F, rfl⟩ : ∃ x, F = x + 1 := ⟨F - 1, by omega⟩
    simp only [zlX12_rootAt_31]
    unfold zbX12_rootAt_31
    rw [if_pos (show bt 0 ≤ 0 by decide)]
    rfl
  | succ k ih =>
    intro v F h1 h2 hF
    obtain ⟨F, rfl⟩ : ∃ x, F = x + 1 := ⟨F - 1, by omega⟩
    have hp : 2 ^ (k + 1) = 2 ^ k + 2 ^ k := by rw [Nat.pow_succ]; omega
    have h0 : 0 < 2 ^ k := Nat.pow_pos (by omega)
    have hq := sq_b (a := v + 2 ^ k) (by omega)
    simp only [zlX12_rootAt_31]
    unfold zbX12_rootAt_31 zjX12_rootAt_59 rtN
    rw [if_neg (show ¬ bt (k + 1) ≤ 0 from nI_nle (by omega) (by omega)), show nI v + bt (k + 1) = nI (v + 2 ^ k) from nI_add _ _, pk_mul, rbd, bt_s (by omega), rbd]
    by_cases h : (v + 2 ^ k) * (v + 2 ^ k) ≤ S
    · rw [if_neg (nI_nlt h (by omega)), if_pos h]
      exact ih _ F (by omega) (by omega) (by omega)
    · rw [if_pos (nI_lt (by omega) (by omega)), if_neg h]
      exact ih _ F (by omega) (by omega) (by omega)
theorem rt15 {S : Nat} (hS : S < 4194304) : rtN S 15 0 = rtN S 11 0 := by
  rw [show rtN S 15 0 = rtN S 14 (if (0 + 2 ^ 14) * (0 + 2 ^ 14) ≤ S then 0 + 2 ^ 14 else 0) from rfl, if_neg (by omega), show rtN S 14 0 = rtN S 13 (if (0 + 2 ^ 13) * (0 + 2 ^ 13) ≤ S then 0 + 2 ^ 13 else 0) from rfl, if_neg (by omega), show rtN S 13 0 = rtN S 12 (if (0 + 2 ^ 12) * (0 + 2 ^ 12) ≤ S then 0 + 2 ^ 12 else 0) from rfl, if_neg (by omega), show rtN S 12 0 = rtN S 11 (if (0 + 2 ^ 11) * (0 + 2 ^ 11) ≤ S then 0 + 2 ^ 11 else 0) from rfl, if_neg (by omega)]
/-- the root of both currents' squares -/
def fRoot (row : Nat → Int32) (n : Int) : Nat := rtN ((fW row n).toInt * (fW row n).toInt + (fW row (n + 64)).toInt * (fW row (n + 64)).toInt).toNat 11 0
theorem fRoot_lt {row : Nat → Int32} {n : Int} : fRoot row n < 2048 := by
  unfold fRoot
  have := rtN_lt (S := ((fW row n).toInt * (fW row n).toInt + (fW row (n + 64)).toInt * (fW row (n + 64)).toInt).toNat) 11 0
  omega
theorem fRoot_ext {r1 r2 : Nat → Int32} (h : ∀ q, q ≤ 64 → r1 q = r2 q) (n : Int) : fRoot r1 n = fRoot r2 n := by
  unfold fRoot
  rw [fW_ext h, fW_ext h]
theorem sqs {x y : Int32} (hx : btw x (-1200) 1200) (hy : btw y (-1200) 1200) : x * x + y * y = nI (x.toInt * x.toInt + y.toInt * y.toInt).toNat ∧ (x.toInt * x.toInt + y.toInt * y.toInt).toNat < 4194304 := by
  obtain ⟨a, rfl, a1, a2⟩ := iI_ex x
  obtain ⟨b, rfl, b1, b2⟩ := iI_ex y
  unfold btw at hx hy
  rw [iI_i a1 a2] at hx ⊢
  rw [iI_i b1 b2] at hy ⊢
  have sq : ∀ c : Int, -1200 ≤ c → c ≤ 1200 → 0 ≤ c * c ∧ c * c ≤ 1440000 := by
    intro c h1 h2
    have e : c * c = (c.natAbs : Int) * c.natAbs := by
      by_cases hc : 0 ≤ c
      · rw [show (c.natAbs : Int) = c by omega]
      · rw [show (c.natAbs : Int) = -c by omega, Int.neg_mul_neg]
    have h3 : c.natAbs * c.natAbs ≤ 1200 * 1200 := Nat.mul_le_mul (by omega) (by omega)
    rw [e]
    constructor
    · exact Int.mul_nonneg (by omega) (by omega)
    · have h4 : ((c.natAbs * c.natAbs : Nat) : Int) ≤ 1440000 := by omega
      rw [Int.natCast_mul] at h4
      exact h4
  have s1 := sq a hx.1 hx.2
  have s2 := sq b hy.1 hy.2
  constructor
  · rw [iI_mul, iI_mul, iI_add, iI_n]
    congr 1
    omega
  · omega
theorem rootC {M : zMem} {k : Nat} (hl : 65 ≤ zlen shC k) (hb : ∀ q, q ≤ 64 → btw (zI M k q) (-1200) 1200) (x : Int32) : zX9_rootAt shC k x M = some (nI (fRoot (zI M k) x.toInt)) := by
  unfold zX9_rootAt zX9_squareRoot
  obtain ⟨h1, h2⟩ := sqs (fW_b hb (by omega) x.toInt) (fW_b hb (by omega) (x.toInt + 64))
  rw [wave_eq _ hl, wave_eq _ hl, rob, rob, fW_64, h1]
  have := rootC_loop (M := M) h2 11 0 zF (by omega) (by omega) (by unfold zF; omega)
  rw [show (0 : Int32) = nI 0 from rfl, show (1024 : Int32) = bt 11 from rfl, this, rob]
  rfl
theorem rootM {N : zMem} (h33 : zR N 0 33 = 12) (h18 : zR N 0 18 = 8) (hb : ∀ q, q ≤ 64 → btw (fRow N q) (-1200) 1200) (x : Int32) : zX12_rootAt shM 0 x N = some (nI (fRoot (fRow N) x.toInt)) := by
  unfold zX12_rootAt
  obtain ⟨h1, h2⟩ := sqs (fW_b hb (by omega) x.toInt) (fW_b hb (by omega) (x.toInt + 64))
  rw [currentOf_0 h33 h18 x 0 (by decide), currentOf_1 h33 h18, rob, rob, rbd, Int32.add_comm, h1]
  have := rootM_loop (N := N) (p := x) h2 15 0 zF (by omega) (by omega) (by unfold zF; omega)
  rw [show (0 : Int32) = nI 0 from rfl, show (16384 : Int32) = bt 15 from rfl, this, rt15 h2]
  rfl
theorem field_loop {M N : zMem} {k : Nat} {what : Int32} (hl : 65 ≤ zlen shC k) (h33 : zR N 0 33 = 12) (h18 : zR N 0 18 = 8) (hb : ∀ q, q ≤ 64 → btw (fRow N q) (-1200) 1200) (hr : ∀ q, q ≤ 64 → zI M k q = fRow N q) (hw : what = 0 ∨ what = 1 ∨ what = 2) : ∀ (r i F F' l m : Nat), i + r = 64 → l < 64 → m < 64 → r < F → r < F' → ∃ v, zlX9_rootsOf_11 shC k what M F (nI (fRoot (fRow N) l)) (nI (fRoot (fRow N) m)) (nI l) (nI i) = some v ∧ zlX12_field_21 shM 0 what N F' (nI l) (nI m) (nI i) = some v := by
  have hbM : ∀ q, q ≤ 64 → btw (zI M k q) (-1200) 1200 := fun q hq => by rw [hr q hq]; exact hb q hq
  have cR : ∀ i : Nat, i < 64 → zX9_rootAt shC k (nI i) M = some (nI (fRoot (fRow N) i)) := fun i hi => by
    rw [rootC hl hbM, fRoot_ext hr, nI_toInt (by omega)]
  have mR : ∀ i : Nat, i < 64 → zX12_rootAt shM 0 (nI i) N = some (nI (fRoot (fRow N) i)) := fun i hi => by
    rw [rootM h33 h18 hb, nI_toInt (by omega)]
  intro r
  induction r with
  | zero =>
    intro i F F' l m h1 hl' hm hF hF'
    obtain ⟨F, rfl⟩ : ∃ x, F = x + 1 := ⟨F - 1, by omega⟩
    obtain ⟨F', rfl⟩ : ∃ x, F' = x + 1 := ⟨F' - 1, by omega⟩
    simp only [zlX9_rootsOf_11, zlX12_field_21]
    unfold zbX9_rootsOf_11 zbX12_field_21 zjX12_field_94
    rw [if_pos (show (64 : Int32) ≤ nI i from nI_le (a := 64) (by omega) (by omega)), if_pos (show (64 : Int32) ≤ nI i from nI_le (a := 64) (by omega) (by omega)), mR l hl', mR m hm, rob, rob]
    rcases hw with rfl | rfl | rfl
    · exact ⟨_, rfl, rfl⟩
    · exact ⟨_, rfl, rfl⟩
    · exact ⟨_, rfl, rfl⟩
  | succ r ih =>
    intro i F F' l m h1 hl' hm hF hF'
    obtain ⟨F, rfl⟩ : ∃ x, F = x + 1 := ⟨F - 1, by omega⟩
    obtain ⟨F', rfl⟩ : ∃ x, F' = x + 1 := ⟨F' - 1, by omega⟩
    have b1 := fRoot_lt (row := fRow N) (n := (i : Int))
    have b2 := fRoot_lt (row := fRow N) (n := (l : Int))
    have b3 := fRoot_lt (row := fRow N) (n := (m : Int))
    simp only [zlX9_rootsOf_11, zlX12_field_21]
    unfold zbX9_rootsOf_11 zbX12_field_21 zjX12_field_45 zjX12_field_62 zjX9_rootsOf_39
    rw [if_neg (show ¬ (64 : Int32) ≤ nI i from nI_ge (b := 64) (by omega) (by omega)), if_neg (show ¬ (64 : Int32) ≤ nI i from nI_ge (b := 64) (by omega) (by omega)), cR i (by omega), mR i (by omega), mR l hl', mR m hm]
    simp only [rob, nI_1]
    unfold zmax
    by_cases g1 : fRoot (fRow N) l ≤ fRoot (fRow N) i
    · rw [if_pos (nI_le g1 (by omega)), if_pos (nI_le g1 (by omega))]
      by_cases g2 : fRoot (fRow N) i ≤ fRoot (fRow N) m
      · rw [if_neg (nI_nlt g2 (by omega)), if_pos (nI_le g2 (by omega))]
        exact ih (i + 1) F F' l m (by omega) hl' hm (by omega) (by omega)
      · rw [if_pos (nI_lt (by omega) (by omega)), if_neg (nI_ge (by omega) (by omega))]
        exact ih (i + 1) F F' l i (by omega) hl' (by omega) (by omega) (by omega)
    · rw [if_neg (nI_ge (by omega) (by omega)), if_neg (nI_ge (by omega) (by omega))]
      by_cases g2 : fRoot (fRow N) i ≤ fRoot (fRow N) m
      · rw [if_neg (nI_nlt g2 (by omega)), if_pos (nI_le g2 (by omega))]
        exact ih (i + 1) F F' i m (by omega) (by omega) hm (by omega) (by omega)
      · rw [if_pos (nI_lt (by omega) (by omega)), if_neg (nI_ge (by omega) (by omega))]
        exact ih (i + 1) F F' i i (by omega) (by omega) (by omega) (by omega) (by omega)
/-- field over a row that is the reference's -/
theorem field_eq {M N : zMem} {k : Nat} {what : Int32} (hl : 65 ≤ zlen shC k) (h33 : zR N 0 33 = 12) (h18 : zR N 0 18 = 8) (hb : ∀ q, q ≤ 64 → btw (fRow N q) (-1200) 1200) (hr : ∀ q, q ≤ 64 → zI M k q = fRow N q) (hw : what = 0 ∨ what = 1 ∨ what = 2) : ∃ v, zX9_rootsOf shC k what M = some v ∧ zX12_field shM 0 what N = some v := by
  have hbM : ∀ q, q ≤ 64 → btw (zI M k q) (-1200) 1200 := fun q hq => by rw [hr q hq]; exact hb q hq
  obtain ⟨v, t1, t2⟩ := field_loop (what := what) hl h33 h18 hb hr hw 63 1 999999 zF 0 0 (by omega) (by omega) (by omega) (by omega) (by unfold zF; omega)
  have b1 := fRoot_lt (row := fRow N) (n := ((0 : Nat) : Int))
  refine ⟨v, ?_, ?_⟩
  · unfold zX9_rootsOf
    have hz : ∀ a b c d, zlX9_rootsOf_11 shC k what M zF a b c d = zbX9_rootsOf_11 shC k what M (zlX9_rootsOf_11 shC k what M 999999) a b c d := fun _ _ _ _ => rfl
    rw [hz]
    unfold zbX9_rootsOf_11 zjX9_rootsOf_39
    rw [if_neg (by decide), rootC hl hbM, rob, fRoot_ext hr, show (0 : Int32).toInt = ((0 : Nat) : Int) from rfl]
    rw [if_neg (fun g => by have := r_le.mp g; rw [nI_toInt (by omega), show (2147483647 : Int32).toInt = 2147483647 from rfl] at this; omega), zmax_r (x := (0 : Int32)) (by rw [nI_toInt (by omega)]; show (0 : Int) ≤ _; omega)]
    exact t1
  · unfold zX12_field
    rw [isIn_l what 0 2 _ _ rfl rfl, rob, if_neg (by rw [bI_0]; rcases hw with rfl | rfl | rfl <;> decide)]
    exact t2
theorem rootsOf_other {M : zMem} {k : Nat} {what : Int32} (hl : 65 ≤ zlen shC k) (hb : ∀ q, q ≤ 64 → btw (zI M k q) (-1200) 1200) (hw : ¬ (what = 0 ∨ what = 1 ∨ what = 2)) : zX9_rootsOf shC k what M = some (-1) := by
  have loop : ∀ (r i F : Nat) (a b c : Int32), i + r = 64 → r < F → zlX9_rootsOf_11 shC k what M F a b c (nI i) = some (-1) := by
    intro r
    induction r with
    | zero =>
      intro i F a b c h1 hF
      obtain ⟨F, rfl⟩ : ∃ x, F = x + 1 := ⟨F - 1, by omega⟩
      simp only [zlX9_rootsOf_11]
      unfold zbX9_rootsOf_11
      rw [if_pos (show (64 : Int32) ≤ nI i from nI_le (a := 64) (by omega) (by omega)), if_neg (fun g => hw (Or.inl g)), if_neg (fun g => hw (Or.inr (Or.inl g))), if_neg (fun g => hw (Or.inr (Or.inr g)))]
    | succ r ih =>
      intro i F a b c h1 hF
      obtain ⟨F, rfl⟩ : ∃ x, F = x + 1 := ⟨F - 1, by omega⟩
      simp only [zlX9_rootsOf_11]
      unfold zbX9_rootsOf_11 zjX9_rootsOf_39
      rw [if_neg (show ¬ (64 : Int32) ≤ nI i from nI_ge (b := 64) (by omega) (by omega)), rootC hl hb, rob, nI_1]
      split
      · exact ih (i + 1) F _ _ _ (by omega) (by omega)
      · exact ih (i + 1) F _ _ _ (by omega) (by omega)
  exact loop 64 0 zF _ _ _ (by omega) (by unfold zF; omega)
theorem B_field_ok : B_field Inv := by
  intro n M N v1 hn hI
  have hU := Inv_up n M N hI
  obtain ⟨bb, sb, it, nA, nB, ⟨hb, hC, hN, h6, h7⟩, hS⟩ := Inv_Bx hI
  have h33 : zR N 0 33 = 12 := by simp only [hN.o]
  have h18 : zR N 0 18 = 8 := by simp only [hN.o]
  have hl : 65 ≤ zlen shC (bb + 7) := by rw [(lnB hb).2.2.2.2.2.1]; exact Nat.le_refl _
  have hbR := fRow_b h6 h7
  unfold zX11_field
  simp only [hC.o, hC.b hb]
  by_cases c : v1 = 0 ∨ v1 = 1 ∨ v1 = 2
  · obtain ⟨v, t1, t2⟩ := field_eq hl h33 h18 hbR h6.row c
    exact ⟨v, M, N, by rw [t1, rob], t2, hU⟩
  · refine ⟨-1, M, N, ?_, ?_, hU⟩
    · rw [rootsOf_other hl (fun q hq => by rw [h6.row q hq]; exact hbR q hq) c, rob]
    · unfold zX12_field
      rw [isIn_l v1 0 2 _ _ rfl rfl, rob, if_pos]
      rw [bI_0]
      intro g
      have g1 : 0 ≤ v1.toInt := r_le.mp g.1
      have g2 : v1.toInt ≤ 2 := r_le.mp g.2
      rcases (show v1.toInt = 0 ∨ v1.toInt = 1 ∨ v1.toInt = 2 by omega) with k | k | k
      · exact c (Or.inl (r_eq.mpr k))
      · exact c (Or.inr (Or.inl (r_eq.mpr k)))
      · exact c (Or.inr (Or.inr (r_eq.mpr k)))
