/-! Phase B: the calls that only tell -/
theorem clL : ((0 : Int32).toNatClampNeg = 0) ∧ ((1 : Int32).toNatClampNeg = 1) ∧ ((2 : Int32).toNatClampNeg = 2) ∧ ((3 : Int32).toNatClampNeg = 3) ∧ ((4 : Int32).toNatClampNeg = 4) ∧ ((5 : Int32).toNatClampNeg = 5) ∧ ((6 : Int32).toNatClampNeg = 6) ∧ ((7 : Int32).toNatClampNeg = 7) ∧ ((8 : Int32).toNatClampNeg = 8) ∧ ((9 : Int32).toNatClampNeg = 9) ∧ ((10 : Int32).toNatClampNeg = 10) ∧ ((11 : Int32).toNatClampNeg = 11) ∧ ((12 : Int32).toNatClampNeg = 12) ∧ ((13 : Int32).toNatClampNeg = 13) ∧ ((14 : Int32).toNatClampNeg = 14) ∧ ((15 : Int32).toNatClampNeg = 15) ∧ ((16 : Int32).toNatClampNeg = 16) ∧ ((17 : Int32).toNatClampNeg = 17) ∧ ((18 : Int32).toNatClampNeg = 18) ∧ ((19 : Int32).toNatClampNeg = 19) ∧ ((20 : Int32).toNatClampNeg = 20) ∧ ((21 : Int32).toNatClampNeg = 21) ∧ ((22 : Int32).toNatClampNeg = 22) ∧ ((23 : Int32).toNatClampNeg = 23) ∧ ((24 : Int32).toNatClampNeg = 24) ∧ ((25 : Int32).toNatClampNeg = 25) ∧ ((26 : Int32).toNatClampNeg = 26) ∧ ((30 : Int32).toNatClampNeg = 30) ∧ ((48 : Int32).toNatClampNeg = 48) ∧ ((64 : Int32).toNatClampNeg = 64) ∧ ((130 : Int32).toNatClampNeg = 130) := ⟨rfl, rfl, rfl, rfl, rfl, rfl, rfl, rfl, rfl, rfl, rfl, rfl, rfl, rfl, rfl, rfl, rfl, rfl, rfl, rfl, rfl, rfl, rfl, rfl, rfl, rfl, rfl, rfl, rfl, rfl, rfl⟩
theorem nn {p : Prop} (h : p) : ¬ ¬ p := fun g => g h
theorem bI_c {p q : Prop} [Decidable p] [Decidable q] (h : p ↔ q) : bI p = bI q := by
  by_cases g : p
  · rw [bI_t g, bI_t (h.mp g)]
  · rw [bI_f g, bI_f (fun x => g (h.mpr x))]
theorem ob_s {α β : Type} {x : Option α} {a : α} {f : α → Option β} (h : x = some a) : zob x f = f a := by rw [h]; rfl
theorem ob2_s {α β γ : Type} {x : Option (α × β)} {a : α} {b : β} {f : α → β → Option γ} (h : x = some (a, b)) : zob2 x f = f a b := by rw [h]; rfl
theorem axisC {M : zMem} {bb nA : Nat} (hb : zR M 0 11 = bb) (hn : zI M bb 6 = nI nA) (h3 : nA ≤ 3) (x : Int32) : zX11_isAxis shC 0 x M = some (bI (0 ≤ x.toInt ∧ x.toInt < nA)) := by
  have e0 : (0 : Int32).toInt = 0 := rfl
  unfold zX11_isAxis zjX11_isAxis_19 zjX11_isAxis_20
  rw [hb, hn]
  by_cases h1 : x < 0
  · rw [if_pos h1, bI_f (by have := r_lt.mp h1; rw [e0] at this; omega)]; rfl
  · rw [if_neg h1]
    have h1' : ¬ x.toInt < 0 := fun h => h1 (r_lt.mpr h)
    by_cases h2 : nI nA ≤ x
    · rw [if_pos h2, bI_f (by have := r_le.mp h2; rw [nI_toInt (by omega)] at this; omega)]; rfl
    · rw [if_neg h2, bI_t (by have := n_le h2; rw [nI_toInt (by omega)] at this; omega)]; rfl
theorem axisM {N : zMem} {nA : Nat} (hn : zI N 0 22 = nI nA) (h3 : nA ≤ 3) (x : Int32) : zX12_isAxis shM 0 x N = some (bI (0 ≤ x.toInt ∧ x.toInt < nA)) := by
  unfold zX12_isAxis
  have e : (nI nA - 1).toInt = (nA : Int) - 1 := by
    rw [iI_n, show (1 : Int32) = iI 1 from rfl, iI_sub, iI_i (by omega) (by omega)]
  have e0 : (0 : Int64).toInt = 0 := rfl
  rw [hn, isIn_eq, rob, rgd (bI_B _), Int32.toInt_toInt64, Int32.toInt_toInt64, e, e0]
  congr 1
  exact bI_c (by omega)
theorem ax_ex {x : Int32} {nA : Nat} (h : 0 ≤ x.toInt ∧ x.toInt < nA) : ∃ a : Nat, a < nA ∧ x = nI a := ⟨x.toInt.toNat, by omega, by rw [iI_n, Int.toNat_of_nonneg h.1, iI_t]⟩
theorem axisAt_0 {N : zMem} (h : zR N 0 0 = 1) {a : Nat} (ha : a < 3) : zX12_axisAt shM 0 (nI a) (0 : Int32) N = some (zI N 1 (48 + 6 * a + 0)) := by
  unfold zX12_axisAt
  rw [h, iI_n, show ((48 : Int32) + (6 : Int32) * iI a + (0 : Int32)) = iI (48 + 6 * a + 0) by rw [show (48 : Int32) = iI 48 from rfl, show (6 : Int32) = iI 6 from rfl, show (0 : Int32) = iI 0 from rfl, iI_mul, iI_add, iI_add], rgd (iI_in (by omega) (by show _ < ((194 : Nat) : Int); omega) (by omega)), iI_cl (by omega) (by omega), show (48 + 6 * (a : Int) + 0).toNat = 48 + 6 * a + 0 by omega]
theorem sets_0 {N : zMem} (h : zR N 0 0 = 1) {a : Nat} (ha : a < 3) (v : Int32) : zX12_setsAxis shM 0 (nI a) (0 : Int32) v N = some (zpI N 1 (48 + 6 * a + 0) v) := by
  unfold zX12_setsAxis
  rw [h, iI_n, show ((48 : Int32) + (6 : Int32) * iI a + (0 : Int32)) = iI (48 + 6 * a + 0) by rw [show (48 : Int32) = iI 48 from rfl, show (6 : Int32) = iI 6 from rfl, show (0 : Int32) = iI 0 from rfl, iI_mul, iI_add, iI_add], rgd (iI_in (by omega) (by show _ < ((194 : Nat) : Int); omega) (by omega)), iI_cl (by omega) (by omega), show (48 + 6 * (a : Int) + 0).toNat = 48 + 6 * a + 0 by omega, rbd]
theorem axisAt_1 {N : zMem} (h : zR N 0 0 = 1) {a : Nat} (ha : a < 3) : zX12_axisAt shM 0 (nI a) (1 : Int32) N = some (zI N 1 (48 + 6 * a + 1)) := by
  unfold zX12_axisAt
  rw [h, iI_n, show ((48 : Int32) + (6 : Int32) * iI a + (1 : Int32)) = iI (48 + 6 * a + 1) by rw [show (48 : Int32) = iI 48 from rfl, show (6 : Int32) = iI 6 from rfl, show (1 : Int32) = iI 1 from rfl, iI_mul, iI_add, iI_add], rgd (iI_in (by omega) (by show _ < ((194 : Nat) : Int); omega) (by omega)), iI_cl (by omega) (by omega), show (48 + 6 * (a : Int) + 1).toNat = 48 + 6 * a + 1 by omega]
theorem sets_1 {N : zMem} (h : zR N 0 0 = 1) {a : Nat} (ha : a < 3) (v : Int32) : zX12_setsAxis shM 0 (nI a) (1 : Int32) v N = some (zpI N 1 (48 + 6 * a + 1) v) := by
  unfold zX12_setsAxis
  rw [h, iI_n, show ((48 : Int32) + (6 : Int32) * iI a + (1 : Int32)) = iI (48 + 6 * a + 1) by rw [show (48 : Int32) = iI 48 from rfl, show (6 : Int32) = iI 6 from rfl, show (1 : Int32) = iI 1 from rfl, iI_mul, iI_add, iI_add], rgd (iI_in (by omega) (by show _ < ((194 : Nat) : Int); omega) (by omega)), iI_cl (by omega) (by omega), show (48 + 6 * (a : Int) + 1).toNat = 48 + 6 * a + 1 by omega, rbd]
theorem axisAt_2 {N : zMem} (h : zR N 0 0 = 1) {a : Nat} (ha : a < 3) : zX12_axisAt shM 0 (nI a) (2 : Int32) N = some (zI N 1 (48 + 6 * a + 2)) := by
  unfold zX12_axisAt
  rw [h, iI_n, show ((48 : Int32) + (6 : Int32) * iI a + (2 : Int32)) = iI (48 + 6 * a + 2) by rw [show (48 : Int32) = iI 48 from rfl, show (6 : Int32) = iI 6 from rfl, show (2 : Int32) = iI 2 from rfl, iI_mul, iI_add, iI_add], rgd (iI_in (by omega) (by show _ < ((194 : Nat) : Int); omega) (by omega)), iI_cl (by omega) (by omega), show (48 + 6 * (a : Int) + 2).toNat = 48 + 6 * a + 2 by omega]
theorem sets_2 {N : zMem} (h : zR N 0 0 = 1) {a : Nat} (ha : a < 3) (v : Int32) : zX12_setsAxis shM 0 (nI a) (2 : Int32) v N = some (zpI N 1 (48 + 6 * a + 2) v) := by
  unfold zX12_setsAxis
  rw [h, iI_n, show ((48 : Int32) + (6 : Int32) * iI a + (2 : Int32)) = iI (48 + 6 * a + 2) by rw [show (48 : Int32) = iI 48 from rfl, show (6 : Int32) = iI 6 from rfl, show (2 : Int32) = iI 2 from rfl, iI_mul, iI_add, iI_add], rgd (iI_in (by omega) (by show _ < ((194 : Nat) : Int); omega) (by omega)), iI_cl (by omega) (by omega), show (48 + 6 * (a : Int) + 2).toNat = 48 + 6 * a + 2 by omega, rbd]
theorem axisAt_3 {N : zMem} (h : zR N 0 0 = 1) {a : Nat} (ha : a < 3) : zX12_axisAt shM 0 (nI a) (3 : Int32) N = some (zI N 1 (48 + 6 * a + 3)) := by
  unfold zX12_axisAt
  rw [h, iI_n, show ((48 : Int32) + (6 : Int32) * iI a + (3 : Int32)) = iI (48 + 6 * a + 3) by rw [show (48 : Int32) = iI 48 from rfl, show (6 : Int32) = iI 6 from rfl, show (3 : Int32) = iI 3 from rfl, iI_mul, iI_add, iI_add], rgd (iI_in (by omega) (by show _ < ((194 : Nat) : Int); omega) (by omega)), iI_cl (by omega) (by omega), show (48 + 6 * (a : Int) + 3).toNat = 48 + 6 * a + 3 by omega]
theorem sets_3 {N : zMem} (h : zR N 0 0 = 1) {a : Nat} (ha : a < 3) (v : Int32) : zX12_setsAxis shM 0 (nI a) (3 : Int32) v N = some (zpI N 1 (48 + 6 * a + 3) v) := by
  unfold zX12_setsAxis
  rw [h, iI_n, show ((48 : Int32) + (6 : Int32) * iI a + (3 : Int32)) = iI (48 + 6 * a + 3) by rw [show (48 : Int32) = iI 48 from rfl, show (6 : Int32) = iI 6 from rfl, show (3 : Int32) = iI 3 from rfl, iI_mul, iI_add, iI_add], rgd (iI_in (by omega) (by show _ < ((194 : Nat) : Int); omega) (by omega)), iI_cl (by omega) (by omega), show (48 + 6 * (a : Int) + 3).toNat = 48 + 6 * a + 3 by omega, rbd]
theorem axisAt_4 {N : zMem} (h : zR N 0 0 = 1) {a : Nat} (ha : a < 3) : zX12_axisAt shM 0 (nI a) (4 : Int32) N = some (zI N 1 (48 + 6 * a + 4)) := by
  unfold zX12_axisAt
  rw [h, iI_n, show ((48 : Int32) + (6 : Int32) * iI a + (4 : Int32)) = iI (48 + 6 * a + 4) by rw [show (48 : Int32) = iI 48 from rfl, show (6 : Int32) = iI 6 from rfl, show (4 : Int32) = iI 4 from rfl, iI_mul, iI_add, iI_add], rgd (iI_in (by omega) (by show _ < ((194 : Nat) : Int); omega) (by omega)), iI_cl (by omega) (by omega), show (48 + 6 * (a : Int) + 4).toNat = 48 + 6 * a + 4 by omega]
theorem sets_4 {N : zMem} (h : zR N 0 0 = 1) {a : Nat} (ha : a < 3) (v : Int32) : zX12_setsAxis shM 0 (nI a) (4 : Int32) v N = some (zpI N 1 (48 + 6 * a + 4) v) := by
  unfold zX12_setsAxis
  rw [h, iI_n, show ((48 : Int32) + (6 : Int32) * iI a + (4 : Int32)) = iI (48 + 6 * a + 4) by rw [show (48 : Int32) = iI 48 from rfl, show (6 : Int32) = iI 6 from rfl, show (4 : Int32) = iI 4 from rfl, iI_mul, iI_add, iI_add], rgd (iI_in (by omega) (by show _ < ((194 : Nat) : Int); omega) (by omega)), iI_cl (by omega) (by omega), show (48 + 6 * (a : Int) + 4).toNat = 48 + 6 * a + 4 by omega, rbd]
theorem axisAt_5 {N : zMem} (h : zR N 0 0 = 1) {a : Nat} (ha : a < 3) : zX12_axisAt shM 0 (nI a) (5 : Int32) N = some (zI N 1 (48 + 6 * a + 5)) := by
  unfold zX12_axisAt
  rw [h, iI_n, show ((48 : Int32) + (6 : Int32) * iI a + (5 : Int32)) = iI (48 + 6 * a + 5) by rw [show (48 : Int32) = iI 48 from rfl, show (6 : Int32) = iI 6 from rfl, show (5 : Int32) = iI 5 from rfl, iI_mul, iI_add, iI_add], rgd (iI_in (by omega) (by show _ < ((194 : Nat) : Int); omega) (by omega)), iI_cl (by omega) (by omega), show (48 + 6 * (a : Int) + 5).toNat = 48 + 6 * a + 5 by omega]
theorem sets_5 {N : zMem} (h : zR N 0 0 = 1) {a : Nat} (ha : a < 3) (v : Int32) : zX12_setsAxis shM 0 (nI a) (5 : Int32) v N = some (zpI N 1 (48 + 6 * a + 5) v) := by
  unfold zX12_setsAxis
  rw [h, iI_n, show ((48 : Int32) + (6 : Int32) * iI a + (5 : Int32)) = iI (48 + 6 * a + 5) by rw [show (48 : Int32) = iI 48 from rfl, show (6 : Int32) = iI 6 from rfl, show (5 : Int32) = iI 5 from rfl, iI_mul, iI_add, iI_add], rgd (iI_in (by omega) (by show _ < ((194 : Nat) : Int); omega) (by omega)), iI_cl (by omega) (by omega), show (48 + 6 * (a : Int) + 5).toNat = 48 + 6 * a + 5 by omega, rbd]
theorem angleM {N : zMem} (h : zR N 0 0 = 1) {a : Nat} (ha : a < 3) : zX12_angle shM 0 (nI a) N = some (16 * zI N 1 (48 + 6 * a) - zI N 1 (48 + 6 * a + 1)) := by
  unfold zX12_angle zX12_angleBy
  rw [axisAt_0 h ha, axisAt_1 h ha, rob, rob, rob]
  rfl
theorem rfC.ax {M : zMem} {bb sb it b a : Nat} (h : rfC M bb sb it) (hb : b = 1 ∨ b = 13) (ha : a < 3) : zR M (b + 1) a = b + 9 + a := by
  have := h.b hb
  rcases (show a = 0 ∨ a = 1 ∨ a = 2 by omega) with rfl | rfl | rfl
  · exact this.2.2.2.2.2.2.1
  · exact this.2.2.2.2.2.2.2.1
  · exact this.2.2.2.2.2.2.2.2.1
theorem rfC.ro {M : zMem} {bb sb it b a : Nat} (h : rfC M bb sb it) (hb : stB b) (ha : a < 3) : zR M (b + 1) a = b + 9 + a := by
  have := h.s hb
  rcases (show a = 0 ∨ a = 1 ∨ a = 2 by omega) with rfl | rfl | rfl
  · exact this.2.2.2.2.1
  · exact this.2.2.2.2.2.1
  · exact this.2.2.2.2.2.2.1
theorem in_a {a n : Nat} (h : a < n) (hn : n < 2147483648) : zin (nI a) n = true := by
  rw [iI_n]; exact iI_in (by omega) (by omega) (by omega)
theorem st28 : stB 28 := Or.inl rfl
theorem st40 : stB 40 := Or.inr (Or.inl rfl)
/-- the view's places -/
theorem vSt_at {M : zMem} {b k j : Nat} (h : relS k j = true) : vSt M b k j = zI M (b + k) j := if_pos h
theorem vSt_ro {M : zMem} {b a j : Nat} (ha : a < 3) (hj : j < 6) : vSt M b (9 + a) j = zI M (b + 9 + a) j := by
  rw [vSt_at, Nat.add_assoc]
  unfold relS
  simp only [Bool.or_eq_true, Bool.and_eq_true, beq_iff_eq, decide_eq_true_eq]
  omega
theorem B_fault_ok : B_fault Inv := by
  intro n M N v1 hn hI
  have hU := Inv_up n M N hI
  obtain ⟨bb, sb, it, nA, nB, h1, h2, h3, h4, h5, h6, h7, h8, h9⟩ := hI
  unfold zX11_fault zX12_fault zjX12_fault_24
  simp only [h2.o, h5.1, h5.2.1]
  by_cases c0 : v1 = 0
  · exact ⟨_, M, N, if_pos c0, if_pos c0, hU⟩
  · by_cases c1 : v1 = 1
    · exact ⟨_, M, N, by rw [if_neg c0, if_pos c1], by rw [if_neg c0, if_pos c1], hU⟩
    · exact ⟨_, M, N, by rw [if_neg c0, if_neg c1], by rw [if_neg c0, if_neg c1], hU⟩
theorem B_table_ok : B_table Inv := by
  intro n M N v1 v2 hn hI
  have hU := Inv_up n M N hI
  obtain ⟨bb, sb, it, nA, nB, h1, h2, h3, h4, h5, h6, h7, h8, h9⟩ := hI
  have hb : bb = 1 ∨ bb = 13 := by omega
  have e0 : (0 : Int32).toInt = 0 := rfl
  have e64 : (64 : Int32).toInt = 64 := rfl
  have f0 : (0 : Int64).toInt = 0 := rfl
  have f64 : (64 : Int64).toInt = 64 := rfl
  unfold zX11_table zX12_table zjX12_table_53
  rw [within_eq, isIn_eq, rob, rob, Int32.toInt_toInt64, f0, f64]
  simp only [bI_0, h2.o, h2.b hb, h3.o, lnM, lnB hb]
  simp only [r_le, e0, e64]
  by_cases h : 0 ≤ v1.toInt ∧ v1.toInt ≤ 64
  · obtain ⟨q, hq, rfl⟩ := ax_ex (nA := 65) ⟨h.1, by omega⟩
    have hq' := h6.2.2.2.2.2.2.2.2.2.2.2.2.2 q (by omega)
    have hp : zI M (bb + 6) q = zI N 12 q := by
      rcases hb with rfl | rfl
      · exact (h7 q (by omega)).1
      · exact (h7 q (by omega)).2.1
    rw [rgd (in_a hq (by omega)), rgd (in_a hq (by omega)), rgd (in_a hq (by omega)), rgd (in_a hq (by omega)), nI_clamp (by omega), hp, hq'.1]
    rw [if_neg (nn h), if_neg (nn h)]
    by_cases c0 : v2 = 0
    · exact ⟨_, M, N, if_pos c0, if_pos c0, hU⟩
    · by_cases c1 : v2 = 1
      · exact ⟨_, M, N, by rw [if_neg c0, if_pos c1], by rw [if_neg c0, if_pos c1, rgd (in_a hq (by omega))], hU⟩
      · exact ⟨_, M, N, by rw [if_neg c0, if_neg c1], by rw [if_neg c0, if_neg c1], hU⟩
  · exact ⟨_, M, N, if_pos h, if_pos h, hU⟩
theorem B_current_ok : B_current Inv := by
  intro n M N v1 v2 hn hI
  have hU := Inv_up n M N hI
  obtain ⟨bb, sb, it, nA, nB, h1, h2, h3, h4, h5, h6, h7, h8, h9⟩ := hI
  have hb : bb = 1 ∨ bb = 13 := by omega
  have hN := h3.o
  have h33 : zR N 0 33 = 12 := by simp only [hN]
  have h18 : zR N 0 18 = 8 := by simp only [hN]
  have hrow : ∀ q, q ≤ 64 → zI M (bb + 7) q = fRow N q := fun q hq => (h6.2.2.2.2.2.2.2.2.2.2.2.2.2 q hq).1
  have f0 : (0 : Int64).toInt = 0 := rfl
  have f1 : (1 : Int64).toInt = 1 := rfl
  unfold zX11_current zX12_current zjX12_current_21
  simp only [h2.o, h2.b hb]
  rw [isIn_eq, rob, Int32.toInt_toInt64, f0, f1]
  simp only [bI_0]
  rw [wave_eq _ (by rw [(lnB hb).2.2.2.2.2.1]; exact Nat.le_refl _), wave_eq _ (by rw [(lnB hb).2.2.2.2.2.1]; exact Nat.le_refl _), rob, rob, fW_64, fW_ext hrow, fW_ext hrow]
  by_cases c0 : v2 = 0
  · subst c0
    exact ⟨_, M, N, if_pos rfl, by rw [if_neg (by decide), currentOf_0 h33 h18 _ _ (by decide), rob], hU⟩
  · by_cases c1 : v2 = 1
    · subst c1
      exact ⟨_, M, N, by rw [if_neg c0, if_pos rfl], by rw [if_neg (by decide), currentOf_1 h33 h18, rob], hU⟩
    · refine ⟨_, M, N, by rw [if_neg c0, if_neg c1], if_pos ?_, hU⟩
      intro h
      rcases (show v2.toInt = 0 ∨ v2.toInt = 1 by omega) with g | g
      · exact c0 (r_eq.mpr g)
      · exact c1 (r_eq.mpr g)
theorem sw8 (x : Int32) : x = 0 ∨ x = 1 ∨ x = 2 ∨ x = 3 ∨ x = 4 ∨ x = 5 ∨ x = 6 ∨ x = 7 ∨ ¬ (0 ≤ x.toInt ∧ x.toInt ≤ 7) := by
  by_cases h : 0 ≤ x.toInt ∧ x.toInt ≤ 7
  · rcases (show x.toInt = 0 ∨ x.toInt = 1 ∨ x.toInt = 2 ∨ x.toInt = 3 ∨ x.toInt = 4 ∨ x.toInt = 5 ∨ x.toInt = 6 ∨ x.toInt = 7 by omega) with g | g | g | g | g | g | g | g
    · exact Or.inl (r_eq.mpr g)
    · exact Or.inr (Or.inl (r_eq.mpr g))
    · exact Or.inr (Or.inr (Or.inl (r_eq.mpr g)))
    · exact Or.inr (Or.inr (Or.inr (Or.inl (r_eq.mpr g))))
    · exact Or.inr (Or.inr (Or.inr (Or.inr (Or.inl (r_eq.mpr g)))))
    · exact Or.inr (Or.inr (Or.inr (Or.inr (Or.inr (Or.inl (r_eq.mpr g))))))
    · exact Or.inr (Or.inr (Or.inr (Or.inr (Or.inr (Or.inr (Or.inl (r_eq.mpr g)))))))
    · exact Or.inr (Or.inr (Or.inr (Or.inr (Or.inr (Or.inr (Or.inr (Or.inl (r_eq.mpr g))))))))
  · exact Or.inr (Or.inr (Or.inr (Or.inr (Or.inr (Or.inr (Or.inr (Or.inr h)))))))
theorem ne_of {x : Int32} {a : Int} (c : Int32) (h : c.toInt = a) (g : ¬ x.toInt = a) : ¬ x = c := fun e => g (by rw [e, h])
theorem B_axis_ok : B_axis Inv := by
  intro n M N v1 v2 hn hI
  have hU := Inv_up n M N hI
  obtain ⟨bb, sb, it, nA, nB, h1, h2, h3, h4, h5, h6, h7, h8, h9⟩ := hI
  have hb : bb = 1 ∨ bb = 13 := by omega
  have hN := h3.o
  have h11 : zR M 0 11 = bb := by simp only [h2.o]
  unfold zX11_axis zX12_axis zjX12_axis_20 zjX12_axis_56 zjX12_axis_59
  rw [axisC h11 h6.2.2.1 h6.1, axisM h6.2.2.2.1 h6.1, rob, rob]
  simp only [bI_0]
  by_cases h : 0 ≤ v1.toInt ∧ v1.toInt < nA
  · obtain ⟨a, ha, rfl⟩ := ax_ex h
    have ha3 : a < 3 := by have := h6.1; omega
    have hax := h6.2.2.2.2.2.2.2.2.2.2.2.1 a ha
    have hro := h8.2.2.2.2.2.2.2.2.1 a ha
    have r3 := hro.1 3 (by omega)
    have r4 := hro.1 4 (by omega)
    rw [vSt_ro ha3 (by omega)] at r3 r4
    rw [if_neg (nn h), if_neg (nn h), isIn_eq, rob, Int32.toInt_toInt64]
    simp only [bI_0, h2.o, h2.b hb, h2.s st28, hN, lnB hb, lnS st28, lnM, nI_clamp (show a < 2 ^ 31 by omega), h2.ax hb ha3, h2.ro st28 ha3, rgd (in_a ha3 (show 3 < 2147483648 by omega)), axisAt_3 (h3.o).1 ha3, axisAt_4 (h3.o).1 ha3, rob]
    have hx : ∀ j : Nat, j < 6 → ∀ c : Int32, c = nI j → zI M (bb + 9 + a) (j + 1) = zI N 4 ((6 : Int32) * nI a + c).toNatClampNeg ∧ zin ((6 : Int32) * nI a + c) 18 = true := by
      intro j hj c hc
      have e : (6 : Int32) * nI a + c = iI (6 * a + j) := by rw [hc, iI_n, iI_n, show (6 : Int32) = iI 6 from rfl, iI_mul, iI_add]
      rw [e, iI_cl (by omega) (by omega), show (6 * (a : Int) + j).toNat = 6 * a + j by omega]
      exact ⟨hax.1 j hj, iI_in (by omega) (by omega) (by omega)⟩
    rcases sw8 v2 with rfl | rfl | rfl | rfl | rfl | rfl | rfl | rfl | g
    · exact ⟨_, M, N, if_pos rfl, by rw [if_neg (by decide), if_neg (by decide), rgd (hx 0 (by omega) 0 rfl).2, (hx 0 (by omega) 0 rfl).1], hU⟩
    · exact ⟨_, M, N, by rw [if_neg (by decide), if_pos rfl], by rw [if_neg (by decide), if_neg (by decide), rgd (hx 1 (by omega) 1 rfl).2, (hx 1 (by omega) 1 rfl).1], hU⟩
    · exact ⟨_, M, N, by rw [if_neg (by decide), if_neg (by decide), if_pos rfl], by rw [if_neg (by decide), if_neg (by decide), rgd (hx 2 (by omega) 2 rfl).2, (hx 2 (by omega) 2 rfl).1], hU⟩
    · exact ⟨_, M, N, by rw [if_neg (by decide), if_neg (by decide), if_neg (by decide), if_pos rfl], by rw [if_neg (by decide), if_neg (by decide), rgd (hx 3 (by omega) 3 rfl).2, (hx 3 (by omega) 3 rfl).1], hU⟩
    · exact ⟨_, M, N, by rw [if_neg (by decide), if_neg (by decide), if_neg (by decide), if_neg (by decide), if_pos rfl], by rw [if_neg (by decide), if_neg (by decide), rgd (hx 4 (by omega) 4 rfl).2, (hx 4 (by omega) 4 rfl).1], hU⟩
    · exact ⟨_, M, N, by rw [if_neg (by decide), if_neg (by decide), if_neg (by decide), if_neg (by decide), if_neg (by decide), if_pos rfl], by rw [if_neg (by decide), if_neg (by decide), rgd (hx 5 (by omega) 5 rfl).2, (hx 5 (by omega) 5 rfl).1], hU⟩
    · exact ⟨_, M, N, by rw [if_neg (by decide), if_neg (by decide), if_neg (by decide), if_neg (by decide), if_neg (by decide), if_neg (by decide), if_pos rfl], by rw [if_neg (by decide), if_pos (by decide), if_pos rfl, ← r3], hU⟩
    · exact ⟨_, M, N, by rw [if_neg (by decide), if_neg (by decide), if_neg (by decide), if_neg (by decide), if_neg (by decide), if_neg (by decide), if_neg (by decide), if_pos rfl], by rw [if_neg (by decide), if_pos (by decide), if_neg (by decide), ← r4], hU⟩
    · refine ⟨_, M, N, by rw [if_neg (ne_of _ rfl (show ¬ v2.toInt = 0 by omega)), if_neg (ne_of _ rfl (show ¬ v2.toInt = 1 by omega)), if_neg (ne_of _ rfl (show ¬ v2.toInt = 2 by omega)), if_neg (ne_of _ rfl (show ¬ v2.toInt = 3 by omega)), if_neg (ne_of _ rfl (show ¬ v2.toInt = 4 by omega)), if_neg (ne_of _ rfl (show ¬ v2.toInt = 5 by omega)), if_neg (ne_of _ rfl (show ¬ v2.toInt = 6 by omega)), if_neg (ne_of _ rfl (show ¬ v2.toInt = 7 by omega))], if_pos g, hU⟩
  · exact ⟨_, M, N, if_pos h, if_pos h, hU⟩
