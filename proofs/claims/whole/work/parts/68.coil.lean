/-! Phase B: coils -/
def fP (sup loss i goal m ph : Int32) : Int32 := if goal ≤ i then (if m ≤ ph then zmax 0 (i - i * loss / 1000) else zmax 0 (i - (sup + i * loss / 100) / 10)) else zmax 0 (i + (sup - i * loss / 100) / 10)
theorem pulls_eq {N : zMem} (i goal m t : Int32) : zX12_pulls shM 0 i goal m t N = some (fP (zI N 0 28) (zI N 0 29) i goal m (zrem t 8)) := by
  unfold zX12_pulls zjX12_pulls_72 zjX12_pulls_74 fP
  simp only [greater_eq, rob, rbd]
  by_cases h : goal ≤ i
  · rw [if_pos h, if_pos h]
    by_cases g : m ≤ zrem t 8
    · rw [if_pos g, if_pos g]
    · rw [if_neg g, if_neg g]
  · rw [if_neg h, if_neg h]
theorem fP_b {sup loss i goal m ph : Int32} (hi : btw i 0 2200) (hg : goal.toInt ≤ 2000) (hs : btw sup 1 2000) (hl : btw loss 1 99) : btw (fP sup loss i goal m ph) 0 2200 ∧ (¬ goal ≤ i → zmax 0 (i + (sup - i * loss / 100) / 10) = i + (sup - i * loss / 100) / 10) := by
  obtain ⟨a, rfl, _, _⟩ := iI_ex i
  obtain ⟨s, rfl, _, _⟩ := iI_ex sup
  obtain ⟨l, rfl, _, _⟩ := iI_ex loss
  obtain ⟨g, rfl, _, _⟩ := iI_ex goal
  unfold btw at hi hs hl
  rw [iI_i (by assumption) (by assumption)] at hi hs hl hg
  have p0 : 0 ≤ a * l := Int.mul_nonneg (by omega) (by omega)
  have p1 : a * l ≤ a * 99 := Int.mul_le_mul_of_nonneg_left (by omega) (by omega)
  have e0 : (0 : Int32) = iI 0 := rfl
  have e10 : (10 : Int32) = iI 10 := rfl
  have e100 : (100 : Int32) = iI 100 := rfl
  have e1000 : (1000 : Int32) = iI 1000 := rfl
  have hq : a * l / 100 ≤ a := by omega
  have hq0 : 0 ≤ a * l / 100 := by omega
  have hr : a * l / 1000 ≤ a := by omega
  have hr0 : 0 ≤ a * l / 1000 := by omega
  generalize hP : a * l = P at *
  have d1 : iI a * iI l / iI 100 = iI (P / 100) := by rw [iI_mul, hP, iI_divp (by omega) (by omega) (by omega) (by omega)]
  have d2 : iI a * iI l / iI 1000 = iI (P / 1000) := by rw [iI_mul, hP, iI_divp (by omega) (by omega) (by omega) (by omega)]
  have d3 : (iI s + iI (P / 100)) / iI 10 = iI ((s + P / 100) / 10) := by rw [iI_add, iI_divp (by omega) (by omega) (by omega) (by omega)]
  have d4 : ∃ d : Int, (iI s - iI (P / 100)) / iI 10 = iI d ∧ -a ≤ d ∧ d ≤ 200 := by
    refine ⟨(s - P / 100).tdiv 10, by rw [iI_sub, iI_div (by omega) (by omega) (by omega) (by omega) (by omega)], ?_, ?_⟩
    · by_cases h : 0 ≤ s - P / 100
      · rw [Int.tdiv_eq_ediv_of_nonneg h]; omega
      · have := Int.neg_tdiv (P / 100 - s) 10
        rw [show -(P / 100 - s) = s - P / 100 by omega] at this
        rw [this, Int.tdiv_eq_ediv_of_nonneg (by omega)]; omega
    · by_cases h : 0 ≤ s - P / 100
      · rw [Int.tdiv_eq_ediv_of_nonneg h]; omega
      · have := Int.neg_tdiv (P / 100 - s) 10
        rw [show -(P / 100 - s) = s - P / 100 by omega] at this
        rw [this, Int.tdiv_eq_ediv_of_nonneg (by omega)]; omega
  obtain ⟨d, d4, d5, d6⟩ := d4
  unfold fP btw
  rw [e0, e10, e100, e1000, d1, d2, d3, d4, iI_sub, iI_sub, iI_add, iI_max (by omega) (by omega) (by omega) (by omega), iI_max (by omega) (by omega) (by omega) (by omega)]
  have hle : (iI g ≤ iI a) = (g ≤ a) := iI_le (by omega) (by omega) (by omega) (by omega)
  simp only [hle]
  constructor
  · by_cases h : g ≤ a
    · rw [if_pos h]
      by_cases k : m ≤ ph
      · rw [if_pos k, iI_i (by omega) (by omega)]; omega
      · rw [if_neg k, iI_i (by omega) (by omega)]; omega
    · rw [if_neg h, iI_max (by omega) (by omega) (by omega) (by omega), iI_i (by omega) (by omega)]; omega
  · intro h
    rw [iI_max (by omega) (by omega) (by omega) (by omega), Int.max_eq_right (by omega)]
/-- the coil at block 182 -/
def cst (M : zMem) (i : Int32) (t : Nat) (m sup loss : Int32) : Prop := zI M 182 0 = i ∧ zI M 182 1 = nI (t % 8) ∧ zI M 182 2 = m ∧ zI M 182 3 = sup ∧ zI M 182 4 = loss
/-- nothing but block b is changed -/
def only (b : Nat) (M M1 : zMem) : Prop := M1.2.2 = M.2.2 ∧ ∀ k j, k ≠ b → zI M1 k j = zI M k j
theorem only.rf (b : Nat) (M : zMem) : only b M M := ⟨rfl, fun _ _ _ => rfl⟩
theorem only.tr {b : Nat} {M M1 M2 : zMem} (h : only b M M1) (g : only b M1 M2) : only b M M2 := ⟨g.1.trans h.1, fun k j hk => (g.2 k j hk).trans (h.2 k j hk)⟩
theorem only.p {b : Nat} {M M1 : zMem} (h : only b M M1) (j : Nat) (v : Int32) : only b M (zpI M1 b j v) := ⟨h.1, fun k i hk => by rw [rI_pI, if_neg (fun e => hk e.1)]; exact h.2 k i hk⟩
theorem only.C {b : Nat} {M M1 : zMem} (h : only b M M1) (hb : 181 ≤ b) : sameC M M1 := ⟨h.1, fun k j hk => h.2 k j (by omega)⟩
theorem rem8 (t : Nat) (ht : t < 2147483648) : zrem (nI t) 8 = nI (t % 8) := by
  rw [iI_n, show (8 : Int32) = iI 8 from rfl, iI_remp (by omega) (by omega) (by omega) (by omega), iI_n]
  congr 1
theorem rem8s (t : Nat) : zrem (nI (t % 8) + 1) 8 = nI ((t + 1) % 8) := by
  rw [nI_1, rem8 _ (by omega)]
  congr 1
  omega
theorem start_eq {M : zMem} {bb : Nat} (hb : bb ≠ 182) (m : Int32) : ∃ M1, zX2_start shC 182 bb m M = some M1 ∧ cst M1 0 0 m (zI M bb 9) (zI M bb 10) ∧ only 182 M M1 := by
  unfold zX2_start
  simp only [rbd]
  refine ⟨_, rfl, ?_, ((((only.rf 182 M).p _ _).p _ _).p _ _ |>.p _ _).p _ _⟩
  exact ⟨rfl, rfl, rfl, by simp [rI_pI, hb], by simp [rI_pI, hb]⟩
theorem step_eq {M : zMem} {i : Int32} {t : Nat} {m sup loss goal : Int32} (h : cst M i t m sup loss) (hi : btw i 0 2200) (hg : goal.toInt ≤ 2000) (hs : btw sup 1 2000) (hl : btw loss 1 99) : ∃ M1, zX2_step shC 182 goal M = some M1 ∧ cst M1 (fP sup loss i goal m (nI (t % 8))) (t + 1) m sup loss ∧ only 182 M M1 ∧ btw (fP sup loss i goal m (nI (t % 8))) 0 2200 := by
  have hb := fP_b (m := m) (ph := nI (t % 8)) hi hg hs hl
  obtain ⟨c0, c1, c2, c3, c4⟩ := h
  have hr := rem8s t
  have hrise := hb.2
  generalize hf : fP sup loss i goal m (nI (t % 8)) = F at *
  unfold fP at hf
  unfold zX2_step zjX2_step_78 zjX2_step_93
  simp only [rbd, c0, c1, c2, c3, c4]
  by_cases h1 : goal ≤ i
  · rw [if_pos h1] at hf ⊢
    by_cases h2 : m ≤ nI (t % 8)
    · rw [if_pos h2] at hf ⊢
      refine ⟨_, rfl, ?_, ((only.rf 182 M).p _ _).p _ _, hb.1⟩
      exact ⟨hf, by show zrem (zI M 182 1 + 1) 8 = _; rw [c1]; exact hr, c2, c3, c4⟩
    · rw [if_neg h2] at hf ⊢
      refine ⟨_, rfl, ?_, ((only.rf 182 M).p _ _).p _ _, hb.1⟩
      exact ⟨hf, by show zrem (zI M 182 1 + 1) 8 = _; rw [c1]; exact hr, c2, c3, c4⟩
  · rw [if_neg h1] at hf ⊢
    rw [hrise h1] at hf
    refine ⟨_, rfl, ?_, ((only.rf 182 M).p _ _).p _ _, hb.1⟩
    exact ⟨hf, by show zrem (zI M 182 1 + 1) 8 = _; rw [c1]; exact hr, c2, c3, c4⟩
theorem coil_loop {N : zMem} {goal m : Int32} {P : Nat} (hP : P ≤ 1000) (hg : goal.toInt ≤ 2000) (hs : btw (zI N 0 28) 1 2000) (hl : btw (zI N 0 29) 1 99) : ∀ (r t F F' : Nat) (M : zMem) (i : Int32), t + r = P → r < F → r < F' → zR M 0 8 = 182 → cst M i t m (zI N 0 28) (zI N 0 29) → btw i 0 2200 → ∃ (v : Int32) (M1 : zMem), zlX11_coil_46 shC 0 goal m (nI P) F (nI t) M = some (v, M1) ∧ zlX12_coil_44 shM 0 goal m (nI P) N F' i (nI t) = some v ∧ only 182 M M1 := by
  intro r
  induction r with
  | zero =>
    intro t F F' M i h1 h2 h3 hR hc hi
    obtain ⟨F, rfl⟩ : ∃ x, F = x + 1 := ⟨F - 1, by omega⟩
    obtain ⟨F', rfl⟩ : ∃ x, F' = x + 1 := ⟨F' - 1, by omega⟩
    refine ⟨i, M, ?_, ?_, only.rf _ _⟩
    · simp only [zlX11_coil_46]
      unfold zbX11_coil_46
      rw [if_pos (nI_le (by omega) (by omega)), hR, hc.1]
    · simp only [zlX12_coil_44]
      unfold zbX12_coil_44
      rw [if_pos (nI_le (by omega) (by omega))]
  | succ r ih =>
    intro t F F' M i h1 h2 h3 hR hc hi
    obtain ⟨F, rfl⟩ : ∃ x, F = x + 1 := ⟨F - 1, by omega⟩
    obtain ⟨F', rfl⟩ : ∃ x, F' = x + 1 := ⟨F' - 1, by omega⟩
    obtain ⟨M1, s1, s2, s3, s4⟩ := step_eq (goal := goal) hc hi hg hs hl
    obtain ⟨v, M2, t1, t2, t3⟩ := ih (t + 1) F F' M1 _ (by omega) (by omega) (by omega) (by unfold zR; rw [s3.1]; exact hR) s2 s4
    refine ⟨v, M2, ?_, ?_, s3.tr t3⟩
    · simp only [zlX11_coil_46]
      unfold zbX11_coil_46
      rw [if_neg (nI_ge (by omega) (by omega)), hR, s1, rob, nI_1]
      exact t1
    · simp only [zlX12_coil_44]
      unfold zbX12_coil_44
      rw [if_neg (nI_ge (by omega) (by omega)), pulls_eq, rob, nI_1, rem8 _ (by omega)]
      exact t2
theorem isMode_eq {M : zMem} (x : Int32) : zX11_isMode shC x M = some (bI ((0 : Int32) ≤ x ∧ x ≤ 8)) := by
  unfold zX11_isMode
  rw [within_eq, rob, rgd (bI_B _)]
/-- isIn of an int against literals, as the class asks it -/
theorem isIn_l {sh : zShp} {M : zMem} (x b c : Int32) (b' c' : Int64) (hb : b'.toInt = b.toInt) (hc : c'.toInt = c.toInt) : zX12_isIn sh x.toInt64 b' c' M = some (bI (b ≤ x ∧ x ≤ c)) := by
  rw [isIn_eq, Int32.toInt_toInt64, hb, hc]
  congr 1
  exact bI_c (by rw [r_le, r_le])
theorem B_coil_ok : B_coil Inv := by
  intro n M N v1 v2 v3 hn hI
  have hU := Inv_up n M N hI
  have hI' := hI
  obtain ⟨bb, sb, it, nA, nB, h1, h2, h3, h4, h5, h6, h7, h8, h9⟩ := hI
  have hb : bb = 1 ∨ bb = 13 := by omega
  obtain ⟨-, -, -, -, -, -, -, b8, b9, b10, b11, -⟩ := h6
  unfold zX11_coil zX12_coil zjX11_coil_29 zjX12_coil_36
  rw [within_eq, rob, isMode_eq, rob, within_eq, rob, isIn_l v1 0 2000 _ _ rfl rfl, rob, isIn_l v2 0 8 _ _ rfl rfl, rob, isIn_l v3 0 1000 _ _ rfl rfl, rob]
  simp only [bI_0]
  by_cases c1 : (0 : Int32) ≤ v1 ∧ v1 ≤ 2000
  · rw [if_neg (nn c1), if_neg (nn c1)]
    by_cases c2 : (0 : Int32) ≤ v2 ∧ v2 ≤ 8
    · rw [if_neg (nn c2), if_neg (nn c2)]
      by_cases c3 : (0 : Int32) ≤ v3 ∧ v3 ≤ 1000
      · rw [if_neg (nn c3), if_neg (nn c3)]
        have g1 : v1.toInt ≤ 2000 := r_le.mp c1.2
        have g2 : 0 ≤ v3.toInt := r_le.mp c3.1
        have g3 : v3.toInt ≤ 1000 := r_le.mp c3.2
        obtain ⟨P, hP, rfl⟩ := ax_ex (nA := 1001) ⟨g2, by omega⟩
        obtain ⟨M1, s1, s2, s3⟩ := start_eq (M := M) (bb := bb) (by omega) v2
        have e8 : zR M 0 8 = 182 := by simp only [h2.o]
        have e11 : zR M 0 11 = bb := by simp only [h2.o]
        rw [e8, e11, s1, rob]
        rw [b8, b10] at s2
        obtain ⟨v, M2, t1, t2, t3⟩ := coil_loop (N := N) (goal := v1) (m := v2) (P := P) (by omega) g1 b9 b11 P 0 zF zF M1 0 (by omega) (by unfold zF; omega) (by unfold zF; omega) (by unfold zR; rw [s3.1]; exact e8) s2 ⟨by decide, by decide⟩
        exact ⟨v, M2, N, t1, t2, Inv_same hI' ((s3.tr t3).C (by omega)) (sameN.rf N)⟩
      · exact ⟨_, M, N, if_pos c3, if_pos c3, hU⟩
    · exact ⟨_, M, N, if_pos c2, if_pos c2, hU⟩
  · exact ⟨_, M, N, if_pos c1, if_pos c1, hU⟩
