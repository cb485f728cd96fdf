/-! Phase B: axes told to be where their rotors are -/
theorem h_ro {M N : zMem} {nA a b : Nat} {T : Int} (h : rSt (vSt M b) (zI N 1) nA T) (ha : a < nA) (ha3 : a < 3) : zI M (b + 9 + a) 0 = zI N 1 (48 + 6 * a + 0) ∧ zI M (b + 9 + a) 1 = zI N 1 (48 + 6 * a + 1) ∧ zI M (b + 9 + a) 5 = zI N 1 (48 + 6 * a + 5) := by
  have g := (h.2.2.2.2.2.2.2.2.1 a ha).1
  have r0 := g 0 (by omega)
  have r1 := g 1 (by omega)
  have r5 := g 5 (by omega)
  rw [vSt_ro ha3 (by omega)] at r0 r1 r5
  exact ⟨r0, r1, r5⟩
def inR (v : Int) : Prop := -30000 ≤ v ∧ v ≤ 30000
theorem true_look {M N : zMem} {bb sb it nA nB : Nat} {T : Int} (hB : Bx M N bb sb it nA nB) (hS : rSt (vSt M 28) (zI N 1) nA T) : ∀ (r a F F' : Nat) (x1 x2 : Int32), a + r = nA → r < F → r < F' → (∀ c, c < a → inR ((zI N 1 (48 + 6 * c + 1)).toInt / 16)) → (zlX11_trueUp_18 shC 0 F x1 x2 (nI a) M = some (-1, M) ∧ zlX12_trueUp_18 shM 0 F' x1 x2 (nI a) N = some (-1, N)) ∨ ∃ y, zlX11_trueUp_18 shC 0 F x1 x2 (nI a) M = zjX11_trueUp_109 shC 0 y M ∧ zlX12_trueUp_18 shM 0 F' x1 x2 (nI a) N = zjX12_trueUp_118 shM 0 y N ∧ ∀ c, c < nA → inR ((zI N 1 (48 + 6 * c + 1)).toInt / 16) := by
  obtain ⟨hb, hC, hN, h6, h7⟩ := hB
  have hn3 : nA ≤ 3 := h6.1
  have e11 : zR M 0 11 = bb := by simp only [hC.o]
  have e2 : zR M 0 2 = 28 := by simp only [hC.o]
  have e28 : zR M 28 0 = 28 + 1 := by simp only [hC.s st28]
  have b6 : zI M bb 6 = nI nA := h6.2.2.1
  have n22 : zI N 0 22 = nI nA := h6.2.2.2.1
  intro r
  induction r with
  | zero =>
    intro a F F' x1 x2 h1 hF hF' ha
    obtain ⟨F, rfl⟩ : ∃ x, F = x + 1 := ⟨F - 1, by omega⟩
    obtain ⟨F', rfl⟩ : ∃ x, F' = x + 1 := ⟨F' - 1, by omega⟩
    have hle : nI nA ≤ nI a := nI_le (by omega) (by omega)
    simp only [zlX11_trueUp_18, zlX12_trueUp_18]
    unfold zbX11_trueUp_18 zbX12_trueUp_18
    rw [e11, b6, n22, if_pos hle, if_pos hle]
    by_cases c1 : x1 = 0
    · rw [if_pos c1, if_pos c1]
      by_cases c2 : x2 = 0
      · rw [if_pos c2, if_pos c2]
        exact Or.inl ⟨rfl, rfl⟩
      · rw [if_neg c2, if_neg c2]
        exact Or.inr ⟨x1, rfl, rfl, fun c hc => ha c (by omega)⟩
    · rw [if_neg c1, if_neg c1]
      exact Or.inr ⟨x1, rfl, rfl, fun c hc => ha c (by omega)⟩
  | succ r ih =>
    intro a F F' x1 x2 h1 hF hF' ha
    obtain ⟨F, rfl⟩ : ∃ x, F = x + 1 := ⟨F - 1, by omega⟩
    obtain ⟨F', rfl⟩ : ∃ x, F' = x + 1 := ⟨F' - 1, by omega⟩
    have ha' : a < nA := by omega
    have ha3 : a < 3 := by omega
    have hro := h_ro hS ha' ha3
    have hnle : ¬ nI nA ≤ nI a := nI_ge (by omega) (by omega)
    have hin : ∀ x : Int32, zX12_isIn shM x.toInt64 (-30000 : Int64) (30000 : Int64) N = some (bI ((-30000 : Int32) ≤ x ∧ x ≤ 30000)) := fun x => isIn_l x (-30000) 30000 _ _ rfl rfl
    simp only [zlX11_trueUp_18, zlX12_trueUp_18]
    unfold zbX11_trueUp_18 zbX12_trueUp_18 zjX11_trueUp_75 zjX11_trueUp_87 zjX11_trueUp_92 zjX12_trueUp_52 zjX12_trueUp_70 zjX12_trueUp_75 zX7_truePlace
    rw [e11, b6, n22, if_neg hnle, if_neg hnle, e2, e28, show zlen shC (28 + 1) = 3 from rfl, rgd (in_a ha3 (by omega)), nI_clamp (by omega), hC.ro st28 ha3]
    simp only [floorC16, floorM16, axisAt_0 hN.o.1 ha3, axisAt_1 hN.o.1 ha3, axisAt_5 hN.o.1 ha3, rob, truth_eq, within_eq, hin, bI_0, hro.1, hro.2.1, hro.2.2, nI_1, show bI ((0 : Int32) ≠ 0) = 0 from rfl, show bI ((1 : Int32) ≠ 0) = 1 from rfl, Int32.add_zero]
    have hrng := r_rng (zI N 1 (48 + 6 * a + 1))
    have hbt : ((-30000 : Int32) ≤ iI ((zI N 1 (48 + 6 * a + 1)).toInt / 16) ∧ iI ((zI N 1 (48 + 6 * a + 1)).toInt / 16) ≤ 30000) ↔ inR ((zI N 1 (48 + 6 * a + 1)).toInt / 16) := by
      rw [btw_30k]
      unfold btw inR
      rw [iI_i (by omega) (by omega)]
    by_cases c : inR ((zI N 1 (48 + 6 * a + 1)).toInt / 16)
    · have ha2 : ∀ c, c < a + 1 → inR ((zI N 1 (48 + 6 * c + 1)).toInt / 16) := fun c' hc' => by
        by_cases g : c' = a
        · rw [g]; exact c
        · exact ha c' (by omega)
      have c' := hbt.mpr c
      simp only [c', and_self, not_true_eq_false, if_false]
      by_cases c1 : iI ((zI N 1 (48 + 6 * a + 1)).toInt / 16) = zI N 1 (48 + 6 * a + 0)
      · rw [if_pos c1, if_pos c1]
        by_cases c2 : x2 = 0
        · rw [if_pos c2, if_pos c2]
          by_cases c3 : zI N 1 (48 + 6 * a + 5) ≤ 0
          · rw [if_pos c3, if_pos c3]
            exact ih (a + 1) F F' _ _ (by omega) (by omega) (by omega) ha2
          · rw [if_neg c3, if_neg c3]
            exact ih (a + 1) F F' _ _ (by omega) (by omega) (by omega) ha2
        · rw [if_neg c2, if_neg c2]
          exact ih (a + 1) F F' _ _ (by omega) (by omega) (by omega) ha2
      · rw [if_neg c1, if_neg c1]
        by_cases c2 : x2 = 0
        · rw [if_pos c2, if_pos c2]
          by_cases c3 : zI N 1 (48 + 6 * a + 5) ≤ 0
          · rw [if_pos c3, if_pos c3]
            exact ih (a + 1) F F' _ _ (by omega) (by omega) (by omega) ha2
          · rw [if_neg c3, if_neg c3]
            exact ih (a + 1) F F' _ _ (by omega) (by omega) (by omega) ha2
        · rw [if_neg c2, if_neg c2]
          exact ih (a + 1) F F' _ _ (by omega) (by omega) (by omega) ha2
    · have c' : ¬ ((-30000 : Int32) ≤ iI ((zI N 1 (48 + 6 * a + 1)).toInt / 16) ∧ iI ((zI N 1 (48 + 6 * a + 1)).toInt / 16) ≤ 30000) := fun g => c (hbt.mp g)
      simp only [if_pos c']
      refine Or.inl ⟨trivial, ?_⟩
      by_cases c1 : iI ((zI N 1 (48 + 6 * a + 1)).toInt / 16) = zI N 1 (48 + 6 * a + 0)
      · rw [if_pos c1]
        by_cases c2 : x2 = 0
        · rw [if_pos c2]
          split <;> rfl
        · rw [if_neg c2]
      · rw [if_neg c1]
        by_cases c2 : x2 = 0
        · rw [if_pos c2]
          split <;> rfl
        · rw [if_neg c2]
theorem true_set {bb sb it nA nB : Nat} {T : Int} (y : Int32) : ∀ (r a F F' : Nat) (M N : zMem), a + r = nA → r < F → r < F' → Bx M N bb sb it nA nB → rSt (vSt M 28) (zI N 1) nA T → (∀ c, c < nA → inR ((zI N 1 (48 + 6 * c + 1)).toInt / 16)) → ∃ M1 N1, zlX11_trueUp_122 shC 0 F y (nI a) M = some (y, M1) ∧ zlX12_trueUp_124 shM 0 F' y (nI a) N = some (y, N1) ∧ rSt (vSt M1 28) (zI N1 1) nA T ∧ M1.2.2 = M.2.2 ∧ N1.2.2 = N.2.2 ∧ (∀ k j, ¬ (37 ≤ k ∧ k < 40) → zI M1 k j = zI M k j) ∧ (∀ k j, k ≠ 1 → zI N1 k j = zI N k j) := by
  intro r
  induction r with
  | zero =>
    intro a F F' M N h1 hF hF' hB hS hr
    obtain ⟨F, rfl⟩ : ∃ x, F = x + 1 := ⟨F - 1, by omega⟩
    obtain ⟨F', rfl⟩ : ∃ x, F' = x + 1 := ⟨F' - 1, by omega⟩
    obtain ⟨hb, hC, hN, h6, h7⟩ := hB
    have hn3 : nA ≤ 3 := h6.1
    have e11 : zR M 0 11 = bb := by simp only [hC.o]
    have hle : nI nA ≤ nI a := nI_le (by omega) (by omega)
    simp only [zlX11_trueUp_122, zlX12_trueUp_124]
    unfold zbX11_trueUp_122 zbX12_trueUp_124
    rw [e11, h6.2.2.1, h6.2.2.2.1, if_pos hle, if_pos hle]
    exact ⟨M, N, rfl, rfl, hS, rfl, rfl, fun _ _ _ => rfl, fun _ _ _ => rfl⟩
  | succ r ih =>
    intro a F F' M N h1 hF hF' hB hS hr
    obtain ⟨F, rfl⟩ : ∃ x, F = x + 1 := ⟨F - 1, by omega⟩
    obtain ⟨F', rfl⟩ : ∃ x, F' = x + 1 := ⟨F' - 1, by omega⟩
    have hBB := hB
    obtain ⟨hb, hC, hN, h6, h7⟩ := hB
    have hn3 : nA ≤ 3 := h6.1
    have ha' : a < nA := by omega
    have ha3 : a < 3 := by omega
    have hro := h_ro hS ha' ha3
    have hnle : ¬ nI nA ≤ nI a := nI_ge (by omega) (by omega)
    have e11 : zR M 0 11 = bb := by simp only [hC.o]
    have e2 : zR M 0 2 = 28 := by simp only [hC.o]
    have e28 : zR M 28 0 = 28 + 1 := by simp only [hC.s st28]
    have hrng := r_rng (zI N 1 (48 + 6 * a + 1))
    generalize htp : iI ((zI N 1 (48 + 6 * a + 1)).toInt / 16) = tp
    have hbt : btw tp (-30000) 30000 := by
      have := hr a ha'
      unfold inR at this
      unfold btw
      rw [← htp, iI_i (by omega) (by omega)]
      exact this
    have s1 := hS.set (v := tp) (j0 := 0) hn3 ha' (by omega) (Or.inr (Or.inr (Or.inr (Or.inr (Or.inl ⟨rfl, hbt⟩)))))
    have s2 := s1.set (v := 0) (j0 := 5) hn3 ha' (by omega) (Or.inr (Or.inr (Or.inr (Or.inr (Or.inr ⟨rfl, by decide⟩)))))
    have hB2 : Bx (zpI (zpI M (28 + 9 + a) 0 tp) (28 + 9 + a) 5 0) (zpI (zpI N 1 (48 + 6 * a + 0) tp) 1 (48 + 6 * a + 5) 0) bb sb it nA nB := hBB.sm rfl rfl (fun k j hk => by rw [rI_pI, if_neg (by omega), rI_pI, if_neg (by omega)]) (fun k j hk => by rw [rI_pI, if_neg (by omega), rI_pI, if_neg (by omega)])
    obtain ⟨M1, N1, t1, t2, t3, t4, t5, t6, t7⟩ := ih (a + 1) F F' _ _ (by omega) (by omega) (by omega) hB2 s2 (fun c hc => by rw [rI_pI, if_neg (by omega), rI_pI, if_neg (by omega)]; exact hr c hc)
    simp only [zlX11_trueUp_122, zlX12_trueUp_124]
    unfold zbX11_trueUp_122 zbX12_trueUp_124 zX7_truePlace
    have f2 : zR (zpI M (28 + 9 + a) 0 tp) 0 2 = 28 := e2
    have f28 : zR (zpI M (28 + 9 + a) 0 tp) 28 0 = 28 + 1 := e28
    have f29 : zR (zpI M (28 + 9 + a) 0 tp) (28 + 1) a = 28 + 9 + a := hC.ro st28 ha3
    have g0 : zR (zpI N 1 (48 + 6 * a + 0) tp) 0 0 = 1 := hN.o.1
    rw [e11, h6.2.2.1, h6.2.2.2.1, if_neg hnle, if_neg hnle, e2, e28, show zlen shC (28 + 1) = 3 from rfl, rgd (in_a ha3 (by omega)), rgd (in_a ha3 (by omega)), nI_clamp (by omega), hC.ro st28 ha3, hro.2.1, axisAt_1 hN.o.1 ha3]
    simp only [floorC16, floorM16, rob, rbd, htp]
    rw [f2, f28, show zlen shC (28 + 1) = 3 from rfl, rgd (in_a ha3 (by omega)), f29, sets_0 hN.o.1 ha3, rob, sets_5 g0 ha3, rob, nI_1]
    clear f2 f28 f29 g0 e11 e2 e28 hro
    refine ⟨M1, N1, t1, t2, t3, t4, t5, fun k j hk => ?_, fun k j hk => ?_⟩
    · rw [t6 k j hk, rI_pI, if_neg (by omega), rI_pI, if_neg (by omega)]
    · rw [t7 k j hk, rI_pI, if_neg (by omega), rI_pI, if_neg (by omega)]
theorem B_trueUp_ok : B_trueUp Inv := by
  intro n M N hn hI
  have hU := Inv_up n M N hI
  obtain ⟨bb, sb, it, nA, nB, h1, h2, h3, h4, h5, h6, h7, h8, h9⟩ := hI
  have hb : bb = 1 ∨ bb = 13 := by omega
  have hn3 : nA ≤ 3 := h6.1
  have hB : Bx M N bb sb it nA nB := ⟨hb, h2, h3, h6, h7⟩
  have e2 : zR M 0 2 = 28 := by simp only [h2.o]
  have n0 : zR N 0 0 = 1 := h3.o.1
  have s8 : zI M 28 8 = zI N 1 1 := by have := h8.2.2.2.2.2.2.2.2.2.1; rw [vSt_at rfl] at this; exact this
  have hl1 : zin (1 : Int32) (zlen shM 1) = true := by decide
  have hon := h8.2.2.2.2.2.2.2.2.2.2.2
  unfold zX11_trueUp zX12_trueUp
  rw [e2, n0, rgd hl1, show (1 : Int32).toNatClampNeg = 1 from rfl, s8]
  rcases hon with ⟨h0, -⟩ | ⟨h0, -⟩
  · rw [if_pos h0, if_neg (by rw [h0]; decide), show (0 : Int32) = nI 0 from rfl]
    rcases true_look hB h8 nA 0 zF zF 0 0 (by omega) (by unfold zF; omega) (by unfold zF; omega) (fun c hc => by omega) with ⟨t1, t2⟩ | ⟨y, t1, t2, t3⟩
    · exact ⟨-1, M, N, t1, t2, hU⟩
    · rw [show nI 0 = (0 : Int32) from rfl] at *
      rw [t1, t2]
      unfold zjX11_trueUp_109 zjX12_trueUp_118
      obtain ⟨M1, N1, k1, k2, k3, k4, k5, k6, k7, k8⟩ := keep_act h2 h3 hn3 h9 h8
      have e4 : zR M 0 4 = 52 := by simp only [h2.o]
      have eV : vSt M1 28 = vSt M 28 := vSt_same (fun k j g1 g2 g3 => k6 k j (by omega))
      have eN : zI N1 1 = zI N 1 := by funext j; exact k7 1 j (by omega) (by omega)
      have hB1 : Bx M1 N1 bb sb it nA nB := hB.sm k4 k5 (fun k j hk => k6 k j (by omega)) (fun k j hk => k7 k j (by omega) (by omega))
      obtain ⟨M2, N2, u1, u2, u3, u4, u5, u6, u7⟩ := true_set (T := 500 * n) y nA 0 zF zF M1 N1 (by omega) (by unfold zF; omega) (by unfold zF; omega) hB1 (by rw [eV, eN]; exact h8) (fun c hc => by rw [eN]; exact t3 c hc)
      rw [e4, e2, k1, rob, k2, rob]
      refine ⟨y, M2, N2, u1, u2, Inv_of h1 h2 h3 h4 h5 h6 h7 (u4.trans k4) (u5.trans k5) (fun k j hk => ?_) (fun k j hk => ?_) ?_ (u3.w (by omega)) ?_⟩
      · rw [u6 k j (by omega), k6 k j (by omega)]
      · rw [u7 k j (by omega), k7 k j (by omega) (by omega)]
      · have hG := k8 h5.2.2
        exact ⟨by rw [u6 178 0 (by omega)]; exact hG.1, by rw [u6 180 0 (by omega)]; exact hG.2.1, fun b hb2 => by rw [u6 (b + 6) 0 (by unfold stB at hb2; omega)]; exact hG.2.2 b hb2⟩
      · exact (k3.w (by omega)).sm (fun k j g1 g2 => u6 k j (by omega)) (fun k j g => u7 k j (by omega))
  · exact ⟨-1, M, N, if_neg (by rw [h0]; decide), if_pos h0, hU⟩
