/-! Phase B: calmIn, carries -/
theorem steady_eq {M N : zMem} {bb sb it nA nB b : Nat} {T : Int} (hB : Bx M N bb sb it nA nB) (hb : stB b) (hS : rSt (vSt M b) (zI N 1) nA T) : ∃ v, zX8_isSteady shC b bb M = some v ∧ zX12_isSteady shM 0 N = some v := by
  have hn3 : nA ≤ 3 := hB.2.2.2.1.1
  have n0 : zR N 0 0 = 1 := hB.2.2.1.o.1
  have b6 : zI M bb 6 = nI nA := hB.2.2.2.1.2.2.1
  have n22 : zI N 0 22 = nI nA := hB.2.2.2.1.2.2.2.1
  have hx := (rSt_x.mp hS).2.2
  have s8 : zI M b 8 = zI N 1 1 := by have := hx.2.2.2.2.2.2.2.1; rw [vSt_at rfl] at this; exact this
  have s4 : zI M b 4 = zI N 1 23 := by have := hx.2.2.1; rw [vSt_at rfl] at this; exact this
  have h23 := hx.2.2.2.1
  have zb0 : zR M bb 0 = bb + 1 := by simp only [hB.2.1.b hB.1]
  have zb4 : zR M bb 4 = bb + 5 := by simp only [hB.2.1.b hB.1]
  have zz0 : zR M b 0 = b + 1 := by simp only [hB.2.1.s hb]
  have lS1 : zlen shC (b + 1) = 3 := (lnS hb).1
  have lB1 : zlen shC (bb + 1) = 3 := (lnB hB.1).1
  -- none is steady
  have no : ∀ (r a F : Nat), a + r = nA → r < F → zlX12_isSteady_27 shM 0 N F 0 (nI a) = some 0 := by
    intro r
    induction r with
    | zero =>
      intro a F h1 hF
      obtain ⟨F, rfl⟩ : ∃ x, F = x + 1 := ⟨F - 1, by omega⟩
      simp only [zlX12_isSteady_27]
      unfold zbX12_isSteady_27
      rw [n22, if_pos (nI_le (by omega) (by omega)), rgd isB0]
    | succ r ih =>
      intro a F h1 hF
      obtain ⟨F, rfl⟩ : ∃ x, F = x + 1 := ⟨F - 1, by omega⟩
      simp only [zlX12_isSteady_27]
      unfold zbX12_isSteady_27 zjX12_isSteady_71 zjX12_isSteady_72
      rw [n22, if_neg (nI_ge (by omega) (by omega)), if_pos rfl, nI_1]
      exact ih (a + 1) F (by omega) (by omega)
  have yes : ∀ (r a F F' : Nat), a + r = nA → r < F → r < F' → ∃ v, zlX8_isSteady_18 shC b bb M F (nI a) = some v ∧ zlX12_isSteady_27 shM 0 N F' 1 (nI a) = some v := by
    intro r
    induction r with
    | zero =>
      intro a F F' h1 hF hF'
      obtain ⟨F, rfl⟩ : ∃ x, F = x + 1 := ⟨F - 1, by omega⟩
      obtain ⟨F', rfl⟩ : ∃ x, F' = x + 1 := ⟨F' - 1, by omega⟩
      have hle : nI nA ≤ nI a := nI_le (by omega) (by omega)
      refine ⟨1, ?_, ?_⟩
      · simp only [zlX8_isSteady_18]
        unfold zbX8_isSteady_18
        rw [b6, if_pos hle]
      · simp only [zlX12_isSteady_27]
        unfold zbX12_isSteady_27
        rw [n22, if_pos hle, rgd isB1]
    | succ r ih =>
      intro a F F' h1 hF hF'
      obtain ⟨F, rfl⟩ : ∃ x, F = x + 1 := ⟨F - 1, by omega⟩
      obtain ⟨F', rfl⟩ : ∃ x, F' = x + 1 := ⟨F' - 1, by omega⟩
      have hle : ¬ nI nA ≤ nI a := nI_ge (by omega) (by omega)
      have ha : a < nA := by omega
      have ha3 : a < 3 := by omega
      have g := (hx.2.2.2.2.2.2.1 a ha).1
      have p0 := g 0 (by omega)
      have p1 := g 1 (by omega)
      have p2 := g 2 (by omega)
      have p3 := g 3 (by omega)
      rw [vSt_ro ha3 (by omega)] at p0 p1 p2 p3
      have p0 : zI M (b + 9 + a) 0 = zI N 1 (48 + 6 * a) := p0
      obtain ⟨v, i1, i2⟩ := ih (a + 1) F F' (by omega) (by omega) (by omega)
      have bC : zlX8_isSteady_18 shC b bb M (F + 1) (nI a) = (if bI (zI N 1 (48 + 6 * a + 2) = 0 ∧ fPush N a (16 * zI N 1 (48 + 6 * a) - zI N 1 (48 + 6 * a + 1)) (zI N 1 (48 + 6 * a + 3)) = 0) = 0 then some 0 else zlX8_isSteady_18 shC b bb M F (nI (a + 1))) := by
        simp only [zlX8_isSteady_18]
        unfold zbX8_isSteady_18
        rw [b6, if_neg hle, zz0, lS1, rgd (in_a ha3 (by omega)), zb0, lB1, rgd (in_a ha3 (by omega)), nI_clamp (by omega), hB.2.1.ro hb ha3, hB.2.1.ax hB.1 ha3, zb4, calmC hB ha, rob, p0, p1, p2, p3, nI_1]
      have bM : zlX12_isSteady_27 shM 0 N (F' + 1) 1 (nI a) = (if zI N 1 (48 + 6 * a + 2) = 0 then (if fPush N a (16 * zI N 1 (48 + 6 * a) - zI N 1 (48 + 6 * a + 1)) (zI N 1 (48 + 6 * a + 3)) = 0 then zlX12_isSteady_27 shM 0 N F' 1 (nI (a + 1)) else zlX12_isSteady_27 shM 0 N F' 0 (nI (a + 1))) else zlX12_isSteady_27 shM 0 N F' 0 (nI (a + 1))) := by
        simp only [zlX12_isSteady_27]
        unfold zbX12_isSteady_27 zjX12_isSteady_71 zjX12_isSteady_72
        rw [n22, if_neg hle, if_neg (show ¬ (1 : Int32) = 0 by decide), axisAt_2 n0 ha3, rob, angleM n0 ha3, rob, axisAt_3 n0 ha3, rob, pushedM hB.2.2.1 hB.2.2.2.1 hB.2.2.2.2 ha, rob, nI_1]
      rw [bC, bM]
      simp only [bI_0]
      have hno := no r (a + 1) F' (by omega) (by omega)
      by_cases c1 : zI N 1 (48 + 6 * a + 2) = 0
      · by_cases c2 : fPush N a (16 * zI N 1 (48 + 6 * a) - zI N 1 (48 + 6 * a + 1)) (zI N 1 (48 + 6 * a + 3)) = 0
        · rw [if_neg (nn ⟨c1, c2⟩), if_pos c1, if_pos c2]; exact ⟨v, i1, i2⟩
        · rw [if_pos (fun h => c2 h.2), if_pos c1, if_neg c2, hno]; exact ⟨0, rfl, rfl⟩
      · rw [if_pos (fun h => c1 h.1), if_neg c1, hno]; exact ⟨0, rfl, rfl⟩
  obtain ⟨v, y1, y2⟩ := yes nA 0 zF zF (by omega) (by unfold zF; omega) (by unfold zF; omega)
  have hno := no nA 0 zF (by omega) (by unfold zF; omega)
  unfold zX8_isSteady zjX8_isSteady_14 zX12_isSteady zjX12_isSteady_23 zjX12_isSteady_24
  rw [n0, show zlen shM 1 = 194 from rfl, rgd (by decide), rgd (by decide), show (1 : Int32).toNatClampNeg = 1 from rfl, show (23 : Int32).toNatClampNeg = 23 from rfl, s8, s4]
  by_cases c1 : zI N 1 1 = 0
  · rw [if_pos c1, if_pos c1]
    by_cases c2 : zI N 1 23 = 0
    · rw [if_pos (show zI N 1 23 ≤ 0 by rw [c2]; decide), if_pos c2]; exact ⟨v, y1, y2⟩
    · have c' : ¬ zI N 1 23 ≤ 0 := fun h => c2 (by rw [r_le] at h; rw [r_eq]; have : (0 : Int32).toInt = 0 := rfl; have := h23.1; omega)
      rw [if_neg c', if_neg c2]; exact ⟨0, rfl, hno⟩
  · rw [if_neg c1, if_neg c1]; exact ⟨0, rfl, hno⟩
theorem cback_le {x : Int32} (h : x ≤ 2000) (N : zMem) : zjX12_calmIn_39 shM 0 x N = (zob (zX12_takesBack shM 0 N) fun Y => some (x, Y)) := by
  unfold zjX12_calmIn_39 zjX12_calmIn_55
  simp only [if_pos h]
theorem cback_gt {x : Int32} (h : ¬ x ≤ 2000) (N : zMem) : zjX12_calmIn_39 shM 0 x N = (zob (zX12_takesBack shM 0 N) fun Y => some (-1, Y)) := by
  unfold zjX12_calmIn_39 zjX12_calmIn_55
  simp only [if_neg h]
theorem calm_lp {bb sb it nA nB : Nat} : ∀ (r i F F' : Nat) (T : Int) (M N : zMem), i + r = 2001 → r < F → r < F' → T ≤ 1000000 - r → Bx M N bb sb it nA nB → rSt (vSt M 40) (zI N 1) nA T → zI M 46 0 = 0 → ∃ M1 N1 v, zlX11_calmIn_25 shC 0 F (nI i) M = some (v, M1) ∧ zlX12_calmIn_15 shM 0 F' (nI i) N = (zob (zX12_takesBack shM 0 N1) fun Y => some (v, Y)) ∧ ah M N M1 N1 := by
  intro r
  induction r with
  | zero =>
    intro i F F' T M N h1 hF hF' hT hB hS hG
    obtain ⟨F, rfl⟩ : ∃ x, F = x + 1 := ⟨F - 1, by omega⟩
    obtain ⟨F', rfl⟩ : ∃ x, F' = x + 1 := ⟨F' - 1, by omega⟩
    obtain rfl : i = 2001 := by omega
    refine ⟨M, N, -1, ?_, ?_, rfl, rfl, fun _ _ _ => rfl, hG, fun _ _ _ _ _ _ => rfl⟩
    · simp only [zlX11_calmIn_25]
      unfold zbX11_calmIn_25
      rw [if_pos (by decide)]
    · simp only [zlX12_calmIn_15]
      unfold zbX12_calmIn_15
      rw [if_pos (by decide)]
      exact cback_gt (by decide) _
  | succ r ih =>
    intro i F F' T M N h1 hF hF' hT hB hS hG
    obtain ⟨F, rfl⟩ : ∃ x, F = x + 1 := ⟨F - 1, by omega⟩
    obtain ⟨F', rfl⟩ : ∃ x, F' = x + 1 := ⟨F' - 1, by omega⟩
    have hle : ¬ (2000 : Int32) < nI i := by rw [r_lt, nI_toInt (by omega)]; show ¬ (2000 : Int) < _; omega
    have e3 : zR M 0 3 = 40 := by simp only [hB.2.1.o]
    have e11 : zR M 0 11 = bb := by simp only [hB.2.1.o]
    obtain ⟨w, w1, w2⟩ := steady_eq hB st40 hS
    by_cases c : w = 0
    · obtain ⟨M1, N1, a1, a2, a3, a4⟩ := tick_ah hB hS (by omega) hG
      obtain ⟨M2, N2, v, b1, b2, b3⟩ := ih (i + 1) F F' (T + 1) M1 N1 (by omega) (by omega) (by omega) (by omega) (hB.ah a4) a3 a4.2.2.2.1
      refine ⟨M2, N2, v, ?_, ?_, a4.trans b3⟩
      · simp only [zlX11_calmIn_25]
        unfold zbX11_calmIn_25
        rw [if_neg hle, e3, e11, w1, rob, if_pos c, a1, rob, nI_1]
        exact b1
      · simp only [zlX12_calmIn_15]
        unfold zbX12_calmIn_15
        rw [if_neg hle, w2, rob, if_pos c, a2, rob, nI_1]
        exact b2
    · refine ⟨M, N, nI i, ?_, ?_, rfl, rfl, fun _ _ _ => rfl, hG, fun _ _ _ _ _ _ => rfl⟩
      · simp only [zlX11_calmIn_25]
        unfold zbX11_calmIn_25
        rw [if_neg hle, e3, e11, w1, rob, if_neg c]
      · simp only [zlX12_calmIn_15]
        unfold zbX12_calmIn_15
        rw [if_neg hle, w2, rob, if_neg c]
        exact cback_le (by rw [r_le, nI_toInt (by omega)]; show _ ≤ (2000 : Int); omega) _
theorem B_calmIn_ok : B_calmIn Inv := by
  intro n M N hn hI
  have hU := Inv_up n M N hI
  obtain ⟨bb, sb, it, nA, nB, h1, h2, h3, h4, h5, h6, h7, h8, h9⟩ := hI
  have h11 : zR M 0 11 = bb := by simp only [h2.o]
  have e3 : zR M 0 3 = 40 := by simp only [h2.o]
  have e2 : zR M 0 2 = 28 := by simp only [h2.o]
  unfold zX11_calmIn zX12_calmIn
  rw [h11, h6.2.2.1, h6.2.2.2.1]
  by_cases c2 : nI nA = 0
  · exact ⟨-1, M, N, if_pos c2, if_pos c2, hU⟩
  · rw [if_neg c2, if_neg c2]
    obtain ⟨M1, N1, t1, t2, t3, t4, t5, t6, -⟩ := ahead_open h1 h2 h3 h4 h5 h6 h7 h8 h9
    obtain ⟨M2, N2, v, b1, b2, b3⟩ := calm_lp 2001 0 zF zF (500 * n) M1 N1 (by omega) (by unfold zF; omega) (by unfold zF; omega) (by omega) t3 t4 t5
    obtain ⟨N3, d1, d2⟩ := t6 M2 N2 b3
    refine ⟨v, M2, N3, ?_, ?_, d2⟩
    · rw [e3, e2, t1, rob]; exact b1
    · rw [t2, rob]
      refine b2.trans ?_
      rw [d1, rob]
