/-! Phase B: what runs ahead -/
theorem puts_loop {N : zMem} (hN : rfN N) : ∀ (r x F : Nat) (N1 : zMem), x + r = 194 → r < F → N1.2.2 = N.2.2 → (∀ k j, k ≠ 17 → zI N1 k j = zI N k j) → (∀ i, i < x → zI N1 17 i = zI N 1 i) → ∃ N2, zlX12_puts_2 shM 0 F (nI x) N1 = some N2 ∧ N2.2.2 = N.2.2 ∧ (∀ k j, k ≠ 17 → zI N2 k j = zI N k j) ∧ (∀ i, i < 194 → zI N2 17 i = zI N 1 i) := by
  intro r
  induction r with
  | zero =>
    intro x F N1 h1 hF hR hk hlo
    obtain ⟨F, rfl⟩ : ∃ y, F = y + 1 := ⟨F - 1, by omega⟩
    simp only [zlX12_puts_2]
    unfold zbX12_puts_2
    rw [if_pos (show (194 : Int32) ≤ nI x from nI_le (a := 194) (by omega) (by omega))]
    exact ⟨N1, rfl, hR, hk, fun i hi => hlo i (by omega)⟩
  | succ r ih =>
    intro x F N1 h1 hF hR hk hlo
    obtain ⟨F, rfl⟩ : ∃ y, F = y + 1 := ⟨F - 1, by omega⟩
    have hN1 := hN.sm hR
    have e47 : zR N1 0 47 = 17 := by simp only [hN1.o]
    have e0 : zR N1 0 0 = 1 := hN1.o.1
    simp only [zlX12_puts_2]
    unfold zbX12_puts_2
    rw [if_neg (show ¬ (194 : Int32) ≤ nI x from nI_ge (b := 194) (by omega) (by omega)), e47, e0, show zlen shM 17 = 194 from rfl, show zlen shM 1 = 194 from rfl, rgd (in_a (by omega) (by omega)), rgd (in_a (by omega) (by omega)), nI_clamp (by omega), rbd, nI_1]
    clear e47 e0
    refine ih (x + 1) F _ (by omega) (by omega) hR (fun k j g => ?_) (fun i hi => ?_)
    · rw [rI_pI, if_neg (fun e => g e.1)]; exact hk k j g
    · rw [rI_pI]
      by_cases g : i = x
      · rw [if_pos ⟨rfl, g⟩, hk 1 x (by omega), g]
      · rw [if_neg (fun e => g e.2)]; exact hlo i (by omega)
theorem back_loop {N : zMem} (hN : rfN N) : ∀ (r x F : Nat) (N1 : zMem), x + r = 194 → r < F → N1.2.2 = N.2.2 → (∀ k j, k ≠ 1 → zI N1 k j = zI N k j) → (∀ i, i < x → zI N1 1 i = zI N 17 i) → ∃ N2, zlX12_takesBack_2 shM 0 F (nI x) N1 = some N2 ∧ N2.2.2 = N.2.2 ∧ (∀ k j, k ≠ 1 → zI N2 k j = zI N k j) ∧ (∀ i, i < 194 → zI N2 1 i = zI N 17 i) := by
  intro r
  induction r with
  | zero =>
    intro x F N1 h1 hF hR hk hlo
    obtain ⟨F, rfl⟩ : ∃ y, F = y + 1 := ⟨F - 1, by omega⟩
    simp only [zlX12_takesBack_2]
    unfold zbX12_takesBack_2
    rw [if_pos (show (194 : Int32) ≤ nI x from nI_le (a := 194) (by omega) (by omega))]
    exact ⟨N1, rfl, hR, hk, fun i hi => hlo i (by omega)⟩
  | succ r ih =>
    intro x F N1 h1 hF hR hk hlo
    obtain ⟨F, rfl⟩ : ∃ y, F = y + 1 := ⟨F - 1, by omega⟩
    have hN1 := hN.sm hR
    have e47 : zR N1 0 47 = 17 := by simp only [hN1.o]
    have e0 : zR N1 0 0 = 1 := hN1.o.1
    simp only [zlX12_takesBack_2]
    unfold zbX12_takesBack_2
    rw [if_neg (show ¬ (194 : Int32) ≤ nI x from nI_ge (b := 194) (by omega) (by omega)), e47, e0, show zlen shM 17 = 194 from rfl, show zlen shM 1 = 194 from rfl, rgd (in_a (by omega) (by omega)), rgd (in_a (by omega) (by omega)), nI_clamp (by omega), rbd, nI_1]
    clear e47 e0
    refine ih (x + 1) F _ (by omega) (by omega) hR (fun k j g => ?_) (fun i hi => ?_)
    · rw [rI_pI, if_neg (fun e => g e.1)]; exact hk k j g
    · rw [rI_pI]
      by_cases g : i = x
      · rw [if_pos ⟨rfl, g⟩, hk 17 x (by omega), g]
      · rw [if_neg (fun e => g e.2)]; exact hlo i (by omega)
/-- steps ahead touch this alone -/
def ah (M N M1 N1 : zMem) : Prop := M1.2.2 = M.2.2 ∧ N1.2.2 = N.2.2 ∧ (∀ k j, ¬ (40 ≤ k ∧ k < 52) → zI M1 k j = zI M k j) ∧ zI M1 46 0 = 0 ∧ (∀ k j, k ≠ 1 → k ≠ 14 → k ≠ 15 → ¬ (k = 0 ∧ 36 ≤ j ∧ j ≤ 44) → zI N1 k j = zI N k j)
theorem ah.trans {M N M1 N1 M2 N2 : zMem} (h : ah M N M1 N1) (g : ah M1 N1 M2 N2) : ah M N M2 N2 := ⟨g.1.trans h.1, g.2.1.trans h.2.1, fun k j q => (g.2.2.1 k j q).trans (h.2.2.1 k j q), g.2.2.2.1, fun k j q1 q2 q3 q4 => (g.2.2.2.2 k j q1 q2 q3 q4).trans (h.2.2.2.2 k j q1 q2 q3 q4)⟩
theorem Bx.ah {M N M1 N1 : zMem} {bb sb it nA nB : Nat} (h : Bx M N bb sb it nA nB) (g : ah M N M1 N1) : Bx M1 N1 bb sb it nA nB := h.sm g.1 g.2.1 (fun k j hk => g.2.2.1 k j (by omega)) (fun k j hk => g.2.2.2.2 k j (by omega) (by omega) (by omega) (by omega))
theorem ahead_open {n bb sb it nA nB : Nat} {M N : zMem} (h1 : (bb = 1 ∧ sb = 13) ∨ (bb = 13 ∧ sb = 1)) (h2 : rfC M bb sb it) (h3 : rfN N) (h4 : IvT M N) (h5 : IvF M N) (h6 : IvB M N bb nA nB) (h7 : IvP M N) (h8 : rSt (vSt M 28) (zI N 1) nA (500 * n)) (h9 : IvH M N nA (500 * n)) : ∃ M1 N1, zX8_copyFrom shC 40 28 M = some M1 ∧ zX12_puts shM 0 N = some N1 ∧ Bx M1 N1 bb sb it nA nB ∧ rSt (vSt M1 40) (zI N1 1) nA (500 * n) ∧ zI M1 46 0 = 0 ∧ (∀ M2 N2, ah M1 N1 M2 N2 → ∃ N3, zX12_takesBack shM 0 N2 = some N3 ∧ Inv (n + 1) M2 N3) ∧ ah M1 N1 M N1 ∧ (∀ j, zI N1 1 j = zI N 1 j) ∧ vSt M1 40 = vSt M 28 := by
  have hb : bb = 1 ∨ bb = 13 := by omega
  have hn3 : nA ≤ 3 := h6.1
  have hb8 : zisB (zI M 28 8) = true := by
    have := h8.2.2.2.2.2.2.2.2.2.1
    rw [vSt_at rfl] at this
    have this : zI M 28 8 = zI N 1 1 := this
    rw [this]
    rcases h8.2.2.2.2.2.2.2.2.2.2.2 with g | g
    · rw [g.1]; rfl
    · rw [g.1]; rfl
  have hb9 : zisB (zI M 28 9) = true := by
    have := h8.2.2.2.2.2.2.2.2.2.2.1
    rw [vSt_at rfl] at this
    have this : zI M 28 9 = 0 ∨ zI M 28 9 = 1 := this
    rcases this with g | g
    · rw [g]; rfl
    · rw [g]; rfl
  obtain ⟨M1, a1, a2, a3, a4⟩ := copy_st h2 st40 st28 (by omega) hb8 hb9
  obtain ⟨N1, b1, b2, b3, b4⟩ := puts_loop h3 194 0 zF N (by omega) (by unfold zF; omega) rfl (fun _ _ _ => rfl) (fun i hi => by omega)
  have hG0 : zI M1 46 0 = 0 := by
    have := congrFun (congrFun a2 6) 0
    rw [vSt_at rfl, vSt_at rfl] at this
    exact this.trans (h5.2.2.2.2 28 st28)
  refine ⟨M1, N1, a1, b1, Bx.sm ⟨hb, h2, h3, h6, h7⟩ a3 b2 (fun k j hk => a4 k j (by omega)) (fun k j hk => b3 k j (by omega)), ?_, hG0, fun M2 N2 g => ?_, ⟨a3.symm, rfl, fun k j h => (a4 k j (by omega)).symm, h5.2.2.2.2 40 st40, fun _ _ _ _ _ _ => rfl⟩, fun j => b3 1 j (by omega), a2⟩
  · rw [a2]
    exact h8.cf hn3 (fun j hj => b3 1 j (by omega))
  · obtain ⟨g1, g2, g3, g4, g5⟩ := g
    obtain ⟨N3, c1, c2, c3, c4⟩ := back_loop (h3.sm (g2.trans b2)) 194 0 zF N2 (by omega) (by unfold zF; omega) rfl (fun _ _ _ => rfl) (fun i hi => by omega)
    have kM : ∀ k j, ¬ (40 ≤ k ∧ k < 52) → zI M2 k j = zI M k j := fun k j h => by rw [g3 k j h]; exact a4 k j (by omega)
    have kN : ∀ k j, k ≠ 1 → k ≠ 14 → k ≠ 15 → k ≠ 17 → ¬ (k = 0 ∧ 36 ≤ j ∧ j ≤ 44) → zI N3 k j = zI N k j := fun k j q1 q2 q3 q4 q5 => by rw [c3 k j q1, g5 k j q1 q2 q3 q5]; exact b3 k j q4
    have k1 : ∀ j, j < 194 → zI N3 1 j = zI N 1 j := fun j hj => by rw [c4 j hj, g5 17 j (by omega) (by omega) (by omega) (by omega)]; exact b4 j hj
    refine ⟨N3, c1, Inv_of h1 h2 h3 h4 h5 h6 h7 (g1.trans a3) (c2.trans (g2.trans b2)) (fun k j hk => kM k j (by omega)) (fun k j hk => kN k j (by omega) (by omega) (by omega) (by omega) (by omega)) ?_ ?_ ?_⟩
    · refine ⟨by rw [kM _ _ (by omega)]; exact h5.2.2.1, by rw [kM _ _ (by omega)]; exact h5.2.2.2.1, fun c hc => ?_⟩
      by_cases q : c = 40
      · subst q; exact g4
      · have hd := stB_d hc st40 q
        rw [kM _ _ (by omega)]; exact h5.2.2.2.2 c hc
    · rw [vSt_same (M := M) (M1 := M2) (b := 28) (fun k j q1 q2 q3 => kM k j (by omega))]
      exact (h8.cf hn3 k1).w (by omega)
    · exact (h9.w (by omega)).sm (fun k j q1 q2 => kM k j (by omega)) (fun k j q => kN k j (by omega) (by omega) (by omega) (by omega) (by omega))
theorem tick_ah {M N : zMem} {bb sb it nA nB : Nat} {T : Int} (hB : Bx M N bb sb it nA nB) (hS : rSt (vSt M 40) (zI N 1) nA T) (hT : T ≤ 2000000000) (hG : zI M 46 0 = 0) : ∃ M1 N1, zX8_tick shC 40 bb M = some M1 ∧ zX12_tick shM 0 N = some N1 ∧ rSt (vSt M1 40) (zI N1 1) nA (T + 1) ∧ ah M N M1 N1 := by
  obtain ⟨M1, N1, a1, a2, a3, a4, a5, a6, a7, a8, -⟩ := tick_eq hB st40 hS hT hG
  exact ⟨M1, N1, a1, a2, a3, a4, a5, fun k j h => a6 k j (by omega), a7, a8⟩
theorem strain_loop {bb sb it nA nB a p : Nat} (ha : a < nA) (hp : p ≤ 1000) : ∀ (r i F F' : Nat) (T : Int) (x : Int32) (M N : zMem), i + r = p → r < F → r < F' → T ≤ 1000000 - r → Bx M N bb sb it nA nB → rSt (vSt M 40) (zI N 1) nA T → zI M 46 0 = 0 → ∃ M1 N1 v, zlX11_strain_37 shC 0 (nI a) (nI p) F x (nI i) M = some (v, M1) ∧ zlX12_strain_31 shM 0 (nI a) (nI p) F' x (nI i) N = (zob (zX12_takesBack shM 0 N1) fun Y => some (v, Y)) ∧ ah M N M1 N1 := by
  intro r
  induction r with
  | zero =>
    intro i F F' T x M N h1 hF hF' hT hB hS hG
    obtain ⟨F, rfl⟩ : ∃ x, F = x + 1 := ⟨F - 1, by omega⟩
    obtain ⟨F', rfl⟩ : ∃ x, F' = x + 1 := ⟨F' - 1, by omega⟩
    have hle : nI p ≤ nI i := nI_le (by omega) (by omega)
    refine ⟨M, N, x, ?_, ?_, rfl, rfl, fun _ _ _ => rfl, hG, fun _ _ _ _ _ _ => rfl⟩
    · simp only [zlX11_strain_37]
      unfold zbX11_strain_37
      rw [if_pos hle]
    · simp only [zlX12_strain_31]
      unfold zbX12_strain_31
      rw [if_pos hle]
  | succ r ih =>
    intro i F F' T x M N h1 hF hF' hT hB hS hG
    obtain ⟨F, rfl⟩ : ∃ x, F = x + 1 := ⟨F - 1, by omega⟩
    obtain ⟨F', rfl⟩ : ∃ x, F' = x + 1 := ⟨F' - 1, by omega⟩
    have hn3 : nA ≤ 3 := hB.2.2.2.1.1
    have ha3 : a < 3 := by omega
    have hle : ¬ nI p ≤ nI i := nI_ge (by omega) (by omega)
    have e3 : zR M 0 3 = 40 := by simp only [hB.2.1.o]
    have e11 : zR M 0 11 = bb := by simp only [hB.2.1.o]
    obtain ⟨M1, N1, a1, a2, a3, a4⟩ := tick_ah hB hS (by omega) hG
    have hB1 := hB.ah a4
    have f3 : zR M1 0 3 = 40 := by simp only [hB1.2.1.o]
    have f40 : zR M1 40 0 = 40 + 1 := by simp only [hB1.2.1.s st40]
    have hro := h_ro a3 ha ha3
    have n0 : zR N1 0 0 = 1 := hB1.2.2.1.o.1
    obtain ⟨M2, N2, v, b1, b2, b3⟩ := ih (i + 1) F F' (T + 1) (zmax x (zabs (16 * zI N1 1 (48 + 6 * a) - zI N1 1 (48 + 6 * a + 1)))) M1 N1 (by omega) (by omega) (by omega) (by omega) hB1 a3 a4.2.2.2.1
    refine ⟨M2, N2, v, ?_, ?_, a4.trans b3⟩
    · simp only [zlX11_strain_37]
      unfold zbX11_strain_37 zX7_angle
      rw [if_neg hle, e3, e11, a1, rob, f3, f40, show zlen shC (40 + 1) = 3 from rfl, rgd (in_a ha3 (by omega)), nI_clamp (by omega), hB1.2.1.ro st40 ha3, rob, hro.1, hro.2.1, nI_1]
      exact b1
    · simp only [zlX12_strain_31]
      unfold zbX12_strain_31
      rw [if_neg hle, a2, rob, angleM n0 ha3, rob, size_eq, rob, greater_eq, rob, nI_1]
      exact b2
theorem B_strain_ok : B_strain Inv := by
  intro n M N v1 v2 hn hI
  have hU := Inv_up n M N hI
  obtain ⟨bb, sb, it, nA, nB, h1, h2, h3, h4, h5, h6, h7, h8, h9⟩ := hI
  have h11 : zR M 0 11 = bb := by simp only [h2.o]
  have e3 : zR M 0 3 = 40 := by simp only [h2.o]
  have e2 : zR M 0 2 = 28 := by simp only [h2.o]
  have hn3 : nA ≤ 3 := h6.1
  unfold zX11_strain zX12_strain zjX11_strain_19 zjX12_strain_20
  rw [axisC h11 h6.2.2.1 h6.1, axisM h6.2.2.2.1 h6.1, rob, rob, within_eq, rob, isIn_l v2 1 1000 _ _ rfl rfl, rob]
  simp only [bI_0]
  by_cases c1 : 0 ≤ v1.toInt ∧ v1.toInt < nA
  · rw [if_neg (nn c1), if_neg (nn c1)]
    obtain ⟨a, ha, rfl⟩ := ax_ex c1
    by_cases c2 : (1 : Int32) ≤ v2 ∧ v2 ≤ 1000
    · rw [if_neg (nn c2), if_neg (nn c2)]
      have q1 : 1 ≤ v2.toInt := r_le.mp c2.1
      have q2 : v2.toInt ≤ 1000 := r_le.mp c2.2
      obtain ⟨p, hp⟩ : ∃ p : Nat, (p : Int) = v2.toInt := ⟨v2.toInt.toNat, by omega⟩
      have hv : v2 = nI p := by rw [iI_n, hp, iI_t]
      obtain ⟨M1, N1, t1, t2, t3, t4, t5, t6, -⟩ := ahead_open h1 h2 h3 h4 h5 h6 h7 h8 h9
      obtain ⟨M2, N2, v, b1, b2, b3⟩ := strain_loop (p := p) ha (by omega) p 0 zF zF (500 * n) 0 M1 N1 (by omega) (by unfold zF; omega) (by unfold zF; omega) (by omega) t3 t4 t5
      obtain ⟨N3, d1, d2⟩ := t6 M2 N2 b3
      refine ⟨v, M2, N3, ?_, ?_, d2⟩
      · rw [e3, e2, t1, rob, hv]; exact b1
      · rw [t2, rob, hv]
        refine b2.trans ?_
        rw [d1, rob]
    · exact ⟨-1, M, N, if_pos c2, if_pos c2, hU⟩
  · exact ⟨-1, M, N, if_pos c1, if_pos c1, hU⟩
theorem back_le {x : Int32} (h : x ≤ 2000) (a : Int32) (N : zMem) : zjX12_stallIn_42 shM 0 a x N = (zob (zX12_takesBack shM 0 N) fun Y => some (x, Y)) := by
  unfold zjX12_stallIn_42 zjX12_stallIn_58
  simp only [if_pos h]
theorem back_gt {x : Int32} (h : ¬ x ≤ 2000) (a : Int32) (N : zMem) : zjX12_stallIn_42 shM 0 a x N = (zob (zX12_takesBack shM 0 N) fun Y => some (-1, Y)) := by
  unfold zjX12_stallIn_42 zjX12_stallIn_58
  simp only [if_neg h]
theorem stalls_lp {bb sb it nA nB a : Nat} (ha : a < nA) : ∀ (r i F F' : Nat) (T : Int) (M N : zMem), i + r = 2000 → r + 2 < F → r + 2 < F' → T ≤ 1000000 - r → Bx M N bb sb it nA nB → rSt (vSt M 40) (zI N 1) nA T → zI M 46 0 = 0 → zI N 1 (48 + 6 * a + 5) = 0 → ∃ M1 N1 v, zlX11_stallIn_40 shC 0 (nI a) F (nI (i + 1)) M = some (v, M1) ∧ zlX12_stallIn_16 shM 0 (nI a) F' (nI i) N = (zob (zX12_takesBack shM 0 N1) fun Y => some (v, Y)) ∧ ah M N M1 N1 := by
  intro r
  induction r with
  | zero =>
    intro i F F' T M N h1 hF hF' hT hB hS hG h5
    obtain ⟨F, rfl⟩ : ∃ x, F = x + 1 := ⟨F - 1, by omega⟩
    obtain ⟨F', rfl⟩ : ∃ x, F' = x + 1 + 1 := ⟨F' - 2, by omega⟩
    have hn3 : nA ≤ 3 := hB.2.2.2.1.1
    have ha3 : a < 3 := by omega
    obtain rfl : i = 2000 := by omega
    obtain ⟨M1, N1, a1, a2, a3, a4⟩ := tick_ah hB hS (by omega) hG
    refine ⟨M, N1, -1, ?_, ?_, rfl, a4.2.1, fun _ _ _ => rfl, hG, a4.2.2.2.2⟩
    · simp only [zlX11_stallIn_40]
      unfold zbX11_stallIn_40
      rw [if_pos (by decide)]
    · simp only [zlX12_stallIn_16]
      unfold zbX12_stallIn_16
      rw [if_neg (by decide), axisAt_5 hB.2.2.1.o.1 ha3, rob, if_pos h5, a2, rob]
      show (if (2000 : Int32) < nI 2000 + 1 then zjX12_stallIn_42 shM 0 (nI a) (nI 2000 + 1) N1 else _) = _
      rw [if_pos (by decide)]
      exact back_gt (by decide) _ _
  | succ r ih =>
    intro i F F' T M N h1 hF hF' hT hB hS hG h5
    obtain ⟨F, rfl⟩ : ∃ x, F = x + 1 := ⟨F - 1, by omega⟩
    obtain ⟨F', rfl⟩ : ∃ x, F' = x + 1 := ⟨F' - 1, by omega⟩
    have hn3 : nA ≤ 3 := hB.2.2.2.1.1
    have ha3 : a < 3 := by omega
    have hle : ¬ (2000 : Int32) < nI (i + 1) := by rw [r_lt, nI_toInt (by omega)]; show ¬ (2000 : Int) < _; omega
    have hle' : ¬ (2000 : Int32) < nI i := by rw [r_lt, nI_toInt (by omega)]; show ¬ (2000 : Int) < _; omega
    have e3 : zR M 0 3 = 40 := by simp only [hB.2.1.o]
    have e11 : zR M 0 11 = bb := by simp only [hB.2.1.o]
    obtain ⟨M1, N1, a1, a2, a3, a4⟩ := tick_ah hB hS (by omega) hG
    have hB1 := hB.ah a4
    have f3 : zR M1 0 3 = 40 := by simp only [hB1.2.1.o]
    have f40 : zR M1 40 0 = 40 + 1 := by simp only [hB1.2.1.s st40]
    have hro := h_ro a3 ha ha3
    have g5 : 0 ≤ (zI N1 1 (48 + 6 * a + 5)).toInt := (a3.2.2.2.2.2.2.2.2.1 a ha).2.2.2.2
    have bC : zlX11_stallIn_40 shC 0 (nI a) (F + 1) (nI (i + 1)) M = (if zI N1 1 (48 + 6 * a + 5) ≤ 0 then zlX11_stallIn_40 shC 0 (nI a) F (nI (i + 1 + 1)) M1 else some (nI (i + 1), M1)) := by
      simp only [zlX11_stallIn_40]
      unfold zbX11_stallIn_40
      rw [if_neg hle, e3, e11, a1, rob, f3, f40, show zlen shC (40 + 1) = 3 from rfl, rgd (in_a ha3 (by omega)), nI_clamp (by omega), hB1.2.1.ro st40 ha3, hro.2.2, nI_1]
    have bM : zlX12_stallIn_16 shM 0 (nI a) (F' + 1) (nI i) N = zlX12_stallIn_16 shM 0 (nI a) F' (nI (i + 1)) N1 := by
      rw [show zlX12_stallIn_16 shM 0 (nI a) (F' + 1) (nI i) N = zbX12_stallIn_16 shM 0 (nI a) (zlX12_stallIn_16 shM 0 (nI a) F') (nI i) N from rfl]
      unfold zbX12_stallIn_16
      rw [if_neg hle', axisAt_5 hB.2.2.1.o.1 ha3, rob, if_pos h5, a2, rob, nI_1]
    rw [bC, bM]
    by_cases c : zI N1 1 (48 + 6 * a + 5) = 0
    · rw [if_pos (by rw [c]; decide)]
      obtain ⟨M2, N2, v, b1, b2, b3⟩ := ih (i + 1) F F' (T + 1) M1 N1 (by omega) (by omega) (by omega) (by omega) hB1 a3 a4.2.2.2.1 c
      exact ⟨M2, N2, v, b1, b2, a4.trans b3⟩
    · have c' : ¬ zI N1 1 (48 + 6 * a + 5) ≤ 0 := fun h => c (by rw [r_le] at h; rw [r_eq]; have : (0 : Int32).toInt = 0 := rfl; omega)
      obtain ⟨F', rfl⟩ : ∃ x, F' = x + 1 := ⟨F' - 1, by omega⟩
      refine ⟨M1, N1, nI (i + 1), if_neg c', ?_, a4⟩
      simp only [zlX12_stallIn_16]
      unfold zbX12_stallIn_16
      rw [if_neg hle, axisAt_5 hB1.2.2.1.o.1 ha3, rob, if_neg c]
      exact back_le (by rw [r_le, nI_toInt (by omega)]; show _ ≤ (2000 : Int); omega) _ _
theorem B_stallIn_ok : B_stallIn Inv := by
  intro n M N v1 hn hI
  have hU := Inv_up n M N hI
  obtain ⟨bb, sb, it, nA, nB, h1, h2, h3, h4, h5, h6, h7, h8, h9⟩ := hI
  have h11 : zR M 0 11 = bb := by simp only [h2.o]
  have e3 : zR M 0 3 = 40 := by simp only [h2.o]
  have e2 : zR M 0 2 = 28 := by simp only [h2.o]
  have e28 : zR M 28 0 = 28 + 1 := by simp only [h2.s st28]
  have hn3 : nA ≤ 3 := h6.1
  unfold zX11_stallIn zX12_stallIn
  rw [axisC h11 h6.2.2.1 h6.1, axisM h6.2.2.2.1 h6.1, rob, rob]
  simp only [bI_0]
  by_cases c1 : 0 ≤ v1.toInt ∧ v1.toInt < nA
  · rw [if_neg (nn c1), if_neg (nn c1)]
    obtain ⟨a, ha, rfl⟩ := ax_ex c1
    have ha3 : a < 3 := by omega
    have hro := h_ro h8 ha ha3
    have g5 : 0 ≤ (zI N 1 (48 + 6 * a + 5)).toInt := (h8.2.2.2.2.2.2.2.2.1 a ha).2.2.2.2
    obtain ⟨M1, N1, t1, t2, t3, t4, t5, t6, t7, t8, -⟩ := ahead_open h1 h2 h3 h4 h5 h6 h7 h8 h9
    have hv1 : zI N1 1 (48 + 6 * a + 5) = zI N 1 (48 + 6 * a + 5) := t8 _
    rw [e3, e2, e28, show zlen shC (28 + 1) = 3 from rfl, rgd (in_a ha3 (by omega)), nI_clamp (by omega), h2.ro st28 ha3, hro.2.2, t2, rob]
    by_cases c : zI N 1 (48 + 6 * a + 5) = 0
    · rw [if_pos (show zI N 1 (48 + 6 * a + 5) ≤ 0 by rw [c]; decide), t1, rob]
      obtain ⟨M2, N2, v, b1, b2, b3⟩ := stalls_lp ha 2000 0 zF zF (500 * n) M1 N1 (by omega) (by unfold zF; omega) (by unfold zF; omega) (by omega) t3 t4 t5 (hv1.trans c)
      obtain ⟨N3, d1, d2⟩ := t6 M2 N2 b3
      refine ⟨v, M2, N3, b1, ?_, d2⟩
      refine b2.trans ?_
      rw [d1, rob]
    · have c' : ¬ zI N 1 (48 + 6 * a + 5) ≤ 0 := fun h => c (by rw [r_le] at h; rw [r_eq]; have : (0 : Int32).toInt = 0 := rfl; omega)
      obtain ⟨N3, d1, d2⟩ := t6 M N1 t7
      refine ⟨0, M, N3, if_neg c', ?_, d2⟩
      rw [show zlX12_stallIn_16 shM 0 (nI a) zF 0 N1 = zbX12_stallIn_16 shM 0 (nI a) (zlX12_stallIn_16 shM 0 (nI a) 999999) 0 N1 from rfl]
      unfold zbX12_stallIn_16
      rw [if_neg (by decide), axisAt_5 t3.2.2.1.o.1 ha3, rob, if_neg (by rw [hv1]; exact c), back_le (by decide), d1, rob]
  · exact ⟨-1, M, N, if_pos c1, if_pos c1, hU⟩
