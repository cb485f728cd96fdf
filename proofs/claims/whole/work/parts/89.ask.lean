/-! Phase B: a move asked for -/
def askR (M1 N1 N : zMem) (nA : Nat) (d : Nat → Int) : Prop := ∃ (ld W S : Nat) (L : List Int) (rest E : Int), ld < nA ∧ 1 ≤ W ∧ (∀ a, a < 3 → (d a).natAbs ≤ W) ∧ mvP M1 174 L W rest E ∧ zI M1 174 3 = nI ld ∧ zI M1 174 5 = nI S ∧ (∀ a, a < 3 → zI M1 176 a = iI (d a)) ∧ (∀ a, a < nA → zI M1 175 a = zI N 1 (48 + 6 * a)) ∧ zI N1 0 38 = nI ld ∧ zI N1 0 39 = nI W ∧ zI N1 0 40 = nI S ∧ zI N1 0 43 = iI rest ∧ zI N1 0 44 = iI E ∧ rpM N1 L ∧ ∀ a, a < 3 → zI N1 15 a = iI (d a)
theorem rSt.at0 {M N : zMem} {nA b : Nat} {T : Int} (h : rSt (vSt M b) (zI N 1) nA T) (h3 : nA ≤ 3) : ∀ a, a < nA → zI M (b + 9 + a) 0 = zI N 1 (48 + 6 * a) ∧ btw (zI N 1 (48 + 6 * a)) (-30000) 30000 := fun a ha => by
  have g := h.2.2.2.2.2.2.2.2.1 a ha
  have r0 := g.1 0 (by omega)
  rw [vSt_ro (by omega) (by omega)] at r0
  exact ⟨r0, g.2.1⟩
theorem ask_eq {M N : zMem} {bb sb it nA nB : Nat} {T : Int} (hB : Bx M N bb sb it nA nB) (hS : rSt (vSt M 28) (zI N 1) nA T) (hG : zI M 178 0 = 0) (x y z : Int32) : ∃ (r : Int32) (M1 N1 : zMem) (d : Nat → Int), zX11_askMove shC 0 x y z M = some (r, M1) ∧ zX12_canGo shM 0 x y z N = some (r, N1) ∧ M1.2.2 = M.2.2 ∧ (∀ k j, ¬ (174 ≤ k ∧ k ≤ 178) → k ≠ 183 → zI M1 k j = zI M k j) ∧ zI M1 178 0 = 0 ∧ onlyQ N N1 ∧ ((r = 1 ∧ askR M1 N1 N nA d ∧ okG x y z nA ∧ zX12_plans shM 0 x y z N = some (1, N1) ∧ (∀ a, a < 3 → zI M1 183 a = on3 x y z a)) ∨ r = 0) := by
  have hBB := hB
  obtain ⟨hb, hC, hN, h6, h7⟩ := hB
  have hn3 : nA ≤ 3 := h6.1
  obtain ⟨r1, M1, g1, g2, g3, g4⟩ := goal_eq hC hb h6 x y z
  obtain ⟨r2, q1, q2⟩ := right_eq h6 x y z
  have hat := hS.at0 hn3
  have hC1 := hC.sm g3.1
  have oQ : onlyQ N N := ⟨rfl, fun _ _ _ _ _ => rfl⟩
  unfold zX11_askMove zX12_canGo zjX11_askMove_39 zjX11_askMove_40 zjX12_canGo_24 zjX12_canGo_25
  rw [g1, rob2, q1, rob]
  by_cases c : okG x y z nA
  · have hr1 : r1 = 1 := by
      rcases g2 with g | g
      · exact g.1
      · exact absurd c g.2
    subst hr1
    have f5 : zR M1 0 5 = 174 := by simp only [hC1.o]
    have f2 : zR M1 0 2 = 28 := by simp only [hC1.o]
    have f28 : zR M1 28 0 = 29 := by simp only [hC1.s st28]
    have f9 : zR M1 0 9 = 183 := by simp only [hC1.o]
    have f11 : zR M1 0 11 = bb := by simp only [hC1.o]
    have hmv : mvB M1 174 := by
      have := hC1.o
      exact ⟨by simp only [this], by simp only [this], by simp only [this], by simp only [this]⟩
    have hB1 : Bx M1 N bb sb it nA nB := hBB.o g3 (by omega)
    obtain ⟨r, M2, N2, d, p1, p2, p3, p4, p5, p6, p7⟩ := plan_eq (rk := fun a => 37 + a) (rb := 29) (tb := 183) (mb := 174) (x := x) (y := y) (z := z) hB1 hmv (by omega) rfl rfl rfl rfl rfl (fun a ha => ⟨by have := hC1.ro st28 ha; exact this, by omega⟩) (by omega) (fun a ha => g4 a (by omega)) (by rw [g3.2 178 0 (by omega)]; exact hG) (fun a ha => ⟨by show zI M1 (37 + a) 0 = _; rw [g3.2 _ _ (by omega)]; exact (hat a ha).1, (hat a ha).2, c a ha⟩)
    rw [if_neg (by decide), f5, f2, f28, f9, f11, p1, rob2]
    clear f5 f2 f28 f9 f11
    have hfr : ∀ k j, ¬ (174 ≤ k ∧ k ≤ 178) → k ≠ 183 → zI M2 k j = zI M k j := fun k j h1 h2 => by rw [p3.2 k j (by omega), g3.2 k j h2]
    by_cases h0 : nA = 0
    · have hr2 : r2 = 0 := by
        rcases q2 with g | g
        · omega
        · exact g.1
      subst hr2
      have hr : r = 0 := by
        rcases p6 with ⟨-, g⟩ | ⟨g, -⟩
        · obtain ⟨ld, -, -, -, -, -, -, -, hl, -⟩ := g
          omega
        · exact g
      subst hr
      rw [if_pos rfl, if_pos rfl, rgd (by decide), rgd (by decide)]
      exact ⟨0, M2, N, d, rfl, rfl, p3.1.trans g3.1, hfr, p5, oQ, Or.inr rfl⟩
    · have hr2 : r2 = 1 := by
        rcases q2 with g | g
        · exact g.1
        · exact absurd ⟨c, by omega⟩ g.2
      subst hr2
      have n10 : ¬ (1 : Int32) = 0 := by decide
      rcases p6 with ⟨rfl, g⟩ | ⟨rfl, -⟩
      · simp only [p2, rob2, if_neg n10]
        rw [rgd (by decide), rgd (by decide)]
        refine ⟨1, M2, N2, d, rfl, rfl, p3.1.trans g3.1, hfr, p5, p4, Or.inl ⟨rfl, ?_, c, rfl, fun a ha => by rw [p3.2 _ _ (by omega)]; exact g4 a ha⟩⟩
        obtain ⟨ld, W, S, A, J, L, rest, E, a1, a2, a3, a4, a5, a6, a7, a8, a9, a10, a11, a12, a13, ⟨b1, b2, b3, b4, b5, b6, b7, b8, b9⟩, ⟨c1, c2, c3, c4, c5, c6, c7, c8, c9⟩⟩ := g
        refine ⟨ld, W, S, L, rest, E, a1, a2, a4, ⟨?_, b8, b2, b6, b7, a11, a3, a12, a13⟩, b1, b3, fun a ha => (b9 a ha).2, fun a ha => ?_, c1, c2, c3, c6, c7, c8, c9⟩
        · unfold mvB zR; rw [p3.1]; exact hmv
        · rw [(b9 a (by omega)).1]
          show zI M1 (37 + a) 0 = _
          rw [g3.2 _ _ (by omega)]
          exact (hat a ha).1
      · simp only [p2, rob2, if_neg n10, if_pos]
        rw [rgd (by decide), rgd (by decide)]
        exact ⟨0, M2, N2, d, rfl, rfl, p3.1.trans g3.1, hfr, p5, p4, Or.inr rfl⟩
  · have hr1 : r1 = 0 := by
      rcases g2 with g | g
      · exact absurd g.2 c
      · exact g.1
    have hr2 : r2 = 0 := by
      rcases q2 with g | g
      · exact absurd g.2.1 c
      · exact g.1
    subst hr1 hr2
    rw [if_pos rfl, if_pos rfl, rgd (by decide), rgd (by decide)]
    exact ⟨0, M1, N, fun _ => 0, rfl, rfl, g3.1, fun k j _ h => g3.2 k j h, by rw [g3.2 178 0 (by omega)]; exact hG, oQ, Or.inr rfl⟩
theorem sameC_ask {M M1 : zMem} (e : M1.2.2 = M.2.2) (h : ∀ k j, ¬ (174 ≤ k ∧ k ≤ 178) → k ≠ 183 → zI M1 k j = zI M k j) (h0 : zI M1 178 0 = 0) (h1 : zI M 178 0 = 0) : sameC M M1 := ⟨e, fun k j hk => by
  by_cases g : k = 178
  · subst g
    obtain rfl : j = 0 := by omega
    rw [h0, h1]
  · exact h k j (by omega) (by omega)⟩
/-- what each call that asks for a move begins with -/
theorem ask_inv {n : Nat} {M N : zMem} (hI : Inv n M N) (x y z : Int32) : ∃ (bb sb it nA nB : Nat) (r : Int32) (M1 N1 : zMem) (d : Nat → Int), Bx M N bb sb it nA nB ∧ zX11_askMove shC 0 x y z M = some (r, M1) ∧ zX12_canGo shM 0 x y z N = some (r, N1) ∧ Inv (n + 1) M1 N1 ∧ Bx M1 N1 bb sb it nA nB ∧ onlyQ N N1 ∧ ((r = 1 ∧ askR M1 N1 N nA d) ∨ r = 0) ∧ rSt (vSt M1 28) (zI N1 1) nA (500 * n) := by
  have hI' := hI
  obtain ⟨bb, sb, it, nA, nB, h1, h2, h3, h4, h5, h6, h7, h8, h9⟩ := hI
  have hB : Bx M N bb sb it nA nB := ⟨by omega, h2, h3, h6, h7⟩
  obtain ⟨r, M1, N1, d, t1, t2, t3, t4, t5, t6, t7⟩ := ask_eq hB h8 h5.2.2.1 x y z
  refine ⟨bb, sb, it, nA, nB, r, M1, N1, d, hB, t1, t2, Inv_same hI' (sameC_ask t3 t4 t5 h5.2.2.1) t6.N, hB.sm t3 t6.1 (fun k j hk => t4 k j (by omega) (by omega)) (fun k j hk => t6.2 k j (by omega) (by omega) (by omega)), t6, ?_, ?_⟩
  · rcases t7 with ⟨g1, g2, -⟩ | g
    · exact Or.inl ⟨g1, g2⟩
    · exact Or.inr g
  · rw [vSt_same (M := M) (fun k j i1 i2 i3 => t4 k j (by omega) (by omega)), show zI N1 1 = zI N 1 from by funext j; exact t6.2 1 j (by omega) (by omega) (by omega)]
    exact h8
theorem planTicksM {N : zMem} {L : List Int} {E : Int} (h1 : zI N 0 36 = nI L.length) (h2 : zI N 0 44 = iI E) : zX12_planTicks shM 0 N = some (iI (2 * L.length + E)) := by
  unfold zX12_planTicks
  rw [h1, h2, iI_n, show (2 : Int32) = iI 2 from rfl, iI_mul, iI_add]
theorem in_ticks {sh : zShp} {M : zMem} (x : Int32) (t : Int) (h : -2147483648 ≤ t) (h' : t ≤ 2147483647) : zX12_isIn sh x.toInt64 (0 : Int64) (iI t).toInt64 M = some (bI ((0 : Int32) ≤ x ∧ x ≤ iI t)) := isIn_l x 0 (iI t) _ _ rfl (by rw [Int32.toInt_toInt64])
/-- the sums of the reference's speeds -/
theorem sum_speeds {L : List Int} {E rest : Int} (he : evOK rest E) {k : Nat} (hk : (k : Int) < 2 * L.length + E) : iI (fG L E rest k) + iI (fS L E rest k) = iI (fG L E rest (k + 1 : Nat)) := by
  rw [iI_add, show ((k + 1 : Nat) : Int) = (k : Int) + 1 by omega, fG_s he (by omega) hk]
theorem B_pathAt_ok : B_pathAt Inv := by
  intro n M N v1 v2 v3 v4 v5 hn hI
  have hU := Inv_up n M N hI
  obtain ⟨bb, sb, it, nA, nB, r, M1, N1, d, hB, t1, t2, hI1, hB1, hQ, t3, hS1⟩ := ask_inv hI v1 v2 v3
  obtain ⟨hb, hC, hN, h6, h7⟩ := hB
  have hn3 : nA ≤ 3 := h6.1
  have h11 : zR M 0 11 = bb := by simp only [hC.o]
  have f5 : zR M1 0 5 = 174 := by simp only [hB1.2.1.o]
  have e37 : zR N1 0 37 = 15 := by simp only [hB1.2.2.1.o]
  have e35 : zR N1 0 35 = 14 := by simp only [hB1.2.2.1.o]
  have e0 : zR N1 0 0 = 1 := hB1.2.2.1.o.1
  unfold zX11_pathAt zX12_pathAt zjX11_pathAt_35 zjX12_pathAt_34
  rw [axisC h11 h6.2.2.1 h6.1, axisM h6.2.2.2.1 h6.1, rob, rob, t1, rob2, t2, rob2]
  simp only [bI_0]
  by_cases c1 : 0 ≤ v4.toInt ∧ v4.toInt < nA
  · rw [if_neg (nn c1), if_neg (nn c1)]
    obtain ⟨a, ha, rfl⟩ := ax_ex c1
    have ha3 : a < 3 := by omega
    rcases t3 with ⟨rfl, ld, W, S, L, rest, E, a1, a2, a3, a4, a5, a6, a7, a8, c38, c39, c40, c43, c44, cL, c15⟩ | rfl
    · have a4' := a4
      obtain ⟨hm, hr, h4, h8, h9, hL, hW, hWe, he⟩ := a4'
      have he' := he
      obtain ⟨ee1, ee2, ee3⟩ := he'
      have h60 := hL.1
      have hps := psum_b hL L.length
      have n10 : ¬ (1 : Int32) = 0 := by decide
      rw [if_neg n10, if_neg n10, f5, ticksC a4, rob, within_eq, rob, planTicksM cL.1 c44, rob, in_ticks _ _ (by omega) (by omega), rob]
      simp only [bI_0]
      by_cases c2 : (0 : Int32) ≤ v5 ∧ v5 ≤ iI (2 * L.length + E)
      · rw [if_neg (nn c2), if_neg (nn c2)]
        have g1 : 0 ≤ v5.toInt := r_le.mp c2.1
        have g2 := r_le.mp c2.2
        rw [iI_i (by omega) (by omega)] at g2
        obtain ⟨K, hK, rfl⟩ := ax_ex (nA := 70001) (x := v5) ⟨g1, by omega⟩
        rw [nI_toInt (by omega)] at g2
        have hgb := fG_b hL he K g2
        have hplace := placeC (a := a) (s := fG L E rest K) (d := d a) hm rfl rfl ha3 h4 (a8 a ha) (a7 a ha3) a2 hW (by omega) (by omega) (by have := a3 a ha3; omega)
        have loop : ∀ (r k F : Nat), k + r = K → r < F → zlX12_pathAt_43 shM 0 v1 v2 v3 (nI a) (nI K) F (iI (fG L E rest k)) (nI k) N1 = some (zI N1 1 (48 + 6 * a) + iI (fPa (fG L E rest K) (d a) W), N1) := by
          intro r
          induction r with
          | zero =>
            intro k F h1 hF
            obtain ⟨F, rfl⟩ : ∃ x, F = x + 1 := ⟨F - 1, by omega⟩
            obtain rfl : k = K := by omega
            simp only [zlX12_pathAt_43]
            unfold zbX12_pathAt_43
            rw [if_pos (nI_le (by omega) (by omega)), axisAt_0 e0 ha3, rob, e37, show zlen shM 15 = 3 from rfl, rgd (in_a ha3 (by omega)), nI_clamp (by omega), c15 a ha3, c39, goneByM a2 hW (by omega) (by omega) (by have := a3 a ha3; omega), rob]
            rfl
          | succ r ih =>
            intro k F h1 hF
            obtain ⟨F, rfl⟩ : ∃ x, F = x + 1 := ⟨F - 1, by omega⟩
            have := ih (k + 1) F (by omega) (by omega)
            simp only [zlX12_pathAt_43]
            unfold zbX12_pathAt_43
            rw [if_neg (nI_ge (by omega) (by omega))]
            rw [show zX12_speedOf shM 0 (nI k) N1 = some (iI (fS L E rest k)) by rw [iI_n]; exact speedOfM hL e35 cL c43 c44 he (by omega) (by omega) (by omega), rob, sum_speeds he (by omega), nI_1]
            exact this
        refine ⟨zI N 1 (48 + 6 * a) + iI (fPa (fG L E rest K) (d a) W), M1, N1, ?_, ?_, hI1⟩
        · rw [iI_n K, goneC a4 rfl (by omega) (by omega), rob, hplace, rob]
        · have := loop K 0 zF (by omega) (by unfold zF; omega)
          rw [show fG L E rest ((0 : Nat) : Int) = 0 from fG_0, hQ.2 1 _ (by omega) (by omega) (by omega)] at this
          exact this
      · exact ⟨_, M1, N1, if_pos c2, if_pos c2, hI1⟩
    · exact ⟨_, M1, N1, if_pos rfl, if_pos rfl, hI1⟩
  · exact ⟨_, M, N, if_pos c1, if_pos c1, hU⟩
