/-! Phase B: goals, queue -/
def on3 (x y z : Int32) (a : Nat) : Int32 := if a = 0 then x else if a = 1 then y else z
def okG (x y z : Int32) (nA : Nat) : Prop := ∀ a, a < nA → btw (on3 x y z a) (-30000) 30000
theorem oneM {N : zMem} {x y z : Int32} {a : Nat} (ha : a < 3) : zX12_one shM x y z (nI a) N = some (on3 x y z a) := by
  unfold zX12_one zjX12_one_18 on3
  rcases (show a = 0 ∨ a = 1 ∨ a = 2 by omega) with rfl | rfl | rfl
  · rfl
  · rfl
  · rfl
theorem btw_30k (x : Int32) : ((-30000 : Int32) ≤ x ∧ x ≤ 30000) = btw x (-30000) 30000 := by
  unfold btw
  rw [r_le, r_le]
  rfl
theorem goal_eq {M N : zMem} {bb sb it nA nB : Nat} (hC : rfC M bb sb it) (hb : bb = 1 ∨ bb = 13) (h6 : IvB M N bb nA nB) (x y z : Int32) : ∃ r M1, zX11_takeGoal shC 0 x y z M = some (r, M1) ∧ ((r = 1 ∧ okG x y z nA) ∨ (r = 0 ∧ ¬ okG x y z nA)) ∧ only 183 M M1 ∧ (∀ a, a < 3 → zI M1 183 a = on3 x y z a) := by
  have hn3 : nA ≤ 3 := h6.1
  have e9 : zR M 0 9 = 183 := by simp only [hC.o]
  have e11 : zR M 0 11 = bb := by simp only [hC.o]
  generalize hM1 : zpI (zpI (zpI M 183 0 x) 183 1 y) 183 2 z = M1
  have o1 : only 183 M M1 := by rw [← hM1]; exact (((only.rf 183 M).p 0 x).p 1 y).p 2 z
  have g1 : ∀ a, a < 3 → zI M1 183 a = on3 x y z a := fun a ha => by
    rw [← hM1]
    rcases (show a = 0 ∨ a = 1 ∨ a = 2 by omega) with rfl | rfl | rfl <;> rfl
  have f9 : zR M1 0 9 = 183 := o1.R e9
  have f11 : zR M1 0 11 = bb := o1.R e11
  have f6 : zI M1 bb 6 = nI nA := by rw [o1.2 _ _ (by omega)]; exact h6.2.2.1
  have loop : ∀ (r a F : Nat), a + r = nA → r < F → (∀ c, c < a → btw (on3 x y z c) (-30000) 30000) → ∃ v, zlX11_takeGoal_24 shC 0 x y z F (nI a) M1 = some (v, M1) ∧ ((v = 1 ∧ okG x y z nA) ∨ (v = 0 ∧ ¬ okG x y z nA)) := by
    intro r
    induction r with
    | zero =>
      intro a F h1 hF ha
      obtain ⟨F, rfl⟩ : ∃ x, F = x + 1 := ⟨F - 1, by omega⟩
      simp only [zlX11_takeGoal_24]
      unfold zbX11_takeGoal_24
      rw [f11, f6, if_pos (nI_le (by omega) (by omega))]
      exact ⟨1, rfl, Or.inl ⟨rfl, fun c hc => ha c (by omega)⟩⟩
    | succ r ih =>
      intro a F h1 hF ha
      obtain ⟨F, rfl⟩ : ∃ x, F = x + 1 := ⟨F - 1, by omega⟩
      simp only [zlX11_takeGoal_24]
      unfold zbX11_takeGoal_24
      rw [f11, f6, if_neg (nI_ge (by omega) (by omega)), f9, show zlen shC 183 = 3 from rfl, rgd (in_a (by omega) (by omega)), nI_clamp (by omega), g1 a (by omega), within_eq, rob, nI_1]
      by_cases c : btw (on3 x y z a) (-30000) 30000
      · rw [if_neg (by rw [bI_0, btw_30k]; exact nn c)]
        exact ih (a + 1) F (by omega) (by omega) (fun c' hc' => by
          by_cases g : c' = a
          · rw [g]; exact c
          · exact ha c' (by omega))
      · rw [if_pos (by rw [bI_0, btw_30k]; exact c)]
        exact ⟨0, rfl, Or.inr ⟨rfl, fun g => c (g a (by omega))⟩⟩
  obtain ⟨v, t1, t2⟩ := loop nA 0 zF (by omega) (by unfold zF; omega) (fun c hc => by omega)
  refine ⟨v, M1, ?_, t2, o1, g1⟩
  unfold zX11_takeGoal
  simp only [rbd]
  have e9a : zR (zpI M 183 0 x) 0 9 = 183 := e9
  have e9b : zR (zpI (zpI M 183 0 x) 183 1 y) 0 9 = 183 := e9
  rw [e9, show zlen shC 183 = 3 from rfl, rgd (by decide), show (0 : Int32).toNatClampNeg = 0 from rfl, e9a, show zlen shC 183 = 3 from rfl, rgd (by decide), show (1 : Int32).toNatClampNeg = 1 from rfl, e9b, show zlen shC 183 = 3 from rfl, rgd (by decide), show (2 : Int32).toNatClampNeg = 2 from rfl, hM1]
  exact t1
theorem right_eq {M N : zMem} {bb nA nB : Nat} (h6 : IvB M N bb nA nB) (x y z : Int32) : ∃ r, zX12_areRight shM 0 x y z N = some r ∧ ((r = 1 ∧ okG x y z nA ∧ 0 < nA) ∨ (r = 0 ∧ ¬ (okG x y z nA ∧ 0 < nA))) := by
  have hn3 : nA ≤ 3 := h6.1
  have f6 : zI N 0 22 = nI nA := h6.2.2.2.1
  have loop : ∀ (r a F : Nat), a + r = nA → r < F → (∀ c, c < a → btw (on3 x y z c) (-30000) 30000) → ∃ v, zlX12_areRight_3 shM 0 x y z N F (nI a) = some v ∧ ((v = 1 ∧ okG x y z nA ∧ 0 < nA) ∨ (v = 0 ∧ ¬ (okG x y z nA ∧ 0 < nA))) := by
    intro r
    induction r with
    | zero =>
      intro a F h1 hF ha
      obtain ⟨F, rfl⟩ : ∃ x, F = x + 1 := ⟨F - 1, by omega⟩
      simp only [zlX12_areRight_3]
      unfold zbX12_areRight_3 zjX12_areRight_53
      rw [f6, if_pos (nI_le (by omega) (by omega))]
      by_cases c : nA = 0
      · rw [if_pos (by rw [c]; decide), rgd (by decide)]
        exact ⟨0, rfl, Or.inr ⟨rfl, fun g => by omega⟩⟩
      · rw [if_neg (nI_nle (by omega) (by omega)), rgd (by decide)]
        exact ⟨1, rfl, Or.inl ⟨rfl, fun c hc => ha c (by omega), by omega⟩⟩
    | succ r ih =>
      intro a F h1 hF ha
      obtain ⟨F, rfl⟩ : ∃ x, F = x + 1 := ⟨F - 1, by omega⟩
      simp only [zlX12_areRight_3]
      unfold zbX12_areRight_3
      rw [f6, if_neg (nI_ge (by omega) (by omega)), oneM (by omega), rob, isIn_l _ (-30000) 30000 _ _ rfl rfl, rob, nI_1]
      by_cases c : btw (on3 x y z a) (-30000) 30000
      · rw [if_neg (by rw [bI_0, btw_30k]; exact nn c)]
        exact ih (a + 1) F (by omega) (by omega) (fun c' hc' => by
          by_cases g : c' = a
          · rw [g]; exact c
          · exact ha c' (by omega))
      · rw [if_pos (by rw [bI_0, btw_30k]; exact c)]
        exact ⟨0, rfl, Or.inr ⟨rfl, fun g => c (g.1 a (by omega))⟩⟩
  exact loop nA 0 zF (by omega) (by unfold zF; omega) (fun c hc => by omega)
/-- what waits, told anew -/
theorem rSt.wt {V V' : Nat → Nat → Int32} {f f' : Nat → Int32} {nA : Nat} {T : Int} (h : rSt V f nA T) (h3 : nA ≤ 3) (eV : ∀ k j, k ≠ 7 → ¬ (k = 0 ∧ j = 4) → V' k j = V k j) (e : ∀ j, j < 194 → ¬ (23 ≤ j ∧ j < 48) → f' j = f j) (h4 : V' 0 4 = f' 23) (h5 : btw (f' 23) 0 8) (h6 : ∀ i : Nat, i < 24 → (i : Int) < 3 * (f' 23).toInt → V' 7 i = f' (24 + i)) (h7 : ∀ i a : Nat, (i : Int) < (f' 23).toInt → a < nA → btw (f' (24 + 3 * i + a)) (-30000) 30000) : rSt V' f' nA T := by
  have e0 := e 0 (by omega) (by omega)
  have e1 := e 1 (by omega) (by omega)
  have e3 := e 3 (by omega) (by omega)
  have e10 := e 10 (by omega) (by omega)
  have e11 := e 11 (by omega) (by omega)
  have e12 := e 12 (by omega) (by omega)
  have e13 := e 13 (by omega) (by omega)
  have e14 := e 14 (by omega) (by omega)
  have e15 := e 15 (by omega) (by omega)
  have e16 := e 16 (by omega) (by omega)
  have e17 := e 17 (by omega) (by omega)
  have e18 := e 18 (by omega) (by omega)
  have e19 := e 19 (by omega) (by omega)
  have e20 := e 20 (by omega) (by omega)
  have e21 := e 21 (by omega) (by omega)
  have e22 := e 22 (by omega) (by omega)
  have w05 := eV 0 5 (by omega) (by omega)
  have w06 := eV 0 6 (by omega) (by omega)
  have w07 := eV 0 7 (by omega) (by omega)
  have w08 := eV 0 8 (by omega) (by omega)
  have w09 := eV 0 9 (by omega) (by omega)
  have w010 := eV 0 10 (by omega) (by omega)
  have w011 := eV 0 11 (by omega) (by omega)
  have w012 := eV 0 12 (by omega) (by omega)
  have w24 := eV 2 4 (by omega) (by omega)
  have w26 := eV 2 6 (by omega) (by omega)
  have w27 := eV 2 7 (by omega) (by omega)
  have w28 := eV 2 8 (by omega) (by omega)
  have w29 := eV 2 9 (by omega) (by omega)
  have w51 := eV 5 1 (by omega) (by omega)
  unfold rSt at h ⊢
  simp only [e0, e1, e21, e22, w05, w06, w07, w08, w09, w010]
  obtain ⟨k1, k2, k4, k5, k6, k7, k8, k9, k10, k11, k12, k13⟩ := h
  refine ⟨k1, k2, k4, k5, h4, h5, h6, h7, fun a ha => ?_, k11, k12, ?_⟩
  · obtain ⟨g1, g2, g3, g4, g5⟩ := k10 a ha
    clear e0 e1 e3 e10 e11 e12 e13 e14 e15 e16 e17 e18 e19 e20 e21 e22
    rw [e _ (by omega) (by omega), e _ (by omega) (by omega), e _ (by omega) (by omega), e _ (by omega) (by omega)]
    exact ⟨fun j hj => by rw [e _ (by omega) (by omega), eV _ _ (by omega) (by omega)]; exact g1 j hj, g2, g3, g4, g5⟩
  · rcases k13 with g | ⟨g, k⟩
    · exact Or.inl g
    · refine Or.inr ⟨g, ?_⟩
      unfold rMv at k ⊢
      simp only [e3, e10, e11, e12, e13, e14, e15, e16, e17, e18, e19, e20, w09, w010, w011, w012, w24, w26, w27, w28, w29, w51]
      clear e0 e1 e3 e10 e11 e12 e13 e14 e15 e16 e17 e18 e19 e20 e21 e22
      obtain ⟨k1, k2, k3, k4, k5, k6, k7, k8, k9, k10, k11, k12, L, k13, k14, k15, k16⟩ := k
      have h60 := k13.1
      refine ⟨k1, k2, k3, k4, k5, k6, k7, k8, k9, k10, fun a ha => ?_, k12, L, k13, fun i hi => by rw [eV _ _ (by omega) (by omega)]; exact k14 i hi, k15, ?_⟩
      · rw [e _ (by omega) (by omega), e _ (by omega) (by omega), eV _ _ (by omega) (by omega), eV _ _ (by omega) (by omega)]
        exact k11 a ha
      · rcases k16 with ⟨m1, m2, m3, m4⟩ | ⟨m1, m2, m3, m4⟩
        · exact Or.inl ⟨m1, m2, fun k hk => by rw [e _ (by omega) (by omega)]; exact m3 k hk, m4⟩
        · exact Or.inr ⟨m1, m2, fun k hk => by rw [e _ (by omega) (by omega)]; exact m3 k hk, m4⟩
theorem B_queue_ok : B_queue Inv := by
  intro n M N v1 v2 v3 hn hI
  have hU := Inv_up n M N hI
  have hI' := hI
  obtain ⟨bb, sb, it, nA, nB, h1, h2, h3, h4, h5, h6, h7, h8, h9⟩ := hI
  have hb : bb = 1 ∨ bb = 13 := by omega
  have hn3 : nA ≤ 3 := h6.1
  have e2 : zR M 0 2 = 28 := by simp only [h2.o]
  have n0 : zR N 0 0 = 1 := h3.o.1
  have s8 : zI M 28 8 = zI N 1 1 := by have := h8.2.2.2.2.2.2.2.2.2.1; rw [vSt_at rfl] at this; exact this
  have s4 : zI M 28 4 = zI N 1 23 := by have := h8.2.2.2.2.1; rw [vSt_at rfl] at this; exact this
  have hw := h8.2.2.2.2.2.1
  have hon := h8.2.2.2.2.2.2.2.2.2.2.2
  obtain ⟨w, hw9, hwn⟩ := ax_ex (nA := 9) (x := zI N 1 23) ⟨hw.1, by have := hw.2; omega⟩
  have hl1 : zin (1 : Int32) (zlen shM 1) = true := by decide
  have hl23 : zin (23 : Int32) (zlen shM 1) = true := by decide
  obtain ⟨r, M1, g1, g2, g3, g4⟩ := goal_eq h2 hb h6 v1 v2 v3
  obtain ⟨r', q1, q2⟩ := right_eq h6 v1 v2 v3
  unfold zX11_queue zX12_queue zjX11_queue_32 zjX12_queue_31
  rw [e2, n0, rgd hl1, rgd hl23, show (1 : Int32).toNatClampNeg = 1 from rfl, show (23 : Int32).toNatClampNeg = 23 from rfl, s8, s4, g1, rob2, q1, rob]
  rcases hon with ⟨h0, -⟩ | ⟨h0, hmv⟩
  · exact ⟨_, M, N, if_pos h0, if_pos h0, hU⟩
  · have hnz : ¬ zI N 1 1 = 0 := by rw [h0]; decide
    have hpos : 0 < nA := hmv.2.2.2.2.2.2.2.2.2.2.2.1.2
    rw [if_neg hnz, if_neg hnz, hwn]
    have hU1 : Inv (n + 1) M1 N := Inv_same hI' ((g3.C (by omega))) (sameN.rf N)
    by_cases c8 : w = 8
    · subst c8
      rw [if_pos (show (8 : Int32) ≤ nI 8 by decide)]
      refine ⟨-1, M, N, rfl, ?_, hU⟩
      by_cases c : r' = 0
      · rw [if_pos c]
      · rw [if_neg c, if_pos (show nI 8 = (8 : Int32) from rfl)]
    · rw [if_neg (show ¬ (8 : Int32) ≤ nI w from nI_ge (b := 8) (by omega) (by omega)), if_neg (show ¬ nI w = (8 : Int32) from fun g => c8 ((nI_eq (b := 8) (by omega) (by omega)).mp g))]
      by_cases c : okG v1 v2 v3 nA
      · have hr : r = 1 := by
          rcases g2 with g | g
          · exact g.1
          · exact absurd c g.2
        have hr' : r' = 1 := by
          rcases q2 with g | g
          · exact g.1
          · exact absurd ⟨c, hpos⟩ g.2
        subst hr hr'
        rw [if_neg (by decide), if_neg (by decide)]
        have h2' := h2.sm g3.1
        have h8' : rSt (vSt M1 28) (zI N 1) nA (500 * n) := by
          rw [vSt_same (M := M) (fun k j i1 i2 i3 => g3.2 k j (by omega))]; exact h8
        have h9' : IvH M1 N nA (500 * n) := h9.sm (fun k j i1 i2 => g3.2 k j (by omega)) (fun _ _ _ => rfl)
        obtain ⟨M2, N2, t1, t2, t3, t4, t5, t6, t7, t8⟩ := keep_act h2' h3 hn3 h9' h8'
        have h2'' := h2'.sm t4
        have h3'' := h3.sm t5
        have f4 : zR M1 0 4 = 52 := by simp only [h2'.o]
        have f2 : zR M1 0 2 = 28 := by simp only [h2'.o]
        have k2 : zR M2 0 2 = 28 := by simp only [h2''.o]
        have k9 : zR M2 0 9 = 183 := by simp only [h2''.o]
        have k28 : zR M2 28 2 = 28 + 7 := by simp only [h2''.s st28]
        have m0 : zR N2 0 0 = 1 := h3''.o.1
        have s4' : zI M2 28 4 = nI w := by rw [t6 28 4 (by omega), g3.2 28 4 (by omega), s4, hwn]
        have w23 : zI N2 1 23 = nI w := by rw [t7 1 23 (by omega) (by omega), hwn]
        rw [f4, f2, t1, rob, t2, rob, k2, k9]
        have hadd : zX8_addWaiting shC 28 183 M2 = some (zpI (zpC M2 183 0 35 (w * 3) 3) 28 4 (nI (w + 1))) := by
          unfold zX8_addWaiting zjX8_addWaiting_35
          rw [s4', if_neg (show ¬ (8 : Int32) ≤ nI w from nI_ge (b := 8) (by omega) (by omega)), k28, show zlen shC 183 = 3 from rfl, show zlen shC (28 + 7) = 24 from rfl, show nI w * 3 = nI (w * 3) from pk_mul w 3, nI_clamp (by omega)]
          simp only [rbd]
          rw [rgd]
          · rw [show zI (zpC M2 183 (0 : Int32).toNatClampNeg (28 + 7) (w * 3) (3 : Int32).toNatClampNeg) 28 4 = nI w by rw [rI_pC, if_neg (by omega)]; exact s4', nI_1]
            rfl
          · have a1 : ¬ (nI (w * 3)) < 0 := nI_pos (by omega)
            have a2 : (nI (w * 3)).toNatClampNeg = w * 3 := nI_clamp (by omega)
            unfold zcpok
            rw [a2]
            simp only [a1, not_false_eq_true, decide_true, Bool.and_true, Bool.true_and, Bool.and_eq_true, decide_eq_true_eq]
            refine ⟨⟨⟨by decide, by decide⟩, by decide⟩, ?_⟩
            show w * 3 + 3 ≤ 24
            omega
        rw [hadd, rob]
        have kk2 : zR (zpI (zpC M2 183 0 35 (w * 3) 3) 28 4 (nI (w + 1))) 0 2 = 28 := k2
        rw [kk2, show zI (zpI (zpC M2 183 0 35 (w * 3) 3) 28 4 (nI (w + 1))) 28 4 = nI (w + 1) from rfl]
        simp only [rbd]
        have ev : (24 : Int32) + 3 * nI w = nI (24 + 3 * w) := by rw [show (3 : Int32) = nI 3 from rfl, pk_mul, show (24 : Int32) = nI 24 from rfl, nI_add]
        have ev1 : nI (24 + 3 * w) + 1 = nI (24 + 3 * w + 1) := nI_1 _
        have ev2 : nI (24 + 3 * w) + 2 = nI (24 + 3 * w + 2) := by rw [show (2 : Int32) = nI 2 from rfl, nI_add]
        have hR : ∀ (X : zMem) (a b c : Nat) (u v w' : Int32), X.2.2 = N2.2.2 → zR (zpI X 1 a u) 0 0 = 1 := fun X a b c u v w' e => by show X.2.2 0 0 = 1; rw [e]; exact m0
        rw [m0, rgd hl23, w23, ev, show zlen shM 1 = 194 from rfl, rgd (in_a (by omega) (by omega)), nI_clamp (by omega)]
        rw [show zR (zpI N2 1 (24 + 3 * w) v1) 0 0 = 1 from m0, show zlen shM 1 = 194 from rfl, ev1, rgd (in_a (by omega) (by omega)), nI_clamp (by omega)]
        rw [show zR (zpI (zpI N2 1 (24 + 3 * w) v1) 1 (24 + 3 * w + 1) v2) 0 0 = 1 from m0, show zlen shM 1 = 194 from rfl, ev2, rgd (in_a (by omega) (by omega)), nI_clamp (by omega)]
        rw [show zR (zpI (zpI (zpI N2 1 (24 + 3 * w) v1) 1 (24 + 3 * w + 1) v2) 1 (24 + 3 * w + 2) v3) 0 0 = 1 from m0, rgd hl23, rgd hl23]
        rw [show zI (zpI (zpI (zpI N2 1 (24 + 3 * w) v1) 1 (24 + 3 * w + 1) v2) 1 (24 + 3 * w + 2) v3) 1 23 = nI w by rw [rI_pI, if_neg (by omega), rI_pI, if_neg (by omega), rI_pI, if_neg (by omega)]; exact w23, nI_1]
        rw [show zR (zpI (zpI (zpI (zpI N2 1 (24 + 3 * w) v1) 1 (24 + 3 * w + 1) v2) 1 (24 + 3 * w + 2) v3) 1 23 (nI (w + 1))) 0 0 = 1 from m0, rgd hl23]
        clear ev ev1 ev2 hR kk2 hadd f4 f2 k2 k9 k28 m0 hl1 hl23 n0 e2
        refine ⟨nI (w + 1), _, _, rfl, rfl, Inv_of h1 h2 h3 h4 h5 h6 h7 (t4.trans g3.1) t5 (fun k j hk => ?_) (fun k j hk => ?_) ?_ ?_ ?_⟩
        · rw [rI_pI, if_neg (by omega), rI_pC, if_neg (by omega), t6 k j (by omega), g3.2 k j (by omega)]
        · rw [rI_pI, if_neg (by omega), rI_pI, if_neg (by omega), rI_pI, if_neg (by omega), rI_pI, if_neg (by omega), t7 k j (by omega) (by omega)]
        · have hG0 : G0 M1 := ⟨by rw [g3.2 178 0 (by omega)]; exact h5.2.2.1, by rw [g3.2 180 0 (by omega)]; exact h5.2.2.2.1, fun b hb2 => by rw [g3.2 _ _ (by unfold stB at hb2; omega)]; exact h5.2.2.2.2 b hb2⟩
          have hG := t8 hG0
          refine ⟨?_, ?_, fun b hb2 => ?_⟩
          · rw [rI_pI, if_neg (by omega), rI_pC, if_neg (by omega)]; exact hG.1
          · rw [rI_pI, if_neg (by omega), rI_pC, if_neg (by omega)]; exact hG.2.1
          · have hG3 := hG.2.2 b hb2
            unfold stB at hb2
            rw [rI_pI, if_neg (by omega), rI_pC, if_neg (by omega)]; exact hG3
        · have hS1 : rSt (vSt M2 28) (zI N2 1) nA (500 * n) := by
            rw [vSt_same (M := M1) (fun k j i1 i2 i3 => t6 k j (by omega)), show zI N2 1 = zI N 1 from by funext j; exact t7 1 j (by omega) (by omega)]
            exact h8'
          have hp7 := hS1.2.2.2.2.2.2.1
          have hp8 := hS1.2.2.2.2.2.2.2.1
          have e23 : zI (zpI (zpI (zpI (zpI N2 1 (24 + 3 * w) v1) 1 (24 + 3 * w + 1) v2) 1 (24 + 3 * w + 2) v3) 1 23 (nI (w + 1))) 1 23 = nI (w + 1) := rfl
          have rdN : ∀ i : Nat, i < 3 * w + 3 → zI (zpI (zpI (zpI (zpI N2 1 (24 + 3 * w) v1) 1 (24 + 3 * w + 1) v2) 1 (24 + 3 * w + 2) v3) 1 23 (nI (w + 1))) 1 (24 + i) = if i < 3 * w then zI N2 1 (24 + i) else on3 v1 v2 v3 (i - 3 * w) := fun i hi => by
            rw [rI_pI, if_neg (by omega), rI_pI, rI_pI, rI_pI]
            by_cases c0 : i < 3 * w
            · rw [if_neg (by omega), if_neg (by omega), if_neg (by omega), if_pos c0]
            · rw [if_neg c0]
              rcases (show i = 3 * w ∨ i = 3 * w + 1 ∨ i = 3 * w + 2 by omega) with rfl | rfl | rfl
              · rw [if_neg (by omega), if_neg (by omega), if_pos ⟨rfl, rfl⟩, show 3 * w - 3 * w = 0 by omega]; rfl
              · rw [if_neg (by omega), if_pos ⟨rfl, by omega⟩, show 3 * w + 1 - 3 * w = 1 by omega]; rfl
              · rw [if_pos ⟨rfl, by omega⟩, show 3 * w + 2 - 3 * w = 2 by omega]; rfl
          refine (hS1.w (T1 := 500 * (n + 1 : Nat)) (by omega)).wt hn3 (fun k j i1 i2 => ?_) (fun j j1 j2 => ?_) ?_ ?_ (fun i i1 i2 => ?_) (fun i a i1 i2 => ?_)
          · unfold vSt
            by_cases hr : relS k j = true
            · rw [if_pos hr, if_pos hr, rI_pI, if_neg (by omega), rI_pC, if_neg (by omega)]
            · rw [if_neg hr, if_neg hr]
          · rw [rI_pI, if_neg (by omega), rI_pI, if_neg (by omega), rI_pI, if_neg (by omega), rI_pI, if_neg (by omega)]
          · rw [vSt_at rfl]; rfl
          · rw [e23]; unfold btw; rw [nI_toInt (by omega)]; omega
          · rw [e23, nI_toInt (by omega)] at i2
            rw [rdN i (by omega), vSt_at (by unfold relS; simp; omega)]
            rw [rI_pI, if_neg (by omega), rI_pC, if_pos rfl]
            unfold va_cpy
            by_cases c0 : i < 3 * w
            · rw [if_neg (by omega), if_pos c0]
              have := hp7 i i1 (by rw [w23, nI_toInt (by omega)]; omega)
              rw [vSt_at (by unfold relS; simp; omega)] at this
              exact this
            · rw [if_pos (by omega), if_neg c0, t6 183 _ (by omega), g4 _ (by omega)]
              congr 1
              omega
          · rw [e23, nI_toInt (by omega)] at i1
            rw [show 24 + 3 * i + a = 24 + (3 * i + a) by omega, rdN (3 * i + a) (by omega)]
            by_cases c0 : 3 * i + a < 3 * w
            · rw [if_pos c0, ← Nat.add_assoc]
              exact hp8 i a (by rw [w23, nI_toInt (by omega)]; omega) i2
            · rw [if_neg c0, show 3 * i + a - 3 * w = a by omega]
              exact c a i2
        · exact (t3.w (by omega)).sm (fun k j i1 i2 => by rw [rI_pI, if_neg (by omega), rI_pC, if_neg (by omega)]) (fun k j g => by rw [rI_pI, if_neg (by omega), rI_pI, if_neg (by omega), rI_pI, if_neg (by omega), rI_pI, if_neg (by omega)])
      · have hr : r = 0 := by
          rcases g2 with g | g
          · exact absurd g.2 c
          · exact g.1
        have hr' : r' = 0 := by
          rcases q2 with g | g
          · exact absurd g.2.1 c
          · exact g.1
        exact ⟨-1, M1, N, by rw [if_pos hr], by rw [if_pos hr'], hU1⟩
