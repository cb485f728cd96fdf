/-! Phase B: undo, load, watch -/
/-- rotors changed, all else as it was -/
theorem rSt.up {V V' : Nat → Nat → Int32} {f f' : Nat → Int32} {nA : Nat} {T : Int} (h : rSt V f nA T) (h3 : nA ≤ 3) (eV : ∀ k j, k < 9 → V' k j = V k j) (e : ∀ j, j < 194 → ¬ (48 ≤ j ∧ j < 66) → f' j = f j) (hr : ∀ a, a < nA → (∀ j, j < 6 → V' (9 + a) j = f' (48 + 6 * a + j)) ∧ btw (f' (48 + 6 * a)) (-30000) 30000 ∧ btw (f' (48 + 6 * a + 3)) (-2000) 2000 ∧ btw (f' (48 + 6 * a + 4)) 0 2048 ∧ 0 ≤ (f' (48 + 6 * a + 5)).toInt) : rSt V' f' nA T := by
  have e0 := e 0 (by omega) (by omega)
  have e1 := e 1 (by omega) (by omega)
  have e3 := e 3 (by omega) (by omega)
  have e10 := e 10 (by omega) (by omega)
  have e11 := e 11 (by omega) (by omega)
  have e12 := e 12 (by omega) (by omega)
  have e13 := e 13 (by omega) (by omega)
  have e14 := e 14 (by omega) (by omega)
  have e15 := e 15 (by omega) (by omega)
  have e16 := e 16 (by omega) (by omega)
  have e17 := e 17 (by omega) (by omega)
  have e18 := e 18 (by omega) (by omega)
  have e19 := e 19 (by omega) (by omega)
  have e20 := e 20 (by omega) (by omega)
  have e21 := e 21 (by omega) (by omega)
  have e22 := e 22 (by omega) (by omega)
  have e23 := e 23 (by omega) (by omega)
  have w0_4 := eV 0 4 (by omega)
  have w0_5 := eV 0 5 (by omega)
  have w0_6 := eV 0 6 (by omega)
  have w0_7 := eV 0 7 (by omega)
  have w0_8 := eV 0 8 (by omega)
  have w0_9 := eV 0 9 (by omega)
  have w0_10 := eV 0 10 (by omega)
  have w0_11 := eV 0 11 (by omega)
  have w0_12 := eV 0 12 (by omega)
  have w2_4 := eV 2 4 (by omega)
  have w2_6 := eV 2 6 (by omega)
  have w2_7 := eV 2 7 (by omega)
  have w2_8 := eV 2 8 (by omega)
  have w2_9 := eV 2 9 (by omega)
  have w5_1 := eV 5 1 (by omega)
  unfold rSt at h ⊢
  simp only [e0, e1, e3, e10, e11, e12, e13, e14, e15, e16, e17, e18, e19, e20, e21, e22, e23, w0_4, w0_5, w0_6, w0_7, w0_8, w0_9, w0_10, w0_11, w0_12, w2_4, w2_6, w2_7, w2_8, w2_9, w5_1]
  obtain ⟨h1, h2, h4, h5, h6, h7, h8, h9, h10, h11, h12, h13⟩ := h
  clear e0 e1 e21 e22 e23
  refine ⟨h1, h2, h4, h5, h6, h7, fun i hi hi2 => by rw [e _ (by omega) (by omega), eV _ _ (by omega)]; exact h8 i hi hi2, fun i a hi ha => by rw [e _ (by unfold btw at h7; omega) (by unfold btw at h7; omega)]; exact h9 i a hi ha, hr, h11, h12, ?_⟩
  rcases h13 with g | ⟨g, k⟩
  · exact Or.inl g
  · refine Or.inr ⟨g, ?_⟩
    unfold rMv at k ⊢
    simp only [e3, e10, e11, e12, e13, e14, e15, e16, e17, e18, e19, e20, w0_4, w0_5, w0_6, w0_7, w0_8, w0_9, w0_10, w0_11, w0_12, w2_4, w2_6, w2_7, w2_8, w2_9, w5_1]
    obtain ⟨k1, k2, k3, k4, k5, k6, k7, k8, k9, k10, k11, k12, L, k13, k14, k15, k16⟩ := k
    have h60 := k13.1
    refine ⟨k1, k2, k3, k4, k5, k6, k7, k8, k9, k10, fun a ha => ?_, k12, L, k13, fun i hi => by rw [eV _ _ (by omega)]; exact k14 i hi, k15, ?_⟩
    · rw [e _ (by omega) (by omega), e _ (by omega) (by omega), eV _ _ (by omega), eV _ _ (by omega)]
      exact k11 a ha
    · rcases k16 with ⟨m1, m2, m3, m4⟩ | ⟨m1, m2, m3, m4⟩
      · exact Or.inl ⟨m1, m2, fun k hk => by rw [e _ (by omega) (by omega)]; exact m3 k hk, m4⟩
      · exact Or.inr ⟨m1, m2, fun k hk => by rw [e _ (by omega) (by omega)]; exact m3 k hk, m4⟩
theorem Inv_of {n bb sb it nA nB : Nat} {M N M1 N1 : zMem} (h1 : (bb = 1 ∧ sb = 13) ∨ (bb = 13 ∧ sb = 1)) (h2 : rfC M bb sb it) (h3 : rfN N) (h4 : IvT M N) (h5 : IvF M N) (h6 : IvB M N bb nA nB) (h7 : IvP M N) (e1 : M1.2.2 = M.2.2) (e2 : N1.2.2 = N.2.2) (hM : ∀ k j, k < 28 → zI M1 k j = zI M k j) (hN : ∀ k j, k = 2 ∨ k = 4 ∨ k = 6 ∨ k = 8 ∨ k = 12 ∨ (k = 0 ∧ (j = 2 ∨ j = 10 ∨ j = 11 ∨ j = 22 ∨ j = 24 ∨ j = 26 ∨ j = 28 ∨ j = 29)) → zI N1 k j = zI N k j) (hG : G0 M1) (hS : rSt (vSt M1 28) (zI N1 1) nA (500 * (n + 1 : Nat))) (hH : IvH M1 N1 nA (500 * (n + 1 : Nat))) : Inv (n + 1) M1 N1 := by
  refine ⟨bb, sb, it, nA, nB, h1, h2.sm e1, h3.sm e2, h4.sm (fun k j g => hM k j (by omega)) (fun k j g => hN k j (by omega)), ⟨?_, ?_, hG⟩, h6.sm (fun k j g1 g2 => hM k j (by omega)) (fun k j g => hN k j (by omega)), h7.sm (fun k j g => hM k j (by omega)) (fun j => hN 12 j (by omega)), hS, hH⟩
  · rw [hM 27 7 (by omega), hN 0 10 (by omega)]; exact h5.1
  · rw [hM 27 8 (by omega), hN 0 11 (by omega)]; exact h5.2.1
/-- one number of a rotor set in both -/
theorem rSt.set {M N : zMem} {nA a j0 : Nat} {T : Int} {v : Int32} (h : rSt (vSt M 28) (zI N 1) nA T) (h3 : nA ≤ 3) (ha : a < nA) (hj : j0 < 6) (hb : (j0 = 3 ∧ btw v (-2000) 2000) ∨ (j0 = 4 ∧ btw v 0 2048) ∨ j0 = 1 ∨ j0 = 2 ∨ (j0 = 0 ∧ btw v (-30000) 30000) ∨ (j0 = 5 ∧ 0 ≤ v.toInt)) : rSt (vSt (zpI M (28 + 9 + a) j0 v) 28) (zI (zpI N 1 (48 + 6 * a + j0) v) 1) nA T := by
  refine h.up h3 (fun k j hk => ?_) (fun j hj1 hj2 => ?_) (fun c hc => ?_)
  · unfold vSt
    rw [rI_pI, if_neg (show ¬ (28 + k = 28 + 9 + a ∧ j = j0) by omega)]
  · rw [rI_pI, if_neg (by omega)]
  · obtain ⟨g1, g2, g3, g4, g5⟩ := h.2.2.2.2.2.2.2.2.1 c hc
    by_cases hca : c = a
    · subst hca
      refine ⟨fun j hj2 => ?_, ?_, ?_, ?_, ?_⟩
      · have := g1 j hj2
        rw [vSt_ro (by omega) hj2] at this ⊢
        rw [rI_pI, rI_pI]
        by_cases hjj : j = j0
        · rw [if_pos ⟨rfl, hjj⟩, if_pos ⟨rfl, by omega⟩]
        · rw [if_neg (fun q => hjj q.2), if_neg (by omega)]; exact this
      · rw [rI_pI]
        by_cases hjj : j0 = 0
        · rw [if_pos ⟨rfl, by omega⟩]
          rcases hb with q | q | q | q | q | q <;> first | exact q.2 | omega
        · rw [if_neg (by omega)]; exact g2
      · rw [rI_pI]
        by_cases hjj : j0 = 3
        · rw [if_pos ⟨rfl, by omega⟩]
          rcases hb with q | q | q | q | q | q <;> first | exact q.2 | omega
        · rw [if_neg (by omega)]; exact g3
      · rw [rI_pI]
        by_cases hjj : j0 = 4
        · rw [if_pos ⟨rfl, by omega⟩]
          rcases hb with q | q | q | q | q | q <;> first | exact q.2 | omega
        · rw [if_neg (by omega)]; exact g4
      · rw [rI_pI]
        by_cases hjj : j0 = 5
        · rw [if_pos ⟨rfl, by omega⟩]
          rcases hb with q | q | q | q | q | q <;> first | exact q.2 | omega
        · rw [if_neg (by omega)]; exact g5
    · rw [rI_pI, if_neg (by omega), rI_pI, if_neg (by omega), rI_pI, if_neg (by omega), rI_pI, if_neg (by omega)]
      refine ⟨fun j hj2 => ?_, g2, g3, g4, g5⟩
      have := g1 j hj2
      rw [vSt_ro (by omega) hj2] at this ⊢
      rw [rI_pI, if_neg (by omega), rI_pI, if_neg (by omega)]
      exact this
theorem B_load_ok : B_load Inv := by
  intro n M N v1 v2 hn hI
  have hU := Inv_up n M N hI
  obtain ⟨bb, sb, it, nA, nB, h1, h2, h3, h4, h5, h6, h7, h8, h9⟩ := hI
  have hb : bb = 1 ∨ bb = 13 := by omega
  have h11 : zR M 0 11 = bb := by simp only [h2.o]
  have hn3 : nA ≤ 3 := h6.1
  unfold zX11_load zX12_load zjX11_load_21 zjX12_load_32
  rw [axisC h11 h6.2.2.1 h6.1, axisM h6.2.2.2.1 h6.1, rob, rob, within_eq, rob, isIn_l v2 (-2000) 2000 _ _ rfl rfl, rob]
  simp only [bI_0]
  by_cases c1 : 0 ≤ v1.toInt ∧ v1.toInt < nA
  · rw [if_neg (nn c1), if_neg (nn c1)]
    obtain ⟨a, ha, rfl⟩ := ax_ex c1
    have ha3 : a < 3 := by omega
    by_cases c2 : ((-2000) : Int32) ≤ v2 ∧ v2 ≤ 2000
    · rw [if_neg (nn c2), if_neg (nn c2)]
      have q1 : (-2000) ≤ v2.toInt := r_le.mp c2.1
      have q2 : v2.toInt ≤ 2000 := r_le.mp c2.2
      have r3 := (h8.2.2.2.2.2.2.2.2.1 a ha).1 3 (by omega)
      rw [vSt_ro ha3 (by omega)] at r3
      have e4 : zR M 0 4 = 52 := by simp only [h2.o]
      have e2 : zR M 0 2 = 28 := by simp only [h2.o]
      have e28 : zR M 28 0 = 28 + 1 := by simp only [h2.s st28]
      rw [e4, e2, e28, show zlen shC (28 + 1) = 3 from rfl, rgd (in_a ha3 (by omega)), nI_clamp (by omega), h2.ro st28 ha3, r3, rbd, axisAt_3 h3.o.1 ha3, rob]
      by_cases c3 : zI N 1 (48 + 6 * a + 3) = v2
      · exact ⟨_, M, N, if_pos c3, if_pos c3, hU⟩
      · rw [if_neg c3, if_neg c3]
        obtain ⟨M1, N1, t1, t2, t3, t4, t5, t6, t7, t8⟩ := keep_act h2 h3 hn3 h9 h8
        have h2' := h2.sm t4
        have h3' := h3.sm t5
        have f2 : zR M1 0 2 = 28 := by simp only [h2'.o]
        have f28 : zR M1 28 0 = 28 + 1 := by simp only [h2'.s st28]
        have eV : vSt M1 28 = vSt M 28 := vSt_same (fun k j g1 g2 g3 => t6 k j (by omega))
        have eN : zI N1 1 = zI N 1 := by funext j; exact t7 1 j (by omega) (by omega)
        have hS1 : rSt (vSt M1 28) (zI N1 1) nA (500 * n) := by rw [eV, eN]; exact h8
        have hS2 := hS1.set (v := v2) (j0 := 3) hn3 ha (by omega) (Or.inl ⟨rfl, ⟨q1, q2⟩⟩)
        rw [t1, rob, t2, rob, f2, f28, show zlen shC (28 + 1) = 3 from rfl, rgd (in_a ha3 (by omega)), h2'.ro st28 ha3, rbd, rob, sets_3 h3'.o.1 ha3, rob]
        clear f2 f28 e4 e2 e28 r3
        refine ⟨_, _, _, rfl, rfl, Inv_of h1 h2 h3 h4 h5 h6 h7 t4 t5 (fun k j hk => ?_) (fun k j hk => ?_) ?_ (hS2.w (by omega)) ?_⟩
        · rw [rI_pI, if_neg (by omega)]; exact t6 k j (by omega)
        · rw [rI_pI, if_neg (by omega)]; exact t7 k j (by omega) (by omega)
        · have hG := t8 h5.2.2
          refine ⟨?_, ?_, fun b hb2 => ?_⟩
          · rw [rI_pI, if_neg (by omega)]; exact hG.1
          · rw [rI_pI, if_neg (by omega)]; exact hG.2.1
          · rw [rI_pI, if_neg (by unfold stB at hb2; omega)]; exact hG.2.2 b hb2
        · exact (t3.w (by omega)).sm (fun k j g1 g2 => by rw [rI_pI, if_neg (by omega)]) (fun k j g => by rw [rI_pI, if_neg (by omega)])
    · exact ⟨_, M, N, if_pos c2, if_pos c2, hU⟩
  · exact ⟨_, M, N, if_pos c1, if_pos c1, hU⟩
theorem B_watch_ok : B_watch Inv := by
  intro n M N v1 v2 hn hI
  have hU := Inv_up n M N hI
  obtain ⟨bb, sb, it, nA, nB, h1, h2, h3, h4, h5, h6, h7, h8, h9⟩ := hI
  have hb : bb = 1 ∨ bb = 13 := by omega
  have h11 : zR M 0 11 = bb := by simp only [h2.o]
  have hn3 : nA ≤ 3 := h6.1
  unfold zX11_watch zX12_watch zjX11_watch_19 zjX12_watch_30
  rw [axisC h11 h6.2.2.1 h6.1, axisM h6.2.2.2.1 h6.1, rob, rob, within_eq, rob, isIn_l v2 0 2048 _ _ rfl rfl, rob]
  simp only [bI_0]
  by_cases c1 : 0 ≤ v1.toInt ∧ v1.toInt < nA
  · rw [if_neg (nn c1), if_neg (nn c1)]
    obtain ⟨a, ha, rfl⟩ := ax_ex c1
    have ha3 : a < 3 := by omega
    by_cases c2 : (0 : Int32) ≤ v2 ∧ v2 ≤ 2048
    · rw [if_neg (nn c2), if_neg (nn c2)]
      have q1 : 0 ≤ v2.toInt := r_le.mp c2.1
      have q2 : v2.toInt ≤ 2048 := r_le.mp c2.2
      have r3 := (h8.2.2.2.2.2.2.2.2.1 a ha).1 4 (by omega)
      rw [vSt_ro ha3 (by omega)] at r3
      have e4 : zR M 0 4 = 52 := by simp only [h2.o]
      have e2 : zR M 0 2 = 28 := by simp only [h2.o]
      have e28 : zR M 28 0 = 28 + 1 := by simp only [h2.s st28]
      rw [e4, e2, e28, show zlen shC (28 + 1) = 3 from rfl, rgd (in_a ha3 (by omega)), nI_clamp (by omega), h2.ro st28 ha3, r3, rbd, axisAt_4 h3.o.1 ha3, rob]
      by_cases c3 : zI N 1 (48 + 6 * a + 4) = v2
      · exact ⟨_, M, N, if_pos c3, if_pos c3, hU⟩
      · rw [if_neg c3, if_neg c3]
        obtain ⟨M1, N1, t1, t2, t3, t4, t5, t6, t7, t8⟩ := keep_act h2 h3 hn3 h9 h8
        have h2' := h2.sm t4
        have h3' := h3.sm t5
        have f2 : zR M1 0 2 = 28 := by simp only [h2'.o]
        have f28 : zR M1 28 0 = 28 + 1 := by simp only [h2'.s st28]
        have eV : vSt M1 28 = vSt M 28 := vSt_same (fun k j g1 g2 g3 => t6 k j (by omega))
        have eN : zI N1 1 = zI N 1 := by funext j; exact t7 1 j (by omega) (by omega)
        have hS1 : rSt (vSt M1 28) (zI N1 1) nA (500 * n) := by rw [eV, eN]; exact h8
        have hS2 := hS1.set (v := v2) (j0 := 4) hn3 ha (by omega) (Or.inr (Or.inl ⟨rfl, ⟨q1, q2⟩⟩))
        rw [t1, rob, t2, rob, f2, f28, show zlen shC (28 + 1) = 3 from rfl, rgd (in_a ha3 (by omega)), h2'.ro st28 ha3, rbd, rob, sets_4 h3'.o.1 ha3, rob]
        clear f2 f28 e4 e2 e28 r3
        refine ⟨_, _, _, rfl, rfl, Inv_of h1 h2 h3 h4 h5 h6 h7 t4 t5 (fun k j hk => ?_) (fun k j hk => ?_) ?_ (hS2.w (by omega)) ?_⟩
        · rw [rI_pI, if_neg (by omega)]; exact t6 k j (by omega)
        · rw [rI_pI, if_neg (by omega)]; exact t7 k j (by omega) (by omega)
        · have hG := t8 h5.2.2
          refine ⟨?_, ?_, fun b hb2 => ?_⟩
          · rw [rI_pI, if_neg (by omega)]; exact hG.1
          · rw [rI_pI, if_neg (by omega)]; exact hG.2.1
          · rw [rI_pI, if_neg (by unfold stB at hb2; omega)]; exact hG.2.2 b hb2
        · exact (t3.w (by omega)).sm (fun k j g1 g2 => by rw [rI_pI, if_neg (by omega)]) (fun k j g => by rw [rI_pI, if_neg (by omega)])
    · exact ⟨_, M, N, if_pos c2, if_pos c2, hU⟩
  · exact ⟨_, M, N, if_pos c1, if_pos c1, hU⟩
theorem take_loop {N : zMem} {A : Nat} (hN : rfN N) (hA : A < 10) (ha : zI N 0 46 = nI A) : ∀ (r x F : Nat) (N1 : zMem), x + r = 194 → r < F → N1.2.2 = N.2.2 → (∀ k j, k ≠ 1 → zI N1 k j = zI N k j) → (∀ i, i < x → zI N1 1 i = zI N 16 (194 * A + i)) → ∃ N2, zlX12_undo_21 shM 0 F (nI x) N1 = some (nI A, N2) ∧ N2.2.2 = N.2.2 ∧ (∀ k j, k ≠ 1 → zI N2 k j = zI N k j) ∧ (∀ i, i < 194 → zI N2 1 i = zI N 16 (194 * A + i)) := by
  intro r
  induction r with
  | zero =>
    intro x F N1 h1 hF hR hk hlo
    obtain ⟨F, rfl⟩ : ∃ y, F = y + 1 := ⟨F - 1, by omega⟩
    simp only [zlX12_undo_21]
    unfold zbX12_undo_21
    rw [if_pos (show (194 : Int32) ≤ nI x from nI_le (a := 194) (by omega) (by omega)), hk 0 46 (by omega), ha]
    exact ⟨N1, rfl, hR, hk, fun i hi => hlo i (by omega)⟩
  | succ r ih =>
    intro x F N1 h1 hF hR hk hlo
    obtain ⟨F, rfl⟩ : ∃ y, F = y + 1 := ⟨F - 1, by omega⟩
    have hN1 := hN.sm hR
    have e45 : zR N1 0 45 = 16 := by simp only [hN1.o]
    have e0 : zR N1 0 0 = 1 := by simp only [hN1.o]
    have es : (194 : Int32) * nI A + nI x = nI (194 * A + x) := by rw [show (194 : Int32) = nI 194 from rfl, pk_mul, nI_add]
    simp only [zlX12_undo_21]
    unfold zbX12_undo_21
    rw [if_neg (show ¬ (194 : Int32) ≤ nI x from nI_ge (b := 194) (by omega) (by omega)), e45, e0, hk 0 46 (by omega), ha, es, show zlen shM 16 = 1940 from rfl, show zlen shM 1 = 194 from rfl, rgd (in_a (by omega) (by omega)), rgd (in_a (by omega) (by omega)), nI_clamp (by omega), nI_clamp (by omega), rbd, nI_1]
    clear e45 es e0
    refine ih (x + 1) F _ (by omega) (by omega) hR (fun k j g => ?_) (fun i hi => ?_)
    · rw [rI_pI, if_neg (fun e => g e.1)]; exact hk k j g
    · rw [rI_pI]
      by_cases g : i = x
      · rw [if_pos ⟨rfl, g⟩, hk 16 _ (by omega), g]
      · rw [if_neg (fun e => g e.2)]; exact hlo i (by omega)
theorem B_undo_ok : B_undo Inv := by
  intro n M N hn hI
  have hU := Inv_up n M N hI
  obtain ⟨bb, sb, it, nA, nB, h1, h2, h3, h4, h5, h6, h7, h8, h9⟩ := hI
  obtain ⟨kept, next, k1, k2, k3, k4, k5, k6⟩ := h9
  have hn3 : nA ≤ 3 := h6.1
  have e4 : zR M 0 4 = 52 := by simp only [h2.o]
  have e2 : zR M 0 2 = 28 := by simp only [h2.o]
  have e52 : zR M 52 0 = 53 := by simp only [h2.o]
  unfold zX11_undo zX12_undo
  rw [e4, e2, k3, k4]
  by_cases hk0 : kept = 0
  · subst hk0
    exact ⟨_, M, N, if_pos rfl, if_pos rfl, hU⟩
  · rw [if_neg (nI_ne0 (by omega) (by omega)), if_neg (nI_ne0 (by omega) (by omega))]
    obtain ⟨K, rfl⟩ : ∃ K, kept = K + 1 := ⟨kept - 1, by omega⟩
    have hlast := k6 K (by omega)
    generalize hnx : (next + 10 - (K + 1) + K) % 10 = nx at hlast
    have hnx10 : nx < 10 := by omega
    have hring := h2.r (i := nx) hnx10
    have enx : zrem (nI next + 10 - 1) 10 = nI nx := by
      rw [show (10 : Int32) = nI 10 from rfl, nI_add, show nI (next + 10) - 1 = nI (next + 9) from nI_pred (next + 9)]
      unfold zrem
      rw [pk_rem (by omega) (by omega) (by omega)]
      congr 1
      omega
    have hst := hring.2
    have hb8 : zisB (zI (zpI (zpI M 52 1 (nI nx)) 52 2 (nI K)) (54 + 12 * nx) 8) = true := by
      have := hlast.2.2.2.2.2.2.2.2.2.1
      rw [vSt_at rfl] at this
      rw [rI_pI, if_neg (by omega), rI_pI, if_neg (by omega)]
      have this : zI M (54 + 12 * nx) 8 = zI N 16 (194 * K + 1) := this
      rw [this]
      rcases hlast.2.2.2.2.2.2.2.2.2.2.2 with g | g
      · rw [show zI N 16 (194 * K + 1) = 0 from g.1]; rfl
      · rw [show zI N 16 (194 * K + 1) = 1 from g.1]; rfl
    have hb9 : zisB (zI (zpI (zpI M 52 1 (nI nx)) 52 2 (nI K)) (54 + 12 * nx) 9) = true := by
      have := hlast.2.2.2.2.2.2.2.2.2.2.1
      rw [vSt_at rfl] at this
      rw [rI_pI, if_neg (by omega), rI_pI, if_neg (by omega)]
      have this : zI M (54 + 12 * nx) 9 = 0 ∨ zI M (54 + 12 * nx) 9 = 1 := this
      rcases this with g | g
      · rw [g]; rfl
      · rw [g]; rfl
    have h2p : rfC (zpI (zpI M 52 1 (nI nx)) 52 2 (nI K)) bb sb it := h2.sm rfl
    obtain ⟨M1, m1, m2, m3, m4⟩ := copy_st h2p st28 hst (by omega) hb8 hb9
    obtain ⟨N2, t1, t2, t3, t4⟩ := take_loop (N := zpI N 0 46 (nI K)) (A := K) (h3.sm rfl) (by omega) rfl 194 0 zF (zpI N 0 46 (nI K)) (by omega) (by unfold zF; omega) rfl (fun _ _ _ => rfl) (fun i hi => by omega)
    have r53 : zR (zpI (zpI M 52 1 (nI nx)) 52 2 (nI K)) 53 nx = 54 + 12 * nx := hring.1
    have r52 : zR (zpI (zpI M 52 1 (nI nx)) 52 2 (nI K)) 52 0 = 53 := e52
    have f4 : zR M1 0 4 = 52 := by unfold zR; rw [m3]; exact e4
    have q1 : zI (zpI (zpI M 52 1 (nI nx)) 52 2 (nI K)) 52 1 = nI nx := rfl
    have q2 : zI (zpI M 52 1 (nI nx)) 52 2 = nI (K + 1) := k3
    have q3 : zI M1 52 2 = nI K := by rw [m4 52 2 (by omega)]; rfl
    have hC1 : zX3_takeBack shC 52 28 M = some M1 := by
      unfold zX3_takeBack zjX3_takeBack_46
      rw [k3, if_neg (nI_nle (by omega) (by omega)), k5, enx]
      simp only [rbd]
      rw [q2, nI_pred, q1, r52, show zlen shC 53 = 10 from rfl, rgd (in_a hnx10 (by omega)), nI_clamp (by omega), r53, m1, rob]
    have hN1 : (zbd (zpI N 0 46 (nI (K + 1) - 1)) fun M_8 => zlX12_undo_21 shM 0 zF 0 M_8) = some (nI K, N2) := by
      rw [rbd, nI_pred]
      exact t1
    rw [hC1, rob, f4, q3]
    clear hC1 f4 q1 q2 r53 r52 enx e4 e2 e52 hring
    refine ⟨nI K, M1, N2, rfl, hN1, Inv_of h1 h2 h3 h4 h5 h6 h7 m3 t2 (fun k j hk => ?_) (fun k j hk => ?_) ?_ ?_ ?_⟩
    · rw [m4 k j (by omega), rI_pI, if_neg (by omega), rI_pI, if_neg (by omega)]
    · rw [t3 k j (by omega), rI_pI, if_neg (by omega)]
    · have hG := h5.2.2
      refine ⟨?_, ?_, fun b hb2 => ?_⟩
      · rw [m4 178 0 (by omega), rI_pI, if_neg (by omega), rI_pI, if_neg (by omega)]; exact hG.1
      · rw [m4 180 0 (by omega), rI_pI, if_neg (by omega), rI_pI, if_neg (by omega)]; exact hG.2.1
      · by_cases g : b = 28
        · subst g
          have := congrFun (congrFun m2 6) 0
          rw [vSt_at rfl, vSt_at rfl] at this
          rw [this, rI_pI, if_neg (by omega), rI_pI, if_neg (by omega)]
          exact hG.2.2 _ hst
        · have hd := stB_d hb2 st28 g
          have hbb := hb2
          unfold stB at hbb
          rw [m4 (b + 6) 0 (by omega), rI_pI, if_neg (by omega), rI_pI, if_neg (by omega)]
          exact hG.2.2 b hb2
    · rw [m2, vSt_same (M := M) (fun k j g1 g2 g3 => by rw [rI_pI, if_neg (by omega), rI_pI, if_neg (by omega)])]
      exact (hlast.w (by omega)).cf hn3 (fun j hj => by rw [t4 j hj, rI_pI, if_neg (by omega)])
    · refine ⟨K, nx, by omega, hnx10, q3, ?_, ?_, fun i hi => ?_⟩
      · rw [t3 0 46 (by omega)]; rfl
      · rw [m4 52 1 (by omega)]; rfl
      · have hi2 := k6 i (by omega)
        rw [show (next + 10 - (K + 1) + i) % 10 = (nx + 10 - K + i) % 10 by omega] at hi2
        have hsb : stB (54 + 12 * ((nx + 10 - K + i) % 10)) := by unfold stB; omega
        rw [vSt_same (M := M) (fun k j g1 g2 g3 => by rw [m4 k j (by omega), rI_pI, if_neg (by omega), rI_pI, if_neg (by omega)])]
        exact (hi2.w (by omega)).cf hn3 (fun j hj => by rw [t3 16 _ (by omega), rI_pI, if_neg (by omega)])
