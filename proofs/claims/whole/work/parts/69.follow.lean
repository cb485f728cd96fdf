/-! Phase B: ripple, follows, mode -/
theorem zmin_l {x y : Int32} (h : y.toInt < x.toInt) : zmin x y = y := if_pos (r_lt.mpr h)
theorem zmax_r {x y : Int32} (h : x.toInt ≤ y.toInt) : zmax x y = y := by
  unfold zmax
  by_cases g : x < y
  · rw [if_pos g]
  · rw [if_neg g]
    exact r_eq.mpr (by have := n_lt g; omega)
theorem zmin_b {x y : Int32} (h1 : 0 ≤ x.toInt) (h2 : 0 ≤ y.toInt) : 0 ≤ (zmin x y).toInt := by
  unfold zmin
  by_cases g : y < x
  · rw [if_pos g]; exact h2
  · rw [if_neg g]; exact h1
theorem zmax_b {x y : Int32} (h1 : 0 ≤ x.toInt) (h2 : 0 ≤ y.toInt) : 0 ≤ (zmax x y).toInt := by
  unfold zmax
  by_cases g : x < y
  · rw [if_pos g]; exact h2
  · rw [if_neg g]; exact h1
theorem only.R {b : Nat} {M M1 : zMem} (h : only b M M1) {k j v : Nat} (hR : zR M k j = v) : zR M1 k j = v := by
  unfold zR; rw [h.1]; exact hR
theorem ripple_loop {N : zMem} {goal m : Int32} (hg : goal.toInt ≤ 2000) (hs : btw (zI N 0 28) 1 2000) (hl : btw (zI N 0 29) 1 99) : ∀ (r t F F' : Nat) (M : zMem) (i x3 x4 lo mo : Int32), t + r = 264 → r < F → r < F' → zR M 0 8 = 182 → cst M i t m (zI N 0 28) (zI N 0 29) → btw i 0 2200 → (t ≤ 200 → x3 = 2147483647 ∧ x4 = 0 ∧ lo = -1 ∧ mo = -1) → (200 < t → x3 = lo ∧ x4 = mo ∧ 0 ≤ lo.toInt ∧ 0 ≤ mo.toInt) → ∃ (v : Int32) (M1 : zMem), zlX11_ripple_41 shC 0 goal m F x3 x4 (nI (t + 1)) M = some (v, M1) ∧ zlX12_ripple_37 shM 0 goal m N F' i lo mo (nI t) = some v ∧ only 182 M M1 := by
  intro r
  induction r with
  | zero =>
    intro t F F' M i x3 x4 lo mo h1 h2 h3 hR hc hi hA hB
    obtain ⟨F, rfl⟩ : ∃ x, F = x + 1 := ⟨F - 1, by omega⟩
    obtain ⟨F', rfl⟩ : ∃ x, F' = x + 1 := ⟨F' - 1, by omega⟩
    obtain ⟨rfl, rfl, -, -⟩ := hB (by omega)
    refine ⟨x4 - x3, M, ?_, ?_, only.rf _ _⟩
    · simp only [zlX11_ripple_41]
      unfold zbX11_ripple_41
      rw [if_pos (show (264 : Int32) < nI (t + 1) from nI_lt (a := 264) (by omega) (by omega))]
    · simp only [zlX12_ripple_37]
      unfold zbX12_ripple_37
      rw [if_pos (show (264 : Int32) ≤ nI t from nI_le (a := 264) (by omega) (by omega))]
  | succ r ih =>
    intro t F F' M i x3 x4 lo mo h1 h2 h3 hR hc hi hA hB
    obtain ⟨F, rfl⟩ : ∃ x, F = x + 1 := ⟨F - 1, by omega⟩
    obtain ⟨F', rfl⟩ : ∃ x, F' = x + 1 := ⟨F' - 1, by omega⟩
    obtain ⟨M1, s1, s2, s3, s4⟩ := step_eq (goal := goal) hc hi hg hs hl
    have hR1 := s3.R hR
    have hcl : ∀ a b, zlX11_ripple_41 shC 0 goal m (F + 1) a b (nI (t + 1)) M = zbX11_ripple_41 shC 0 goal m (zlX11_ripple_41 shC 0 goal m F) a b (nI (t + 1)) M := fun _ _ => rfl
    have hml : ∀ a b c, zlX12_ripple_37 shM 0 goal m N (F' + 1) a b c (nI t) = zbX12_ripple_37 shM 0 goal m N (zlX12_ripple_37 shM 0 goal m N F') a b c (nI t) := fun _ _ _ => rfl
    rw [hcl, hml]
    unfold zbX11_ripple_41 zbX12_ripple_37 zjX11_ripple_91 zjX12_ripple_82 zjX12_ripple_92
    rw [if_neg (show ¬ (264 : Int32) < nI (t + 1) from nI_nlt (a := 264) (by omega) (by omega)), if_neg (show ¬ (264 : Int32) ≤ nI t from nI_ge (b := 264) (by omega) (by omega)), hR, s1, rob, pulls_eq, rob, rem8 _ (by omega), hR1, s2.1, nI_1, nI_1]
    simp only [rbd, greater_eq, lesser_eq, rob]
    generalize hv : fP (zI N 0 28) (zI N 0 29) i goal m (nI (t % 8)) = v at *
    by_cases ht : t < 200
    · obtain ⟨rfl, rfl, rfl, rfl⟩ := hA (by omega)
      obtain ⟨w, M2, t1, t2, t3⟩ := ih (t + 1) F F' M1 v 2147483647 0 (-1) (-1) (by omega) (by omega) (by omega) hR1 s2 s4 (fun _ => ⟨rfl, rfl, rfl, rfl⟩) (fun h => by omega)
      refine ⟨w, M2, ?_, ?_, s3.tr t3⟩
      · rw [if_pos (show nI (t + 1) ≤ (200 : Int32) from nI_le (b := 200) (by omega) (by omega))]; exact t1
      · rw [if_neg (show ¬ (200 : Int32) ≤ nI t from nI_ge (b := 200) (by omega) (by omega))]; exact t2
    · rw [if_neg (show ¬ nI (t + 1) ≤ (200 : Int32) from nI_ge (a := 200) (by omega) (by omega)), if_pos (show (200 : Int32) ≤ nI t from nI_le (a := 200) (by omega) (by omega))]
      have s4' := s4
      unfold btw at s4'
      by_cases h200 : t = 200
      · obtain ⟨rfl, rfl, rfl, rfl⟩ := hA (by omega)
        obtain ⟨w, M2, t1, t2, t3⟩ := ih (t + 1) F F' M1 v v v v v (by omega) (by omega) (by omega) hR1 s2 s4 (fun h => by omega) (fun _ => ⟨rfl, rfl, by omega, by omega⟩)
        refine ⟨w, M2, ?_, ?_, s3.tr t3⟩
        · rw [zmin_l (show v.toInt < 2147483647 by omega), zmax_r (x := (0 : Int32)) (y := v) (by show (0 : Int) ≤ v.toInt; omega)]; exact t1
        · rw [if_pos rfl, zmax_r (x := (-1 : Int32)) (y := v) (by show (-1 : Int) ≤ v.toInt; omega)]; exact t2
      · obtain ⟨rfl, rfl, l0, m0⟩ := hB (by omega)
        obtain ⟨w, M2, t1, t2, t3⟩ := ih (t + 1) F F' M1 v (zmin x3 v) (zmax x4 v) _ _ (by omega) (by omega) (by omega) hR1 s2 s4 (fun h => by omega) (fun _ => ⟨rfl, rfl, zmin_b l0 (by omega), zmax_b m0 (by omega)⟩)
        refine ⟨w, M2, t1, ?_, s3.tr t3⟩
        rw [if_neg (ne_of _ rfl (show ¬ x3.toInt = -1 by omega))]; exact t2
theorem B_ripple_ok : B_ripple Inv := by
  intro n M N v1 v2 hn hI
  have hU := Inv_up n M N hI
  have hI' := hI
  obtain ⟨bb, sb, it, nA, nB, h1, h2, h3, h4, h5, h6, h7, h8, h9⟩ := hI
  have hb : bb = 1 ∨ bb = 13 := by omega
  obtain ⟨-, -, -, -, -, -, -, b8, b9, b10, b11, -⟩ := h6
  unfold zX11_ripple zX12_ripple zjX11_ripple_18 zjX12_ripple_24
  rw [within_eq, rob, isMode_eq, rob, isIn_l v1 0 2000 _ _ rfl rfl, rob, isIn_l v2 0 8 _ _ rfl rfl, rob]
  simp only [bI_0]
  by_cases c1 : (0 : Int32) ≤ v1 ∧ v1 ≤ 2000
  · rw [if_neg (nn c1), if_neg (nn c1)]
    by_cases c2 : (0 : Int32) ≤ v2 ∧ v2 ≤ 8
    · rw [if_neg (nn c2), if_neg (nn c2)]
      have g1 : v1.toInt ≤ 2000 := r_le.mp c1.2
      obtain ⟨M1, s1, s2, s3⟩ := start_eq (M := M) (bb := bb) (by omega) v2
      have e8 : zR M 0 8 = 182 := by simp only [h2.o]
      have e11 : zR M 0 11 = bb := by simp only [h2.o]
      rw [e8, e11, s1, rob]
      rw [b8, b10] at s2
      obtain ⟨v, M2, t1, t2, t3⟩ := ripple_loop (N := N) (goal := v1) (m := v2) g1 b9 b11 264 0 zF zF M1 0 2147483647 0 (-1) (-1) (by omega) (by unfold zF; omega) (by unfold zF; omega) (s3.R e8) s2 ⟨by decide, by decide⟩ (fun _ => ⟨rfl, rfl, rfl, rfl⟩) (fun h => by omega)
      exact ⟨v, M2, N, t1, t2, Inv_same hI' ((s3.tr t3).C (by omega)) (sameN.rf N)⟩
    · exact ⟨_, M, N, if_pos c2, if_pos c2, hU⟩
  · exact ⟨_, M, N, if_pos c1, if_pos c1, hU⟩
/-- only what follows lays -/
def onlyF (N N1 : zMem) : Prop := N1.2.2 = N.2.2 ∧ ∀ k j, ¬ (k = 0 ∧ (j = 48 ∨ j = 49 ∨ j = 50)) → zI N1 k j = zI N k j
theorem onlyF.rf (N : zMem) : onlyF N N := ⟨rfl, fun _ _ _ => rfl⟩
theorem onlyF.tr {M M1 M2 : zMem} (h : onlyF M M1) (g : onlyF M1 M2) : onlyF M M2 := ⟨g.1.trans h.1, fun k j hk => (g.2 k j hk).trans (h.2 k j hk)⟩
theorem onlyF.p {M M1 : zMem} (h : onlyF M M1) {j : Nat} (hj : j = 48 ∨ j = 49 ∨ j = 50) (v : Int32) : onlyF M (zpI M1 0 j v) := ⟨h.1, fun k i hk => by rw [rI_pI, if_neg (fun e => hk ⟨e.1, by omega⟩)]; exact h.2 k i hk⟩
theorem onlyF.N {M M1 : zMem} (h : onlyF M M1) : sameN M M1 := ⟨h.1, fun k j hk => h.2 k j (by unfold keepN at hk; omega)⟩
theorem zabs_b {x : Int32} {c : Int} (h1 : -c ≤ x.toInt) (h2 : x.toInt ≤ c) (hc : c ≤ 2147483647) : btw (zabs x) 0 c := by
  obtain ⟨a, rfl, g1, g2⟩ := iI_ex x
  rw [iI_i g1 g2] at h1 h2
  rw [iI_abs (by omega) (by omega)]
  unfold btw
  rw [iI_i (by omega) (by omega)]
  omega
theorem add_b {x y : Int32} {a b c d : Int} (h1 : btw x a b) (h2 : btw y c d) (h3 : -2147483648 ≤ a + c) (h4 : b + d ≤ 2147483647) : btw (x + y) (a + c) (b + d) := by
  unfold btw at *
  rw [r_add (by omega) (by omega)]
  omega
theorem sub_b {x y : Int32} {a b c d : Int} (h1 : btw x a b) (h2 : btw y c d) (h3 : -2147483648 ≤ a - d) (h4 : b - c ≤ 2147483647) : btw (x - y) (a - d) (b - c) := by
  unfold btw at *
  rw [r_sub (by omega) (by omega)]
  omega
theorem fW_b {row : Nat → Int32} {c : Int} (h : ∀ q, q ≤ 64 → btw (row q) (-c) c) (hc : c ≤ 2147483647) (a : Int) : btw (fW row a) (-c) c := by
  have h1 := h (a % 64).toNat (by omega)
  have h2 := h (64 - a % 64).toNat (by omega)
  unfold fW
  have n1 : btw (-(row (a % 64).toNat)) (-c) c := by
    unfold btw at h1 ⊢
    rw [r_neg (by omega)]; omega
  have n2 : btw (-(row (64 - a % 64).toNat)) (-c) c := by
    unfold btw at h2 ⊢
    rw [r_neg (by omega)]; omega
  by_cases g0 : a / 64 % 4 = 0
  · rw [if_pos g0]; exact h1
  · rw [if_neg g0]
    by_cases g1 : a / 64 % 4 = 1
    · rw [if_pos g1]; exact h2
    · rw [if_neg g1]
      by_cases g2 : a / 64 % 4 = 2
      · rw [if_pos g2]; exact n1
      · rw [if_neg g2]; exact n2
theorem follow_in {sup loss m p3 : Int32} {P : Nat} (hP : P ≤ 50) (hs : btw sup 1 2000) (hl : btw loss 1 99) {due : Int32} (hd : btw due (-1200) 1200) (kk24 : Int32 → Int32 → Int32 → Int32 → zMem → Option (Int32 × zMem)) (kk23 : Int32 → Int32 → Int32 → zMem → Option zMem) (x : Int32) : ∀ (r j t F F' : Nat) (M N : zMem) (i a b c : Int32), j + r = P → t + r ≤ 10000 → r < F → r < F' → zR M 0 8 = 182 → cst M i t m sup loss → btw i 0 2200 → zI N 0 28 = sup → zI N 0 29 = loss → zI N 0 48 = a → zI N 0 49 = b → zI N 0 50 = c → btw c 0 (3400 * t) → ∃ (M1 N1 : zMem) (i1 a1 b1 c1 : Int32), zlX11_offWhileFollowing_72 shC 0 (nI P) m p3 kk24 F a b c x due (nI j) M = kk24 a1 b1 c1 (x + 1) M1 ∧ zlX12_laysFollow_59 shM 0 (nI P) m kk23 F' i (nI t) x due (nI j) N = kk23 i1 (nI (t + r)) (x + 1) N1 ∧ cst M1 i1 (t + r) m sup loss ∧ btw i1 0 2200 ∧ zI N1 0 48 = a1 ∧ zI N1 0 49 = b1 ∧ zI N1 0 50 = c1 ∧ btw c1 0 (3400 * (t + r : Nat)) ∧ only 182 M M1 ∧ onlyF N N1 := by
  intro r
  induction r with
  | zero =>
    intro j t F F' M N i a b c h1 h0 h2 h3 hR hc hi hN1 hN2 ha hb' hc' hcb
    obtain ⟨F, rfl⟩ : ∃ x, F = x + 1 := ⟨F - 1, by omega⟩
    obtain ⟨F', rfl⟩ : ∃ x, F' = x + 1 := ⟨F' - 1, by omega⟩
    refine ⟨M, N, i, a, b, c, ?_, ?_, hc, hi, ha, hb', hc', hcb, only.rf _ _, onlyF.rf _⟩
    · simp only [zlX11_offWhileFollowing_72]
      unfold zbX11_offWhileFollowing_72
      rw [if_pos (nI_le (by omega) (by omega))]
    · simp only [zlX12_laysFollow_59]
      unfold zbX12_laysFollow_59
      rw [if_pos (nI_le (by omega) (by omega))]
      rfl
  | succ r ih =>
    intro j t F F' M N i a b c h1 h0 h2 h3 hR hc hi hN1 hN2 ha hb' hc' hcb
    obtain ⟨F, rfl⟩ : ∃ x, F = x + 1 := ⟨F - 1, by omega⟩
    obtain ⟨F', rfl⟩ : ∃ x, F' = x + 1 := ⟨F' - 1, by omega⟩
    obtain ⟨M1, s1, s2, s3, s4⟩ := step_eq (goal := due) hc hi (by unfold btw at hd; omega) hs hl
    have hR1 := s3.R hR
    have hcl : zlX11_offWhileFollowing_72 shC 0 (nI P) m p3 kk24 (F + 1) a b c x due (nI j) M = zbX11_offWhileFollowing_72 shC 0 (nI P) m p3 kk24 (zlX11_offWhileFollowing_72 shC 0 (nI P) m p3 kk24 F) a b c x due (nI j) M := rfl
    have hml : zlX12_laysFollow_59 shM 0 (nI P) m kk23 (F' + 1) i (nI t) x due (nI j) N = zbX12_laysFollow_59 shM 0 (nI P) m kk23 (zlX12_laysFollow_59 shM 0 (nI P) m kk23 F') i (nI t) x due (nI j) N := rfl
    rw [hcl, hml]
    unfold zbX11_offWhileFollowing_72 zbX12_laysFollow_59 zjX11_offWhileFollowing_111 zjX12_laysFollow_113
    rw [if_neg (nI_ge (by omega) (by omega)), if_neg (nI_ge (by omega) (by omega)), hR, s1, rob, pulls_eq, rob, rem8 _ (by omega), hN1, hN2]
    simp only [rbd, hR1, s2.1]
    generalize hv : fP sup loss i due m (nI (t % 8)) = v at *
    simp only [size_eq, greater_eq, truth_eq, rob, nI_1]
    have hsub : btw (v - due) (-1200) 3400 := by
      have := sub_b s4 hd (by omega) (by omega)
      exact this.w (by omega) (by omega)
    have hab : btw (zabs (v - due)) 0 3400 := zabs_b (by unfold btw at hsub; omega) hsub.2 (by omega)
    have hcond : (v - due ≤ 0) = (v ≤ due) := by
      unfold btw at s4 hd
      rw [r_le, r_le, r_sub (by omega) (by omega), show (0 : Int32).toInt = 0 from rfl, eq_iff_iff]
      omega
    have hcb1 : btw (c + zabs (v - due)) 0 (3400 * (t + 1 : Nat)) := by
      have := add_b hcb hab (by omega) (by omega)
      exact this.w (by omega) (by omega)
    have e0 : bI ((0 : Int32) ≠ 0) = 0 := rfl
    have e1 : bI ((1 : Int32) ≠ 0) = 1 := rfl
    by_cases g : v ≤ due
    · rw [if_pos (hcond ▸ g), if_pos g, e0]
      obtain ⟨M2, N2, i2, a2, b2, c2, t1, t2, t3, t4, t5, t6, t7, t8, t9, t10⟩ := ih (j + 1) (t + 1) F F' M1 (zpI (zpI (zpI N 0 48 (zmax (zI N 0 48) (zabs (v - due)))) 0 49 (zI N 0 49 + 0)) 0 50 (zI N 0 50 + zabs (v - due))) v (zmax a (zabs (v - due))) (b + 0) (c + zabs (v - due)) (by omega) (by omega) (by omega) (by omega) hR1 s2 s4 hN1 hN2 (by rw [← ha]; rfl) (by rw [← hb']; rfl) (by rw [← hc']; rfl) hcb1
      rw [show t + (r + 1) = t + 1 + r by omega]
      exact ⟨M2, N2, i2, a2, b2, c2, t1, t2, t3, t4, t5, t6, t7, t8, s3.tr t9, (((onlyF.rf N).p (by omega) _).p (by omega) _ |>.p (by omega) _).tr t10⟩
    · rw [if_neg (hcond ▸ g), if_neg g, e1]
      obtain ⟨M2, N2, i2, a2, b2, c2, t1, t2, t3, t4, t5, t6, t7, t8, t9, t10⟩ := ih (j + 1) (t + 1) F F' M1 (zpI (zpI (zpI N 0 48 (zmax (zI N 0 48) (zabs (v - due)))) 0 49 (zI N 0 49 + 1)) 0 50 (zI N 0 50 + zabs (v - due))) v (zmax a (zabs (v - due))) (b + 1) (c + zabs (v - due)) (by omega) (by omega) (by omega) (by omega) hR1 s2 s4 hN1 hN2 (by rw [← ha]; rfl) (by rw [← hb']; rfl) (by rw [← hc']; rfl) hcb1
      rw [show t + (r + 1) = t + 1 + r by omega]
      exact ⟨M2, N2, i2, a2, b2, c2, t1, t2, t3, t4, t5, t6, t7, t8, s3.tr t9, (((onlyF.rf N).p (by omega) _).p (by omega) _ |>.p (by omega) _).tr t10⟩
