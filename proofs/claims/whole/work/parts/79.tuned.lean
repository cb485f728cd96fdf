/-! Phase B: tuned -/
/-- the reference while it tunes: fixes kept aside -/
def rTu (N N1 : zMem) : Prop := N1.2.2 = N.2.2 ∧ (∀ k j, k ≠ 8 → k ≠ 13 → zI N1 k j = zI N k j) ∧ (∀ j, 64 < j → zI N1 8 j = zI N 8 j) ∧ (∀ j, j ≤ 64 → zI N1 13 j = zI N 8 j)
theorem tuned_back {N : zMem} {p : Int32} (hN : rfN N) (v : Int32) : ∀ (r i F : Nat) (N1 : zMem), i + r = 65 → r < F → rTu N N1 → (∀ j, j < i → zI N1 8 j = zI N 8 j) → ∃ N2, zlX12_tuned_111 shM 0 p F v (nI i) N1 = some (v, N2) ∧ sameN N N2 := by
  intro r
  induction r with
  | zero =>
    intro i F N1 h1 hF hT hi
    obtain ⟨F, rfl⟩ : ∃ x, F = x + 1 := ⟨F - 1, by omega⟩
    simp only [zlX12_tuned_111]
    unfold zbX12_tuned_111
    rw [if_pos (show (64 : Int32) < nI i from nI_lt (a := 64) (by omega) (by omega))]
    refine ⟨N1, rfl, hT.1, fun k j hk => ?_⟩
    by_cases h8 : k = 8
    · subst h8
      by_cases hj : j ≤ 64
      · exact hi j (by omega)
      · exact hT.2.2.1 j (by omega)
    · exact hT.2.1 k j h8 (by unfold keepN at hk; omega)
  | succ r ih =>
    intro i F N1 h1 hF hT hi
    obtain ⟨F, rfl⟩ : ∃ x, F = x + 1 := ⟨F - 1, by omega⟩
    have hN1 := hN.sm hT.1
    have e18 : zR N1 0 18 = 8 := by simp only [hN1.o]
    have e34 : zR N1 0 34 = 13 := by simp only [hN1.o]
    simp only [zlX12_tuned_111]
    unfold zbX12_tuned_111
    rw [if_neg (show ¬ (64 : Int32) < nI i from nI_nlt (a := 64) (by omega) (by omega)), e18, e34, show zlen shM 13 = 65 from rfl, show zlen shM 8 = 65 from rfl, rgd (in_a (by omega) (by omega)), rgd (in_a (by omega) (by omega)), nI_clamp (by omega), rbd, nI_1]
    refine ih (i + 1) F _ (by omega) (by omega) ⟨hT.1, fun k j g1 g2 => ?_, fun j hj => ?_, fun j hj => ?_⟩ (fun j hj => ?_)
    · rw [rI_pI, if_neg (by omega)]; exact hT.2.1 k j g1 g2
    · rw [rI_pI, if_neg (by omega)]; exact hT.2.2.1 j hj
    · rw [rI_pI, if_neg (by omega)]; exact hT.2.2.2 j hj
    · rw [rI_pI]
      by_cases g : j = i
      · rw [if_pos ⟨rfl, g⟩, hT.2.2.2 i (by omega), g]
      · rw [if_neg (fun e => g e.2)]; exact hi j (by omega)
theorem tuned_loop {M N : zMem} {bb sb it nA nB : Nat} {what : Int32} (hB : Bx M N bb sb it nA nB) (hw : what = 0 ∨ what = 1 ∨ what = 2) : ∀ (r q F F' : Nat) (M1 N1 : zMem) (cnt : Int32), q + r = 65 → r < F → r < F' → only 184 M M1 → rTu N N1 → (∀ j, j ≤ 64 → zI M1 184 j = fRow N1 j) → (∀ j, j ≤ 64 → btw (zI N1 8 j) (-200) 200) → ∃ (v : Int32) (M2 N2 : zMem), zlX11_tuned_42 shC 0 what F (bb + 5) cnt (nI q) M1 = some (v, M2) ∧ zlX12_tuned_44 shM 0 what F' cnt (nI q) N1 = some (v, N2) ∧ only 184 M M2 ∧ sameN N N2 := by
  obtain ⟨hb, hC, hN, h6, h7⟩ := hB
  intro r
  induction r with
  | zero =>
    intro q F F' M1 N1 cnt h1 hF hF' hM hT hrow hf
    obtain ⟨F, rfl⟩ : ∃ x, F = x + 1 := ⟨F - 1, by omega⟩
    obtain ⟨F', rfl⟩ : ∃ x, F' = x + 1 := ⟨F' - 1, by omega⟩
    have hC1 := hC.sm hM.1
    have hN1 := hN.sm hT.1
    have e10 : zR M1 0 10 = 184 := by simp only [hC1.o]
    have h33 : zR N1 0 33 = 12 := by simp only [hN1.o]
    have h18 : zR N1 0 18 = 8 := by simp only [hN1.o]
    have hbR : ∀ j, j ≤ 64 → btw (fRow N1 j) (-1200) 1200 := fun j hj => by
      unfold fRow
      rw [hT.2.1 12 j (by omega) (by omega)]
      exact (add_b (h7 j hj).2.2 (hf j hj) (by omega) (by omega)).w (by omega) (by omega)
    simp only [zlX11_tuned_42, zlX12_tuned_44]
    unfold zbX11_tuned_42 zbX12_tuned_44 zjX11_tuned_117 zjX12_tuned_107
    rw [if_pos (show (64 : Int32) < nI q from nI_lt (a := 64) (by omega) (by omega)), if_pos (show (64 : Int32) < nI q from nI_lt (a := 64) (by omega) (by omega)), e10]
    by_cases c2 : what = 2
    · rw [if_pos c2, if_pos c2]
      obtain ⟨N2, t1, t2⟩ := tuned_back (p := what) hN cnt 65 0 zF N1 (by omega) (by unfold zF; omega) hT (fun j hj => by omega)
      exact ⟨cnt, M1, N2, rfl, t1, hM, t2⟩
    · rw [if_neg c2, if_neg c2]
      obtain ⟨v, u1, u2⟩ := field_eq (M := M1) (N := N1) (k := 184) (what := what) (by rw [show zlen shC 184 = 65 from rfl]; exact Nat.le_refl _) h33 h18 hbR hrow hw
      rw [u1, u2, rob, rob]
      obtain ⟨N2, t1, t2⟩ := tuned_back (p := what) hN v 65 0 zF N1 (by omega) (by unfold zF; omega) hT (fun j hj => by omega)
      exact ⟨v, M1, N2, rfl, t1, hM, t2⟩
  | succ r ih =>
    intro q F F' M1 N1 cnt h1 hF hF' hM hT hrow hf
    obtain ⟨F, rfl⟩ : ∃ x, F = x + 1 := ⟨F - 1, by omega⟩
    obtain ⟨F', rfl⟩ : ∃ x, F' = x + 1 := ⟨F' - 1, by omega⟩
    have hC1 := hC.sm hM.1
    have hN1 := hN.sm hT.1
    have e10 : zR M1 0 10 = 184 := by simp only [hC1.o]
    have e50 : zR M1 (bb + 5) 0 = bb + 6 := by simp only [hC1.b hb]
    have e51 : zR M1 (bb + 5) 1 = bb + 7 := by simp only [hC1.b hb]
    have e18 : zR N1 0 18 = 8 := by simp only [hN1.o]
    have e34 : zR N1 0 34 = 13 := by simp only [hN1.o]
    have hpl : ∀ j, j ≤ 64 → zI M1 (bb + 6) j = zI N1 12 j := fun j hj => by
      rw [hM.2 _ _ (by omega), hT.2.1 12 j (by omega) (by omega)]
      rcases hb with rfl | rfl
      · exact (h7 j hj).1
      · exact (h7 j hj).2.1
    have hp : ∀ j, j ≤ 64 → btw (zI N1 12 j) 0 1000 := fun j hj => by
      rw [hT.2.1 12 j (by omega) (by omega)]; exact (h7 j hj).2.2
    obtain ⟨b, M2, N2, t1, t2, t3, t4, t5, t6, t7⟩ := best_eq (M := M1) (N := N1) (k0 := bb + 5) (k1 := 184) (pb := bb + 6) (q := q) hN1 (by omega) (by omega) rfl (by simp only [lnB hb]) e50 hpl (fun j hj _ => hrow j hj) hp hf
    have l6 : zlen shC (bb + 6) = 65 := by simp only [lnB hb]
    have l7 : zlen shC (bb + 7) = 65 := by simp only [lnB hb]
    have f10 : zR (zpI M2 184 q (zI M1 (bb + 6) q + b)) 0 10 = 184 := by show M2.2.2 0 10 = 184; rw [t3]; exact e10
    have f51 : zR (zpI M2 184 q (zI M1 (bb + 6) q + b)) (bb + 5) 1 = bb + 7 := by show M2.2.2 (bb + 5) 1 = bb + 7; rw [t3]; exact e51
    have f18 : zR (zpI N2 8 q b) 0 18 = 8 := by show N2.2.2 0 18 = 8; rw [t5]; exact e18
    have f34 : zR (zpI N2 8 q b) 0 34 = 13 := by show N2.2.2 0 34 = 13; rw [t5]; exact e34
    have hM2 : only 184 M (zpI M2 184 q (zI M1 (bb + 6) q + b)) := ⟨t3.trans hM.1, fun k j g => by rw [rI_pI, if_neg (fun e => g e.1), t4]; exact hM.2 k j g⟩
    have hT2 : rTu N (zpI N2 8 q b) := ⟨t5.trans hT.1, fun k j g1 g2 => by rw [rI_pI, if_neg (by omega), t6]; exact hT.2.1 k j g1 g2, fun j hj => by rw [rI_pI, if_neg (by omega), t6]; exact hT.2.2.1 j hj, fun j hj => by rw [rI_pI, if_neg (by omega), t6]; exact hT.2.2.2 j hj⟩
    have hrow2 : ∀ j, j ≤ 64 → zI (zpI M2 184 q (zI M1 (bb + 6) q + b)) 184 j = fRow (zpI N2 8 q b) j := fun j hj => by
      unfold fRow
      rw [rI_pI, rI_pI, rI_pI, if_neg (show ¬ (12 = 8 ∧ j = q) by omega), t6 12 j]
      by_cases g : j = q
      · rw [if_pos ⟨rfl, g⟩, if_pos ⟨rfl, g⟩, hpl q (by omega), g]
      · rw [if_neg (fun e => g e.2), if_neg (fun e => g e.2), t4, t6]; exact hrow j hj
    have hf2 : ∀ j, j ≤ 64 → btw (zI (zpI N2 8 q b) 8 j) (-200) 200 := fun j hj => by
      rw [rI_pI]
      by_cases g : j = q
      · rw [if_pos ⟨rfl, g⟩]; exact t7
      · rw [if_neg (fun e => g e.2), t6]; exact hf j hj
    simp only [zlX11_tuned_42, zlX12_tuned_44]
    unfold zbX11_tuned_42 zbX12_tuned_44 zjX11_tuned_94 zjX12_tuned_82
    rw [if_neg (show ¬ (64 : Int32) < nI q from nI_nlt (a := 64) (by omega) (by omega)), if_neg (show ¬ (64 : Int32) < nI q from nI_nlt (a := 64) (by omega) (by omega)), e50, l6, rgd (in_a (by omega) (by omega)), e10, t1, rob2, t2, rob2, e18, show zlen shM 8 = 65 from rfl, show zlen shC 184 = 65 from rfl, rgd (in_a (by omega) (by omega)), rgd (in_a (by omega) (by omega)), nI_clamp (by omega)]
    simp only [rbd, truth_eq, rob, nI_1]
    rw [f10, f51, f18, f34, show zlen shC 184 = 65 from rfl, l7, show zlen shM 8 = 65 from rfl, show zlen shM 13 = 65 from rfl, rgd (in_a (by omega) (by omega)), rgd (in_a (by omega) (by omega)), rgd (in_a (by omega) (by omega)), rgd (in_a (by omega) (by omega))]
    have a1 : zI (zpI M2 184 q (zI M1 (bb + 6) q + b)) 184 q = zI N 12 q + b := by rw [rI_pI, if_pos ⟨rfl, rfl⟩, hpl q (by omega), hT.2.1 12 q (by omega) (by omega)]
    have a2 : zI (zpI M2 184 q (zI M1 (bb + 6) q + b)) (bb + 7) q = zI N 12 q + zI N 8 q := by rw [rI_pI, if_neg (by omega), t4, hM.2 _ _ (by omega)]; exact h6.row q (by omega)
    have a3 : zI (zpI N2 8 q b) 8 q = b := by rw [rI_pI, if_pos ⟨rfl, rfl⟩]
    have a4 : zI (zpI N2 8 q b) 13 q = zI N 8 q := hT2.2.2.2 q (by omega)
    rw [a1, a2, a3, a4]
    have hcond : (zI N 12 q + b = zI N 12 q + zI N 8 q) = (b = zI N 8 q) := by
      rw [eq_iff_iff]
      constructor
      · intro g
        have := congrArg (fun x => x - zI N 12 q) g
        simp only [Int32.add_comm (zI N 12 q), Int32.add_sub_cancel] at this
        exact this
      · intro g; rw [g]
    simp only [hcond]
    have e0 : bI ((0 : Int32) ≠ 0) = 0 := rfl
    have e1 : bI ((1 : Int32) ≠ 0) = 1 := rfl
    rw [e0, e1, Int32.add_zero]
    by_cases g : b = zI N 8 q
    · rw [if_pos g, if_pos g]
      exact ih (q + 1) F F' _ _ cnt (by omega) (by omega) (by omega) hM2 hT2 hrow2 hf2
    · rw [if_neg g, if_neg g]
      exact ih (q + 1) F F' _ _ (cnt + 1) (by omega) (by omega) (by omega) hM2 hT2 hrow2 hf2
theorem tuned_aside {N : zMem} {p : Int32} (hN : rfN N) : ∀ (r i F : Nat) (N1 : zMem), i + r = 65 → r < F → N1.2.2 = N.2.2 → (∀ k j, k ≠ 13 → zI N1 k j = zI N k j) → (∀ j, j < i → zI N1 13 j = zI N 8 j) → ∃ N2, zlX12_tuned_18 shM 0 p F 0 (nI i) N1 = zlX12_tuned_44 shM 0 p zF 0 0 N2 ∧ rTu N N2 ∧ (∀ j, zI N2 8 j = zI N 8 j) := by
  intro r
  induction r with
  | zero =>
    intro i F N1 h1 hF hR hk hi
    obtain ⟨F, rfl⟩ : ∃ x, F = x + 1 := ⟨F - 1, by omega⟩
    simp only [zlX12_tuned_18]
    unfold zbX12_tuned_18
    rw [if_pos (show (64 : Int32) < nI i from nI_lt (a := 64) (by omega) (by omega))]
    exact ⟨N1, rfl, ⟨hR, fun k j _ g => hk k j g, fun j _ => hk 8 j (by omega), fun j hj => hi j (by omega)⟩, fun j => hk 8 j (by omega)⟩
  | succ r ih =>
    intro i F N1 h1 hF hR hk hi
    obtain ⟨F, rfl⟩ : ∃ x, F = x + 1 := ⟨F - 1, by omega⟩
    have hN1 := hN.sm hR
    have e18 : zR N1 0 18 = 8 := by simp only [hN1.o]
    have e34 : zR N1 0 34 = 13 := by simp only [hN1.o]
    simp only [zlX12_tuned_18]
    unfold zbX12_tuned_18
    rw [if_neg (show ¬ (64 : Int32) < nI i from nI_nlt (a := 64) (by omega) (by omega)), e18, e34, show zlen shM 13 = 65 from rfl, show zlen shM 8 = 65 from rfl, rgd (in_a (by omega) (by omega)), rgd (in_a (by omega) (by omega)), nI_clamp (by omega), rbd, nI_1]
    refine ih (i + 1) F _ (by omega) (by omega) hR (fun k j g => ?_) (fun j hj => ?_)
    · rw [rI_pI, if_neg (fun e => g e.1)]; exact hk k j g
    · rw [rI_pI]
      by_cases g : j = i
      · rw [if_pos ⟨rfl, g⟩, hk 8 i (by omega), g]
      · rw [if_neg (fun e => g e.2)]; exact hi j (by omega)
theorem B_tuned_ok : B_tuned Inv := by
  intro n M N v1 hn hI
  have hU := Inv_up n M N hI
  obtain ⟨bb, sb, it, nA, nB, hB, hS⟩ := Inv_Bx hI
  have hBB := hB
  obtain ⟨hb, hC, hN, h6, h7⟩ := hB
  by_cases c : (0 : Int32) ≤ v1 ∧ v1 ≤ 2
  · have hw : v1 = 0 ∨ v1 = 1 ∨ v1 = 2 := by
      have g1 : 0 ≤ v1.toInt := r_le.mp c.1
      have g2 : v1.toInt ≤ 2 := r_le.mp c.2
      rcases (show v1.toInt = 0 ∨ v1.toInt = 1 ∨ v1.toInt = 2 by omega) with k | k | k
      · exact Or.inl (r_eq.mpr k)
      · exact Or.inr (Or.inl (r_eq.mpr k))
      · exact Or.inr (Or.inr (r_eq.mpr k))
    obtain ⟨N2, t1, t2, t3⟩ := tuned_aside (N := N) (p := v1) hN 65 0 zF N (by omega) (by unfold zF; omega) rfl (fun _ _ _ => rfl) (fun j hj => by omega)
    have hM0 : only 184 M (zpC M (bb + 7) 0 184 0 65) := ⟨rfl, fun k j g => by rw [rI_pC, if_neg g]⟩
    obtain ⟨v, M3, N3, u1, u2, u3, u4⟩ := tuned_loop (what := v1) hBB hw 65 0 zF zF (zpC M (bb + 7) 0 184 0 65) N2 0 (by omega) (by unfold zF; omega) (by unfold zF; omega) hM0 t2 (fun j hj => by
      rw [rI_pC, if_pos rfl]
      unfold va_cpy
      rw [if_pos (by omega)]
      rw [show 0 + (j - 0) = j by omega]
      rw [h6.row j hj]
      unfold fRow
      rw [t3 j, t2.2.1 12 j (by omega) (by omega)]) (fun j hj => by rw [t3 j]; exact (h6.2.2.2.2.2.2.2.2.2.2.2.2.2 j hj).2)
    refine ⟨v, M3, N3, ?_, ?_, Inv_same hI (u3.C (by omega)) u4⟩
    · unfold zX11_tuned
      rw [within_eq, rob, if_neg (by rw [bI_0]; exact nn c)]
      simp only [hC.o, hC.b hb, lnB hb, lnC]
      rw [rgd (by decide)]
      exact u1
    · unfold zX12_tuned
      rw [isIn_l v1 0 2 _ _ rfl rfl, rob, if_neg (by rw [bI_0]; exact nn c)]
      exact t1.trans u2
  · refine ⟨-1, M, N, ?_, ?_, hU⟩
    · unfold zX11_tuned
      rw [within_eq, rob, if_pos (by rw [bI_0]; exact c)]
    · unfold zX12_tuned
      rw [isIn_l v1 0 2 _ _ rfl rfl, rob, if_pos (by rw [bI_0]; exact c)]
