/-! Phase B: needed, quickest -/
theorem alone_st {M N : zMem} {bb sb it nA nB a W : Nat} (hB : Bx M N bb sb it nA nB) (h0 : zI M 178 0 = 0) (ha : a < nA) (hW : W ≤ 60000) : ∃ (A J : Nat) (M1 : zMem), A ≤ 30 ∧ 1 ≤ J ∧ J ≤ 10 ∧ zX4_startAlone shC 174 bb (nI a) (nI W) M = some (iI (tkT W A J 0), M1) ∧ aln M1 N bb sb it nA nB a W A J ∧ isTop N nB (nI a) W A J 0 0 ∧ alF M N M1 N := by
  have hn3 : nA ≤ 3 := hB.2.2.2.1.1
  have ha3 : a < 3 := by omega
  have hbb := hB.1
  obtain ⟨g0, g1, g2, g3, -⟩ := hB.2.2.2.1.2.2.2.2.2.2.2.2.2.2.2.1 a ha
  have gb := hB.2.2.2.1.2.2.2.2.2.2.2.2.2.2.2.2.1
  obtain ⟨g2a, g2b⟩ := g2
  obtain ⟨g3a, g3b⟩ := g3
  obtain ⟨A, hA⟩ : ∃ A : Nat, (A : Int) = (zI N 4 (6 * a + 1)).toInt := ⟨(zI N 4 (6 * a + 1)).toInt.toNat, by omega⟩
  obtain ⟨J, hJ⟩ : ∃ J : Nat, (J : Int) = (zI N 4 (6 * a + 2)).toInt := ⟨(zI N 4 (6 * a + 2)).toInt.toNat, by omega⟩
  have eA : zI N 4 (6 * a + 1) = nI A := by rw [iI_n, hA, iI_t]
  have eJ : zI N 4 (6 * a + 2) = nI J := by rw [iI_n, hJ, iI_t]
  have m2 : zI M (bb + 9 + a) 2 = nI A := (g0 1 (by omega)).trans eA
  have m3 : zI M (bb + 9 + a) 3 = nI J := (g0 2 (by omega)).trans eJ
  have zb0 : zR M bb 0 = bb + 1 := by simp only [hB.2.1.b hB.1]
  have lB1 : zlen shC (bb + 1) = 3 := (lnB hB.1).1
  have axM := hB.2.1.ax hB.1 ha3
  obtain ⟨Mp, hMp⟩ : ∃ Mp, Mp = zpI (zpI (zpI (zpI M 174 3 (nI a)) 174 4 (nI W)) 174 6 (nI A)) 174 7 (nI J) := ⟨_, rfl⟩
  have mk : ∀ k j, ¬ (k = 174 ∧ (j = 3 ∨ j = 4 ∨ j = 6 ∨ j = 7)) → zI Mp k j = zI M k j := fun k j q => by
    rw [hMp, rI_pI, if_neg (by omega), rI_pI, if_neg (by omega), rI_pI, if_neg (by omega), rI_pI, if_neg (by omega)]
  have mR : Mp.2.2 = M.2.2 := by rw [hMp]; rfl
  have p3 : zI Mp 174 3 = nI a := by rw [hMp]; rfl
  have p4 : zI Mp 174 4 = nI W := by rw [hMp]; rfl
  have p6 : zI Mp 174 6 = nI A := by rw [hMp]; rfl
  have p7 : zI Mp 174 7 = nI J := by rw [hMp]; rfl
  have hBp : Bx Mp N bb sb it nA nB := hB.sm mR rfl (fun k j hk => mk k j (by omega)) (fun _ _ _ => rfl)
  have hmp : mvB Mp 174 := by
    have := hBp.2.1.o
    exact ⟨by simp only [this], by simp only [this], by simp only [this], by simp only [this]⟩
  obtain ⟨r, M1, a1, a2, a3, a4, a5, a6⟩ := takeTop_eq (mb := 174) (ld := nI a) (v := 0) hBp hmp (by omega) rfl (by rw [mk _ _ (by omega)]; exact h0) hW (show A ≤ 30 by omega) (show 1 ≤ J by omega) (show J ≤ 10 by omega) (by omega) p3 p4 p6 p7
  have ok0 : okT N nB (nI a) W A J 0 := okT_0 (by omega) (fun b hb => (gb b hb).2.2.2)
  have q9 : zI M1 174 9 = iI (fEv ((W : Int) - 2 * psum (fL 0 A J) (fL 0 A J).length) (fL 0 A J)) := by
    rcases a2 with ⟨-, -, -, q⟩ | ⟨-, q⟩
    · exact q
    · exact absurd ok0 q
  have hm1 : mvB M1 174 := by
    obtain ⟨y1, y2, y3, y4⟩ := hmp
    unfold mvB zR
    rw [a4]
    exact ⟨y1, y2, y3, y4⟩
  have htk : zX4_ticks shC 174 M1 = some (iI (tkT W A J 0)) := by
    unfold zX4_ticks tkT
    rw [hm1.2.2.1, a3.1, q9, iI_n, show (2 : Int32) = iI 2 from rfl, iI_mul, iI_add]
  refine ⟨A, J, M1, by omega, by omega, by omega, ?_, ⟨?_, hm1, a5, ?_, ?_, ?_, ?_, eA, eJ⟩, ⟨Nat.le_refl _, ok0, fun u q1 q2 => by omega⟩, a4.trans mR, fun k j q => ?_, a5, rfl, fun _ _ _ _ => rfl⟩
  · have k1 : zI (zpI (zpI M 174 3 (nI a)) 174 4 (nI W)) (bb + 9 + a) 2 = nI A := by rw [rI_pI, if_neg (by omega), rI_pI, if_neg (by omega)]; exact m2
    have k2 : zI (zpI (zpI (zpI M 174 3 (nI a)) 174 4 (nI W)) 174 6 (nI A)) (bb + 9 + a) 3 = nI J := by rw [rI_pI, if_neg (by omega), rI_pI, if_neg (by omega), rI_pI, if_neg (by omega)]; exact m3
    unfold zX4_startAlone
    simp only [rbd, rR_pI]
    rw [zb0, lB1, rgd (in_a ha3 (by omega)), nI_clamp (by omega), axM, k1, rgd (in_a ha3 (by omega)), k2, ← hMp, show (0 : Int32) = nI 0 from rfl, a1, rob2, htk, rob]
  · exact hBp.sm a4 rfl (fun k j hk => a6 k j (by omega) (by omega) (by omega)) (fun _ _ _ => rfl)
  · rw [a6 174 3 (by omega) (by omega) (by omega)]; exact p3
  · rw [a6 174 4 (by omega) (by omega) (by omega)]; exact p4
  · rw [a6 174 6 (by omega) (by omega) (by omega)]; exact p6
  · rw [a6 174 7 (by omega) (by omega) (by omega)]; exact p7
  · clear zb0 lB1 axM
    rw [a6 k j (by omega) (by omega) (by omega)]; exact mk k j (by omega)
theorem alF.inv {n : Nat} {M N M1 N1 : zMem} (h : Inv n M N) (h0 : zI M 178 0 = 0) (g : alF M N M1 N1) : Inv (n + 1) M1 N1 := Inv_same h ⟨g.1, fun k j q => by
    by_cases c : k = 178 ∧ j = 0
    · rw [c.1, c.2, g.2.2.1, h0]
    · exact g.2.1 k j (by omega)⟩ g.2.2.2.Q.N
theorem B_needed_ok : B_needed Inv := by
  intro n M N v1 v2 v3 hn hI
  have hU := Inv_up n M N hI
  have hI2 := hI
  obtain ⟨bb, sb, it, nA, nB, h1, h2, h3, h4, h5, h6, h7, h8, h9⟩ := hI
  have hb : bb = 1 ∨ bb = 13 := by omega
  have h11 : zR M 0 11 = bb := by simp only [h2.o]
  have e5 : zR M 0 5 = 174 := by simp only [h2.o]
  have hn3 : nA ≤ 3 := h6.1
  unfold zX11_needed zX12_needed zjX11_needed_29 zjX12_needed_32
  rw [axisC h11 h6.2.2.1 h6.1, axisM h6.2.2.2.1 h6.1, rob, rob, within_eq, rob, within_eq, rob, isIn_l v2 1 30000 _ _ rfl rfl, rob, isIn_l v3 1 60000 _ _ rfl rfl, rob]
  simp only [bI_0]
  by_cases c1 : 0 ≤ v1.toInt ∧ v1.toInt < nA
  · rw [if_neg (nn c1), if_neg (nn c1)]
    obtain ⟨a, ha, rfl⟩ := ax_ex c1
    by_cases c2 : (1 : Int32) ≤ v2 ∧ v2 ≤ 30000
    · rw [if_neg (nn c2), if_neg (nn c2)]
      by_cases c3 : (1 : Int32) ≤ v3 ∧ v3 ≤ 60000
      · rw [if_neg (nn c3), if_neg (nn c3)]
        have q1 : 1 ≤ v2.toInt := r_le.mp c2.1
        have q2 : v2.toInt ≤ 30000 := r_le.mp c2.2
        obtain ⟨W, hWd⟩ : ∃ W : Nat, (W : Int) = v2.toInt := ⟨v2.toInt.toNat, by omega⟩
        have hv : v2 = nI W := by rw [iI_n, hWd, iI_t]
        obtain ⟨A, J, M1, t1, t2, t3, t4, t5, t6, t7⟩ := alone_st (W := W) ⟨hb, h2, h3, h6, h7⟩ h5.2.2.1 ha (by omega)
        obtain ⟨v, M2, N2, b1, b2, b3⟩ := need_lp (p := v3) (by omega) (by omega) t1 t2 t3 60 1 zF zF 0 M1 N (by omega) (by omega) (by unfold zF; omega) (by unfold zF; omega) t5 t6
        refine ⟨v, M2, N2, ?_, ?_, (t7.tr b3).inv hI2 h5.2.2.1⟩
        · rw [e5, h11, hv, t4, rob2]; exact b1
        · rw [hv]; exact b2
      · exact ⟨-1, M, N, if_pos c3, if_pos c3, hU⟩
    · exact ⟨-1, M, N, if_pos c2, if_pos c2, hU⟩
  · exact ⟨-1, M, N, if_pos c1, if_pos c1, hU⟩
