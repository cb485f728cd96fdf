/-! Phase B: quickest -/
theorem quick_step {bb sb it nA nB a W A J s u : Nat} {M N : zMem} (p x4 x5 y4 y5 : Int32) (ha3 : a < 3) (hW : W ≤ 60000) (hA : A ≤ 30) (hJ : 1 ≤ J) (hJ2 : J ≤ 10) (hs : 1 ≤ s) (hs2 : s ≤ 60) (F F' : Nat) (h : aln M N bb sb it nA nB a W A J) (hu : isTop N nB (nI a) W A J (s - 1) u) : ∃ w M1 N1, zlX11_quickest_55 shC 0 (nI a) (nI W) p (F + 1) x4 x5 (iI (tkT W A J u)) (nI s) M = (if x5 ≤ iI (tkT W A J w) then zlX11_quickest_55 shC 0 (nI a) (nI W) p F x4 x5 (iI (tkT W A J w)) (nI (s + 1)) M1 else zlX11_quickest_55 shC 0 (nI a) (nI W) p F (nI s) (iI (tkT W A J w)) (iI (tkT W A J w)) (nI (s + 1)) M1) ∧ zlX12_quickest_41 shM 0 (nI a) (nI W) p (F' + 1) y4 y5 (nI s) N = (if y4 ≤ 0 then zlX12_quickest_41 shM 0 (nI a) (nI W) p F' (nI s) (iI (tkT W A J w)) (nI (s + 1)) N1 else if iI (tkT W A J w) < y5 then zlX12_quickest_41 shM 0 (nI a) (nI W) p F' (nI s) (iI (tkT W A J w)) (nI (s + 1)) N1 else zlX12_quickest_41 shM 0 (nI a) (nI W) p F' y4 y5 (nI (s + 1)) N1) ∧ isTop N1 nB (nI a) W A J s w ∧ aln M1 N1 bb sb it nA nB a W A J ∧ alF M N M1 N1 := by
  have hle : ¬ (60 : Int32) < nI s := by rw [r_lt, nI_toInt (by omega)]; show ¬ (60 : Int) < _; omega
  obtain ⟨q, M1, N1, w, a1, a2, a3, a4, a5, a6, a7, a8, a9⟩ := top_step h hW hA hJ hJ2 hs hs2 hu
  have e5 : zR M 0 5 = 174 := by simp only [h.1.2.1.o]
  have e11 : zR M 0 11 = bb := by simp only [h.1.2.1.o]
  have f5 : zR M1 0 5 = 174 := by simp only [a8.1.2.1.o]
  have n14 : zR N 0 14 = 4 := by simp only [h.1.2.2.1.o]
  have i1 : (6 : Int32) * nI a + 1 = nI (6 * a + 1) := by rw [show (6 : Int32) = nI 6 from rfl, pk_mul, nI_1]
  have i2 : (6 : Int32) * nI a + 2 = nI (6 * a + 2) := by rw [show (6 : Int32) = nI 6 from rfl, pk_mul, show (2 : Int32) = nI 2 from rfl, nI_add]
  refine ⟨w, M1, N1, ?_, ?_, a3, a8, a9⟩
  · rw [show zlX11_quickest_55 shC 0 (nI a) (nI W) p (F + 1) x4 x5 (iI (tkT W A J u)) (nI s) M = zbX11_quickest_55 shC 0 (nI a) (nI W) p (zlX11_quickest_55 shC 0 (nI a) (nI W) p F) x4 x5 (iI (tkT W A J u)) (nI s) M from rfl]
    unfold zbX11_quickest_55 zjX11_quickest_90 zjX11_quickest_107
    rw [if_neg hle, e5, e11, a1, rob2]
    by_cases c : q = 0
    · rw [if_pos c, a4 c, nI_1]
    · rw [if_neg c, f5, a5 c, rob, nI_1]
  · rw [show zlX12_quickest_41 shM 0 (nI a) (nI W) p (F' + 1) y4 y5 (nI s) N = zbX12_quickest_41 shM 0 (nI a) (nI W) p (zlX12_quickest_41 shM 0 (nI a) (nI W) p F') y4 y5 (nI s) N from rfl]
    unfold zbX12_quickest_41 zjX12_quickest_114 zjX12_quickest_122
    rw [if_neg hle, n14, show zlen shM 4 = 18 from rfl, i1, i2, rgd (in_a (by omega) (by omega)), rgd (in_a (by omega) (by omega)), nI_clamp (by omega), nI_clamp (by omega), h.2.2.2.2.2.2.2.1, h.2.2.2.2.2.2.2.2, a2, rob, ob_ob, a6, rob, rbd, a7, nI_1]
theorem quick_lp {bb sb it nA nB a W A J : Nat} {p : Int32} (ha3 : a < 3) (hW : W ≤ 60000) (hA : A ≤ 30) (hJ : 1 ≤ J) (hJ2 : J ≤ 10) : ∀ (r s F F' u t : Nat) (x5 : Int32) (M N : zMem), s + r = 61 → 1 ≤ s → r < F → r < F' → 1 ≤ t → t ≤ 60 → aln M N bb sb it nA nB a W A J → isTop N nB (nI a) W A J (s - 1) u → ∃ v M1 N1, zlX11_quickest_55 shC 0 (nI a) (nI W) p F (nI t) x5 (iI (tkT W A J u)) (nI s) M = some (v, M1) ∧ zlX12_quickest_41 shM 0 (nI a) (nI W) p F' (nI t) x5 (nI s) N = some (v, N1) ∧ alF M N M1 N1 := by
  intro r
  induction r with
  | zero =>
    intro s F F' u t x5 M N h1 hs hF hF' ht1 ht2 h hu
    obtain ⟨F, rfl⟩ : ∃ x, F = x + 1 := ⟨F - 1, by omega⟩
    obtain ⟨F', rfl⟩ : ∃ x, F' = x + 1 := ⟨F' - 1, by omega⟩
    obtain rfl : s = 61 := by omega
    have e1 : zlX11_quickest_55 shC 0 (nI a) (nI W) p (F + 1) (nI t) x5 (iI (tkT W A J u)) (nI 61) M = (if p = 0 then some (nI t, M) else some (x5, M)) := by
      simp only [zlX11_quickest_55]
      unfold zbX11_quickest_55 zjX11_quickest_124
      rw [if_pos (by decide)]
    have e2 : zlX12_quickest_41 shM 0 (nI a) (nI W) p (F' + 1) (nI t) x5 (nI 61) N = (if p = 0 then some (nI t, N) else some (x5, N)) := by
      simp only [zlX12_quickest_41]
      unfold zbX12_quickest_41 zjX12_quickest_139
      rw [if_pos (by decide)]
    rw [e1, e2]
    by_cases c : p = 0
    · rw [if_pos c, if_pos c]; exact ⟨_, M, N, rfl, rfl, rfl, fun _ _ _ => rfl, h.2.2.1, rfl, fun _ _ _ _ => rfl⟩
    · rw [if_neg c, if_neg c]; exact ⟨_, M, N, rfl, rfl, rfl, fun _ _ _ => rfl, h.2.2.1, rfl, fun _ _ _ _ => rfl⟩
  | succ r ih =>
    intro s F F' u t x5 M N h1 hs hF hF' ht1 ht2 h hu
    obtain ⟨F, rfl⟩ : ∃ x, F = x + 1 := ⟨F - 1, by omega⟩
    obtain ⟨F', rfl⟩ : ∃ x, F' = x + 1 := ⟨F' - 1, by omega⟩
    obtain ⟨w, M1, N1, a1, a2, a3, a4, a5⟩ := quick_step p (nI t) x5 (nI t) x5 ha3 hW hA hJ hJ2 hs (by omega) F F' h hu
    rw [a1, a2, if_neg (nI_nle (by omega) (by omega))]
    by_cases c : x5 ≤ iI (tkT W A J w)
    · rw [if_pos c, if_neg (by rw [r_le] at c; rw [r_lt]; omega)]
      obtain ⟨v, M2, N2, b1, b2, b3⟩ := ih (s + 1) F F' w t x5 M1 N1 (by omega) (by omega) (by omega) (by omega) ht1 ht2 a4 a3
      exact ⟨v, M2, N2, b1, b2, a5.tr b3⟩
    · rw [if_neg c, if_pos (by rw [r_le] at c; rw [r_lt]; omega)]
      obtain ⟨v, M2, N2, b1, b2, b3⟩ := ih (s + 1) F F' w s (iI (tkT W A J w)) M1 N1 (by omega) (by omega) (by omega) (by omega) hs (by omega) a4 a3
      exact ⟨v, M2, N2, b1, b2, a5.tr b3⟩
theorem B_quickest_ok : B_quickest Inv := by
  intro n M N v1 v2 v3 hn hI
  have hU := Inv_up n M N hI
  have hI2 := hI
  obtain ⟨bb, sb, it, nA, nB, h1, h2, h3, h4, h5, h6, h7, h8, h9⟩ := hI
  have hb : bb = 1 ∨ bb = 13 := by omega
  have h11 : zR M 0 11 = bb := by simp only [h2.o]
  have e5 : zR M 0 5 = 174 := by simp only [h2.o]
  have hn3 : nA ≤ 3 := h6.1
  unfold zX11_quickest zX12_quickest zjX11_quickest_28 zjX12_quickest_30
  rw [axisC h11 h6.2.2.1 h6.1, axisM h6.2.2.2.1 h6.1, rob, rob, within_eq, rob, within_eq, rob, isIn_l v2 1 30000 _ _ rfl rfl, rob, isIn_l v3 0 1 _ _ rfl rfl, rob]
  simp only [bI_0]
  by_cases c1 : 0 ≤ v1.toInt ∧ v1.toInt < nA
  · rw [if_neg (nn c1), if_neg (nn c1)]
    obtain ⟨a, ha, rfl⟩ := ax_ex c1
    by_cases c2 : (1 : Int32) ≤ v2 ∧ v2 ≤ 30000
    · rw [if_neg (nn c2), if_neg (nn c2)]
      by_cases c3 : (0 : Int32) ≤ v3 ∧ v3 ≤ 1
      · rw [if_neg (nn c3), if_neg (nn c3)]
        have q1 : 1 ≤ v2.toInt := r_le.mp c2.1
        have q2 : v2.toInt ≤ 30000 := r_le.mp c2.2
        obtain ⟨W, hWd⟩ : ∃ W : Nat, (W : Int) = v2.toInt := ⟨v2.toInt.toNat, by omega⟩
        have hv : v2 = nI W := by rw [iI_n, hWd, iI_t]
        obtain ⟨A, J, M1, t1, t2, t3, t4, t5, t6, t7⟩ := alone_st (W := W) ⟨hb, h2, h3, h6, h7⟩ h5.2.2.1 ha (by omega)
        obtain ⟨w, M2, N2, b1, b2, b3, b4, b5⟩ := quick_step v3 (-1) 2147483647 0 0 (by omega) (by omega) t1 t2 t3 (show 1 ≤ 1 by omega) (by omega) 999999 999999 t5 t6
        have hw60 : w ≤ 60 := by have := b3.1; omega
        have hL := (fL_ok (V := w) (A := A) (J := J) hw60 t1 t3).1
        have hps := psum_b hL (fL w A J).length
        have h60 := hL.1
        have hok : 2 * psum (fL w A J) (fL w A J).length ≤ W := b3.2.1.1
        obtain ⟨y1, y2, y3⟩ := fEv_ok (rest := (W : Int) - 2 * psum (fL w A J) (fL w A J).length) (L := fL w A J) (by omega) hL
        have hbig : ¬ (2147483647 : Int32) ≤ iI (tkT W A J w) := by
          rw [r_le, show (2147483647 : Int32).toInt = 2147483647 from rfl]
          unfold tkT
          rw [iI_i (by omega) (by omega)]
          omega
        rw [if_neg hbig] at b1
        rw [if_pos (show (0 : Int32) ≤ 0 by decide)] at b2
        obtain ⟨v, M3, N3, d1, d2, d3⟩ := quick_lp (p := v3) (by omega) (by omega) t1 t2 t3 59 2 999999 999999 w 1 (iI (tkT W A J w)) M2 N2 (by omega) (by omega) (by omega) (by omega) (by omega) (by omega) b4 b3
        refine ⟨v, M3, N3, ?_, ?_, ((t7.tr b5).tr d3).inv hI2 h5.2.2.1⟩
        · rw [e5, h11, hv, t4, rob2]; exact b1.trans d1
        · rw [hv]; exact b2.trans d2
      · exact ⟨-1, M, N, if_pos c3, if_pos c3, hU⟩
    · exact ⟨-1, M, N, if_pos c2, if_pos c2, hU⟩
  · exact ⟨-1, M, N, if_pos c1, if_pos c1, hU⟩
