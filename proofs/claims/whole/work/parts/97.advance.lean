/-! Phase B: one step of a move -/
theorem adv_core {M N : zMem} {bb sb it nA nB b W : Nat} {v r D s : Int} (hB : Bx M N bb sb it nA nB) (hb : stB b) (hx : rSx (vSt M b) (zI N 1) nA) (hon : zI N 1 1 = 1) (h3 : zI N 1 3 = nI W) (hW : 1 ≤ W) (hW2 : W ≤ 60000) (h16 : zI N 1 16 = iI s) (hs0 : 0 ≤ s) (hv0 : 0 ≤ v) (hv : v ≤ 60) (hsv : s + v ≤ W) (c4 : zI M (b + 2) 4 = nI W) (c11 : zI M b 11 = iI s) (k11 : ∀ a, a < nA → zI M (b + 3) a = zI N 1 (4 + a) ∧ zI M (b + 4) a = zI N 1 (7 + a) ∧ btw (zI N 1 (4 + a)) (-30000) 30000 ∧ -30000 ≤ (zI N 1 (4 + a)).toInt + (zI N 1 (7 + a)).toInt ∧ (zI N 1 (4 + a)).toInt + (zI N 1 (7 + a)).toInt ≤ 30000) (hr1 : 1 ≤ r) (hr2 : r ≤ 200000) (c10 : zI M b 10 = iI r) (h15 : zI N 1 15 = iI D) (hD0 : 0 ≤ D) (hD : D ≤ 200000) (ht : (if zI N 1 17 = 1 then zI N 1 19 + zI N 1 18 else 2 * zI N 1 12 + zI N 1 14) = iI (D + r)) (hs : zX12_speedNow shM 0 N = some (iI v)) (hmv : 1 < r → ∀ (V' : Nat → Nat → Int32) (f' : Nat → Int32), (∀ k j, relS k j = true → 2 ≤ k → k ≤ 6 → V' k j = vSt M b k j) → V' 0 9 = vSt M b 0 9 → V' 0 10 = iI (r - 1) → V' 0 11 = iI (s + v) → V' 0 12 = iI v → (∀ j, ¬ (j = 15 ∨ j = 16 ∨ j = 20 ∨ (48 ≤ j ∧ j < 66)) → f' j = zI N 1 j) → f' 15 = iI (D + 1) → f' 16 = iI (s + v) → f' 20 = iI v → rMv V' f' nA) : ∃ M1 N1, zjX8_advance_51 shC b b (iI v) M = some M1 ∧ zX12_moves shM 0 N = some N1 ∧ rSx (vSt M1 b) (zI N1 1) nA ∧ M1.2.2 = M.2.2 ∧ N1.2.2 = N.2.2 ∧ (∀ k j, ¬ (b ≤ k ∧ k < b + 12) → zI M1 k j = zI M k j) ∧ zI M1 b 5 = zI M b 5 ∧ zI N1 1 0 = zI N 1 0 ∧ zI M1 (b + 6) 0 = zI M (b + 6) 0 ∧ (∀ k j, k ≠ 1 → zI N1 k j = zI N k j) := by
  have hbr : 28 ≤ b ∧ b ≤ 162 := by unfold stB at hb; omega
  have hn3 : nA ≤ 3 := hB.2.2.2.1.1
  have h22 : zI N 0 22 = nI nA := hB.2.2.2.1.2.2.2.1
  have n0 : zR N 0 0 = 1 := hB.2.2.1.o.1
  have hlen : zlen shM 1 = 194 := rfl
  have hdb : ∀ a, a < nA → (zI N 1 (7 + a)).toInt.natAbs ≤ 60000 := fun a ha => by
    obtain ⟨-, -, g3, g4, g5⟩ := k11 a ha
    obtain ⟨g6, g7⟩ := g3
    omega
  -- the class
  have e11 : zI (zpI M b 12 (iI v)) b 11 = iI s := by rw [rI_pI, if_neg (by omega)]; exact c11
  have e12 : zI (zpI M b 12 (iI v)) b 12 = iI v := by rw [rI_pI, if_pos ⟨rfl, rfl⟩]
  have e10 : zI (zpI (zpI M b 12 (iI v)) b 11 (iI s + iI v)) b 10 = iI r := by rw [rI_pI, if_neg (by omega), rI_pI, if_neg (by omega)]; exact c10
  obtain ⟨Mp, hMp⟩ : ∃ Mp, Mp = zpI (zpI (zpI M b 12 (iI v)) b 11 (iI (s + v))) b 10 (iI (r - 1)) := ⟨_, rfl⟩
  have mpR : Mp.2.2 = M.2.2 := by rw [hMp]; rfl
  have mp : ∀ k j, ¬ (k = b ∧ (j = 10 ∨ j = 11 ∨ j = 12)) → zI Mp k j = zI M k j := fun k j h => by
    rw [hMp, rI_pI, if_neg (by omega), rI_pI, if_neg (by omega), rI_pI, if_neg (by omega)]
  have mp10 : zI Mp b 10 = iI (r - 1) := by rw [hMp, rI_pI, if_pos ⟨rfl, rfl⟩]
  have mp11 : zI Mp b 11 = iI (s + v) := by rw [hMp, rI_pI, if_neg (by omega), rI_pI, if_pos ⟨rfl, rfl⟩]
  have mp12 : zI Mp b 12 = iI v := by rw [hMp, rI_pI, if_neg (by omega), rI_pI, if_neg (by omega), rI_pI, if_pos ⟨rfl, rfl⟩]
  obtain ⟨M2, a1, a2, a3, a4, a5⟩ := adv_loop (M := Mp) (nA := nA) (W := W) (s := s + v) (zf := fun a => zI N 1 (4 + a)) (d := fun a => (zI N 1 (7 + a)).toInt) (hB.2.1.sm mpR) hb hn3 (by rw [mp _ _ (by omega)]; exact c4) hW hW2 (by omega) (by omega) mp11 (fun a ha => by
    obtain ⟨g1, g2, -⟩ := k11 a ha
    rw [mp _ _ (by omega), mp _ _ (by omega), iI_t]
    exact ⟨g1, g2, hdb a ha⟩)
  have hcl : zjX8_advance_51 shC b b (iI v) M = if 0 < iI (r - 1) then some M2 else some (zpI (zpI M2 b 8 0) b 9 0) := by
    unfold zjX8_advance_51
    simp only [rbd]
    rw [e11, e12, e10, iI_add, show iI r - (1 : Int32) = iI (r - 1) from iI_sub r 1, ← hMp, a1, mp10]
  -- the reference
  obtain ⟨Np, hNp⟩ : ∃ Np, Np = zpI (zpI (zpI N 1 16 (iI (s + v))) 1 15 (iI (D + 1))) 1 20 (iI v) := ⟨_, rfl⟩
  have npR : Np.2.2 = N.2.2 := by rw [hNp]; rfl
  have np : ∀ k j, ¬ (k = 1 ∧ (j = 15 ∨ j = 16 ∨ j = 20)) → zI Np k j = zI N k j := fun k j h => by
    rw [hNp, rI_pI, if_neg (by omega), rI_pI, if_neg (by omega), rI_pI, if_neg (by omega)]
  have np15 : zI Np 1 15 = iI (D + 1) := by rw [hNp]; rfl
  have np16 : zI Np 1 16 = iI (s + v) := by rw [hNp]; rfl
  have np20 : zI Np 1 20 = iI v := by rw [hNp]; rfl
  obtain ⟨N2, b1, b2, b3, b4, b5⟩ := mov_loop (N := Np) (nA := nA) (W := W) (s := s + v) (zf := fun a => zI N 1 (4 + a)) (d := fun a => (zI N 1 (7 + a)).toInt) (hB.2.2.1.sm npR) hn3 (by rw [np _ _ (by omega)]; exact h22) (by rw [np _ _ (by omega)]; exact h3) hW hW2 (by omega) (by omega) np16 (fun a ha => by
    rw [np _ _ (by omega), np _ _ (by omega), iI_t]
    exact ⟨rfl, rfl, hdb a ha⟩) nA 0 zF Np (by omega) (by unfold zF; omega) rfl (fun _ _ _ => rfl) (fun _ _ _ _ => rfl) (fun c hc => by omega)
  rw [np15, np _ _ (by omega), np _ _ (by omega), np _ _ (by omega), np _ _ (by omega), np _ _ (by omega), ht] at b1
  have hrf : zX12_moves shM 0 N = some (if iI (D + 1) = iI (D + r) then zpI N2 1 1 0 else N2) := by
    unfold zX12_moves
    rw [n0, hlen, rgd (by decide), show (1 : Int32).toNatClampNeg = 1 from rfl, hon, if_neg (show ¬ (1 : Int32) = 0 by decide), hs, rob, rgd (by decide), rgd (by decide), show (16 : Int32).toNatClampNeg = 16 from rfl, h16, iI_add]
    simp only [rbd]
    rw [show zR (zpI N 1 16 (iI (s + v))) 0 0 = 1 from n0, hlen, rgd (by decide), rgd (by decide), show (15 : Int32).toNatClampNeg = 15 from rfl, show zI (zpI N 1 16 (iI (s + v))) 1 15 = zI N 1 15 from rfl, h15, show iI D + (1 : Int32) = iI (D + 1) from iI_add D 1]
    rw [show zR (zpI (zpI N 1 16 (iI (s + v))) 1 15 (iI (D + 1))) 0 0 = 1 from n0, hlen, rgd (by decide), show (20 : Int32).toNatClampNeg = 20 from rfl, ← hNp]
    exact b1
  clear n0 hlen e10 e11 e12
  have q1 : ((0 : Int32) < iI (r - 1)) = (0 < r - 1) := iI_lt (a := 0) (by omega) (by omega) (by omega) (by omega)
  have q2 : (iI (D + 1) = iI (D + r)) = (D + 1 = D + r) := iI_eq (by omega) (by omega) (by omega) (by omega)
  simp only [q1] at hcl
  simp only [q2] at hrf
  have mk : ∀ k j, ¬ (b + 9 ≤ k ∧ j = 0) → ¬ (k = b ∧ (j = 10 ∨ j = 11 ∨ j = 12)) → zI M2 k j = zI M k j := fun k j g1 g2 => by rw [a3 k j g1, mp k j g2]
  have nk : ∀ j, ¬ (j = 15 ∨ j = 16 ∨ j = 20 ∨ (48 ≤ j ∧ j < 66)) → zI N2 1 j = zI N 1 j := fun j g => by rw [b3 1 j (by omega), np 1 j (by omega)]
  have frM : ∀ k j, ¬ (b ≤ k ∧ k < b + 12) → zI M2 k j = zI M k j := fun k j g => by rw [a4 k j g, mp k j (by omega)]
  have frN : ∀ k j, k ≠ 1 → zI N2 k j = zI N k j := fun k j g => by rw [b3 k j (by omega), np k j (by omega)]
  have rest : ∀ M1 N1 : zMem, (∀ k j, ¬ (k = b ∧ 8 ≤ j) → zI M1 k j = zI M2 k j) → (∀ j, j ≠ 1 → zI N1 1 j = zI N2 1 j) → rRest (vSt M1 b) (zI N1 1) nA := fun M1 N1 f1 f2 => by
    obtain ⟨r1, r2, r3, r4, r5, r6, r7⟩ := hx.rest
    have hV : ∀ k j, relS k j = true → ¬ (k = 0 ∧ 8 ≤ j) → ¬ (9 ≤ k ∧ j = 0) → vSt M1 b k j = vSt M b k j := fun k j hr g1 g2 => by
      have hrc := relS_c hr
      rw [vSt_at hr, vSt_at hr, f1 _ _ (by omega), mk _ _ (by omega) (by omega)]
    have hf : ∀ j, 21 ≤ j → j < 48 → zI N1 1 j = zI N 1 j := fun j g1 g2 => by rw [f2 j (by omega), nk j (by omega)]
    refine ⟨?_, ?_, ?_, ?_, fun i hi hi2 => ?_, fun i a hi ha => ?_, fun a ha => ?_⟩
    · rw [hV 0 6 rfl (by omega) (by omega), hf 21 (by omega) (by omega)]; exact r1
    · rw [hV 0 7 rfl (by omega) (by omega), hf 22 (by omega) (by omega)]; exact r2
    · rw [hV 0 4 rfl (by omega) (by omega), hf 23 (by omega) (by omega)]; exact r3
    · rw [hf 23 (by omega) (by omega)]; exact r4
    · rw [hf 23 (by omega) (by omega)] at hi2
      rw [hV 7 i (by unfold relS; simp; omega) (by omega) (by omega), hf _ (by omega) (by omega)]; exact r5 i hi hi2
    · rw [hf 23 (by omega) (by omega)] at hi
      have := r4.2
      rw [hf _ (by omega) (by omega)]; exact r6 i a hi ha
    · obtain ⟨g1, g2, g3, g4, g5⟩ := r7 a ha
      obtain ⟨y1, y2, y3, y4, y5⟩ := k11 a ha
      obtain ⟨y6, y7⟩ := y3
      have hN0 : zI N1 1 (48 + 6 * a) = zI N 1 (4 + a) + iI (fPa (s + v) (zI N 1 (7 + a)).toInt W) := by rw [f2 _ (by omega)]; exact b5 a ha
      have hNj : ∀ j, 1 ≤ j → j < 6 → zI N1 1 (48 + 6 * a + j) = zI N 1 (48 + 6 * a + j) := fun j j1 j2 => by rw [f2 _ (by omega), b4 a j j2 (by omega), np _ _ (by omega)]
      have hP := fPa_b (s := s + v) (d := (zI N 1 (7 + a)).toInt) (W := W) hW (by omega) hsv
      refine ⟨fun j hj => ?_, ?_, ?_, ?_, ?_⟩
      · by_cases j0 : j = 0
        · subst j0
          rw [vSt_ro (by omega) (by omega), f1 _ _ (by omega)]
          exact (a5 a ha).trans hN0.symm
        · rw [hV _ _ (by unfold relS; simp; omega) (by omega) (by omega), hNj j (by omega) hj]; exact g1 j hj
      · rw [hN0, ← iI_t (zI N 1 (4 + a)), iI_add]
        unfold btw fPa
        split
        · rw [iI_i (by omega) (by omega)]; omega
        · rw [iI_i (by omega) (by omega)]; omega
      · rw [hNj 3 (by omega) (by omega)]; exact g3
      · rw [hNj 4 (by omega) (by omega)]; exact g4
      · rw [hNj 5 (by omega) (by omega)]; exact g5
  have s8 : zI M b 8 = zI N 1 1 := by have := hx.2.2.2.2.2.2.2.1; rw [vSt_at rfl] at this; exact this
  by_cases cr : 1 < r
  · rw [if_pos (show 0 < r - 1 by omega)] at hcl
    rw [if_neg (show ¬ (D + 1 = D + r) by omega)] at hrf
    refine ⟨M2, N2, hcl, hrf, (rest M2 N2 (fun _ _ _ => rfl) (fun _ _ => rfl)).x ?_ ?_ (Or.inr ⟨?_, hmv cr _ _ (fun k j hr j1 j2 => ?_) ?_ ?_ ?_ ?_ nk ?_ ?_ ?_⟩), a2.trans mpR, b2.trans npR, frM, mk _ _ (by omega) (by omega), nk 0 (by omega), mk _ _ (by omega) (by omega), frN⟩
    · rw [vSt_at rfl, nk 1 (by omega), ← s8]
      exact mk b 8 (by omega) (by omega)
    · have := hx.2.2.2.2.2.2.2.2.1
      rw [vSt_at rfl] at this ⊢
      rw [mk (b + 0) 9 (by omega) (by omega)]; exact this
    · rw [nk 1 (by omega)]; exact hon
    · rw [vSt_at hr, vSt_at hr, mk _ _ (by omega) (by omega)]
    · rw [vSt_at rfl, vSt_at rfl]; exact mk b 9 (by omega) (by omega)
    · rw [vSt_at rfl]; exact (a3 b 10 (by omega)).trans mp10
    · rw [vSt_at rfl]; exact (a3 b 11 (by omega)).trans mp11
    · rw [vSt_at rfl]; exact (a3 b 12 (by omega)).trans mp12
    · exact (b3 1 15 (by omega)).trans np15
    · exact (b3 1 16 (by omega)).trans np16
    · exact (b3 1 20 (by omega)).trans np20
  · rw [if_neg (show ¬ 0 < r - 1 by omega)] at hcl
    rw [if_pos (show D + 1 = D + r by omega)] at hrf
    have z1 : ∀ k j, ¬ (k = b ∧ (j = 8 ∨ j = 9)) → zI (zpI (zpI M2 b 8 0) b 9 0) k j = zI M2 k j := fun k j g => by rw [rI_pI, if_neg (by omega), rI_pI, if_neg (by omega)]
    have z2 : ∀ k j, ¬ (k = 1 ∧ j = 1) → zI (zpI N2 1 1 0) k j = zI N2 k j := fun k j g => by rw [rI_pI, if_neg (by omega)]
    have z8 : zI (zpI (zpI M2 b 8 0) b 9 0) b 8 = 0 := by rw [rI_pI, if_neg (by omega), rI_pI, if_pos ⟨rfl, rfl⟩]
    have z9 : zI (zpI (zpI M2 b 8 0) b 9 0) b 9 = 0 := by rw [rI_pI, if_pos ⟨rfl, rfl⟩]
    refine ⟨zpI (zpI M2 b 8 0) b 9 0, zpI N2 1 1 0, hcl, hrf, (rest (zpI (zpI M2 b 8 0) b 9 0) (zpI N2 1 1 0) (fun k j g => z1 k j (by omega)) (fun j g => z2 1 j (by omega))).x ?_ ?_ (Or.inl ⟨rfl, ?_⟩), a2.trans mpR, b2.trans npR, fun k j g => by rw [z1 k j (by omega)]; exact frM k j g, ?_, ?_, ?_, fun k j g => by rw [z2 k j (by omega)]; exact frN k j g⟩
    · rw [vSt_at rfl]; exact z8
    · rw [vSt_at rfl]; exact Or.inl z9
    · rw [vSt_at rfl]
      show zI (zpI (zpI M2 b 8 0) b 9 0) b 10 = 0
      rw [z1 b 10 (by omega), a3 b 10 (by omega), mp10, show r - 1 = 0 by omega]; rfl
    · rw [z1 b 5 (by omega)]; exact mk _ _ (by omega) (by omega)
    · rw [z2 1 0 (by omega)]; exact nk 0 (by omega)
    · rw [z1 (b + 6) 0 (by omega)]; exact mk _ _ (by omega) (by omega)
theorem adv_eq {M N : zMem} {bb sb it nA nB b : Nat} (hB : Bx M N bb sb it nA nB) (hb : stB b) (hx : rSx (vSt M b) (zI N 1) nA) (hon : zI N 1 1 = 1) : ∃ M1 N1, zX8_advance shC b M = some M1 ∧ zX12_moves shM 0 N = some N1 ∧ rSx (vSt M1 b) (zI N1 1) nA ∧ M1.2.2 = M.2.2 ∧ N1.2.2 = N.2.2 ∧ (∀ k j, ¬ (b ≤ k ∧ k < b + 12) → zI M1 k j = zI M k j) ∧ zI M1 b 5 = zI M b 5 ∧ zI N1 1 0 = zI N 1 0 ∧ zI M1 (b + 6) 0 = zI M (b + 6) 0 ∧ (∀ k j, k ≠ 1 → zI N1 k j = zI N k j) := by
  have n0 : zR N 0 0 = 1 := hB.2.2.1.o.1
  have hn3 : nA ≤ 3 := hB.2.2.2.1.1
  have h1n : ¬ (zI N 1 1 = 0) := by rw [hon]; decide
  have hx10 := hx.2.2.2.2.2.2.2.2.2
  rcases hx10 with ⟨hz, -⟩ | ⟨-, hm⟩
  · exact absurd hz h1n
  obtain ⟨k1, k2, k3, k4, k5, k6, k7, k8, k9, k10, k11, ⟨k12, k12'⟩, L, k13, k14, k15, k16⟩ := hm
  have h60 := k13.1
  obtain ⟨kw1, kw2⟩ := k2
  obtain ⟨ks1, ks2⟩ := k8
  obtain ⟨W, hWd⟩ : ∃ W : Nat, (W : Int) = (zI N 1 3).toInt := ⟨(zI N 1 3).toInt.toNat, by omega⟩
  obtain ⟨s, hsd⟩ : ∃ s : Int, s = (zI N 1 16).toInt := ⟨_, rfl⟩
  have h3 : zI N 1 3 = nI W := by rw [iI_n, hWd, iI_t]
  have h16 : zI N 1 16 = iI s := by rw [hsd, iI_t]
  have c4 : zI M (b + 2) 4 = nI W := by rw [← h3, ← k1, vSt_at rfl]
  have c11 : zI M b 11 = iI s := by rw [← h16, ← k7, vSt_at rfl]; rfl
  have c9 : zI M b 9 = zI N 1 17 := by rw [← k12, vSt_at rfl]; rfl
  have hz1 : zR M b 1 = b + 2 := by simp only [hB.2.1.s hb]
  have hmb : mvB M (b + 2) := by
    have := hB.2.1.s hb
    exact ⟨by simp only [this], by simp only [this], by simp only [this], by simp only [this]⟩
  have hrp : rpC M (b + 2 + 3) (b + 2 + 4) L := by
    refine ⟨?_, fun i hi => ?_⟩
    · rw [iI_n, ← k15, vSt_at rfl]
    · rw [← k14 i hi, vSt_at (by unfold relS; simp; omega)]
  have kk11 : ∀ a, a < nA → zI M (b + 3) a = zI N 1 (4 + a) ∧ zI M (b + 4) a = zI N 1 (7 + a) ∧ btw (zI N 1 (4 + a)) (-30000) 30000 ∧ -30000 ≤ (zI N 1 (4 + a)).toInt + (zI N 1 (7 + a)).toInt ∧ (zI N 1 (4 + a)).toInt + (zI N 1 (7 + a)).toInt ≤ 30000 := fun a ha => by
    obtain ⟨g1, g2, g3, g4, g5, -⟩ := k11 a ha
    rw [vSt_at (by unfold relS; simp; omega)] at g1 g2
    exact ⟨g1, g2, g3, g4, g5⟩
  have l61 : zlen shC (b + 6) = 61 := (lnS hb).2.2.2.1
  unfold zX8_advance
  rw [hz1]
  rcases k16 with ⟨m17, m12, mr, E, rest, D, m8, m13, m9, m14, m15, mD0, mD, m10, mW, me, mG⟩ | ⟨m17, m18, mr, H, D, m15, m19, mH0, mH1, mHD, mD, m10, mG⟩
  · have hps := psum_b k13 L.length
    have hmv : mvP M (b + 2) L W rest E := ⟨hmb, hrp, c4, by rw [← m8, vSt_at rfl], by rw [← m9, vSt_at rfl], k13, by omega, by omega, me⟩
    have e123 := me
    obtain ⟨e1, e2, e3⟩ := e123
    have c10 : zI M b 10 = iI (2 * L.length + E - D) := by rw [← m10, vSt_at rfl]; rfl
    have hS := fS_b k13 me mD0 mD
    have hG1 := fG_s (L := L) me mD0 mD
    have hgb := fG_b k13 me (D + 1).toNat (by omega)
    rw [show (((D + 1).toNat : Nat) : Int) = D + 1 by omega] at hgb
    obtain ⟨M1, N1, w1, w2⟩ := adv_core (v := fS L E rest D) (r := 2 * L.length + E - D) (D := D) (s := s) hB hb hx hon h3 (by omega) (by omega) h16 (by omega) (by omega) (by omega) (by omega) c4 c11 kk11 (by omega) (by omega) c10 m15 mD0 (by omega) (by rw [if_neg (by rw [m17]; decide), m12, m14, show (2 : Int32) = iI 2 from rfl, iI_mul, iI_add]; congr 1; omega) (speedNow0 k13 n0 m17 m12 mr m13 m14 m15 me (by omega) mD0 mD) (fun hr V' f' v1 v2 v3 v4 v5 g1 g2 g3 g4 => by
      unfold rMv
      rw [g1 3 (by omega), g1 10 (by omega), g1 11 (by omega), g1 12 (by omega), g1 13 (by omega), g1 14 (by omega), g1 17 (by omega), g2, g3, g4, v1 2 4 rfl (by omega) (by omega), v1 2 6 rfl (by omega) (by omega), v1 2 7 rfl (by omega) (by omega), v1 2 8 rfl (by omega) (by omega), v1 2 9 rfl (by omega) (by omega), v1 5 1 rfl (by omega) (by omega), v2, v3, v4, v5]
      refine ⟨k1, ⟨kw1, kw2⟩, k3, k4, k5, k6, rfl, ?_, rfl, ?_, fun a ha => ?_, ⟨k12, k12'⟩, L, k13, fun k hk => ?_, k15, Or.inl ⟨m17, m12, fun k hk => ?_, E, rest, D + 1, m8, m13, m9, m14, rfl, by omega, by omega, by congr 1; omega, mW, me, ?_⟩⟩
      · unfold btw; rw [iI_i (by omega) (by omega)]; omega
      · unfold btw; rw [iI_i (by omega) (by omega)]; omega
      · rw [v1 3 a (by unfold relS; simp; omega) (by omega) (by omega), v1 4 a (by unfold relS; simp; omega) (by omega) (by omega), g1 _ (by omega), g1 _ (by omega)]; exact k11 a ha
      · rw [v1 6 k (by unfold relS; simp; omega) (by omega) (by omega)]; exact k14 k hk
      · rw [g1 _ (by omega)]; exact mr k hk
      · rw [iI_i (by omega) (by omega)]; omega)
    refine ⟨M1, N1, ?_, w2⟩
    rw [c9, m17, if_pos rfl, ticksC hmv, rob, c10, iI_sub, show (1 : Int32) = iI 1 from rfl, iI_add, show 2 * (L.length : Int) + E - (2 * L.length + E - D) + 1 = D + 1 by omega, goneC hmv l61 (by omega) (by omega), rob, c11, iI_sub, show fG L E rest (D + 1) - s = fS L E rest D by omega]
    exact w1
  · have c10 : zI M b 10 = iI (H + L.length - D) := by rw [← m10, vSt_at rfl]; rfl
    have hp1 : psum L (H + L.length - D).toNat = psum L (H + L.length - D - 1).toNat + L.getD (H + L.length - D - 1).toNat 0 := by
      rw [show (H + (L.length : Int) - D).toNat = (H + L.length - D - 1).toNat + 1 by omega]; exact psum_s L _
    have hpb := psum_b k13 (H + L.length - D - 1).toNat
    have hgt : (H + (L.length : Int) - D - 1).toNat < L.length := by omega
    have hS : 1 ≤ L.getD (H + L.length - D - 1).toNat 0 ∧ L.getD (H + L.length - D - 1).toNat 0 ≤ 60 := getD_b k13 hgt
    have hsp := speedC (M := M) (k := b + 2 + 3) (kg := b + 2 + 4) k13 hmb.2.2.2 l61 hrp (i := (H + L.length - D).toNat) (by omega)
    rw [if_neg (by omega), show (H + (L.length : Int) - D).toNat - 1 = (H + L.length - D - 1).toNat by omega, iI_n, show (((H + (L.length : Int) - D).toNat : Nat) : Int) = H + L.length - D by omega] at hsp
    obtain ⟨M1, N1, w1, w2⟩ := adv_core (v := L.getD (H + L.length - D - 1).toNat 0) (r := H + L.length - D) (D := D) (s := s) hB hb hx hon h3 (by omega) (by omega) h16 (by omega) (by omega) (by omega) (by omega) c4 c11 kk11 (by omega) (by omega) c10 m15 (by omega) (by omega) (by rw [if_pos m17, m19, m18, iI_add]; congr 1; omega) (speedNow1 k13 n0 m17 m18 mr m15 m19 mHD mD) (fun hr V' f' v1 v2 v3 v4 v5 g1 g2 g3 g4 => by
      unfold rMv
      rw [g1 3 (by omega), g1 10 (by omega), g1 11 (by omega), g1 17 (by omega), g1 18 (by omega), g1 19 (by omega), g2, g3, g4, v1 2 4 rfl (by omega) (by omega), v1 2 6 rfl (by omega) (by omega), v1 2 7 rfl (by omega) (by omega), v1 5 1 rfl (by omega) (by omega), v2, v3, v4, v5]
      refine ⟨k1, ⟨kw1, kw2⟩, k3, k4, k5, k6, rfl, ?_, rfl, ?_, fun a ha => ?_, ⟨k12, k12'⟩, L, k13, fun k hk => ?_, k15, Or.inr ⟨m17, m18, fun k hk => ?_, H, D + 1, rfl, m19, mH0, mH1, by omega, by omega, by congr 1; omega, ?_⟩⟩
      · unfold btw; rw [iI_i (by omega) (by omega)]; omega
      · unfold btw; rw [iI_i (by omega) (by omega)]; omega
      · rw [v1 3 a (by unfold relS; simp; omega) (by omega) (by omega), v1 4 a (by unfold relS; simp; omega) (by omega) (by omega), g1 _ (by omega), g1 _ (by omega)]; exact k11 a ha
      · rw [v1 6 k (by unfold relS; simp; omega) (by omega) (by omega)]; exact k14 k hk
      · rw [g1 _ (by omega)]; exact mr k hk
      · rw [iI_i (by omega) (by omega), show (H + (L.length : Int) - (D + 1)).toNat = (H + L.length - D - 1).toNat by omega]; omega)
    refine ⟨M1, N1, ?_, w2⟩
    rw [c9, m17, if_neg (show ¬ (1 : Int32) = 0 by decide), hmb.2.2.1, c10, hsp, rob]
    exact w1
