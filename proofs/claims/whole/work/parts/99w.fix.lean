/-! Phase B: fix -/
theorem rds.p6 {M N : zMem} {bb sb len p s : Nat} {tx : Nat → Int32} (h : rds M N bb sb len tx p s) (v : Int32) : rds (zpI M 27 6 v) N bb sb len tx p s := by
  obtain ⟨g1, g2, g3, g4, g5, g6⟩ := h
  have sM : nmC M (zpI M 27 6 v) := ⟨rfl, fun k j a => by rw [rI_pI, if_neg (by omega)]⟩
  refine ⟨g1, g2, g3.sm (sM.2 25 1 (by omega)) (fun i => sM.2 26 i (by omega)) rfl (fun _ => rfl), ?_, g5, (sM.2 27 7 (by omega)).trans g6.1, (sM.2 27 8 (by omega)).trans g6.2.1, g6.2.2⟩
  unfold rdk
  rw [rI_pI, if_neg (by omega), rI_pI, if_neg (by omega), rI_pI, if_neg (by omega), rI_pI, if_neg (by omega)]
  exact g4
theorem nmC.p6 {M : zMem} {v : Int32} : nmC M (zpI M 27 6 v) := ⟨rfl, fun k j a => by rw [rI_pI, if_neg (by omega)]⟩
/-- a number that stays the token -/
theorem nh_ok {M N : zMem} {bb sb len p s hi : Nat} {tx : Nat → Int32} {lr sg : Int} {hi' lr' sg' : Int32} (h : rds M N bb sb len tx p s) (eh : hi' = nI hi) (el : lr' = iI lr) (es : sg' = iI sg) (hhi : hi ≤ 1000) (hlr : -1000 ≤ lr ∧ lr ≤ 1000) (hsg : sg = 1 ∨ sg = -1) (hl : ∀ v : Nat, v ≤ 99999 → ((lr ≤ sg * v ∧ sg * v ≤ hi) ↔ v ≤ hi)) : (∃ v : Nat, v ≤ hi ∧ zI N 0 6 = 2 ∧ zI M 27 5 = nI v ∧ zX6_takeNumber shC 27 0 hi' M = (zob (zX6_step shC 27 (zpI M 27 6 (nI v))) fun M_7 => some ((1 : Int32), M_7)) ∧ zX12_numberHere shM 0 lr' hi' sg' N = some (iI (sg * v), N)) ∨ (∃ M1 N1 x, zX6_takeNumber shC 27 0 hi' M = some (0, M1) ∧ zX12_numberHere shM 0 lr' hi' sg' N = some (x, N1) ∧ bad M1 N1 ∧ frC sb M M1 ∧ frN N N1 ∧ (zI N 0 6 = 2 → ∃ v : Nat, hi < v ∧ v ≤ 99999 ∧ zI M 27 5 = nI v)) := by
  subst eh el es
  have h' := h
  obtain ⟨g1, g2, g3, g4, g5, g6⟩ := h'
  obtain ⟨k1, k2, k3, k4, k5, k6, k7, k8⟩ := g4
  unfold zX6_takeNumber zX12_numberHere zjX12_numberHere_47
  rw [k7, g5, if_pos (show (0 : Int32) ≤ 0 by decide)]
  by_cases c : zI N 0 6 = 2
  · have hv : ∃ v : Nat, v ≤ 99999 ∧ zI M 27 5 = nI v ∧ zI N 0 7 = nI v := by
      rcases k8 with q | ⟨_, ⟨q, _⟩ | ⟨_, q⟩ | q | q | q⟩
      · rw [c] at q; exact absurd q (by decide)
      · rw [c] at q; exact absurd q (by decide)
      · exact q
      · rw [c] at q; exact absurd q (by decide)
      · rw [c] at q; exact absurd q (by decide)
      · rw [c] at q; exact absurd q (by decide)
    obtain ⟨v, v1, v2, v3⟩ := hv
    have hlv := hl v v1
    have hb : -99999 ≤ sg * v ∧ sg * v ≤ 99999 := by
      rcases hsg with rfl | rfl
      · rw [Int.one_mul]; omega
      · rw [Int.neg_mul, Int.one_mul]; omega
    have e1 : iI sg * nI v = iI (sg * v) := by rw [iI_n, iI_mul]
    rw [if_pos c, if_pos c, within_eq, rob, v2, v3, e1, isIn_eq, rob, Int32.toInt_toInt64, Int32.toInt_toInt64, Int32.toInt_toInt64, iI_i (by omega) (by omega), iI_i (by omega) (by omega), nI_toInt (by omega)]
    by_cases d : v ≤ hi
    · rw [bI_t (show (0 : Int32) ≤ nI v ∧ nI v ≤ nI hi from ⟨nI_le (a := 0) (by omega) (by omega), nI_le d (by omega)⟩), bI_t (hlv.mpr d), if_neg n1_0, if_neg n1_0, rbd]
      exact Or.inl ⟨v, d, c, rfl, rfl, rfl⟩
    · have d' : ¬ ((0 : Int32) ≤ nI v ∧ nI v ≤ nI hi) := fun q => absurd q.2 (nI_ge (by omega) (by omega))
      obtain ⟨M1, N1, b1, b2, b3, b4, b5⟩ := refuse_ok h (c := 4) (c' := 4) rfl (by omega) (by omega)
      rw [bI_f d', bI_f (fun q => d (hlv.mp q)), if_pos rfl, if_pos rfl, b1, b2, rob2, rob, rgd isB0]
      exact Or.inr ⟨M1, N1, _, rfl, rfl, b3, b4, b5, fun _ => ⟨v, by omega, v1, rfl⟩⟩
  · obtain ⟨M1, N1, b1, b2, b3, b4, b5⟩ := refuse_ok h (c := 2) (c' := 2) rfl (by omega) (by omega)
    rw [if_neg c, if_neg c, b1, b2, rob2, rob, rgd isB0]
    exact Or.inr ⟨M1, N1, _, rfl, rfl, b3, b4, b5, fun q => absurd q c⟩
theorem fix34_b {M N : zMem} (h : bad M N) (x : Int32) : zjX12_fixLine_34 shM 0 x N = some N := by
  unfold zjX12_fixLine_34
  rw [if_neg (bad_n h).2]
theorem fix_tail {M N M3 N3 : zMem} {bb sb len p p3 s3 nA nB q : Nat} {tx : Nat → Int32} {S R : Nat → Nat → Int32} {J : Nat → Int64} {sg : Int} {x2 sg' : Int32} (hs : sb = 1 ∨ sb = 13) (h : rds M3 N3 bb sb len tx p3 s3) (hS : vS sb M3 = S) (hR : vN N3 = zu2 R 10 q 1) (hJ : zJ N3 3 = J) (hb : RBv S R J nA nB) (hq : q ≤ 64) (a : frC sb M M3) (b : frN N N3) (hp : p ≤ p3) (hsg : (sg = 1 ∧ x2 = 0) ∨ (sg = -1 ∧ x2 = 1)) (es : sg' = iI sg) : lineR (zjX6_readFix_81 shC 27 (nI q) x2 M3) (zob (zjX12_fixLine_69 shM 0 (nI q) sg' N3) fun N1 => zjX12_line_90 shM 0 N1) M N bb sb len tx p := by
  have o19 : zR N3 0 19 = 9 := by simp only [h.2.1.o]
  unfold zjX6_readFix_81 zjX12_fixLine_69 zjX12_fixLine_97
  rcases nh_ok (hi := 200) (hi' := 200) (lr := -200) (lr' := -200) (sg := sg) (sg' := sg') h rfl rfl es (by omega) (by omega) (by omega) (fun v hv => by
    rcases hsg with ⟨rfl, _⟩ | ⟨rfl, _⟩
    · rw [Int.one_mul]; omega
    · rw [Int.neg_mul, Int.one_mul]; omega) with ⟨v, v1, v2, v3, v4, v5⟩ | ⟨M4, N4, x, c1, c2, c3, c4, c5, _⟩
  · have kb : kfN N3 (zpI N3 9 q (iI (sg * v))) := kfN.p (by unfold keepN; omega) (by omega)
    obtain ⟨M4, N4, p4, s4, i1, i2, i3, i4, i5, i6⟩ := step_s ((h.p6 (nI v)).kf hs (kfC.rf sb _) kb)
    have q6 := i5.2.2.2.1.2.2.2.2.2.1
    have o1 : zR M4 27 1 = sb := by simp only [i5.1.o]
    have oB := i5.1.b hs
    have g5 : zI (zpI N3 9 q (iI (sg * v))) 0 8 = 0 := by rw [rI_pI, if_neg (by omega)]; exact h.2.2.2.2.1
    have n6 : zI M4 27 6 = nI v := (i3.2 27 6 (by omega)).trans (by rw [rI_pI, if_pos ⟨rfl, rfl⟩])
    have sM : vS sb M4 = S := by rw [vS_nm hs i3.n, vS_nm hs nmC.p6]; exact hS
    have rM : vN N4 = zu2 (zu2 R 10 q 1) 9 q (iI (sg * v)) := by rw [vN_gn i4, vN_p (by unfold rlN; omega), hR]
    have jM : zJ N4 3 = J := by rw [vJ_gn i4, vJ_p]; exact hJ
    have s6 : zI M4 (sb + 6) q = S 6 q := by rw [← sM, vS_at (by omega)]
    have s8 : ∀ u u' : Int32, zI (zpI (zpI M4 (sb + 7) q u) (sb + 8) q u') sb 8 = S 0 8 := fun u u' => by
      rw [rI_pI, if_neg (by omega), rI_pI, if_neg (by omega), ← sM, vS_at (by omega)]
      rfl
    have r27 : zI N4 0 27 = R 0 27 := by
      rw [← vN_at (N := N4) (by unfold rlN; omega), rM, zu2_n (by omega), zu2_n (by omega)]
    have bx : btw (iI (sg * v)) (-200) 200 := by
      have : -200 ≤ sg * v ∧ sg * v ≤ 200 := by
        rcases hsg with ⟨rfl, _⟩ | ⟨rfl, _⟩
        · rw [Int.one_mul]; omega
        · rw [Int.neg_mul, Int.one_mul]; omega
      unfold btw
      rw [iI_i (by omega) (by omega)]
      exact this
    have ka5 : kfC sb M4 (zpI (zpI (zpI M4 (sb + 7) q (S 6 q + iI (sg * v))) (sb + 8) q 1) sb 8 (S 0 8 + 1)) := ((kfC.p (by omega)).tr (kfC.p (by omega))).tr (kfC.p (k := 0) (by omega))
    have kb5 : kfN N4 (zpI N4 0 27 (R 0 27 + 1)) := kfN.p (by unfold keepN; omega) (by omega)
    have hbF : RBv (vS sb (zpI (zpI (zpI M4 (sb + 7) q (S 6 q + iI (sg * v))) (sb + 8) q 1) sb 8 (S 0 8 + 1))) (vN (zpI N4 0 27 (R 0 27 + 1))) (zJ (zpI N4 0 27 (R 0 27 + 1)) 3) nA nB := by
      rw [vS_p0, vS_p (by omega), vS_p (by omega), sM, vN_p (by unfold rlN; omega), rM, vJ_p, jM]
      exact hb.fix hq bx
    have fin := line_end (M := M) (N := N) (p := p) hs (i5.kf hs ka5 kb5) hbF (((a.tr nmC.p6.f).tr i3.n.f).tr ka5.f) (((b.tr kb.f).tr i4.f).tr kb5.f) (by omega)
    have fc : (zjX6_readFix_133 shC 27 (nI q) (sb + 7) (nI q) (S 6 q) (iI (sg * v)) M4) = (zob2 (zX6_takeStop shC 27 (zpI (zpI (zpI M4 (sb + 7) q (S 6 q + iI (sg * v))) (sb + 8) q 1) sb 8 (S 0 8 + 1))) fun r M3 => zgd (zisB r) <| some (r, M3)) := by
      unfold zjX6_readFix_133
      simp only [rbd, rR_pI, o1, oB.2.2.2.2.2.1, (lnB hs).2.2.2.2.2.1, (lnB hs).2.2.2.2.2.2, nI_clamp (show q < 2 ^ 31 by omega), show vp_nar .boolean (1 : Int32) = 1 from rfl, s8]
      rw [rgd (in_a (by omega) (by omega)), rgd (in_a (by omega) (by omega))]
    rw [v4, i1, rob, rob2, if_neg n1_0, o1, oB.2.2.2.2.1, oB.2.2.2.2.2.2.2.2.2.1, oB.2.2.2.2.2.2.2.2.2.2, (lnB hs).2.2.2.2.1, rgd (in_a (by omega) (by omega)), nI_clamp (by omega), s6, n6, v5, rob2, o19, show zlen shM 9 = 65 from rfl, rgd (in_a (by omega) (by omega)), rbd, good_1 g5, rob, if_neg n1_0, i2, rob, rbd, r27, rob]
    rcases hsg with ⟨rfl, rfl⟩ | ⟨rfl, rfl⟩
    · rw [if_pos rfl, show nI v = iI (1 * (v : Int)) by rw [Int.one_mul, iI_n], fc]
      exact fin
    · rw [if_neg n1_0, show -nI v = iI (-1 * (v : Int)) by rw [Int.neg_mul, Int.one_mul, iI_n, iI_neg], fc]
      exact fin
  · have kb : kfN N4 (zpI N4 9 q x) := kfN.p (by unfold keepN; omega) (by omega)
    have kb5 : ∀ y, kfN (zpI N4 9 q x) (zpI (zpI N4 9 q x) 0 27 y) := fun y => kfN.p (by unfold keepN; omega) (by omega)
    rw [c1, rob2, if_pos rfl, c2, rob2, o19, show zlen shM 9 = 65 from rfl, rgd (in_a (by omega) (by omega)), nI_clamp (by omega), rbd, good_0 (c3.k kb), rob, if_pos rfl, rbd, rob]
    exact line_bad ((c3.k kb).k (kb5 _)) (a.tr c4) (((b.tr c5).tr kb.f).tr (kb5 _).f)
theorem fix_ln {M N : zMem} {bb sb len p s nA nB : Nat} {tx : Nat → Int32} (hs : sb = 1 ∨ sb = 13) (h : rds M N bb sb len tx p s) (hb : RBv (vS sb M) (vN N) (zJ N 3) nA nB) : lineR (zX6_readFix shC 27 M) (zob (zX12_fixLine shM 0 N) fun N1 => zjX12_line_90 shM 0 N1) M N bb sb len tx p := by
  obtain ⟨M1, N1, p1, s1, b1, b2, b3, b4, b5, b6⟩ := step_s h
  have hb1 : RBv (vS sb M1) (vN N1) (zJ N1 3) nA nB := by rw [vS_nm hs b3.n, vN_gn b4, vJ_gn b4]; exact hb
  have q5 := b5.2.2.2.1.2.2.2.2.2.1
  have k7 := b5.2.2.2.1.2.2.2.2.2.2.1
  unfold zX6_readFix zX12_fixLine zjX6_readFix_42
  rw [b1, b2, rob, rob, k7]
  rcases nh_ok (hi := 64) (hi' := 64) (lr := 0) (lr' := 0) (sg := 1) (sg' := 1) b5 rfl rfl rfl (by omega) (by omega) (by omega) (fun v hv => by rw [Int.one_mul]; omega) with ⟨v, v1, v2, v3, v4, v5⟩ | ⟨M2, N2, x, c1, c2, c3, c4, c5, c6⟩
  · have o1 : zR M1 27 1 = sb := by simp only [b5.1.o]
    have oB := b5.1.b hs
    have o20 : zR N1 0 20 = 10 := by simp only [b5.2.1.o]
    have e8 : zI M1 (sb + 8) v = zI N1 10 v := by
      have := (hb1.2.2.2.2.2.2.2.2.2 v v1).2.2.2
      rw [vS_at (by omega), vN_at (by unfold rlN; omega)] at this
      exact this
    rw [if_pos v2, v3, if_neg (show ¬ (64 : Int32) < nI v from nI_nlt (a := 64) v1 (by omega)), o1, oB.2.2.2.2.2.1, (lnB hs).2.2.2.2.2.2, rgd (in_a (by omega) (by omega)), nI_clamp (by omega), e8, v5, rob2, show iI (1 * (v : Int)) = nI v by rw [Int.one_mul, iI_n], good_1 b5.2.2.2.2.1, rob, if_neg n1_0, o20, show zlen shM 10 = 65 from rfl, rgd (in_a (by omega) (by omega)), nI_clamp (by omega)]
    by_cases c : zI N1 10 v = 0
    · unfold zjX12_fixLine_34
      have kb : kfN N1 (zpI N1 10 v 1) := kfN.p (by unfold keepN; omega) (by omega)
      obtain ⟨M2, N2, p2, s2, i1, i2, i3, i4, i5, i6⟩ := step_s ((b5.p6 (nI v)).kf hs (kfC.rf sb _) kb)
      have q6 := i5.2.2.2.1.2.2.2.2.2.1
      have k7' := i5.2.2.2.1.2.2.2.2.2.2.1
      have n6 : zI M2 27 6 = nI v := (i3.2 27 6 (by omega)).trans (by rw [rI_pI, if_pos ⟨rfl, rfl⟩])
      have sM : vS sb M2 = vS sb M1 := by rw [vS_nm hs i3.n, vS_nm hs nmC.p6]
      have rM : vN N2 = zu2 (vN N1) 10 v 1 := by rw [vN_gn i4, vN_p (by unfold rlN; omega)]
      have jM : zJ N2 3 = zJ N1 3 := by rw [vJ_gn i4, vJ_p]
      rw [if_pos c, if_pos c, v4, i1, rob, rob2, if_neg n1_0, k7', n6, if_pos (show zI N1 0 8 ≤ 0 by rw [b5.2.2.2.2.1]; decide), o20, show zlen shM 10 = 65 from rfl, rgd (in_a (by omega) (by omega)), nI_clamp (by omega), rbd, show vp_nar .boolean (1 : Int32) = 1 from rfl, i2, rob]
      unfold zjX6_readFix_72
      by_cases d : zI N2 0 6 = 3
      · obtain ⟨M3, N3, p3, s3, j1, j2, j3, j4, j5, j6⟩ := step_s i5
        have q7 := j5.2.2.2.1.2.2.2.2.2.1
        rw [if_pos d, if_pos d, if_neg n1_0, j1, j2, rob, rob]
        exact fix_tail (sg := -1) hs j5 (by rw [vS_nm hs j3.n, sM]) (by rw [vN_gn j4, rM]) (by rw [vJ_gn j4, jM]) hb1 v1 (((b3.n.f.tr nmC.p6.f).tr i3.n.f).tr j3.n.f) (((b4.f.tr kb.f).tr i4.f).tr j4.f) (by omega) (Or.inr ⟨rfl, rfl⟩) rfl
      · rw [if_neg d, if_neg d, if_pos rfl]
        exact fix_tail (sg := 1) hs i5 sM rM jM hb1 v1 ((b3.n.f.tr nmC.p6.f).tr i3.n.f) ((b4.f.tr kb.f).tr i4.f) (by omega) (Or.inl ⟨rfl, rfl⟩) rfl
    · obtain ⟨M2, N2, i1, i2, i3, i4, i5⟩ := refuse_ok b5 (c := 5) (c' := 5) rfl (by omega) (by omega)
      rw [if_neg c, if_neg c, i1, i2, rob2, rob, fix34_b i3, rob]
      exact line_bad2 i3 (b3.n.f.tr i4) (b4.f.tr i5)
  · have e : ∀ X : Option (Int32 × zMem), (if zI N1 0 6 = 2 then if (64 : Int32) < zI M1 27 5 then (zob2 (zX6_takeNumber shC 27 0 64 M1) fun r_29 M_30 => if r_29 = 0 then some (0, M_30) else if zI M_30 27 3 = 3 then zjX6_readFix_72 shC 27 (zI M_30 27 6) 1 M_30 else zjX6_readFix_72 shC 27 (zI M_30 27 6) 0 M_30) else X else (zob2 (zX6_takeNumber shC 27 0 64 M1) fun r_29 M_30 => if r_29 = 0 then some (0, M_30) else if zI M_30 27 3 = 3 then zjX6_readFix_72 shC 27 (zI M_30 27 6) 1 M_30 else zjX6_readFix_72 shC 27 (zI M_30 27 6) 0 M_30)) = some ((0 : Int32), M2) := fun X => by
      rw [c1, rob2, if_pos rfl]
      by_cases d : zI N1 0 6 = 2
      · obtain ⟨v, w1, w2, w3⟩ := c6 d
        rw [if_pos d, w3, if_pos (show (64 : Int32) < nI v from nI_lt (a := 64) w1 (by omega))]
      · rw [if_neg d]
    rw [e, c2, rob2, good_0 c3, rob, if_pos rfl, fix34_b c3, rob]
    exact line_bad c3 (b3.n.f.tr c4) (b4.f.tr c5)
