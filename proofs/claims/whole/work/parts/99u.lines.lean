/-! Phase B: axis, motor, band -/
theorem axis26_b {M N : zMem} (h : bad M N) (x : Int32) : zjX12_axisLine_26 shM 0 x N = some N := by
  unfold zjX12_axisLine_26 zX12_mustName zjX12_mustName_27 zjX12_axisLine_50
  rw [good_0 h, rob, if_pos rfl, rob, good_0 h, rob, if_pos rfl, if_neg (bad_n h).2]
theorem axis50_b {M N : zMem} (h : bad M N) (x : Int32) : zjX12_axisLine_50 shM 0 x N = some N := by
  unfold zjX12_axisLine_50
  rw [if_neg (bad_n h).2]
theorem ax_t3 {M N : zMem} (hN : rfN N) (h : bad M N) {n : Nat} (hn : n < 3) (x : Int32) : ∃ N', (zgd (zin (nI (6 * n) + (2 : Int32)) 18) <| zbd (zpI N 5 ((nI (6 * n) + (2 : Int32)).toNatClampNeg) x) fun M_24 =>
  zgd (zin (nI (6 * n) + (3 : Int32)) (zlen shM (zR M_24 0 15))) <|
  zbd (zpI M_24 (zR M_24 0 15) ((nI (6 * n) + (3 : Int32)).toNatClampNeg) (1000 : Int32)) fun M_27 =>
  zgd (zin (nI (6 * n) + (4 : Int32)) (zlen shM (zR M_27 0 15))) <|
  zbd (zpI M_27 (zR M_27 0 15) ((nI (6 * n) + (4 : Int32)).toNatClampNeg) (40 : Int32)) fun M_30 =>
  zgd (zin (nI (6 * n) + (5 : Int32)) (zlen shM (zR M_30 0 15))) <|
  zbd (zpI M_30 (zR M_30 0 15) ((nI (6 * n) + (5 : Int32)).toNatClampNeg) (20 : Int32)) fun M_33 =>
  zgd (zin (nI n) (zlen shM (zR M_33 0 21))) <|
  zbd (zpI M_33 (zR M_33 0 21) n (vp_nar .boolean (0 : Int32))) fun M_36 =>
  zbd (zpI M_36 0 23 ((zI M_36 0 23) + (1 : Int32))) fun M_37 =>
  some M_37) = some N' ∧ bad M N' ∧ frN N N' := by
  have o15 : zR N 0 15 = 5 := by simp only [hN.o]
  have o21 : zR N 0 21 = 11 := by simp only [hN.o]
  have kq : ∀ y, kfN N (zpI (zpI (zpI (zpI (zpI (zpI N 5 (6 * n + 2) x) 5 (6 * n + 3) 1000) 5 (6 * n + 4) 40) 5 (6 * n + 5) 20) 11 n 0) 0 23 y) := fun y => (((((kfN.p (by unfold keepN; omega) (by omega)).tr (kfN.p (by unfold keepN; omega) (by omega))).tr (kfN.p (by unfold keepN; omega) (by omega))).tr (kfN.p (by unfold keepN; omega) (by omega))).tr (kfN.p (by unfold keepN; omega) (by omega))).tr (kfN.p (by unfold keepN; omega) (by omega))
  simp only [rbd, rR_pI, o15, o21, show nI (6 * n) + (2 : Int32) = nI (6 * n + 2) from nI_add _ 2, show nI (6 * n) + (3 : Int32) = nI (6 * n + 3) from nI_add _ 3, show nI (6 * n) + (4 : Int32) = nI (6 * n + 4) from nI_add _ 4, show nI (6 * n) + (5 : Int32) = nI (6 * n + 5) from nI_add _ 5]
  rw [show zlen shM 5 = 18 from rfl, show zlen shM 11 = 3 from rfl, rgd (in_a (a := 6 * n + 2) (by omega) (by omega)), nI_clamp (n := 6 * n + 2) (by omega), rgd (in_a (a := 6 * n + 3) (by omega) (by omega)), nI_clamp (n := 6 * n + 3) (by omega), rgd (in_a (a := 6 * n + 4) (by omega) (by omega)), nI_clamp (n := 6 * n + 4) (by omega), rgd (in_a (a := 6 * n + 5) (by omega) (by omega)), nI_clamp (n := 6 * n + 5) (by omega), rgd (in_a (a := n) (by omega) (by omega)), show vp_nar .boolean (0 : Int32) = 0 from rfl]
  exact ⟨_, rfl, h.k (kq _), (kq _).f⟩
theorem axis_ln {M N : zMem} {bb sb len p s nA nB : Nat} {tx : Nat → Int32} (hs : sb = 1 ∨ sb = 13) (h : rds M N bb sb len tx p s) (hb : RBv (vS sb M) (vN N) (zJ N 3) nA nB) : lineR (zX6_readAxis shC 27 M) (zob (zX12_axisLine shM 0 N) fun N1 => zjX12_line_90 shM 0 N1) M N bb sb len tx p := by
  have e1 : zR M 27 1 = sb := by simp only [h.1.o]
  have h3 := hb.1
  have n6 : zI M sb 6 = nI nA := by have := hb.2.2.1; rw [vS_at (by omega)] at this; exact this
  have n23 : zI N 0 23 = nI nA := by have := hb.2.2.2.1; rw [vN_at (by unfold rlN; omega)] at this; exact this
  unfold zX6_readAxis zX12_axisLine zjX12_axisLine_15
  rw [e1, n6, n23]
  by_cases c : nA < 3
  · rw [if_pos (show nI nA < (3 : Int32) from nI_lt (b := 3) c (by omega)), if_neg (show ¬ nI nA = (3 : Int32) from fun e => by
      have := congrArg Int32.toInt e
      rw [nI_toInt (by omega), show (3 : Int32).toInt = 3 from rfl] at this
      omega), good_1 h.2.2.2.2.1, rob, if_neg n1_0]
    obtain ⟨M1, N1, p1, s1, b1, b2, b3, b4, b5, b6⟩ := step_s h
    have hb1 : RBv (vS sb M1) (vN N1) (zJ N1 3) nA nB := by rw [vS_nm hs b3.n, vN_gn b4, vJ_gn b4]; exact hb
    rw [b1, b2, rob, rob]
    have e1' : zR M1 27 1 = sb := by simp only [b5.1.o]
    have e0' : zR M1 sb 0 = sb + 1 := (b5.1.b hs).1
    have n6' : zI M1 sb 6 = nI nA := by have := hb1.2.2.1; rw [vS_at (by omega)] at this; exact this
    have n23' : zI N1 0 23 = nI nA := by have := hb1.2.2.2.1; rw [vN_at (by unfold rlN; omega)] at this; exact this
    have hnm : ∀ a, a < nA → wRel (zI M1 (sb + 9 + a) 0) (zJ N1 3 a) := fun a ha => by
      have := (hb1.2.2.2.2.2.2.2.1 a ha).2.2.2.2.2.2.2.2
      rw [vS_at (by omega), show sb + (9 + a) = sb + 9 + a by omega] at this
      exact this
    unfold zjX12_axisLine_26
    rcases name_q b5.2.2.2.1 b5.2.2.2.2.1 with ⟨d1, d2, d3, d4⟩ | ⟨d1, d2⟩
    · obtain ⟨r, f1, f2, f3⟩ := name_at b5.1 b5.2.1 hs h3 n6' n23' hnm d4
      rw [d1, d2, rob, rob, if_neg n1_0, good_1 b5.2.2.2.2.1, rob, if_neg n1_0, e1', f1, f2, rob, rob]
      rcases f3 with rfl | ⟨a, ha, rfl⟩
      · rw [if_pos rfl, if_pos rfl, n6', e0', (lnB hs).1, rgd (in_a c (by omega)), nI_clamp (by omega), ax_er b5.1 hs c]
        unfold zX0_clear zjX12_axisLine_50
        have e13 : zR N1 0 13 = 3 := by simp only [b5.2.1.o]
        rw [if_pos (show zI N1 0 8 ≤ 0 by rw [b5.2.2.2.2.1]; decide), e13, show zlen shM 3 = 3 from rfl, rgd (in_a c (by omega)), nI_clamp (by omega)]
        rw [rbd, rbd, rbd, rbd, rbd, rbd, rob]
        have kaC : kfC sb M1 (zpI (zpI (zpI (zpI (zpI M1 (sb + (9 + nA)) 0 (zI M1 27 5)) (sb + (9 + nA)) 4 1000) (sb + (9 + nA)) 5 40) (sb + (9 + nA)) 6 20) (sb + (9 + nA)) 7 0) := ((((kfC.p (by omega)).tr (kfC.p (by omega))).tr (kfC.p (by omega))).tr (kfC.p (by omega))).tr (kfC.p (by omega))
        have kbC : kfN N1 (zpJ N1 3 nA (zJ N1 0 12)) := kfN.pJ
        obtain ⟨M2, N2, p2, s2, i1, i2, i3, i4, i5, i6⟩ := step_s (b5.kf hs kaC kbC)
        have q5 := b5.2.2.2.1.2.2.2.2.2.1
        have q6 := i5.2.2.2.1.2.2.2.2.2.1
        have e15 : zR N2 0 15 = 5 := by simp only [i5.2.1.o]
        rw [i1, i2, rob, rob, e15, show zlen shM 5 = 18 from rfl]
        unfold zjX6_readAxis_102 zjX6_readAxis_131 zjX6_readAxis_160
        rcases behind_ok (lo' := 1) (hi' := 60) i5 kw11 (lo := 1) (hi := 60) rfl rfl (by omega) (by omega) with ⟨M3, N3, p3, s3, v, v1, v2, j1, j2, j3, j4, j5, j6, j7⟩ | ⟨M3, N3, x, j1, j2, j3, j4, j5⟩
        · rw [j1, j2, rob2, j6, i6', rgd (in_a (by omega) (by omega)), nI_clamp (by omega)]
          rw [rbd, rbd]
          have ka3 : kfC sb M3 (zpI M3 (sb + (9 + nA)) 1 (nI v)) := kfC.p (by omega)
          have kb3 : kfN N3 (zpI N3 5 (6 * nA) (nI v)) := kfN.p (by unfold keepN; omega) (by omega)
          have e15' : zR (zpI N3 5 (6 * nA) (nI v)) 0 15 = 5 := by rw [rR_pI]; simp only [j5.2.1.o]
          rw [e15', show zlen shM 5 = 18 from rfl]
          rcases behind_ok (lo' := 1) (hi' := 30) (j5.kf hs ka3 kb3) kw5 (lo := 1) (hi := 30) rfl rfl (by omega) (by omega) with ⟨M4, N4, p4, s4, w, w1, w2, k1, k2, k3, k4, k5, k6, k7⟩ | ⟨M4, N4, x, k1, k2, k3, k4, k5⟩
          · rw [k1, k2, rob2, k6, nI_1, rgd (in_a (by omega) (by omega)), nI_clamp (by omega), rbd, rbd]
            have ka4 : kfC sb M4 (zpI M4 (sb + (9 + nA)) 2 (nI w)) := kfC.p (by omega)
            have kb4 : kfN N4 (zpI N4 5 (6 * nA + 1) (nI w)) := kfN.p (by unfold keepN; omega) (by omega)
            have e15'' : zR (zpI N4 5 (6 * nA + 1) (nI w)) 0 15 = 5 := by rw [rR_pI]; simp only [k5.2.1.o]
            rw [e15'', show zlen shM 5 = 18 from rfl]
            rcases behind_ok (lo' := 1) (hi' := 10) (k5.kf hs ka4 kb4) kw7 (lo := 1) (hi := 10) rfl rfl (by omega) (by omega) with ⟨M5, N5, p5, s5, x, x1, x2, l1, l2, l3, l4, l5, l6, l7⟩ | ⟨M5, N5, x, l1, l2, l3, l4, l5⟩
            · have ka5 : kfC sb M5 (zpI (zpI M5 (sb + (9 + nA)) 3 (nI x)) sb 6 (nI (nA + 1))) := (kfC.p (by omega)).tr (kfC.p (k := 0) (by omega))
              have kb5 : kfN N5 (zpI (zpI (zpI (zpI (zpI (zpI N5 5 (6 * nA + 2) (nI x)) 5 (6 * nA + 3) 1000) 5 (6 * nA + 4) 40) 5 (6 * nA + 5) 20) 11 nA 0) 0 23 (nI (nA + 1))) := (((((kfN.p (by unfold keepN; omega) (by omega)).tr (kfN.p (by unfold keepN; omega) (by omega))).tr (kfN.p (by unfold keepN; omega) (by omega))).tr (kfN.p (by unfold keepN; omega) (by omega))).tr (kfN.p (by unfold keepN; omega) (by omega))).tr (kfN.p (by unfold keepN; omega) (by omega))
              have o15 : zR N5 0 15 = 5 := by simp only [l5.2.1.o]
              have o21 : zR N5 0 21 = 11 := by simp only [l5.2.1.o]
              have o1 : zR M5 27 1 = sb := by simp only [l5.1.o]
              have hbF : RBv (vS sb (zpI (zpI M5 (sb + (9 + nA)) 3 (nI x)) sb 6 (nI (nA + 1)))) (vN (zpI (zpI (zpI (zpI (zpI (zpI N5 5 (6 * nA + 2) (nI x)) 5 (6 * nA + 3) 1000) 5 (6 * nA + 4) 40) 5 (6 * nA + 5) 20) 11 nA 0) 0 23 (nI (nA + 1)))) (zJ (zpI (zpI (zpI (zpI (zpI (zpI N5 5 (6 * nA + 2) (nI x)) 5 (6 * nA + 3) 1000) 5 (6 * nA + 4) 40) 5 (6 * nA + 5) 20) 11 nA 0) 0 23 (nI (nA + 1))) 3) (nA + 1) nB := by
                rw [vS_p0, vS_p (by omega), vS_nm hs l3, vS_p (by omega), vS_nm hs k3, vS_p (by omega), vS_nm hs j3, vS_nm hs i3.n, vS_p (by omega), vS_p (by omega), vS_p (by omega), vS_p (by omega), vS_p (by omega)]
                rw [vN_p (by unfold rlN; omega), vN_p (by unfold rlN; omega), vN_p (by unfold rlN; omega), vN_p (by unfold rlN; omega), vN_p (by unfold rlN; omega), vN_p (by unfold rlN; omega), vN_gn l4, vN_p (by unfold rlN; omega), vN_gn k4, vN_p (by unfold rlN; omega), vN_gn j4, vN_gn i4, vN_pJ]
                rw [vJ_p, vJ_p, vJ_p, vJ_p, vJ_p, vJ_p, vJ_gn l4, vJ_p, vJ_gn k4, vJ_p, vJ_gn j4, vJ_gn i4, vJ_pJ]
                exact hb1.axis c d4 ⟨v1, v2⟩ ⟨w1, w2⟩ ⟨x1, x2⟩
              have s6v : zI (zpI M5 (sb + (9 + nA)) 3 (nI x)) sb 6 = nI nA := by
                have := congrFun (congrFun (vS_nm hs l3) 0) 6
                rw [vS_at (by omega), vS_p (by omega), zu2_n (by omega), vS_nm hs k3, vS_p (by omega), zu2_n (by omega), vS_nm hs j3, vS_nm hs i3.n, vS_p (by omega), zu2_n (by omega), vS_p (by omega), zu2_n (by omega), vS_p (by omega), zu2_n (by omega), vS_p (by omega), zu2_n (by omega), vS_p (by omega), zu2_n (by omega), vS_at (by omega)] at this
                rw [rI_pI, if_neg (by omega)]
                exact this.trans n6'
              have r23v : zI (zpI (zpI (zpI (zpI (zpI N5 5 (6 * nA + 2) (nI x)) 5 (6 * nA + 3) 1000) 5 (6 * nA + 4) 40) 5 (6 * nA + 5) 20) 11 nA 0) 0 23 = nI nA := by
                rw [rI_pI, if_neg (by omega), rI_pI, if_neg (by omega), rI_pI, if_neg (by omega), rI_pI, if_neg (by omega), rI_pI, if_neg (by omega), l4.2.1 0 23 (by omega), rI_pI, if_neg (by omega), k4.2.1 0 23 (by omega), rI_pI, if_neg (by omega), j4.2.1 0 23 (by omega), i4.2.1 0 23 (by omega)]
                exact n23'
              have fin := line_end (M := M) (N := N) (p := p) hs (l5.kf hs ka5 kb5) hbF (((((((b3.n.f.tr kaC.f).tr i3.n.f).tr j3.f).tr ka3.f).tr k3.f).tr ka4.f).tr l3.f |>.tr ka5.f) (((((((b4.f.tr kbC.f).tr i4.f).tr j4.f).tr kb3.f).tr k4.f).tr kb4.f).tr l4.f |>.tr kb5.f) (by omega)
              rw [l1, l2, rob2, l6, rbd, rR_pI, o1, s6v, nI_1, rbd]
              simp only [rbd, rR_pI, o15, o21, show nI (6 * nA) + (2 : Int32) = nI (6 * nA + 2) from nI_add _ 2, show nI (6 * nA) + (3 : Int32) = nI (6 * nA + 3) from nI_add _ 3, show nI (6 * nA) + (4 : Int32) = nI (6 * nA + 4) from nI_add _ 4, show nI (6 * nA) + (5 : Int32) = nI (6 * nA + 5) from nI_add _ 5]
              rw [show zlen shM 5 = 18 from rfl, show zlen shM 11 = 3 from rfl, rgd (in_a (a := 6 * nA + 2) (by omega) (by omega)), nI_clamp (n := 6 * nA + 2) (by omega), rgd (in_a (a := 6 * nA + 3) (by omega) (by omega)), nI_clamp (n := 6 * nA + 3) (by omega), rgd (in_a (a := 6 * nA + 4) (by omega) (by omega)), nI_clamp (n := 6 * nA + 4) (by omega), rgd (in_a (a := 6 * nA + 5) (by omega) (by omega)), nI_clamp (n := 6 * nA + 5) (by omega), rgd (in_a (a := nA) (by omega) (by omega)), show vp_nar .boolean (0 : Int32) = 0 from rfl, r23v, nI_1, rob]
              exact fin
            · have rN5 : rfN N5 := b5.2.1.sm ((((((kbC.f.tr i4.f).tr j4.f).tr kb3.f).tr k4.f).tr kb4.f).tr l5).1
              obtain ⟨N6, t1, t2, t3⟩ := ax_t3 rN5 l3 c x
              rw [l1, l2, rob2, t1, rob]
              exact line_bad t2 (((((((b3.n.f.tr kaC.f).tr i3.n.f).tr j3.f).tr ka3.f).tr k3.f).tr ka4.f).tr l4) ((((((((b4.f.tr kbC.f).tr i4.f).tr j4.f).tr kb3.f).tr k4.f).tr kb4.f).tr l5).tr t3)
          · have rN4 : rfN N4 := b5.2.1.sm ((((kbC.f.tr i4.f).tr j4.f).tr kb3.f).tr k5).1
            have kb4 : kfN N4 (zpI N4 5 (6 * nA + 1) x) := kfN.p (by unfold keepN; omega) (by omega)
            have e15'' : zR (zpI N4 5 (6 * nA + 1) x) 0 15 = 5 := by rw [rR_pI]; simp only [rN4.o]
            obtain ⟨N6, t1, t2, t3⟩ := ax_t3 (rN4.sm kb4.1) (k3.k kb4) c 0
            rw [k1, k2, rob2, nI_1, rgd (in_a (by omega) (by omega)), nI_clamp (by omega), rbd, e15'', show zlen shM 5 = 18 from rfl, behind_b (k3.k kb4), rob2, t1, rob]
            exact line_bad t2 (((((b3.n.f.tr kaC.f).tr i3.n.f).tr j3.f).tr ka3.f).tr k4) (((((((b4.f.tr kbC.f).tr i4.f).tr j4.f).tr kb3.f).tr k5).tr kb4.f).tr t3)
        · have rN3 : rfN N3 := b5.2.1.sm ((kbC.f.tr i4.f).tr j5).1
          have kb3 : kfN N3 (zpI N3 5 (6 * nA) x) := kfN.p (by unfold keepN; omega) (by omega)
          have kb4 : kfN (zpI N3 5 (6 * nA) x) (zpI (zpI N3 5 (6 * nA) x) 5 (6 * nA + 1) 0) := kfN.p (by unfold keepN; omega) (by omega)
          have e15' : zR (zpI N3 5 (6 * nA) x) 0 15 = 5 := by rw [rR_pI]; simp only [rN3.o]
          have e15'' : zR (zpI (zpI N3 5 (6 * nA) x) 5 (6 * nA + 1) 0) 0 15 = 5 := by rw [rR_pI]; exact e15'
          obtain ⟨N6, t1, t2, t3⟩ := ax_t3 (rN3.sm (kb3.tr kb4).1) ((j3.k kb3).k kb4) c 0
          rw [j1, j2, rob2, i6', rgd (in_a (by omega) (by omega)), nI_clamp (by omega), rbd, e15', show zlen shM 5 = 18 from rfl, behind_b (j3.k kb3), rob2, nI_1, rgd (in_a (by omega) (by omega)), nI_clamp (by omega), rbd, e15'', show zlen shM 5 = 18 from rfl, behind_b ((j3.k kb3).k kb4), rob2, t1, rob]
          exact line_bad t2 (((b3.n.f.tr kaC.f).tr i3.n.f).tr j4) ((((((b4.f.tr kbC.f).tr i4.f).tr j5).tr kb3.f).tr kb4.f).tr t3)
      · obtain ⟨M2, N2, i1, i2, i3, i4, i5⟩ := refuse_ok b5 (c := 3) (c' := 3) rfl (by omega) (by omega)
        rw [if_neg (nI_m1 (by omega)), if_neg (nI_m1 (by omega)), i1, i2, rob2, rob, axis50_b i3, rob]
        exact line_bad2 i3 (b3.n.f.tr i4) (b4.f.tr i5)
    · obtain ⟨M2, N2, i1, i2, i3, i4, i5⟩ := refuse_ok b5 (c := 2) (c' := 2) rfl (by omega) (by omega)
      rw [d1, d2, rob, if_pos rfl, i1, i2, rob2, rob, rob, good_0 i3, rob, if_pos rfl, axis50_b i3, rob]
      exact line_bad2 i3 (b3.n.f.tr i4) (b4.f.tr i5)
  · obtain rfl : nA = 3 := by omega
    obtain ⟨M2, N2, i1, i2, i3, i4, i5⟩ := refuse_ok h (c := 5) (c' := 5) rfl (by omega) (by omega)
    rw [if_neg (show ¬ nI 3 < (3 : Int32) by decide), if_pos (show nI 3 = (3 : Int32) from rfl), i1, i2, rob2, rob, good_0 i3, rob, if_pos rfl, axis26_b i3, rob]
    exact line_bad2 i3 i4 i5
