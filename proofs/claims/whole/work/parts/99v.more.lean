/-! Phase B: motor, band, fix -/
theorem motor26_b {M N : zMem} (h : bad M N) (x : Int32) : zjX12_motorLine_26 shM 0 x N = some N := by
  unfold zjX12_motorLine_26
  rw [if_neg (bad_n h).2]
theorem motor_ln {M N : zMem} {bb sb len p s nA nB : Nat} {tx : Nat → Int32} (hs : sb = 1 ∨ sb = 13) (h : rds M N bb sb len tx p s) (hb : RBv (vS sb M) (vN N) (zJ N 3) nA nB) : lineR (zX6_readMotor shC 27 M) (zob (zX12_motorLine shM 0 N) fun N1 => zjX12_line_90 shM 0 N1) M N bb sb len tx p := by
  have h3 := hb.1
  obtain ⟨M1, N1, p1, s1, b1, b2, b3, b4, b5, b6⟩ := step_s h
  have hb1 : RBv (vS sb M1) (vN N1) (zJ N1 3) nA nB := by rw [vS_nm hs b3.n, vN_gn b4, vJ_gn b4]; exact hb
  have q5 := b5.2.2.2.1.2.2.2.2.2.1
  unfold zX6_readMotor zX12_motorLine
  rw [b1, rob]
  rcases here_ok hs b5 hb1 b2 with ⟨a, ha, c1, c2, c3⟩ | ⟨x, M2, N2, c1, c2, c3, c4, c5⟩
  · have ha3 : a < 3 := by omega
    have e1 : zR M1 27 1 = sb := by simp only [b5.1.o]
    have e0 : zR M1 sb 0 = sb + 1 := (b5.1.b hs).1
    have o21 : zR N1 0 21 = 11 := by simp only [b5.2.1.o]
    have e7 : zI M1 (sb + (9 + a)) 7 = zI N1 11 a := by
      have := (hb1.2.2.2.2.2.2.2.1 a ha).2.2.2.2.2.2.2.1
      rw [vS_at (by omega), vN_at (by unfold rlN; omega)] at this
      exact this
    unfold zX6_takeAxis zjX6_takeAxis_67
    rw [c1, rob2, good_1 b5.2.2.2.2.1, rob, if_neg n1_0, c2, rob, if_neg n1_0, e1, c3, rob, if_neg (nI_m1 (by omega)), if_neg n1_0, e0, (lnB hs).1, rgd (in_a ha3 (by omega)), nI_clamp (by omega), ax_er b5.1 hs ha3, e7, o21, show zlen shM 11 = 3 from rfl, rgd (in_a ha3 (by omega))]
    by_cases c : zI N1 11 a = 0
    · unfold zjX12_motorLine_26
      have kb : kfN N1 (zpI N1 11 a 1) := kfN.p (by unfold keepN; omega) (by omega)
      rw [if_pos c, if_pos c, if_pos (show zI N1 0 8 ≤ 0 by rw [b5.2.2.2.2.1]; decide), o21, show zlen shM 11 = 3 from rfl, rgd (in_a ha3 (by omega)), nI_clamp (by omega), rbd, show vp_nar .boolean (1 : Int32) = 1 from rfl]
      obtain ⟨M2, N2, p2, s2, i1, i2, i3, i4, i5, i6⟩ := step_s (b5.kf hs (kfC.rf sb M1) kb)
      have q6 := i5.2.2.2.1.2.2.2.2.2.1
      have e1' : zR M2 27 1 = sb := by simp only [i5.1.o]
      have e0' : zR M2 sb 0 = sb + 1 := (i5.1.b hs).1
      have o15 : zR N2 0 15 = 5 := by simp only [i5.2.1.o]
      have ka2 : kfC sb M2 (zpI M2 (sb + (9 + a)) 7 1) := kfC.p (by omega)
      rw [i1, i2, rob, rob, rob2, if_neg (nI_m1 (by omega)), e1', e0', (lnB hs).1, rgd (in_a ha3 (by omega)), nI_clamp (by omega), ax_er i5.1 hs ha3, rbd, o15, show zlen shM 5 = 18 from rfl, i6', show nI (6 * a) + (3 : Int32) = nI (6 * a + 3) from nI_add _ 3, show nI (6 * a) + (4 : Int32) = nI (6 * a + 4) from nI_add _ 4, show nI (6 * a) + (5 : Int32) = nI (6 * a + 5) from nI_add _ 5]
      unfold zjX6_readMotor_52 zjX6_readMotor_82 zjX6_readMotor_111
      rcases behind_ok (lo' := 1) (hi' := 9999) (i5.kf hs ka2 (kfN.rf N2)) kw6 (lo := 1) (hi := 9999) rfl rfl (by omega) (by omega) with ⟨M3, N3, p3, s3, v, v1, v2, j1, j2, j3, j4, j5, j6, j7⟩ | ⟨M3, N3, x, j1, j2, j3, j4, j5⟩
      · have ka3 : kfC sb M3 (zpI M3 (sb + (9 + a)) 4 (nI v)) := kfC.p (by omega)
        have kb3 : kfN N3 (zpI N3 5 (6 * a + 3) (nI v)) := kfN.p (by unfold keepN; omega) (by omega)
        have o15' : zR (zpI N3 5 (6 * a + 3) (nI v)) 0 15 = 5 := by rw [rR_pI]; simp only [j5.2.1.o]
        rw [j1, j2, rob2, j6, rgd (in_a (by omega) (by omega)), nI_clamp (by omega), rbd, rbd, o15', show zlen shM 5 = 18 from rfl]
        rcases behind_ok (lo' := 1) (hi' := 999) (j5.kf hs ka3 kb3) kw9 (lo := 1) (hi := 999) rfl rfl (by omega) (by omega) with ⟨M4, N4, p4, s4, w, w1, w2, k1, k2, k3, k4, k5, k6, k7⟩ | ⟨M4, N4, x, k1, k2, k3, k4, k5⟩
        · have ka4 : kfC sb M4 (zpI M4 (sb + (9 + a)) 5 (nI w)) := kfC.p (by omega)
          have kb4 : kfN N4 (zpI N4 5 (6 * a + 4) (nI w)) := kfN.p (by unfold keepN; omega) (by omega)
          have o15'' : zR (zpI N4 5 (6 * a + 4) (nI w)) 0 15 = 5 := by rw [rR_pI]; simp only [k5.2.1.o]
          rw [k1, k2, rob2, k6, rgd (in_a (by omega) (by omega)), nI_clamp (by omega), rbd, rbd, o15'', show zlen shM 5 = 18 from rfl]
          rcases behind_ok (lo' := 0) (hi' := 90) (k5.kf hs ka4 kb4) kw3 (lo := 0) (hi := 90) rfl rfl (by omega) (by omega) with ⟨M5, N5, p5, s5, x, x1, x2, l1, l2, l3, l4, l5, l6, l7⟩ | ⟨M5, N5, x, l1, l2, l3, l4, l5⟩
          · have ka5 : kfC sb M5 (zpI M5 (sb + (9 + a)) 6 (nI x)) := kfC.p (by omega)
            have kb5 : kfN N5 (zpI N5 5 (6 * a + 5) (nI x)) := kfN.p (by unfold keepN; omega) (by omega)
            rw [l1, l2, rob2, l6, rgd (in_a (by omega) (by omega)), nI_clamp (by omega), rbd, rbd, rob]
            refine line_end hs (l5.kf hs ka5 kb5) (nA := nA) (nB := nB) ?_ ((((((((b3.n.f.tr i3.n.f).tr ka2.f).tr j3.f).tr ka3.f).tr k3.f).tr ka4.f).tr l3.f).tr ka5.f) ((((((((b4.f.tr kb.f).tr i4.f).tr j4.f).tr kb3.f).tr k4.f).tr kb4.f).tr l4.f).tr kb5.f) (by omega)
            rw [vS_p (by omega), vS_nm hs l3, vS_p (by omega), vS_nm hs k3, vS_p (by omega), vS_nm hs j3, vS_p (by omega), vS_nm hs i3.n]
            rw [vN_p (by unfold rlN; omega), vN_gn l4, vN_p (by unfold rlN; omega), vN_gn k4, vN_p (by unfold rlN; omega), vN_gn j4, vN_gn i4, vN_p (by unfold rlN; omega)]
            rw [vJ_p, vJ_gn l4, vJ_p, vJ_gn k4, vJ_p, vJ_gn j4, vJ_gn i4, vJ_p]
            exact hb1.motor ha ⟨v1, v2⟩ ⟨w1, w2⟩ ⟨x1, x2⟩
          · have kb5 : kfN N5 (zpI N5 5 (6 * a + 5) x) := kfN.p (by unfold keepN; omega) (by omega)
            rw [l1, l2, rob2, rgd (in_a (by omega) (by omega)), nI_clamp (by omega), rbd, rob]
            exact line_bad (l3.k kb5) (((((((b3.n.f.tr i3.n.f).tr ka2.f).tr j3.f).tr ka3.f).tr k3.f).tr ka4.f).tr l4) ((((((((b4.f.tr kb.f).tr i4.f).tr j4.f).tr kb3.f).tr k4.f).tr kb4.f).tr l5).tr kb5.f)
        · have rN4 : rfN N4 := i5.2.1.sm ((j4.f.tr kb3.f).tr k5).1
          have kb4 : kfN N4 (zpI N4 5 (6 * a + 4) x) := kfN.p (by unfold keepN; omega) (by omega)
          have o15'' : zR (zpI N4 5 (6 * a + 4) x) 0 15 = 5 := by rw [rR_pI]; simp only [rN4.o]
          have kb5 : kfN (zpI N4 5 (6 * a + 4) x) (zpI (zpI N4 5 (6 * a + 4) x) 5 (6 * a + 5) 0) := kfN.p (by unfold keepN; omega) (by omega)
          rw [k1, k2, rob2, rgd (in_a (by omega) (by omega)), nI_clamp (by omega), rbd, o15'', show zlen shM 5 = 18 from rfl, behind_b (k3.k kb4), rob2, rgd (in_a (by omega) (by omega)), nI_clamp (by omega), rbd, rob]
          exact line_bad ((k3.k kb4).k kb5) (((((b3.n.f.tr i3.n.f).tr ka2.f).tr j3.f).tr ka3.f).tr k4) (((((((b4.f.tr kb.f).tr i4.f).tr j4.f).tr kb3.f).tr k5).tr kb4.f).tr kb5.f)
      · have rN3 : rfN N3 := i5.2.1.sm j5.1
        have kb3 : kfN N3 (zpI N3 5 (6 * a + 3) x) := kfN.p (by unfold keepN; omega) (by omega)
        have o15' : zR (zpI N3 5 (6 * a + 3) x) 0 15 = 5 := by rw [rR_pI]; simp only [rN3.o]
        have kb4 : kfN (zpI N3 5 (6 * a + 3) x) (zpI (zpI N3 5 (6 * a + 3) x) 5 (6 * a + 4) 0) := kfN.p (by unfold keepN; omega) (by omega)
        have o15'' : zR (zpI (zpI N3 5 (6 * a + 3) x) 5 (6 * a + 4) 0) 0 15 = 5 := by rw [rR_pI]; exact o15'
        have kb5 : kfN (zpI (zpI N3 5 (6 * a + 3) x) 5 (6 * a + 4) 0) (zpI (zpI (zpI N3 5 (6 * a + 3) x) 5 (6 * a + 4) 0) 5 (6 * a + 5) 0) := kfN.p (by unfold keepN; omega) (by omega)
        rw [j1, j2, rob2, rgd (in_a (by omega) (by omega)), nI_clamp (by omega), rbd, o15', show zlen shM 5 = 18 from rfl, behind_b (j3.k kb3), rob2, rgd (in_a (by omega) (by omega)), nI_clamp (by omega), rbd, o15'', show zlen shM 5 = 18 from rfl, behind_b ((j3.k kb3).k kb4), rob2, rgd (in_a (by omega) (by omega)), nI_clamp (by omega), rbd, rob]
        exact line_bad (((j3.k kb3).k kb4).k kb5) (((b3.n.f.tr i3.n.f).tr ka2.f).tr j4) ((((((b4.f.tr kb.f).tr i4.f).tr j5).tr kb3.f).tr kb4.f).tr kb5.f)
    · obtain ⟨M2, N2, i1, i2, i3, i4, i5⟩ := refuse_ok b5 (c := 5) (c' := 5) rfl (by omega) (by omega)
      rw [if_neg c, if_neg c, i1, i2, rob2, rob2, if_pos rfl, rob, motor26_b i3, rob]
      exact line_bad i3 (b3.n.f.tr i4) (b4.f.tr i5)
  · rw [c1, rob2, c5, rob2, if_pos rfl, good_0 c2, rob, if_pos rfl, motor26_b c2, rob]
    exact line_bad c2 (b3.n.f.tr c3) (b4.f.tr c4)
theorem band_ln {M N : zMem} {bb sb len p s nA nB : Nat} {tx : Nat → Int32} (hs : sb = 1 ∨ sb = 13) (h : rds M N bb sb len tx p s) (hb : RBv (vS sb M) (vN N) (zJ N 3) nA nB) : lineR (zX6_readBand shC 27 M) (zob (zX12_bandLine shM 0 N) fun N1 => zjX12_line_90 shM 0 N1) M N bb sb len tx p := by
  have h3 := hb.1
  have h6 := hb.2.1
  have e1 : zR M 27 1 = sb := by simp only [h.1.o]
  have n7 : zI M sb 7 = nI nB := by have := hb.2.2.2.2.1; rw [vS_at (by omega)] at this; exact this
  have n25 : zI N 0 25 = nI nB := by have := hb.2.2.2.2.2.1; rw [vN_at (by unfold rlN; omega)] at this; exact this
  unfold zX6_readBand zX12_bandLine zjX12_bandLine_14 zjX6_readBand_43
  rw [e1, n7, n25]
  by_cases c : nB < 6
  · rw [if_pos (show nI nB < (6 : Int32) from nI_lt (b := 6) c (by omega)), if_neg (show ¬ nI nB = (6 : Int32) from fun e => by
      have := congrArg Int32.toInt e
      rw [nI_toInt (by omega), show (6 : Int32).toInt = 6 from rfl] at this
      omega), if_pos (show zI N 0 8 ≤ 0 by rw [h.2.2.2.2.1]; decide)]
    obtain ⟨M1, N1, p1, s1, b1, b2, b3, b4, b5, b6⟩ := step_s h
    have hb1 : RBv (vS sb M1) (vN N1) (zJ N1 3) nA nB := by rw [vS_nm hs b3.n, vN_gn b4, vJ_gn b4]; exact hb
    have q5 := b5.2.2.2.1.2.2.2.2.2.1
    rw [b1, rob]
    rcases here_ok hs b5 hb1 b2 with ⟨a, ha, c1, c2, c3⟩ | ⟨x, M2, N2, c1, c2, c3, c4, c5⟩
    · have ha3 : a < 3 := by omega
      have e1' : zR M1 27 1 = sb := by simp only [b5.1.o]
      unfold zX6_takeAxis zjX6_takeAxis_67
      obtain ⟨M2, N2, p2, s2, i1, i2, i3, i4, i5, i6⟩ := step_s b5
      have q6 := i5.2.2.2.1.2.2.2.2.2.1
      rw [c1, rob2, if_pos (show zI N1 0 8 ≤ 0 by rw [b5.2.2.2.2.1]; decide), c2, rob, if_neg n1_0, e1', c3, rob, if_neg (nI_m1 (by omega)), if_pos rfl, i1, i2, rob, rob, rob2, if_neg (nI_m1 (by omega))]
      rcases num_tk (lo' := 1) (hi' := 60) i5 (lo := 1) (hi := 60) rfl rfl (by omega) (by omega) with ⟨M3, N3, p3, s3, v, v1, v2, j1, j2, j3, j4, j5, j6, j7⟩ | ⟨M3, N3, x, j1, j2, j3, j4, j5⟩
      · have q7 := j5.2.2.2.1.2.2.2.2.2.1
        rw [j1, j2, rob2, rob2, if_neg n1_0, j6]
        rcases num_tk (lo' := nI v) (hi' := 60) j5 (lo := v) (hi := 60) rfl rfl (by omega) (by omega) with ⟨M4, N4, p4, s4, w, w1, w2, k1, k2, k3, k4, k5, k6, k7⟩ | ⟨M4, N4, x, k1, k2, k3, k4, k5⟩
        · have q8 := k5.2.2.2.1.2.2.2.2.2.1
          have o1 : zR M4 27 1 = sb := by simp only [k5.1.o]
          have oB := k5.1.b hs
          have o17 : zR N4 0 17 = 7 := by simp only [k5.2.1.o]
          have hbv : RBv (vS sb M4) (vN N4) (zJ N4 3) nA nB := by rw [vS_nm hs k3, vS_nm hs j3, vS_nm hs i3.n, vN_gn k4, vN_gn j4, vN_gn i4, vJ_gn k4, vJ_gn j4, vJ_gn i4]; exact hb1
          have m7 : zI M4 sb 7 = nI nB := by have := hbv.2.2.2.2.1; rw [vS_at (by omega)] at this; exact this
          have m25 : zI N4 0 25 = nI nB := by have := hbv.2.2.2.2.2.1; rw [vN_at (by unfold rlN; omega)] at this; exact this
          have ka5 : kfC sb M4 (zpI (zpI (zpI (zpI M4 (sb + 2) nB (nI a)) (sb + 3) nB (nI v)) (sb + 4) nB (nI w)) sb 7 (nI (nB + 1))) := (((kfC.p (by omega)).tr (kfC.p (by omega))).tr (kfC.p (by omega))).tr (kfC.p (k := 0) (by omega))
          have kb5 : kfN N4 (zpI (zpI (zpI (zpI N4 7 (3 * nB) (nI a)) 7 (3 * nB + 1) (nI v)) 7 (3 * nB + 2) (nI w)) 0 25 (nI (nB + 1))) := (((kfN.p (by unfold keepN; omega) (by omega)).tr (kfN.p (by unfold keepN; omega) (by omega))).tr (kfN.p (by unfold keepN; omega) (by omega))).tr (kfN.p (by unfold keepN; omega) (by omega))
          have hbF : RBv (vS sb (zpI (zpI (zpI (zpI M4 (sb + 2) nB (nI a)) (sb + 3) nB (nI v)) (sb + 4) nB (nI w)) sb 7 (nI (nB + 1)))) (vN (zpI (zpI (zpI (zpI N4 7 (3 * nB) (nI a)) 7 (3 * nB + 1) (nI v)) 7 (3 * nB + 2) (nI w)) 0 25 (nI (nB + 1)))) (zJ (zpI (zpI (zpI (zpI N4 7 (3 * nB) (nI a)) 7 (3 * nB + 1) (nI v)) 7 (3 * nB + 2) (nI w)) 0 25 (nI (nB + 1))) 3) nA (nB + 1) := by
            rw [vS_p0, vS_p (by omega), vS_p (by omega), vS_p (by omega), vN_p (by unfold rlN; omega), vN_p (by unfold rlN; omega), vN_p (by unfold rlN; omega), vN_p (by unfold rlN; omega), vJ_p, vJ_p, vJ_p, vJ_p]
            exact hbv.band c ⟨v1, v2⟩
          have fin := line_end (M := M) (N := N) (p := p) hs (k5.kf hs ka5 kb5) hbF ((((b3.n.f.tr i3.n.f).tr j3.f).tr k3.f).tr ka5.f) ((((b4.f.tr i4.f).tr j4.f).tr k4.f).tr kb5.f) (by omega)
          have l7 : zlen shC (sb + 2) = 6 ∧ zlen shC (sb + 3) = 6 ∧ zlen shC (sb + 4) = 6 := ⟨(lnB hs).2.1, (lnB hs).2.2.1, (lnB hs).2.2.2.1⟩
          have y1 : ∀ u : Int32, zI (zpI M4 (sb + 2) nB u) sb 7 = nI nB := fun u => by rw [rI_pI, if_neg (by omega)]; exact m7
          have y2 : ∀ u u' : Int32, zI (zpI (zpI M4 (sb + 2) nB u) (sb + 3) nB u') sb 7 = nI nB := fun u u' => by rw [rI_pI, if_neg (by omega)]; exact y1 u
          have y3 : ∀ u u' u'' : Int32, zI (zpI (zpI (zpI M4 (sb + 2) nB u) (sb + 3) nB u') (sb + 4) nB u'') sb 7 = nI nB := fun u u' u'' => by rw [rI_pI, if_neg (by omega)]; exact y2 u u'
          have y6 : ∀ u u' : Int32, zI (zpI (zpI M4 (sb + 2) nB u) (sb + 3) nB u') 27 6 = nI w := fun u u' => by rw [rI_pI, if_neg (by omega), rI_pI, if_neg (by omega)]; exact k6
          have z1 : ∀ u : Int32, zI (zpI N4 7 (3 * nB) u) 0 25 = nI nB := fun u => by rw [rI_pI, if_neg (by omega)]; exact m25
          have z2 : ∀ u u' : Int32, zI (zpI (zpI N4 7 (3 * nB) u) 7 (3 * nB + 1) u') 0 25 = nI nB := fun u u' => by rw [rI_pI, if_neg (by omega)]; exact z1 u
          have z3 : ∀ u u' u'' : Int32, zI (zpI (zpI (zpI N4 7 (3 * nB) u) 7 (3 * nB + 1) u') 7 (3 * nB + 2) u'') 0 25 = nI nB := fun u u' u'' => by rw [rI_pI, if_neg (by omega)]; exact z2 u u'
          rw [k1, k2, rob2, rob2, if_neg n1_0, if_pos (show zI N4 0 8 ≤ 0 by rw [k5.2.2.2.2.1]; decide)]
          simp only [rbd, rR_pI, o1, oB.2.1, oB.2.2.1, oB.2.2.2.1, o17, l7.1, l7.2.1, l7.2.2, show zlen shM 7 = 18 from rfl, m7, m25, i3', nI_clamp (show nB < 2 ^ 31 by omega), nI_clamp (show 3 * nB < 2 ^ 31 by omega)]
          rw [rgd (in_a (a := nB) c (by omega)), rgd (in_a (a := 3 * nB) (by omega) (by omega))]
          simp only [y1, y2, y3, y6, z1, z2, z3, i3', nI_1, show nI (3 * nB) + (2 : Int32) = nI (3 * nB + 2) from nI_add _ 2, nI_clamp (show nB < 2 ^ 31 by omega), nI_clamp (show 3 * nB + 1 < 2 ^ 31 by omega), nI_clamp (show 3 * nB + 2 < 2 ^ 31 by omega)]
          rw [rgd (in_a (a := nB) c (by omega)), rgd (in_a (a := 3 * nB + 1) (by omega) (by omega))]
          rw [rgd (in_a (a := nB) c (by omega)), rgd (in_a (a := 3 * nB + 2) (by omega) (by omega)), rob]
          exact fin
        · rw [k1, k2, rob2, rob2, if_pos rfl, if_neg (bad_n k3).2, rob]
          exact line_bad k3 (((b3.n.f.tr i3.n.f).tr j3.f).tr k4) (((b4.f.tr i4.f).tr j4.f).tr k5)
      · rw [j1, j2, rob2, rob2, if_pos rfl, number_b j3, rob2, if_neg (bad_n j3).2, rob]
        exact line_bad j3 ((b3.n.f.tr i3.n.f).tr j4) ((b4.f.tr i4.f).tr j5)
    · rw [c1, rob2, c5, rob2, if_pos rfl, if_neg (bad_n c2).2, rob]
      exact line_bad c2 (b3.n.f.tr c3) (b4.f.tr c4)
  · obtain rfl : nB = 6 := by omega
    obtain ⟨M2, N2, i1, i2, i3, i4, i5⟩ := refuse_ok h (c := 5) (c' := 5) rfl (by omega) (by omega)
    rw [if_neg (show ¬ nI 6 < (6 : Int32) by decide), if_pos (show nI 6 = (6 : Int32) from rfl), i1, i2, rob2, rob, if_neg (bad_n i3).2, rob]
    exact line_bad2 i3 i4 i5
