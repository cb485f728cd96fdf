/-! Phase B: all lines of a text -/
theorem lineR.gd {C : Option (Int32 × zMem)} {Q : Option zMem} {M N : zMem} {bb sb len p : Nat} {tx : Nat → Int32} (h : lineR C Q M N bb sb len tx p) : lineR (zob2 C fun r M1 => zgd (zisB r) <| some (r, M1)) Q M N bb sb len tx p := by
  obtain ⟨r, M1, N1, h1, h2, h3, h4, h5⟩ := h
  refine ⟨r, M1, N1, ?_, h2, h3, h4, h5⟩
  rcases h5 with ⟨rfl, _⟩ | ⟨rfl, _⟩
  · rw [h1, rob2, rgd isB1]
  · rw [h1, rob2, rgd isB0]
theorem line_all {M N : zMem} {bb sb len p s nA nB : Nat} {tx : Nat → Int32} (hs : sb = 1 ∨ sb = 13) (h : rds M N bb sb len tx p s) (hb : RBv (vS sb M) (vN N) (zJ N 3) nA nB) : lineR (zX6_readLine shC 27 M) (zX12_line shM 0 N) M N bb sb len tx p := by
  have w : ∀ (k : Nat) (W : Int64), kwd k W → zX6_isWord shC 27 k M = some (bI (zI N 0 6 = 1 ∧ zJ N 0 12 = W)) ∧ zX12_isWord shM 0 W N = some (bI (zI N 0 6 = 1 ∧ zJ N 0 12 = W)) := fun k W hk => isWord_ok h.2.2.2.1 h.2.2.2.2.1 hk
  unfold zX6_readLine zX12_line
  rw [(w 0 _ kw0).1, (w 0 _ kw0).2, rob, rob]
  by_cases c0 : zI N 0 6 = 1 ∧ zJ N 0 12 = 1635281267
  · rw [bI_t c0, if_neg n1_0, if_neg n1_0]
    exact (axis_ln hs h hb).gd
  · rw [bI_f c0, if_pos rfl, if_pos rfl, (w 10 _ kw10).1, (w 10 _ kw10).2, rob, rob]
    by_cases c1 : zI N 0 6 = 1 ∧ zJ N 0 12 = 470021336946
    · rw [bI_t c1, if_neg n1_0, if_neg n1_0]
      exact (motor_ln hs h hb).gd
    · rw [bI_f c1, if_pos rfl, if_pos rfl, (w 1 _ kw1).1, (w 1 _ kw1).2, rob, rob]
      by_cases c2 : zI N 0 6 = 1 ∧ zJ N 0 12 = 1650552420
      · rw [bI_t c2, if_neg n1_0, if_neg n1_0]
        exact (band_ln hs h hb).gd
      · rw [bI_f c2, if_pos rfl, if_pos rfl, (w 4 _ kw4).1, (w 4 _ kw4).2, rob, rob]
        by_cases c3 : zI N 0 6 = 1 ∧ zJ N 0 12 = 6711672
        · rw [bI_t c3, if_neg n1_0, if_neg n1_0]
          exact (fix_ln hs h hb).gd
        · rw [bI_f c3, if_pos rfl, if_pos rfl, (w 2 _ kw2).1, (w 2 _ kw2).2, rob, rob]
          by_cases c4 : zI N 0 6 = 1 ∧ zJ N 0 12 = 1668245868
          · rw [bI_t c4, if_neg n1_0, if_neg n1_0]
            exact (coil_ln hs h hb).gd
          · obtain ⟨M2, N2, i1, i2, i3, i4, i5⟩ := refuse_ok h (c := 2) (c' := 2) rfl (by omega) (by omega)
            rw [bI_f c4, if_pos rfl, if_pos rfl, i1, i2, rob2, rob]
            exact line_bad2 i3 i4 i5
theorem more_ok {M N : zMem} {len p s : Nat} (h : rdk M N len p s) : zX6_hasMore shC 27 M = some (if zI N 0 6 = 0 then 0 else 1) := by
  have k7 := h.2.2.2.2.2.2.1
  unfold zX6_hasMore zjX6_hasMore_12
  rw [k7, rgd isB0, rgd isB1]
  by_cases c : zI N 0 6 = 0
  · rw [if_pos c, if_pos c]
  · rw [if_neg c, if_neg c]
theorem rd_loop {bb sb len : Nat} {tx : Nat → Int32} (hs : sb = 1 ∨ sb = 13) : ∀ (n i F F' p s nA nB : Nat) (M N : zMem), i + n = 901 → n < F → n < F' → i ≤ s → rds M N bb sb len tx p s → RBv (vS sb M) (vN N) (zJ N 3) nA nB → ∃ r M1 N1, zlX11_bench_15 shC 0 F 1 (nI i) M = zjX11_bench_50 shC 0 r M1 ∧ zlX12_bench_92 shM 0 F' N = zjX12_bench_113 shM 0 N1 ∧ frC sb M M1 ∧ frN N N1 ∧ ((r = 1 ∧ ∃ p1 s1 nA nB, rds M1 N1 bb sb len tx p1 s1 ∧ RBv (vS sb M1) (vN N1) (zJ N1 3) nA nB) ∨ (r = 0 ∧ bad M1 N1)) := by
  intro n
  induction n with
  | zero =>
    intro i F F' p s nA nB M N h1 hF hF' his h hb
    have q1 := h.2.2.1.1
    have q2 := h.2.2.2.1.2.2.1
    have q3 := h.2.2.2.1.2.2.2.2.2.1
    omega
  | succ n ih =>
    intro i F F' p s nA nB M N h1 hF hF' his h hb
    obtain ⟨F, rfl⟩ : ∃ x, F = x + 1 := ⟨F - 1, by omega⟩
    obtain ⟨F', rfl⟩ : ∃ x, F' = x + 1 := ⟨F' - 1, by omega⟩
    have q1 := h.2.2.1.1
    have q2 := h.2.2.2.1.2.2.1
    have q3 := h.2.2.2.1.2.2.2.2.2.1
    have q4 := h.2.2.2.1.2.2.2.2.2.2.2
    have e1 : zR M 0 1 = 27 := by simp only [h.1.o]
    rw [show zlX11_bench_15 shC 0 (F + 1) 1 (nI i) M = zbX11_bench_15 shC 0 (zlX11_bench_15 shC 0 F) 1 (nI i) M from rfl, show zlX12_bench_92 shM 0 (F' + 1) N = zbX12_bench_92 shM 0 (zlX12_bench_92 shM 0 F') N from rfl]
    unfold zbX11_bench_15 zbX12_bench_92
    rw [good_1 h.2.2.2.2.1, rob, if_neg n1_0, if_neg n1_0, e1, more_ok h.2.2.2.1, rob]
    by_cases c : zI N 0 6 = 0
    · refine ⟨1, M, N, ?_, if_pos c, frC.rf sb M, frN.rf N, Or.inl ⟨rfl, p, s, nA, nB, h, hb⟩⟩
      rw [if_pos c, if_pos rfl]
      by_cases d : (900 : Int32) ≤ nI i
      · rw [if_pos d]
      · rw [if_neg d]
    · have hsp : s < p := by
        rcases q4 with q | ⟨q, _⟩
        · exact absurd q c
        · exact q
      rw [if_neg c, if_neg c, if_neg n1_0, if_neg (show ¬ (900 : Int32) ≤ nI i from nI_ge (b := 900) (by omega) (by omega))]
      obtain ⟨r, M1, N1, a1, a2, a3, a4, a5⟩ := line_all hs h hb
      rw [a1, a2, rob2, rob, nI_1]
      rcases a5 with ⟨rfl, p1, s1, nA1, nB1, b1, b2, b3⟩ | ⟨rfl, b1⟩
      · obtain ⟨r, M2, N2, c1, c2, c3, c4, c5⟩ := ih (i + 1) F F' p1 s1 nA1 nB1 M1 N1 (by omega) (by omega) (by omega) (by omega) b1 b2
        exact ⟨r, M2, N2, c1, c2, a3.tr c3, a4.tr c4, c5⟩
      · obtain ⟨F, rfl⟩ : ∃ x, F = x + 1 := ⟨F - 1, by omega⟩
        obtain ⟨F', rfl⟩ : ∃ x, F' = x + 1 := ⟨F' - 1, by omega⟩
        refine ⟨0, M1, N1, ?_, ?_, a3, a4, Or.inr ⟨rfl, b1⟩⟩
        · rw [show zlX11_bench_15 shC 0 (F + 1) 0 (nI (i + 1)) M1 = zbX11_bench_15 shC 0 (zlX11_bench_15 shC 0 F) 0 (nI (i + 1)) M1 from rfl]
          unfold zbX11_bench_15
          rw [if_pos (show (0 : Int32) = 0 from rfl)]
          by_cases d : (900 : Int32) ≤ nI (i + 1)
          · rw [if_pos d]
          · rw [if_neg d]
        · rw [show zlX12_bench_92 shM 0 (F' + 1) N1 = zbX12_bench_92 shM 0 (zlX12_bench_92 shM 0 F') N1 from rfl]
          unfold zbX12_bench_92
          rw [good_0 b1, rob, if_pos rfl]
/-! the start -/
theorem clear_ok {M : zMem} {bb sb it : Nat} (hC : rfC M bb sb it) (hs : sb = 1 ∨ sb = 13) : ∃ M1, zX1_clear shC sb M = some M1 ∧ M1.2.2 = M.2.2 ∧ (∀ q, q ≤ 64 → zI M1 (sb + 7) q = zI M (sb + 6) q ∧ zI M1 (sb + 8) q = 0) ∧ zI M1 sb 6 = 0 ∧ zI M1 sb 7 = 0 ∧ zI M1 sb 8 = 0 ∧ zI M1 sb 9 = 300 ∧ zI M1 sb 10 = 5 ∧ zI M1 sb 11 = 0 ∧ ∀ k j, ¬ (sb ≤ k ∧ k < sb + 12 ∧ k ≠ sb + 6) → zI M1 k j = zI M k j := by
  have l8 : zlen shC (sb + 8) = 65 := (lnB hs).2.2.2.2.2.2
  have loop : ∀ (r i F : Nat) (M : zMem), i + r = 65 → r < F → zR M sb 5 = sb + 8 → (∀ j, j < i → zI M (sb + 8) j = 0) → ∃ M1, zlX1_clear_9 shC sb F (nI i) M = some M1 ∧ M1.2.2 = M.2.2 ∧ (∀ q, q ≤ 64 → zI M1 (sb + 8) q = 0) ∧ zI M1 sb 6 = 0 ∧ zI M1 sb 7 = 0 ∧ zI M1 sb 8 = 0 ∧ zI M1 sb 9 = 300 ∧ zI M1 sb 10 = 5 ∧ zI M1 sb 11 = 0 ∧ ∀ k j, ¬ k = sb + 8 → ¬ (k = sb) → zI M1 k j = zI M k j := by
    intro r
    induction r with
    | zero =>
      intro i F M h1 hF h5 h8
      obtain ⟨F, rfl⟩ : ∃ x, F = x + 1 := ⟨F - 1, by omega⟩
      obtain rfl : i = 65 := by omega
      rw [show zlX1_clear_9 shC sb (F + 1) (nI 65) M = zbX1_clear_9 shC sb (zlX1_clear_9 shC sb F) (nI 65) M from rfl]
      unfold zbX1_clear_9
      rw [h5, l8, if_pos (show Int32.ofNat 65 ≤ nI 65 by decide)]
      simp only [rbd]
      refine ⟨_, rfl, rfl, fun q hq => ?_, ?_, ?_, ?_, ?_, ?_, ?_, fun k j a b => ?_⟩
      · rw [rI_pI, if_neg (by omega), rI_pI, if_neg (by omega), rI_pI, if_neg (by omega), rI_pI, if_neg (by omega), rI_pI, if_neg (by omega), rI_pI, if_neg (by omega)]
        exact h8 q (by omega)
      · rw [rI_pI, if_neg (by omega), rI_pI, if_neg (by omega), rI_pI, if_neg (by omega), rI_pI, if_neg (by omega), rI_pI, if_neg (by omega), rI_pI, if_pos ⟨rfl, rfl⟩]
      · rw [rI_pI, if_neg (by omega), rI_pI, if_neg (by omega), rI_pI, if_neg (by omega), rI_pI, if_neg (by omega), rI_pI, if_pos ⟨rfl, rfl⟩]
      · rw [rI_pI, if_neg (by omega), rI_pI, if_neg (by omega), rI_pI, if_neg (by omega), rI_pI, if_pos ⟨rfl, rfl⟩]
      · rw [rI_pI, if_neg (by omega), rI_pI, if_neg (by omega), rI_pI, if_pos ⟨rfl, rfl⟩]
      · rw [rI_pI, if_neg (by omega), rI_pI, if_pos ⟨rfl, rfl⟩]
      · rw [rI_pI, if_pos ⟨rfl, rfl⟩]
      · rw [rI_pI, if_neg (by omega), rI_pI, if_neg (by omega), rI_pI, if_neg (by omega), rI_pI, if_neg (by omega), rI_pI, if_neg (by omega), rI_pI, if_neg (by omega)]
    | succ r ih =>
      intro i F M h1 hF h5 h8
      obtain ⟨F, rfl⟩ : ∃ x, F = x + 1 := ⟨F - 1, by omega⟩
      obtain ⟨M1, a1, a2, a3, a4, a5, a6, a7, a8, a9, a10⟩ := ih (i + 1) F (zpI M (sb + 8) i 0) (by omega) (by omega) h5 (fun j hj => by
        rw [rI_pI]
        by_cases c : j = i
        · rw [if_pos ⟨rfl, c⟩]
        · rw [if_neg (by omega)]
          exact h8 j (by omega))
      refine ⟨M1, ?_, a2, a3, a4, a5, a6, a7, a8, a9, fun k j a b => by rw [a10 k j a b, rI_pI, if_neg (by omega)]⟩
      rw [show zlX1_clear_9 shC sb (F + 1) (nI i) M = zbX1_clear_9 shC sb (zlX1_clear_9 shC sb F) (nI i) M from rfl]
      unfold zbX1_clear_9
      rw [h5, l8, if_neg (show ¬ Int32.ofNat 65 ≤ nI i from nI_ge (b := 65) (by omega) (by omega)), rgd (in_a (by omega) (by omega)), nI_clamp (by omega), rbd, show vp_nar .boolean (0 : Int32) = 0 from rfl, nI_1]
      exact a1
  have oB := hC.b hs
  unfold zX1_clear zX9_clear
  rw [oB.2.2.2.2.1, oB.2.2.2.2.2.2.2.2.2.1, oB.2.2.2.2.2.2.2.2.2.2, (lnB hs).2.2.2.2.1, (lnB hs).2.2.2.2.2.1, rgd (show zcpok (0 : Int32) 0 (Int32.ofNat 65) 65 65 = true by decide), rbd, rob, show (0 : Int32).toNatClampNeg = 0 from rfl, show (Int32.ofNat 65).toNatClampNeg = 65 from rfl]
  obtain ⟨M1, a1, a2, a3, a4, a5, a6, a7, a8, a9, a10⟩ := loop 65 0 zF (zpC M (sb + 6) 0 (sb + 7) 0 65) (by omega) (by unfold zF; omega) oB.2.2.2.2.2.1 (fun j hj => absurd hj (by omega))
  clear oB loop l8
  refine ⟨M1, a1, a2, fun q hq => ⟨?_, a3 q hq⟩, a4, a5, a6, a7, a8, a9, fun k j a => ?_⟩
  · rw [a10 _ _ (by omega) (by omega), rI_pC, if_pos rfl]
    unfold va_cpy
    rw [if_pos (by omega), Nat.zero_add, Nat.sub_zero]
  · rw [a10 _ _ (by omega) (by omega), rI_pC, if_neg (by omega)]
theorem rfC.into {M : zMem} {bb sb it : Nat} (h : rfC M bb sb it) : rfC (zpR M 27 1 sb) bb sb sb := by
  unfold rfC at h ⊢
  show zu2 M.2.2 27 1 sb = _
  rw [h]
  funext k j
  unfold zu2
  by_cases c : k = 27 ∧ j = 1
  · rw [if_pos c, if_neg (by omega), if_neg (by omega), if_pos c]
  · rw [if_neg c, if_neg c]
    dsimp only
    rw [if_neg c]
theorem rfC.swap {M : zMem} {bb sb it : Nat} (h : rfC M bb sb it) : rfC (zpR (zpR M 0 11 sb) 0 12 bb) sb bb it := by
  unfold rfC at h ⊢
  show zu2 (zu2 M.2.2 0 11 sb) 0 12 bb = _
  rw [h]
  funext k j
  unfold zu2
  by_cases c : k = 0 ∧ j = 12
  · rw [if_pos c, if_neg (by omega), if_pos c]
  · rw [if_neg c]
    by_cases d : k = 0 ∧ j = 11
    · rw [if_pos d, if_pos d]
    · rw [if_neg d, if_neg d]
      dsimp only
      rw [if_neg d, if_neg c, if_neg c]
