/-! Phase B: the bench that is being read -/
def vS (sb : Nat) (M : zMem) : Nat → Nat → Int32 := fun k j => if k < 12 then zI M (sb + k) j else 0
abbrev rlN (k j : Nat) : Prop := k = 5 ∨ k = 7 ∨ k = 9 ∨ k = 10 ∨ k = 11 ∨ k = 12 ∨ (k = 0 ∧ (j = 23 ∨ j = 25 ∨ j = 27 ∨ j = 30 ∨ j = 31 ∨ j = 32))
def vN (N : zMem) : Nat → Nat → Int32 := fun k j => if rlN k j then zI N k j else 0
theorem vS_at {sb k j : Nat} {M : zMem} (h : k < 12) : vS sb M k j = zI M (sb + k) j := if_pos h
theorem vN_at {k j : Nat} {N : zMem} (h : rlN k j) : vN N k j = zI N k j := if_pos h
theorem vS_nm {sb : Nat} {M M1 : zMem} (hs : sb = 1 ∨ sb = 13) (h : nmC M M1) : vS sb M1 = vS sb M := by
  funext k j
  unfold vS
  by_cases c : k < 12
  · rw [if_pos c, if_pos c]
    exact h.2 _ _ (by omega)
  · rw [if_neg c, if_neg c]
theorem vS_p {sb k j : Nat} {M : zMem} {v : Int32} (hk : k < 12) : vS sb (zpI M (sb + k) j v) = zu2 (vS sb M) k j v := by
  funext k' j'
  show vS sb (zpI M (sb + k) j v) k' j' = if k' = k ∧ j' = j then v else vS sb M k' j'
  by_cases c : k' = k ∧ j' = j
  · rw [if_pos c]
    unfold vS
    rw [if_pos (by omega), rI_pI, if_pos (by omega)]
  · rw [if_neg c]
    unfold vS
    by_cases d : k' < 12
    · rw [if_pos d, if_pos d, rI_pI, if_neg (by omega)]
    · rw [if_neg d, if_neg d]
theorem vS_p0 {sb j : Nat} {M : zMem} {v : Int32} : vS sb (zpI M sb j v) = zu2 (vS sb M) 0 j v := vS_p (k := 0) (by omega)
theorem vN_gn {N N1 : zMem} (h : gnN N N1) : vN N1 = vN N := by
  funext k j
  unfold vN
  by_cases c : rlN k j
  · rw [if_pos c, if_pos c]
    exact h.2.1 _ _ (by unfold rlN at c; omega)
  · rw [if_neg c, if_neg c]
theorem vJ_gn {N N1 : zMem} (h : gnN N N1) : zJ N1 3 = zJ N 3 := funext fun j => h.2.2 3 j (by omega)
theorem vN_p {k j : Nat} {N : zMem} {v : Int32} (hk : rlN k j) : vN (zpI N k j v) = zu2 (vN N) k j v := by
  funext k' j'
  show vN (zpI N k j v) k' j' = if k' = k ∧ j' = j then v else vN N k' j'
  by_cases c : k' = k ∧ j' = j
  · rw [if_pos c]
    obtain ⟨rfl, rfl⟩ := c
    unfold vN
    rw [if_pos hk, rI_pI, if_pos ⟨rfl, rfl⟩]
  · rw [if_neg c]
    unfold vN
    by_cases d : rlN k' j'
    · rw [if_pos d, if_pos d, rI_pI, if_neg c]
    · rw [if_neg d, if_neg d]
theorem vJ_p {k j : Nat} {N : zMem} {v : Int32} : zJ (zpI N k j v) 3 = zJ N 3 := rfl
theorem vN_pJ {k j : Nat} {N : zMem} {v : Int64} : vN (zpJ N k j v) = vN N := rfl
theorem vJ_pJ {j : Nat} {N : zMem} {v : Int64} : zJ (zpJ N 3 j v) 3 = fun i => if i = j then v else zJ N 3 i := by
  funext i
  rw [rJ_pJ]
  by_cases c : i = j
  · rw [if_pos c, if_pos ⟨rfl, c⟩]
  · rw [if_neg c, if_neg (fun q => c q.2)]
/-- what of an axis both must tell alike -/
def RBa (S R : Nat → Nat → Int32) (J : Nat → Int64) (a : Nat) : Prop := (∀ j, j < 6 → S (9 + a) (j + 1) = R 5 (6 * a + j)) ∧ btw (R 5 (6 * a)) 1 60 ∧ btw (R 5 (6 * a + 1)) 1 30 ∧ btw (R 5 (6 * a + 2)) 1 10 ∧ btw (R 5 (6 * a + 3)) 1 9999 ∧ btw (R 5 (6 * a + 4)) 1 999 ∧ btw (R 5 (6 * a + 5)) 0 90 ∧ S (9 + a) 7 = R 11 a ∧ wRel (S (9 + a) 0) (J a)
def RBb (S R : Nat → Nat → Int32) (b : Nat) : Prop := S 2 b = R 7 (3 * b) ∧ S 3 b = R 7 (3 * b + 1) ∧ S 4 b = R 7 (3 * b + 2) ∧ 1 ≤ (R 7 (3 * b + 1)).toInt
def RBq (S R : Nat → Nat → Int32) (q : Nat) : Prop := S 6 q = R 12 q ∧ S 7 q = R 12 q + R 9 q ∧ btw (R 9 q) (-200) 200 ∧ S 8 q = R 10 q
def RBc (S R : Nat → Nat → Int32) : Prop := S 0 8 = R 0 27 ∧ S 0 9 = R 0 30 ∧ btw (R 0 30) 1 2000 ∧ S 0 10 = R 0 31 ∧ btw (R 0 31) 1 99 ∧ S 0 11 = R 0 32
def RBv (S R : Nat → Nat → Int32) (J : Nat → Int64) (nA nB : Nat) : Prop := nA ≤ 3 ∧ nB ≤ 6 ∧ S 0 6 = nI nA ∧ R 0 23 = nI nA ∧ S 0 7 = nI nB ∧ R 0 25 = nI nB ∧ RBc S R ∧ (∀ a, a < nA → RBa S R J a) ∧ (∀ b, b < nB → RBb S R b) ∧ ∀ q, q ≤ 64 → RBq S R q
theorem RBa.cg {S R S1 R1 : Nat → Nat → Int32} {J J1 : Nat → Int64} {a : Nat} (h : RBa S R J a) (e1 : ∀ j, j < 8 → S1 (9 + a) j = S (9 + a) j) (e2 : ∀ j, j < 6 → R1 5 (6 * a + j) = R 5 (6 * a + j)) (e3 : R1 11 a = R 11 a) (e4 : J1 a = J a) : RBa S1 R1 J1 a := by
  have q0 := e2 0 (by omega)
  have q1 := e2 1 (by omega)
  have q2 := e2 2 (by omega)
  have q3 := e2 3 (by omega)
  have q4 := e2 4 (by omega)
  have q5 := e2 5 (by omega)
  obtain ⟨h0, h1, h2, h3, h4, h5, h6, h7, h8⟩ := h
  exact ⟨fun j hj => by rw [e1 _ (by omega), e2 j hj]; exact h0 j hj, by rw [show 6 * a = 6 * a + 0 from rfl, q0]; exact h1, by rw [q1]; exact h2, by rw [q2]; exact h3, by rw [q3]; exact h4, by rw [q4]; exact h5, by rw [q5]; exact h6, by rw [e1 7 (by omega), e3]; exact h7, by rw [e1 0 (by omega), e4]; exact h8⟩
theorem RBb.cg {S R S1 R1 : Nat → Nat → Int32} {b : Nat} (h : RBb S R b) (e1 : S1 2 b = S 2 b) (e2 : S1 3 b = S 3 b) (e3 : S1 4 b = S 4 b) (e4 : ∀ j, j < 3 → R1 7 (3 * b + j) = R 7 (3 * b + j)) : RBb S1 R1 b := by
  have q0 := e4 0 (by omega)
  have q1 := e4 1 (by omega)
  have q2 := e4 2 (by omega)
  unfold RBb
  rw [e1, e2, e3, q1, q2, show 3 * b = 3 * b + 0 from rfl, q0]
  exact h
theorem RBq.cg {S R S1 R1 : Nat → Nat → Int32} {q : Nat} (h : RBq S R q) (e1 : S1 6 q = S 6 q) (e2 : S1 7 q = S 7 q) (e3 : S1 8 q = S 8 q) (e4 : R1 9 q = R 9 q) (e5 : R1 10 q = R 10 q) (e6 : R1 12 q = R 12 q) : RBq S1 R1 q := by
  unfold RBq
  rw [e1, e2, e3, e4, e5, e6]
  exact h
theorem RBc.cg {S R S1 R1 : Nat → Nat → Int32} (h : RBc S R) (e1 : ∀ j, 8 ≤ j → S1 0 j = S 0 j) (e2 : ∀ j, j = 27 ∨ j = 30 ∨ j = 31 ∨ j = 32 → R1 0 j = R 0 j) : RBc S1 R1 := by
  unfold RBc
  rw [e1 8 (by omega), e1 9 (by omega), e1 10 (by omega), e1 11 (by omega), e2 27 (by omega), e2 30 (by omega), e2 31 (by omega), e2 32 (by omega)]
  exact h
theorem zu2_n {f : Nat → Nat → Int32} {k j a b : Nat} {v : Int32} (h : ¬ (a = k ∧ b = j)) : zu2 f k j v a b = f a b := if_neg h
theorem zu2_p {f : Nat → Nat → Int32} {k j : Nat} {v : Int32} : zu2 f k j v k j = v := if_pos ⟨rfl, rfl⟩
/-- how a line ends -/
def lineR (C : Option (Int32 × zMem)) (Q : Option zMem) (M N : zMem) (bb sb len : Nat) (tx : Nat → Int32) (p : Nat) : Prop := ∃ r M1 N1, C = some (r, M1) ∧ Q = some N1 ∧ frC sb M M1 ∧ frN N N1 ∧ ((r = 1 ∧ ∃ p1 s1 nA nB, rds M1 N1 bb sb len tx p1 s1 ∧ RBv (vS sb M1) (vN N1) (zJ N1 3) nA nB ∧ p ≤ s1) ∨ (r = 0 ∧ bad M1 N1))
theorem line_end {M N M2 N2 : zMem} {bb sb len p p2 s2 nA nB : Nat} {tx : Nat → Int32} (hs : sb = 1 ∨ sb = 13) (h : rds M2 N2 bb sb len tx p2 s2) (hb : RBv (vS sb M2) (vN N2) (zJ N2 3) nA nB) (a : frC sb M M2) (b : frN N N2) (hp : p ≤ p2) : lineR (zob2 (zX6_takeStop shC 27 M2) fun r M3 => zgd (zisB r) <| some (r, M3)) (zjX12_line_90 shM 0 N2) M N bb sb len tx p := by
  rcases stop_ok h with ⟨M1, N1, p1, s1, b1, b2, b3, b4, b5, b6⟩ | ⟨M1, N1, b1, b2, b3, b4, b5⟩
  · refine ⟨1, M1, N1, by rw [b1, rob2, rgd isB1], b2, a.tr b3.n.f, b.tr b4.f, Or.inl ⟨rfl, p1, s1, nA, nB, b5, ?_, by omega⟩⟩
    rw [vS_nm hs b3.n, vN_gn b4, vJ_gn b4]
    exact hb
  · exact ⟨0, M1, N1, by rw [b1, rob2, rgd isB0], b2, a.tr b4, b.tr b5, Or.inr ⟨rfl, b3⟩⟩
theorem line_bad {M N M2 N2 : zMem} {bb sb len p : Nat} {tx : Nat → Int32} (h : bad M2 N2) (a : frC sb M M2) (b : frN N N2) : lineR (some (0, M2)) (zjX12_line_90 shM 0 N2) M N bb sb len tx p := ⟨0, M2, N2, rfl, stop_b h, a, b, Or.inr ⟨rfl, h⟩⟩
theorem line_bad2 {M N M2 N2 : zMem} {bb sb len p : Nat} {tx : Nat → Int32} (h : bad M2 N2) (a : frC sb M M2) (b : frN N N2) : lineR (zgd (zisB 0) <| some (0, M2)) (zjX12_line_90 shM 0 N2) M N bb sb len tx p := line_bad h a b
theorem bad.k {M N N1 : zMem} (h : bad M N) (b : kfN N N1) : bad M N1 := by
  obtain ⟨c, h1, h2, h3, h4, h5⟩ := h
  exact ⟨c, h1, h2, h3, (b.2.1 0 8 (by omega)).trans h4, h5.trans (b.2.1 0 9 (by omega)).symm⟩
/-- the coil -/
theorem RBv.coil {S R : Nat → Nat → Int32} {J : Nat → Int64} {nA nB v w : Nat} (h : RBv S R J nA nB) (h1 : 1 ≤ v ∧ v ≤ 2000) (h2 : 1 ≤ w ∧ w ≤ 99) : RBv (zu2 (zu2 (zu2 S 0 11 1) 0 9 (nI v)) 0 10 (nI w)) (zu2 (zu2 (zu2 R 0 32 1) 0 30 (nI v)) 0 31 (nI w)) J nA nB := by
  obtain ⟨g1, g2, g3, g4, g5, g6, g7, g8, g9, g10⟩ := h
  have eS : ∀ k j, ¬ (k = 0 ∧ 9 ≤ j) → zu2 (zu2 (zu2 S 0 11 1) 0 9 (nI v)) 0 10 (nI w) k j = S k j := fun k j q => by rw [zu2_n (by omega), zu2_n (by omega), zu2_n (by omega)]
  have eR : ∀ k j, ¬ (k = 0 ∧ 30 ≤ j) → zu2 (zu2 (zu2 R 0 32 1) 0 30 (nI v)) 0 31 (nI w) k j = R k j := fun k j q => by rw [zu2_n (by omega), zu2_n (by omega), zu2_n (by omega)]
  refine ⟨g1, g2, by rw [eS _ _ (by omega)]; exact g3, by rw [eR _ _ (by omega)]; exact g4, by rw [eS _ _ (by omega)]; exact g5, by rw [eR _ _ (by omega)]; exact g6, ⟨by rw [eS _ _ (by omega), eR _ _ (by omega)]; exact g7.1, by rw [zu2_n (by omega), zu2_p, zu2_n (by omega), zu2_p], ?_, by rw [zu2_p, zu2_p], ?_, by rw [zu2_n (by omega), zu2_n (by omega), zu2_p, zu2_n (by omega), zu2_n (by omega), zu2_p]⟩, fun a ha => (g8 a ha).cg (fun j hj => eS _ _ (by omega)) (fun j hj => eR _ _ (by omega)) (eR _ _ (by omega)) rfl, fun b hb => (g9 b hb).cg (eS _ _ (by omega)) (eS _ _ (by omega)) (eS _ _ (by omega)) (fun j hj => eR _ _ (by omega)), fun q hq => (g10 q hq).cg (eS _ _ (by omega)) (eS _ _ (by omega)) (eS _ _ (by omega)) (eR _ _ (by omega)) (eR _ _ (by omega)) (eR _ _ (by omega))⟩
  · rw [zu2_n (by omega), zu2_p]
    unfold btw
    rw [nI_toInt (by omega)]
    omega
  · rw [zu2_p]
    unfold btw
    rw [nI_toInt (by omega)]
    omega
theorem coil_ln {M N : zMem} {bb sb len p s nA nB : Nat} {tx : Nat → Int32} (hs : sb = 1 ∨ sb = 13) (h : rds M N bb sb len tx p s) (hb : RBv (vS sb M) (vN N) (zJ N 3) nA nB) : lineR (zX6_readCoil shC 27 M) (zob (zX12_coilLine shM 0 N) fun N1 => zjX12_line_90 shM 0 N1) M N bb sb len tx p := by
  have e1 : zR M 27 1 = sb := by simp only [h.1.o]
  have q : zI M sb 11 = zI N 0 32 := by
    have := hb.2.2.2.2.2.2.1.2.2.2.2.2
    rw [vS_at (by omega), vN_at (by unfold rlN; omega)] at this
    exact this
  unfold zX6_readCoil zX12_coilLine zjX6_readCoil_48 zjX6_readCoil_80 zjX12_coilLine_12
  rw [e1, q]
  by_cases c : zI N 0 32 = 0
  · rw [if_pos c, if_pos c, rbd, rbd, if_pos (show zI N 0 8 ≤ 0 by rw [h.2.2.2.2.1]; decide)]
    have ka : kfC sb M (zpI M sb 11 1) := kfC.p (k := 0) (by omega)
    have kb : kfN N (zpI N 0 32 1) := kfN.p (by unfold keepN; omega) (by omega)
    have h1 := h.kf hs ka kb
    obtain ⟨M1, N1, p1, s1, b1, b2, b3, b4, b5, b6⟩ := step_s h1
    rw [b1, b2, rob, rob]
    have q5 := b5.2.2.2.1.2.2.2.2.2.1
    rcases behind_ok (lo' := 1) (hi' := 2000) b5 kw12 (lo := 1) (hi := 2000) rfl rfl (by omega) (by omega) with ⟨M2, N2, p2, s2, v, v1, v2, c1, c2, c3, c4, c5, c6, c7⟩ | ⟨M2, N2, x, c1, c2, c3, c4, c5⟩
    · rw [c1, c2, rob2, rbd, rbd]
      have e2 : zR M2 27 1 = sb := by simp only [c5.1.o]
      have ka2 : kfC sb M2 (zpI M2 sb 9 (nI v)) := kfC.p (k := 0) (by omega)
      have kb2 : kfN N2 (zpI N2 0 30 (nI v)) := kfN.p (by unfold keepN; omega) (by omega)
      rw [e2, c6]
      rcases behind_ok (lo' := 1) (hi' := 99) (c5.kf hs ka2 kb2) kw8 (lo := 1) (hi := 99) rfl rfl (by omega) (by omega) with ⟨M3, N3, p3, s3, w, w1, w2, d1, d2, d3, d4, d5, d6, d7⟩ | ⟨M3, N3, x, d1, d2, d3, d4, d5⟩
      · rw [d1, d2, rob2, rbd, rbd, rob]
        have e3 : zR M3 27 1 = sb := by simp only [d5.1.o]
        rw [e3, d6]
        have ka3 : kfC sb M3 (zpI M3 sb 10 (nI w)) := kfC.p (k := 0) (by omega)
        have kb3 : kfN N3 (zpI N3 0 31 (nI w)) := kfN.p (by unfold keepN; omega) (by omega)
        refine line_end hs (d5.kf hs ka3 kb3) (nA := nA) (nB := nB) ?_ (((((ka.f.tr b3.n.f).tr c3.f).tr ka2.f).tr d3.f).tr ka3.f) (((((kb.f.tr b4.f).tr c4.f).tr kb2.f).tr d4.f).tr kb3.f) (by omega)
        rw [vS_p0, vS_nm hs d3, vS_p0, vS_nm hs c3, vS_nm hs b3.n, vS_p0, vN_p (by unfold rlN; omega), vN_gn d4, vN_p (by unfold rlN; omega), vN_gn c4, vN_gn b4, vN_p (by unfold rlN; omega), vJ_p, vJ_gn d4, vJ_p, vJ_gn c4, vJ_gn b4, vJ_p]
        exact hb.coil ⟨v1, v2⟩ ⟨w1, w2⟩
      · rw [d1, d2, rob2, rbd, rob]
        exact line_bad (d3.k (kfN.p (by unfold keepN; omega) (by omega))) ((((ka.f.tr b3.n.f).tr c3.f).tr ka2.f).tr d4) (((((kb.f.tr b4.f).tr c4.f).tr kb2.f).tr d5).tr (kfN.p (by unfold keepN; omega) (by omega)).f)
    · rw [c1, c2, rob2, rbd]
      have kb2 : kfN N2 (zpI N2 0 30 x) := kfN.p (by unfold keepN; omega) (by omega)
      have kb3 : kfN (zpI N2 0 30 x) (zpI (zpI N2 0 30 x) 0 31 0) := kfN.p (by unfold keepN; omega) (by omega)
      rw [behind_b (c3.k kb2), rob2, rbd, rob]
      exact line_bad ((c3.k kb2).k kb3) ((ka.f.tr b3.n.f).tr c4) ((((kb.f.tr b4.f).tr c5).tr kb2.f).tr kb3.f)
  · obtain ⟨M1, N1, b1, b2, b3, b4, b5⟩ := refuse_ok h (c := 5) (c' := 5) rfl (by omega) (by omega)
    rw [if_neg c, if_neg c, b1, b2, rob2, rob, if_neg (bad_n b3).2, rob]
    exact line_bad2 b3 b4 b5
