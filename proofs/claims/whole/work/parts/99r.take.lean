/-! Phase B: what the reader takes -/
theorem cmp_eq (a b : Int64) : (lg_cmp a b = 0) = (a = b) := by
  unfold lg_cmp
  by_cases h1 : a > b
  · rw [if_pos h1]
    have : ¬ a = b := fun h => by subst h; have := Int64.lt_iff_toInt_lt.mp h1; omega
    simp [this]
  · rw [if_neg h1]
    by_cases h2 : a = b
    · rw [if_pos h2]; simp [h2]
    · rw [if_neg h2]; simp [h2]
theorem n1_0 : ¬ (1 : Int32) = 0 := by decide
/-- no fault yet -/
def nf (M N : zMem) : Prop := zI M 27 7 = 0 ∧ zI M 27 8 = -1 ∧ zI N 0 9 = -1
/-- the state of both while they read -/
def rds (M N : zMem) (bb sb len : Nat) (tx : Nat → Int32) (p s : Nat) : Prop := rfC M bb sb sb ∧ rfN N ∧ txt M N len tx ∧ rdk M N len p s ∧ zI N 0 8 = 0 ∧ nf M N
/-- all that reading may touch -/
def frC (sb : Nat) (M M1 : zMem) : Prop := M1.2.2 = M.2.2 ∧ ∀ k j, ¬ (k = 27 ∧ 2 ≤ j ∧ j ≤ 8) → ¬ (sb ≤ k ∧ k < sb + 12 ∧ k ≠ sb + 6) → zI M1 k j = zI M k j
def frN (N N1 : zMem) : Prop := N1.2.2 = N.2.2 ∧ ∀ k j, keepN k j ∨ (k = 0 ∧ j = 3) → zI N1 k j = zI N k j
theorem frC.rf (sb : Nat) (M : zMem) : frC sb M M := ⟨rfl, fun _ _ _ _ => rfl⟩
theorem frN.rf (N : zMem) : frN N N := ⟨rfl, fun _ _ _ => rfl⟩
theorem frC.tr {sb : Nat} {M M1 M2 : zMem} (h : frC sb M M1) (g : frC sb M1 M2) : frC sb M M2 := ⟨g.1.trans h.1, fun k j a b => (g.2 k j a b).trans (h.2 k j a b)⟩
theorem frN.tr {N N1 N2 : zMem} (h : frN N N1) (g : frN N1 N2) : frN N N2 := ⟨g.1.trans h.1, fun k j a => (g.2 k j a).trans (h.2 k j a)⟩
theorem stC.f {sb : Nat} {M M1 : zMem} (h : stC M M1) : frC sb M M1 := ⟨h.1, fun k j a _ => h.2 k j (by omega)⟩
theorem gnN.f {N N1 : zMem} (h : gnN N N1) : frN N N1 := ⟨h.1, fun k j a => h.2.1 k j (by unfold keepN at a; omega)⟩
/-- a change of the spare bench alone -/
def kfC (sb : Nat) (M M1 : zMem) : Prop := M1.2.2 = M.2.2 ∧ ∀ k j, ¬ (sb ≤ k ∧ k < sb + 12 ∧ k ≠ sb + 6) → zI M1 k j = zI M k j
def kfN (N N1 : zMem) : Prop := N1.2.2 = N.2.2 ∧ (∀ k j, keepN k j ∨ (k = 0 ∧ 3 ≤ j ∧ j ≤ 9) → zI N1 k j = zI N k j) ∧ zJ N1 0 12 = zJ N 0 12
theorem kfC.rf (sb : Nat) (M : zMem) : kfC sb M M := ⟨rfl, fun _ _ _ => rfl⟩
theorem kfN.rf (N : zMem) : kfN N N := ⟨rfl, fun _ _ _ => rfl, rfl⟩
theorem kfC.tr {sb : Nat} {M M1 M2 : zMem} (h : kfC sb M M1) (g : kfC sb M1 M2) : kfC sb M M2 := ⟨g.1.trans h.1, fun k j a => (g.2 k j a).trans (h.2 k j a)⟩
theorem kfN.tr {N N1 N2 : zMem} (h : kfN N N1) (g : kfN N1 N2) : kfN N N2 := ⟨g.1.trans h.1, fun k j a => (g.2.1 k j a).trans (h.2.1 k j a), g.2.2.trans h.2.2⟩
theorem kfC.f {sb : Nat} {M M1 : zMem} (h : kfC sb M M1) : frC sb M M1 := ⟨h.1, fun k j _ a => h.2 k j a⟩
theorem kfN.f {N N1 : zMem} (h : kfN N N1) : frN N N1 := ⟨h.1, fun k j a => h.2.1 k j (a.elim Or.inl (fun q => Or.inr (by omega)))⟩
theorem kfC.p {sb k j : Nat} {M : zMem} {v : Int32} (h : k < 12 ∧ k ≠ 6) : kfC sb M (zpI M (sb + k) j v) := ⟨rfl, fun k' j' a => by rw [rI_pI, if_neg (by omega)]⟩
theorem kfN.p {k j : Nat} {N : zMem} {v : Int32} (h : ¬ keepN k j) (h' : ¬ (k = 0 ∧ 3 ≤ j ∧ j ≤ 9)) : kfN N (zpI N k j v) := ⟨rfl, fun k' j' a => by
  rw [rI_pI, if_neg (fun q => by obtain ⟨rfl, rfl⟩ := q; exact a.elim h h')], rfl⟩
theorem kfN.pJ {j : Nat} {N : zMem} {v : Int64} : kfN N (zpJ N 3 j v) := ⟨rfl, fun _ _ _ => rfl, by rw [rJ_pJ, if_neg (by omega)]⟩
theorem rds.kf {M N M1 N1 : zMem} {bb sb len p s : Nat} {tx : Nat → Int32} (h : rds M N bb sb len tx p s) (hs : sb = 1 ∨ sb = 13) (a : kfC sb M M1) (b : kfN N N1) : rds M1 N1 bb sb len tx p s := by
  obtain ⟨h1, h2, h3, h4, h5, h6⟩ := h
  refine ⟨h1.sm a.1, h2.sm b.1, h3.sm (a.2 25 1 (by omega)) (fun i => a.2 26 i (by omega)) (b.2.1 0 3 (by omega)) (fun i => b.2.1 2 i (by unfold keepN; omega)), ?_, (b.2.1 0 8 (by omega)).trans h5, (a.2 27 7 (by omega)).trans h6.1, (a.2 27 8 (by omega)).trans h6.2.1, (b.2.1 0 9 (by omega)).trans h6.2.2⟩
  unfold rdk
  rw [a.2 27 2 (by omega), a.2 27 3 (by omega), a.2 27 4 (by omega), a.2 27 5 (by omega), b.2.1 0 4 (by omega), b.2.1 0 5 (by omega), b.2.1 0 6 (by omega), b.2.1 0 7 (by omega), b.2.2]
  exact h4
theorem step_s {M N : zMem} {bb sb len p s : Nat} {tx : Nat → Int32} (h : rds M N bb sb len tx p s) : ∃ M1 N1 p1 s1, zX6_step shC 27 M = some M1 ∧ zX12_goOn shM 0 N = some N1 ∧ stC M M1 ∧ gnN N N1 ∧ rds M1 N1 bb sb len tx p1 s1 ∧ p ≤ s1 := by
  obtain ⟨h1, h2, h3, h4, h5, h6⟩ := h
  obtain ⟨M1, N1, p1, s1, b1, b2, b3, b4, b5, b6⟩ := step_ok h1 h2 h3 h4.1 h4.2.1 h4.2.2.1
  exact ⟨M1, N1, p1, s1, b1, b2, b3, b4, ⟨h1.sm b3.1, h2.sm b4.1, h3.st b3 b4, b5, (b4.2.1 0 8 (by omega)).trans h5, (b3.2 27 7 (by omega)).trans h6.1, (b3.2 27 8 (by omega)).trans h6.2.1, (b4.2.1 0 9 (by omega)).trans h6.2.2⟩, b6⟩
/-- a fault told by both -/
def bad (M N : zMem) : Prop := ∃ c : Nat, 1 ≤ c ∧ c ≤ 5 ∧ zI M 27 7 = nI c ∧ zI N 0 8 = nI c ∧ zI M 27 8 = zI N 0 9
theorem refuse_ok {M N : zMem} {bb sb len p s : Nat} {tx : Nat → Int32} (h : rds M N bb sb len tx p s) {c : Nat} {c' : Int32} (ec : c' = nI c) (h1 : 1 ≤ c) (h2 : c ≤ 5) : ∃ M1 N1, zX6_refuse shC 27 c' M = some (0, M1) ∧ zX12_wrong shM 0 c' N = some N1 ∧ bad M1 N1 ∧ frC sb M M1 ∧ frN N N1 := by
  subst ec
  obtain ⟨g1, g2, g3, g4, g5, g6⟩ := h
  obtain ⟨k1, k2, k3, k4, k5, k6, k7, k8⟩ := g4
  have fin : ∀ x : Nat, 1 ≤ x → x ≤ 5 → bad (zpI (zpI M 27 7 (nI x)) 27 8 (nI s)) (zpI (zpI N 0 8 (nI x)) 0 9 (nI s)) ∧ frC sb M (zpI (zpI M 27 7 (nI x)) 27 8 (nI s)) ∧ frN N (zpI (zpI N 0 8 (nI x)) 0 9 (nI s)) := fun x hx hx' => by
    refine ⟨⟨x, hx, hx', by rw [rI_pI, if_neg (by omega), rI_pI, if_pos ⟨rfl, rfl⟩], by rw [rI_pI, if_neg (by omega), rI_pI, if_pos ⟨rfl, rfl⟩], by rw [rI_pI, if_pos ⟨rfl, rfl⟩, rI_pI, if_pos ⟨rfl, rfl⟩]⟩, ⟨rfl, fun k j a _ => by rw [rI_pI, if_neg (by omega), rI_pI, if_neg (by omega)]⟩, rfl, fun k j a => ?_⟩
    unfold keepN at a
    rw [rI_pI, if_neg (by omega), rI_pI, if_neg (by omega)]
  unfold zX6_refuse zX12_wrong zjX6_refuse_14 zjX12_wrong_22
  simp only [rbd]
  have e4 : ∀ v : Int32, zI (zpI M 27 7 v) 27 4 = nI s := fun v => by rw [rI_pI, if_neg (by omega)]; exact k4
  have e5 : ∀ v : Int32, zI (zpI N 0 8 v) 0 5 = nI s := fun v => by rw [rI_pI, if_neg (by omega)]; exact k5
  rw [k7, e4, e4, e5, e5, g5, if_pos (show (0 : Int32) ≤ 0 by decide)]
  by_cases d : zI N 0 6 = 5
  · rw [if_pos d, if_pos d]
    obtain ⟨q1, q2, q3⟩ := fin 1 (by omega) (by omega)
    exact ⟨_, _, rfl, rfl, q1, q2, q3⟩
  · rw [if_neg d, if_neg d]
    obtain ⟨q1, q2, q3⟩ := fin c h1 h2
    exact ⟨_, _, rfl, rfl, q1, q2, q3⟩
theorem good_1 {sh : zShp} {N : zMem} (h : zI N 0 8 = 0) : zX12_isGood sh 0 N = some 1 := by
  unfold zX12_isGood zjX12_isGood_12
  rw [if_pos h, rgd isB1]
theorem bad_n {M N : zMem} (h : bad M N) : ¬ zI N 0 8 = 0 ∧ ¬ zI N 0 8 ≤ 0 := by
  obtain ⟨c, h1, h2, h3, h4, h5⟩ := h
  rw [h4]
  exact ⟨fun e => by have := congrArg Int32.toInt e; rw [nI_toInt (by omega), show (0 : Int32).toInt = 0 from rfl] at this; omega, nI_ge (a := 0) (by omega) (by omega)⟩
theorem good_0 {sh : zShp} {M N : zMem} (h : bad M N) : zX12_isGood sh 0 N = some 0 := by
  unfold zX12_isGood zjX12_isGood_12
  rw [if_neg (bad_n h).1, rgd isB0]
theorem isWord_ok {M N : zMem} {len p s k : Nat} {W : Int64} (h : rdk M N len p s) (h8 : zI N 0 8 = 0) (hk : kwd k W) : zX6_isWord shC 27 k M = some (bI (zI N 0 6 = 1 ∧ zJ N 0 12 = W)) ∧ zX12_isWord shM 0 W N = some (bI (zI N 0 6 = 1 ∧ zJ N 0 12 = W)) := by
  obtain ⟨k1, k2, k3, k4, k5, k6, k7, k8⟩ := h
  unfold zX6_isWord zX12_isWord zjX6_isWord_23 zjX6_isWord_24 zjX12_isWord_28 zjX12_isWord_29 zX6_codeOf
  rw [k7, if_pos h8, rgd isB0, rgd isB1, rob]
  by_cases c : zI N 0 6 = 1
  · have hw : wRel (zI M 27 5) (zJ N 0 12) := by
      rcases k8 with q | ⟨_, ⟨_, q⟩ | ⟨q, _⟩ | q | q | q⟩
      · rw [c] at q; exact absurd q (by decide)
      · exact q
      · rw [c] at q; exact absurd q (by decide)
      · rw [c] at q; exact absurd q (by decide)
      · rw [c] at q; exact absurd q (by decide)
      · rw [c] at q; exact absurd q (by decide)
    have e := hw.eq hk
    rw [if_pos c, if_pos c]
    by_cases d : zJ N 0 12 = W
    · rw [if_pos (by rw [e]; exact d), if_pos (by rw [cmp_eq]; exact d), bI_t ⟨c, d⟩]
      exact ⟨rfl, rfl⟩
    · rw [if_neg (by rw [e]; exact d), if_neg (by rw [cmp_eq]; exact d), bI_f (fun q => d q.2)]
      exact ⟨rfl, rfl⟩
  · rw [if_neg c, if_neg c, bI_f (fun q => c q.1)]
    exact ⟨rfl, rfl⟩
abbrev kLn (N : zMem) : Prop := zJ N 0 12 = 1635281267 ∨ zJ N 0 12 = 470021336946 ∨ zJ N 0 12 = 1650552420 ∨ zJ N 0 12 = 6711672 ∨ zJ N 0 12 = 1668245868
abbrev kPt (N : zMem) : Prop := zJ N 0 12 = 495806932324 ∨ zJ N 0 12 = 1734437230 ∨ zJ N 0 12 = 1785033323 ∨ zJ N 0 12 = 1752132708 ∨ zJ N 0 12 = 1835103091 ∨ zJ N 0 12 = 1684106608 ∨ zJ N 0 12 = 126948234783865 ∨ zJ N 0 12 = 1819243379
theorem name_w {M N : zMem} {len p s : Nat} (h : rdk M N len p s) (h8 : zI N 0 8 = 0) (hw : zI N 0 6 = 1) : zX6_isName shC 27 M = some (bI (¬ (kLn N ∨ kPt N))) := by
  have w : ∀ (k : Nat) (W : Int64), kwd k W → zX6_isWord shC 27 k M = some (bI (zJ N 0 12 = W)) := fun k W hk => by
    rw [(isWord_ok h h8 hk).1]
    by_cases c : zJ N 0 12 = W
    · rw [bI_t c, bI_t ⟨hw, c⟩]
    · rw [bI_f c, bI_f (fun q => c q.2)]
  have k7 : zI M 27 3 = 1 := by
    obtain ⟨k1, k2, k3, k4, k5, k6, k7, k8⟩ := h
    rw [k7, hw]
  unfold zX6_isName zjX6_isName_129 zjX6_isName_130
  rw [rgd isB0, rgd isB1, if_pos k7]
  rw [w 0 _ kw0, rob]
  by_cases c0 : zJ N 0 12 = 1635281267
  · rw [bI_t c0, if_neg (by decide), bI_f (show ¬ ¬ (kLn N ∨ kPt N) from fun q => q (Or.inl (show kLn N from Or.inl c0)))]
  · rw [bI_f c0, if_pos rfl]
    rw [w 10 _ kw10, rob]
    by_cases c1 : zJ N 0 12 = 470021336946
    · rw [bI_t c1, if_neg (by decide), bI_f (show ¬ ¬ (kLn N ∨ kPt N) from fun q => q (Or.inl (show kLn N from Or.inr (Or.inl c1))))]
    · rw [bI_f c1, if_pos rfl]
      rw [w 1 _ kw1, rob]
      by_cases c2 : zJ N 0 12 = 1650552420
      · rw [bI_t c2, if_neg (by decide), bI_f (show ¬ ¬ (kLn N ∨ kPt N) from fun q => q (Or.inl (show kLn N from Or.inr (Or.inr (Or.inl c2)))))]
      · rw [bI_f c2, if_pos rfl]
        rw [w 4 _ kw4, rob]
        by_cases c3 : zJ N 0 12 = 6711672
        · rw [bI_t c3, if_neg (by decide), bI_f (show ¬ ¬ (kLn N ∨ kPt N) from fun q => q (Or.inl (show kLn N from Or.inr (Or.inr (Or.inr (Or.inl c3))))))]
        · rw [bI_f c3, if_pos rfl]
          rw [w 2 _ kw2, rob]
          by_cases c4 : zJ N 0 12 = 1668245868
          · rw [bI_t c4, if_neg (by decide), bI_f (show ¬ ¬ (kLn N ∨ kPt N) from fun q => q (Or.inl (show kLn N from Or.inr (Or.inr (Or.inr (Or.inr (c4)))))))]
          · rw [bI_f c4, if_pos rfl]
            rw [w 11 _ kw11, rob]
            by_cases c5 : zJ N 0 12 = 495806932324
            · rw [bI_t c5, if_neg (by decide), bI_f (show ¬ ¬ (kLn N ∨ kPt N) from fun q => q (Or.inr (show kPt N from Or.inl c5)))]
            · rw [bI_f c5, if_pos rfl]
              rw [w 5 _ kw5, rob]
              by_cases c6 : zJ N 0 12 = 1734437230
              · rw [bI_t c6, if_neg (by decide), bI_f (show ¬ ¬ (kLn N ∨ kPt N) from fun q => q (Or.inr (show kPt N from Or.inr (Or.inl c6))))]
              · rw [bI_f c6, if_pos rfl]
                rw [w 7 _ kw7, rob]
                by_cases c7 : zJ N 0 12 = 1785033323
                · rw [bI_t c7, if_neg (by decide), bI_f (show ¬ ¬ (kLn N ∨ kPt N) from fun q => q (Or.inr (show kPt N from Or.inr (Or.inr (Or.inl c7)))))]
                · rw [bI_f c7, if_pos rfl]
                  rw [w 6 _ kw6, rob]
                  by_cases c8 : zJ N 0 12 = 1752132708
                  · rw [bI_t c8, if_neg (by decide), bI_f (show ¬ ¬ (kLn N ∨ kPt N) from fun q => q (Or.inr (show kPt N from Or.inr (Or.inr (Or.inr (Or.inl c8))))))]
                  · rw [bI_f c8, if_pos rfl]
                    rw [w 9 _ kw9, rob]
                    by_cases c9 : zJ N 0 12 = 1835103091
                    · rw [bI_t c9, if_neg (by decide), bI_f (show ¬ ¬ (kLn N ∨ kPt N) from fun q => q (Or.inr (show kPt N from Or.inr (Or.inr (Or.inr (Or.inr (Or.inl c9)))))))]
                    · rw [bI_f c9, if_pos rfl]
                      rw [w 3 _ kw3, rob]
                      by_cases c10 : zJ N 0 12 = 1684106608
                      · rw [bI_t c10, if_neg (by decide), bI_f (show ¬ ¬ (kLn N ∨ kPt N) from fun q => q (Or.inr (show kPt N from Or.inr (Or.inr (Or.inr (Or.inr (Or.inr (Or.inl c10))))))))]
                      · rw [bI_f c10, if_pos rfl]
                        rw [w 12 _ kw12, rob]
                        by_cases c11 : zJ N 0 12 = 126948234783865
                        · rw [bI_t c11, if_neg (by decide), bI_f (show ¬ ¬ (kLn N ∨ kPt N) from fun q => q (Or.inr (show kPt N from Or.inr (Or.inr (Or.inr (Or.inr (Or.inr (Or.inr (Or.inl c11)))))))))]
                        · rw [bI_f c11, if_pos rfl]
                          rw [w 8 _ kw8, rob]
                          by_cases c12 : zJ N 0 12 = 1819243379
                          · rw [bI_t c12, if_neg (by decide), bI_f (show ¬ ¬ (kLn N ∨ kPt N) from fun q => q (Or.inr (show kPt N from Or.inr (Or.inr (Or.inr (Or.inr (Or.inr (Or.inr (Or.inr (c12))))))))))]
                          · rw [bI_f c12, if_pos rfl, bI_t (show ¬ (kLn N ∨ kPt N) from fun q => by
                              unfold kLn kPt at q
                              rcases q with (q | q | q | q | q) | q | q | q | q | q | q | q | q
                              · exact c0 q
                              · exact c1 q
                              · exact c2 q
                              · exact c3 q
                              · exact c4 q
                              · exact c5 q
                              · exact c6 q
                              · exact c7 q
                              · exact c8 q
                              · exact c9 q
                              · exact c10 q
                              · exact c11 q
                              · exact c12 q)]
theorem kept_w {N : zMem} : zX12_isKept shM 0 N = some (bI (kLn N ∨ kPt N)) := by
  unfold zX12_isKept zjX12_isKept_143 zjX12_isKept_148
  rw [rgd isB0, rgd isB1]
  simp only [cmp_eq]
  by_cases c0 : zJ N 0 12 = 1635281267
  · rw [if_pos c0, bI_t (show kLn N ∨ kPt N from Or.inl (show kLn N from Or.inl c0))]
  · rw [if_neg c0]
    by_cases c1 : zJ N 0 12 = 470021336946
    · rw [if_pos c1, bI_t (show kLn N ∨ kPt N from Or.inl (show kLn N from Or.inr (Or.inl c1)))]
    · rw [if_neg c1]
      by_cases c2 : zJ N 0 12 = 1650552420
      · rw [if_pos c2, bI_t (show kLn N ∨ kPt N from Or.inl (show kLn N from Or.inr (Or.inr (Or.inl c2))))]
      · rw [if_neg c2]
        by_cases c3 : zJ N 0 12 = 6711672
        · rw [if_pos c3, bI_t (show kLn N ∨ kPt N from Or.inl (show kLn N from Or.inr (Or.inr (Or.inr (Or.inl c3)))))]
        · rw [if_neg c3]
          by_cases c4 : zJ N 0 12 = 1668245868
          · rw [if_pos c4, bI_t (show kLn N ∨ kPt N from Or.inl (show kLn N from Or.inr (Or.inr (Or.inr (Or.inr (c4))))))]
          · rw [if_neg c4]
            by_cases c5 : zJ N 0 12 = 495806932324
            · rw [if_pos c5, bI_t (show kLn N ∨ kPt N from Or.inr (show kPt N from Or.inl c5))]
            · rw [if_neg c5]
              by_cases c6 : zJ N 0 12 = 1734437230
              · rw [if_pos c6, bI_t (show kLn N ∨ kPt N from Or.inr (show kPt N from Or.inr (Or.inl c6)))]
              · rw [if_neg c6]
                by_cases c7 : zJ N 0 12 = 1785033323
                · rw [if_pos c7, bI_t (show kLn N ∨ kPt N from Or.inr (show kPt N from Or.inr (Or.inr (Or.inl c7))))]
                · rw [if_neg c7]
                  by_cases c8 : zJ N 0 12 = 1752132708
                  · rw [if_pos c8, bI_t (show kLn N ∨ kPt N from Or.inr (show kPt N from Or.inr (Or.inr (Or.inr (Or.inl c8)))))]
                  · rw [if_neg c8]
                    by_cases c9 : zJ N 0 12 = 1835103091
                    · rw [if_pos c9, bI_t (show kLn N ∨ kPt N from Or.inr (show kPt N from Or.inr (Or.inr (Or.inr (Or.inr (Or.inl c9))))))]
                    · rw [if_neg c9]
                      by_cases c10 : zJ N 0 12 = 1684106608
                      · rw [if_pos c10, bI_t (show kLn N ∨ kPt N from Or.inr (show kPt N from Or.inr (Or.inr (Or.inr (Or.inr (Or.inr (Or.inl c10)))))))]
                      · rw [if_neg c10]
                        by_cases c11 : zJ N 0 12 = 126948234783865
                        · rw [if_pos c11, bI_t (show kLn N ∨ kPt N from Or.inr (show kPt N from Or.inr (Or.inr (Or.inr (Or.inr (Or.inr (Or.inr (Or.inl c11))))))))]
                        · rw [if_neg c11]
                          by_cases c12 : zJ N 0 12 = 1819243379
                          · rw [if_pos c12, bI_t (show kLn N ∨ kPt N from Or.inr (show kPt N from Or.inr (Or.inr (Or.inr (Or.inr (Or.inr (Or.inr (Or.inr (c12)))))))))]
                          · rw [if_neg c12, bI_f (show ¬ (kLn N ∨ kPt N) from fun q => by
                              unfold kLn kPt at q
                              rcases q with (q | q | q | q | q) | q | q | q | q | q | q | q | q
                              · exact c0 q
                              · exact c1 q
                              · exact c2 q
                              · exact c3 q
                              · exact c4 q
                              · exact c5 q
                              · exact c6 q
                              · exact c7 q
                              · exact c8 q
                              · exact c9 q
                              · exact c10 q
                              · exact c11 q
                              · exact c12 q)]
/-- a name: both say yes, or both refuse -/
theorem name_q {M N : zMem} {len p s : Nat} (h : rdk M N len p s) (h8 : zI N 0 8 = 0) : (zX6_isName shC 27 M = some 1 ∧ zX12_mustName shM 0 N = some N ∧ zI N 0 6 = 1 ∧ wRel (zI M 27 5) (zJ N 0 12)) ∨ (zX6_isName shC 27 M = some 0 ∧ zX12_mustName shM 0 N = zob (zX12_wrong shM 0 2 N) some) := by
  have h' := h
  obtain ⟨k1, k2, k3, k4, k5, k6, k7, k8⟩ := h'
  unfold zX12_mustName zjX12_mustName_22 zjX12_mustName_27
  rw [good_1 h8, rob, if_neg n1_0]
  by_cases c : zI N 0 6 = 1
  · have hw : wRel (zI M 27 5) (zJ N 0 12) := by
      rcases k8 with q | ⟨_, ⟨_, q⟩ | ⟨q, _⟩ | q | q | q⟩
      · rw [c] at q; exact absurd q (by decide)
      · exact q
      · rw [c] at q; exact absurd q (by decide)
      · rw [c] at q; exact absurd q (by decide)
      · rw [c] at q; exact absurd q (by decide)
      · rw [c] at q; exact absurd q (by decide)
    rw [name_w h h8 c, if_pos c, kept_w, rob]
    by_cases d : kLn N ∨ kPt N
    · rw [bI_t d, bI_f (show ¬ ¬ (kLn N ∨ kPt N) from fun q => q d), if_neg n1_0]
      exact Or.inr ⟨rfl, rfl⟩
    · rw [bI_f d, bI_t (show ¬ (kLn N ∨ kPt N) from d), if_pos rfl]
      exact Or.inl ⟨rfl, rfl, c, hw⟩
  · have e : zX6_isName shC 27 M = some 0 := by
      unfold zX6_isName zjX6_isName_129 zjX6_isName_130
      rw [k7, if_neg c, rgd isB0]
    rw [if_neg c]
    exact Or.inr ⟨e, rfl⟩
/-- which axis has that name -/
theorem name_at {M N : zMem} {bb sb nA : Nat} (hC : rfC M bb sb sb) (hN : rfN N) (hs : sb = 1 ∨ sb = 13) (h3 : nA ≤ 3) (e6 : zI M sb 6 = nI nA) (e23 : zI N 0 23 = nI nA) (hn : ∀ a, a < nA → wRel (zI M (sb + 9 + a) 0) (zJ N 3 a)) (hw : wRel (zI M 27 5) (zJ N 0 12)) : ∃ r, zX1_axisNamed shC sb (zI M 27 5) M = some r ∧ zX12_nameAt shM 0 N = some r ∧ (r = -1 ∨ ∃ a, a < nA ∧ r = nI a) := by
  have e0 : zR M sb 0 = sb + 1 := (hC.b hs).1
  have hax := hC.b hs
  have e13 : zR N 0 13 = 3 := by simp only [hN.o]
  have er : ∀ a, a < 3 → zR M (sb + 1) a = sb + 9 + a := fun a ha => by
    rcases (show a = 0 ∨ a = 1 ∨ a = 2 by omega) with rfl | rfl | rfl
    · exact hax.2.2.2.2.2.2.1
    · exact hax.2.2.2.2.2.2.2.1
    · exact hax.2.2.2.2.2.2.2.2.1
  have l1 : zlen shC (sb + 1) = 3 := (lnB hs).1
  have loop : ∀ (r a F F' : Nat), a + r = nA → r < F → r < F' → ∃ v, zlX1_axisNamed_2 shC sb (zI M 27 5) M F (nI a) = some v ∧ zlX12_nameAt_2 shM 0 N F' (nI a) = some v ∧ (v = -1 ∨ ∃ a, a < nA ∧ v = nI a) := by
    intro r
    induction r with
    | zero =>
      intro a F F' h1 hF hF'
      obtain ⟨F, rfl⟩ : ∃ x, F = x + 1 := ⟨F - 1, by omega⟩
      obtain ⟨F', rfl⟩ : ∃ x, F' = x + 1 := ⟨F' - 1, by omega⟩
      simp only [zlX1_axisNamed_2, zlX12_nameAt_2]
      unfold zbX1_axisNamed_2 zbX12_nameAt_2
      rw [e6, e23, if_pos (nI_le (by omega) (by omega)), if_pos (nI_le (by omega) (by omega))]
      exact ⟨_, rfl, rfl, Or.inl rfl⟩
    | succ r ih =>
      intro a F F' h1 hF hF'
      obtain ⟨F, rfl⟩ : ∃ x, F = x + 1 := ⟨F - 1, by omega⟩
      obtain ⟨F', rfl⟩ : ∃ x, F' = x + 1 := ⟨F' - 1, by omega⟩
      have ha : zin (nI a) 3 = true := rin (by rw [nI_toInt (by omega)]; omega) (by rw [nI_toInt (by omega)]; omega)
      simp only [zlX1_axisNamed_2, zlX12_nameAt_2]
      unfold zbX1_axisNamed_2 zbX12_nameAt_2
      rw [e6, e23, if_neg (nI_ge (by omega) (by omega)), if_neg (nI_ge (by omega) (by omega)), e0, l1, rgd ha, nI_clamp (by omega), er a (by omega), e13, show zlen shM 3 = 3 from rfl, rgd ha, nI_1]
      have e := (hn a (by omega)).eq hw
      by_cases c : zJ N 3 a = zJ N 0 12
      · rw [if_pos (by rw [e]; exact c), if_pos (by rw [cmp_eq]; exact c)]
        exact ⟨_, rfl, rfl, Or.inr ⟨a, by omega, rfl⟩⟩
      · rw [if_neg (by rw [e]; exact c), if_neg (by rw [cmp_eq]; exact c)]
        exact ih (a + 1) F F' (by omega) (by omega) (by omega)
  unfold zX1_axisNamed zX12_nameAt
  exact loop nA 0 zF zF (by omega) (by unfold zF; omega) (by unfold zF; omega)
theorem nameAt_t {N : zMem} {nA : Nat} (hN : rfN N) (h3 : nA ≤ 3) (e23 : zI N 0 23 = nI nA) : ∃ r, zX12_nameAt shM 0 N = some r := by
  have e13 : zR N 0 13 = 3 := by simp only [hN.o]
  have loop : ∀ (r a F' : Nat), a + r = nA → r < F' → ∃ v, zlX12_nameAt_2 shM 0 N F' (nI a) = some v := by
    intro r
    induction r with
    | zero =>
      intro a F' h1 hF'
      obtain ⟨F', rfl⟩ : ∃ x, F' = x + 1 := ⟨F' - 1, by omega⟩
      simp only [zlX12_nameAt_2]
      unfold zbX12_nameAt_2
      rw [e23, if_pos (nI_le (by omega) (by omega))]
      exact ⟨_, rfl⟩
    | succ r ih =>
      intro a F' h1 hF'
      obtain ⟨F', rfl⟩ : ∃ x, F' = x + 1 := ⟨F' - 1, by omega⟩
      have ha : zin (nI a) 3 = true := rin (by rw [nI_toInt (by omega)]; omega) (by rw [nI_toInt (by omega)]; omega)
      simp only [zlX12_nameAt_2]
      unfold zbX12_nameAt_2
      rw [e23, if_neg (nI_ge (by omega) (by omega)), e13, show zlen shM 3 = 3 from rfl, rgd ha, nI_clamp (by omega), nI_1]
      by_cases c : lg_cmp (zJ N 3 a) (zJ N 0 12) = 0
      · rw [if_pos c]
        exact ⟨_, rfl⟩
      · rw [if_neg c]
        exact ih (a + 1) F' (by omega) (by omega)
  unfold zX12_nameAt
  exact loop nA 0 zF (by omega) (by unfold zF; omega)
/-- a word that must stand there -/
theorem word_tk {M N : zMem} {bb sb len p s k : Nat} {W : Int64} {tx : Nat → Int32} (h : rds M N bb sb len tx p s) (hk : kwd k W) : (∃ M1 N1 p1 s1, zX6_takeWord shC 27 k M = some (1, M1) ∧ zX12_must shM 0 W N = some N1 ∧ stC M M1 ∧ gnN N N1 ∧ rds M1 N1 bb sb len tx p1 s1 ∧ p ≤ s1) ∨ (∃ M1 N1, zX6_takeWord shC 27 k M = some (0, M1) ∧ zX12_must shM 0 W N = some N1 ∧ bad M1 N1 ∧ frC sb M M1 ∧ frN N N1) := by
  have hw := isWord_ok h.2.2.2.1 h.2.2.2.2.1 hk
  unfold zX6_takeWord zX12_must zjX12_must_28
  rw [hw.1, hw.2, rob, rob, h.2.2.2.2.1, if_pos (show (0 : Int32) ≤ 0 by decide)]
  by_cases c : zI N 0 6 = 1 ∧ zJ N 0 12 = W
  · rw [bI_t c, if_neg (by decide), if_neg (by decide)]
    obtain ⟨M1, N1, p1, s1, b1, b2, b3, b4, b5, b6⟩ := step_s h
    rw [b1, b2, rob, rob]
    exact Or.inl ⟨M1, N1, p1, s1, rfl, rfl, b3, b4, b5, b6⟩
  · rw [bI_f c, if_pos rfl, if_pos rfl]
    obtain ⟨M1, N1, b1, b2, b3, b4, b5⟩ := refuse_ok h (c := 2) (c' := 2) rfl (by omega) (by omega)
    rw [b1, b2, rob2, rob, rgd isB0]
    exact Or.inr ⟨M1, N1, rfl, rfl, b3, b4, b5⟩
/-- a step, and the number kept -/
def nmC (M M1 : zMem) : Prop := M1.2.2 = M.2.2 ∧ ∀ k j, ¬ (k = 27 ∧ 2 ≤ j ∧ j ≤ 6) → zI M1 k j = zI M k j
theorem nmC.tr {M M1 M2 : zMem} (h : nmC M M1) (g : nmC M1 M2) : nmC M M2 := ⟨g.1.trans h.1, fun k j a => (g.2 k j a).trans (h.2 k j a)⟩
theorem stC.n {M M1 : zMem} (h : stC M M1) : nmC M M1 := ⟨h.1, fun k j a => h.2 k j (by omega)⟩
theorem nmC.f {sb : Nat} {M M1 : zMem} (h : nmC M M1) : frC sb M M1 := ⟨h.1, fun k j a _ => h.2 k j (by omega)⟩
/-- a number that must stand there -/
theorem num_tk {M N : zMem} {bb sb len p s lo hi : Nat} {tx : Nat → Int32} (h : rds M N bb sb len tx p s) {lo' hi' : Int32} (elo : lo' = nI lo) (ehi : hi' = nI hi) (hlo : lo ≤ 100000) (hhi : hi ≤ 100000) : (∃ M1 N1 p1 s1 v, lo ≤ v ∧ v ≤ hi ∧ zX6_takeNumber shC 27 lo' hi' M = some (1, M1) ∧ zX12_number shM 0 lo' hi' N = some (nI v, N1) ∧ nmC M M1 ∧ gnN N N1 ∧ rds M1 N1 bb sb len tx p1 s1 ∧ zI M1 27 6 = nI v ∧ p ≤ s1) ∨ (∃ M1 N1 x, zX6_takeNumber shC 27 lo' hi' M = some (0, M1) ∧ zX12_number shM 0 lo' hi' N = some (x, N1) ∧ bad M1 N1 ∧ frC sb M M1 ∧ frN N N1) := by
  subst elo ehi
  have h' := h
  obtain ⟨g1, g2, g3, g4, g5, g6⟩ := h'
  have g4' := g4
  obtain ⟨k1, k2, k3, k4, k5, k6, k7, k8⟩ := g4'
  unfold zX6_takeNumber zX12_number zX12_numberHere zjX12_numberHere_47 zjX12_number_19
  rw [k7, g5, if_pos (show (0 : Int32) ≤ 0 by decide)]
  by_cases c : zI N 0 6 = 2
  · have hv : ∃ v : Nat, v ≤ 99999 ∧ zI M 27 5 = nI v ∧ zI N 0 7 = nI v := by
      rcases k8 with q | ⟨_, ⟨q, _⟩ | ⟨_, q⟩ | q | q | q⟩
      · rw [c] at q; exact absurd q (by decide)
      · rw [c] at q; exact absurd q (by decide)
      · exact q
      · rw [c] at q; exact absurd q (by decide)
      · rw [c] at q; exact absurd q (by decide)
      · rw [c] at q; exact absurd q (by decide)
    obtain ⟨v, v1, v2, v3⟩ := hv
    have e1 : (1 : Int32) * nI v = nI v := by rw [iI_n, show (1 : Int32) = iI 1 from rfl, iI_mul, Int.one_mul]
    rw [if_pos c, if_pos c, within_eq, rob, v2, v3, e1, isIn_eq, rob, Int32.toInt_toInt64, Int32.toInt_toInt64, Int32.toInt_toInt64, nI_toInt (by omega), nI_toInt (by omega), nI_toInt (by omega)]
    by_cases d : lo ≤ v ∧ v ≤ hi
    · rw [bI_t (show nI lo ≤ nI v ∧ nI v ≤ nI hi from ⟨nI_le d.1 (by omega), nI_le d.2 (by omega)⟩), bI_t (show (lo : Int) ≤ v ∧ (v : Int) ≤ hi by omega), if_neg (by decide), if_neg (by decide), rob2, good_1 g5, rob, if_neg (by decide), rbd]
      have sM : nmC M (zpI M 27 6 (nI v)) := ⟨rfl, fun k j a => by rw [rI_pI, if_neg (by omega)]⟩
      have h2 : rds (zpI M 27 6 (nI v)) N bb sb len tx p s := by
        refine ⟨g1, g2, g3.sm (sM.2 25 1 (by omega)) (fun i => sM.2 26 i (by omega)) rfl (fun _ => rfl), ?_, g5, (sM.2 27 7 (by omega)).trans g6.1, (sM.2 27 8 (by omega)).trans g6.2.1, g6.2.2⟩
        unfold rdk
        rw [rI_pI, if_neg (by omega), rI_pI, if_neg (by omega), rI_pI, if_neg (by omega), rI_pI, if_neg (by omega)]
        exact g4
      obtain ⟨M1, N1, p1, s1, b1, b2, b3, b4, b5, b6⟩ := step_s h2
      have b7 := b3.2 27 6 (by omega)
      rw [b1, b2, rob, rob]
      exact Or.inl ⟨M1, N1, p1, s1, v, d.1, d.2, rfl, rfl, sM.tr b3.n, b4, b5, b7.trans (by rw [rI_pI, if_pos ⟨rfl, rfl⟩]), b6⟩
    · have d' : ¬ (nI lo ≤ nI v ∧ nI v ≤ nI hi) := fun q => by
        have q1 := r_le.mp q.1
        have q2 := r_le.mp q.2
        rw [nI_toInt (by omega), nI_toInt (by omega)] at q1 q2
        omega
      obtain ⟨M1, N1, b1, b2, b3, b4, b5⟩ := refuse_ok h (c := 4) (c' := 4) rfl (by omega) (by omega)
      rw [bI_f d', bI_f (show ¬ ((lo : Int) ≤ v ∧ (v : Int) ≤ hi) by omega), if_pos rfl, if_pos rfl, b1, b2, rob2, rob, rgd isB0, rob2, good_0 b3, rob, if_pos rfl]
      exact Or.inr ⟨M1, N1, _, rfl, rfl, b3, b4, b5⟩
  · obtain ⟨M1, N1, b1, b2, b3, b4, b5⟩ := refuse_ok h (c := 2) (c' := 2) rfl (by omega) (by omega)
    rw [if_neg c, if_neg c, b1, b2, rob2, rob, rgd isB0, rob2, good_0 b3, rob, if_pos rfl]
    exact Or.inr ⟨M1, N1, _, rfl, rfl, b3, b4, b5⟩
theorem number_b {M N : zMem} (h : bad M N) (lo hi : Int32) : zX12_number shM 0 lo hi N = some (0, N) := by
  unfold zX12_number zX12_numberHere zjX12_number_19
  rw [if_neg (bad_n h).2, rob2, good_0 h, rob, if_pos rfl]
theorem behind_b {M N : zMem} (h : bad M N) (W : Int64) (lo hi : Int32) : zX12_behind shM 0 W lo hi N = some (0, N) := by
  unfold zX12_behind zX12_must
  rw [if_neg (bad_n h).2, rob, number_b h, rob2]
/-- a word and a number behind it -/
theorem behind_ok {M N : zMem} {bb sb len p s k lo hi : Nat} {W : Int64} {tx : Nat → Int32} (h : rds M N bb sb len tx p s) (hk : kwd k W) {lo' hi' : Int32} (elo : lo' = nI lo) (ehi : hi' = nI hi) (hlo : lo ≤ 100000) (hhi : hi ≤ 100000) : (∃ M1 N1 p1 s1 v, lo ≤ v ∧ v ≤ hi ∧ (∀ G : zMem → Option (Int32 × zMem), (zob2 (zX6_takeWord shC 27 k M) fun r M' => if r = 0 then some (0, M') else zob2 (zX6_takeNumber shC 27 lo' hi' M') fun r' M'' => if r' = 0 then some (0, M'') else G M'') = G M1) ∧ zX12_behind shM 0 W lo' hi' N = some (nI v, N1) ∧ nmC M M1 ∧ gnN N N1 ∧ rds M1 N1 bb sb len tx p1 s1 ∧ zI M1 27 6 = nI v ∧ p ≤ p1) ∨ (∃ M1 N1 x, (∀ G : zMem → Option (Int32 × zMem), (zob2 (zX6_takeWord shC 27 k M) fun r M' => if r = 0 then some (0, M') else zob2 (zX6_takeNumber shC 27 lo' hi' M') fun r' M'' => if r' = 0 then some (0, M'') else G M'') = some (0, M1)) ∧ zX12_behind shM 0 W lo' hi' N = some (x, N1) ∧ bad M1 N1 ∧ frC sb M M1 ∧ frN N N1) := by
  unfold zX12_behind
  rcases word_tk h hk with ⟨M1, N1, p1, s1, b1, b2, b3, b4, b5, b6⟩ | ⟨M1, N1, b1, b2, b3, b4, b5⟩
  · rcases num_tk b5 elo ehi hlo hhi with ⟨M2, N2, p2, s2, v, v1, v2, c1, c2, c3, c4, c5, c6, c7⟩ | ⟨M2, N2, x, c1, c2, c3, c4, c5⟩
    · have q1 := b5.2.2.2.1.2.2.2.2.2.1
      have q2 := c5.2.2.2.1.2.2.2.2.2.1
      refine Or.inl ⟨M2, N2, p2, s2, v, v1, v2, fun G => ?_, ?_, b3.n.tr c3, b4.tr c4, c5, c6, by omega⟩
      · rw [b1, rob2, if_neg (by decide), c1, rob2, if_neg (by decide)]
      · rw [b2, rob, c2, rob2]
    · refine Or.inr ⟨M2, N2, x, fun G => ?_, ?_, c3, b3.f.tr c4, b4.f.tr c5⟩
      · rw [b1, rob2, if_neg (by decide), c1, rob2, if_pos rfl]
      · rw [b2, rob, c2, rob2]
  · refine Or.inr ⟨M1, N1, 0, fun G => ?_, ?_, b3, b4, b5⟩
    · rw [b1, rob2, if_pos rfl]
    · rw [b2, rob, number_b b3, rob2]
/-- the end of a line -/
theorem stop_ok {M N : zMem} {bb sb len p s : Nat} {tx : Nat → Int32} (h : rds M N bb sb len tx p s) : (∃ M1 N1 p1 s1, zX6_takeStop shC 27 M = some (1, M1) ∧ zjX12_line_90 shM 0 N = some N1 ∧ stC M M1 ∧ gnN N N1 ∧ rds M1 N1 bb sb len tx p1 s1 ∧ p ≤ s1) ∨ (∃ M1 N1, zX6_takeStop shC 27 M = some (0, M1) ∧ zjX12_line_90 shM 0 N = some N1 ∧ bad M1 N1 ∧ frC sb M M1 ∧ frN N N1) := by
  have k7 := h.2.2.2.1.2.2.2.2.2.2.1
  unfold zX6_takeStop zjX12_line_90 zjX12_line_110 zjX12_line_121
  rw [k7, good_1 h.2.2.2.2.1, rob, if_neg n1_0]
  by_cases c : zI N 0 6 = 4
  · rw [if_pos c, if_pos c, rob, if_neg (by decide)]
    obtain ⟨M1, N1, p1, s1, b1, b2, b3, b4, b5, b6⟩ := step_s h
    rw [b1, b2, rob, rob]
    exact Or.inl ⟨M1, N1, p1, s1, rfl, rfl, b3, b4, b5, b6⟩
  · obtain ⟨M1, N1, b1, b2, b3, b4, b5⟩ := refuse_ok h (c := 2) (c' := 2) rfl (by omega) (by omega)
    rw [if_neg c, if_neg c, b1, b2, rob2, rgd isB0, rob, good_0 b3, rob, if_pos rfl]
    exact Or.inr ⟨M1, N1, rfl, rfl, b3, b4, b5⟩
theorem stop_b {M N : zMem} (h : bad M N) : zjX12_line_90 shM 0 N = some N := by
  unfold zjX12_line_90 zjX12_line_110 zjX12_line_121
  rw [good_0 h, rob, if_pos rfl, rob, if_pos rfl]
