/-! Phase B: a step of the reader -/
/-- the token at hand, told by both -/
def rdk (M N : zMem) (len p s : Nat) : Prop := zI M 27 2 = nI p ∧ zI N 0 4 = nI p ∧ p ≤ len ∧ zI M 27 4 = nI s ∧ zI N 0 5 = nI s ∧ s ≤ p ∧ zI M 27 3 = zI N 0 6 ∧ (zI N 0 6 = 0 ∨ (s < p ∧ ((zI N 0 6 = 1 ∧ wRel (zI M 27 5) (zJ N 0 12)) ∨ (zI N 0 6 = 2 ∧ ∃ v : Nat, v ≤ 99999 ∧ zI M 27 5 = nI v ∧ zI N 0 7 = nI v) ∨ zI N 0 6 = 3 ∨ zI N 0 6 = 4 ∨ zI N 0 6 = 5)))
theorem kNm_2 {tx : Nat → Int32} {i n : Nat} : (kNm tx i n = 2 ∧ n ≤ 5) ∨ kNm tx i n = 5 := by
  unfold kNm
  by_cases c : 5 < n
  · rw [if_pos c]; exact Or.inr rfl
  · rw [if_neg c]
    by_cases d : lp (tx (i + n))
    · rw [if_pos d]; exact Or.inr rfl
    · rw [if_neg d]; exact Or.inl ⟨rfl, by omega⟩
theorem one_tok {M N : zMem} {len i : Nat} (x : Int32) (hi : i < len) (hx : x = 3 ∨ x = 4 ∨ x = 5) : rdk (zpI (zpI (zpI M 27 4 (nI i)) 27 3 x) 27 2 (nI (i + 1))) (zpI (zpI (zpI (zpJ (zpI N 0 5 (nI i)) 0 12 0) 0 7 0) 0 6 x) 0 4 (nI (i + 1))) len (i + 1) i := by
  have e6 : zI (zpI (zpI (zpI (zpJ (zpI N 0 5 (nI i)) 0 12 0) 0 7 0) 0 6 x) 0 4 (nI (i + 1))) 0 6 = x := by
    rw [rI_pI, if_neg (by omega), rI_pI, if_pos ⟨rfl, rfl⟩]
  refine ⟨by rw [rI_pI, if_pos ⟨rfl, rfl⟩], by rw [rI_pI, if_pos ⟨rfl, rfl⟩], by omega, by rw [rI_pI, if_neg (by omega), rI_pI, if_neg (by omega), rI_pI, if_pos ⟨rfl, rfl⟩], by rw [rI_pI, if_neg (by omega), rI_pI, if_neg (by omega), rI_pI, if_neg (by omega), rI_pJ, rI_pI, if_pos ⟨rfl, rfl⟩], by omega, by rw [e6, rI_pI, if_neg (by omega), rI_pI, if_pos ⟨rfl, rfl⟩], ?_⟩
  rw [e6]
  exact Or.inr ⟨by omega, Or.inr (Or.inr hx)⟩
theorem tail_ok {M N : zMem} {bb sb it len i : Nat} {tx : Nat → Int32} (kk : zMem → Option zMem) (hC : rfC M bb sb it) (hN : rfN N) (hT : txt M N len tx) (h4 : zI N 0 4 = nI i) (hi : i ≤ len) (hb : ¬ blp (tx i)) : ∃ M1 N1 p, zjX6_step_36 shC 27 (nI i) M = some M1 ∧ zbX12_goOn_0 shM 0 kk N = some N1 ∧ stC M M1 ∧ gnN N N1 ∧ rdk M1 N1 len p i := by
  have hl := hT.1
  have e0 : zR (zpI M 27 4 (nI i)) 27 0 = 25 := by rw [rR_pI]; simp only [hC.o]
  have sM : stC M (zpI M 27 4 (nI i)) := stC.p (by omega)
  have gN : gnN N (zpI (zpJ (zpI N 0 5 (nI i)) 0 12 0) 0 7 0) := ((gnN.p (by omega)).tr gnN.pJ).tr (gnN.p (by omega))
  have hT' := hT.st sM gN
  have hC' : rfC (zpI M 27 4 (nI i)) bb sb it := hC
  have hN' : rfN (zpI (zpJ (zpI N 0 5 (nI i)) 0 12 0) 0 7 0) := hN
  have h4' : zI (zpI (zpJ (zpI N 0 5 (nI i)) 0 12 0) 0 7 0) 0 4 = nI i := by rw [rI_pI, if_neg (by omega), rI_pJ, rI_pI, if_neg (by omega)]; exact h4
  have hh := hereM (k := 0) hN hT h4 (by omega)
  have hh' := hereM (k := 0) hN' hT' h4' (by omega)
  have hh : zX12_here shM 0 0 N = some (tx i) := hh
  have hh' : zX12_here shM 0 0 (zpI (zpJ (zpI N 0 5 (nI i)) 0 12 0) 0 7 0) = some (tx i) := hh'
  have nb1 : ¬ tx i = 32 := fun h => hb (Or.inl h)
  have nb2 : ¬ tx i = 10 := fun h => hb (Or.inr h)
  unfold zjX6_step_36 zbX12_goOn_0
  rw [hh, rob, if_neg nb1, rob, if_neg nb2]
  simp only [rbd]
  rw [h4, hh', e0, byteC hC' hT' (by omega)]
  simp only [rob, letC, letM, digC, digM]
  by_cases c0 : i < len
  · have hpos := (hT.2.2.2.1 i c0).2.2
    rw [if_neg (show ¬ tx i = -1 from fun h => by rw [h] at hpos; exact absurd hpos (by decide)), if_pos (show (0 : Int32) ≤ tx i from r_le.mpr hpos)]
    by_cases c1 : lp (tx i)
    · rw [bI_t c1, if_neg (by decide), if_neg (by decide)]
      obtain ⟨n, g1, g2, g3⟩ := run_ex (fun j => lp (tx j)) (len := len) (fun j hj h => by
        have : lp (tx j) := h
        rw [hT.2.2.2.2 j hj] at this
        exact absurd this (by decide)) (len - i) i (by omega)
      have n1 : 1 ≤ n := by
        by_cases q : n = 0
        · subst q; exact absurd c1 g3
        · omega
      obtain ⟨M1, b1, b2, b3, b4, b5, b6⟩ := wordC_lp (N := zpI (zpJ (zpI N 0 5 (nI i)) 0 12 0) 0 7 0) g1 g2 g3 n 0 zF (zpI (zpI M 27 4 (nI i)) 27 5 0) (by omega) (by unfold zF; omega) hC (hT'.st (stC.p (by omega)) (gnN.rf _)) (by rw [rI_pI, if_neg (by omega), rI_pI, if_pos ⟨rfl, rfl⟩]) (by rw [rI_pI, if_pos ⟨rfl, rfl⟩]; rfl)
      obtain ⟨N1, d1, d2, d3, d4, d5, d6⟩ := wordM_lp (M := zpI M 27 4 (nI i)) g1 g2 g3 n 0 zF (zpI (zpJ (zpI N 0 5 (nI i)) 0 12 0) 0 7 0) (by omega) (by unfold zF; omega) hN' hT' h4' (by rw [rJ_pI, rJ_pJ, if_pos ⟨rfl, rfl⟩]; rfl)
      have d6 : zI N1 0 5 = nI i := d6.trans (by rw [rI_pI, if_neg (by omega), rI_pJ, rI_pI, if_pos ⟨rfl, rfl⟩])
      refine ⟨M1, N1, i + n, ?_, d1, (sM.tr (stC.p (by omega))).tr b2, gN.tr d2, b5, d5, g1, b6, d6, by omega, by rw [b4, d4], Or.inr ⟨by omega, ?_⟩⟩
      · unfold zX6_stepWord
        rw [rbd, show zI (zpI M 27 4 (nI i)) 27 4 = nI (i + 0) from by rw [rI_pI, if_pos ⟨rfl, rfl⟩]; rfl, b1]
        rfl
      · rw [d4]
        by_cases c6 : n ≤ 6
        · rw [if_pos c6]
          refine Or.inl ⟨rfl, lst tx i n, ?_, ?_, b3, ?_⟩
          · rw [(lst_ok n g2).1]; exact c6
          · exact (lst_ok n g2).2
          · rw [d3, show min n 6 = n by omega]
        · rw [if_neg c6]
          exact Or.inr (Or.inr (Or.inr (Or.inr rfl)))
    · rw [bI_f c1, if_pos rfl, if_pos rfl]
      by_cases c2 : dgp (tx i)
      · rw [bI_t c2, if_neg (by decide), if_neg (by decide)]
        obtain ⟨n, g1, g2, g3⟩ := run_ex (fun j => dgp (tx j)) (len := len) (fun j hj h => by
          have : dgp (tx j) := h
          rw [hT.2.2.2.2 j hj] at this
          exact absurd this (by decide)) (len - i) i (by omega)
        have n1 : 1 ≤ n := by
          by_cases q : n = 0
          · subst q; exact absurd c2 g3
          · omega
        obtain ⟨M1, b1, b2, b3, b4, b5, b6⟩ := numC_lp (N := zpI (zpJ (zpI N 0 5 (nI i)) 0 12 0) 0 7 0) g1 g2 g3 n 0 zF (zpI (zpI M 27 4 (nI i)) 27 5 0) (by omega) (by unfold zF; omega) hC (hT'.st (stC.p (by omega)) (gnN.rf _)) (by rw [rI_pI, if_neg (by omega), rI_pI, if_pos ⟨rfl, rfl⟩]) (by rw [rI_pI, if_pos ⟨rfl, rfl⟩]; rfl)
        obtain ⟨N1, d1, d2, d3, d4, d5, d6⟩ := numM_lp (M := zpI M 27 4 (nI i)) g1 g2 g3 n 0 zF (zpI (zpJ (zpI N 0 5 (nI i)) 0 12 0) 0 7 0) (by omega) (by unfold zF; omega) hN' hT' h4' (by rw [rI_pI, if_pos ⟨rfl, rfl⟩]; rfl)
        have d6 : zI N1 0 5 = nI i := d6.trans (by rw [rI_pI, if_neg (by omega), rI_pJ, rI_pI, if_pos ⟨rfl, rfl⟩])
        refine ⟨M1, N1, i + n, ?_, d1, (sM.tr (stC.p (by omega))).tr b2, gN.tr d2, b5, d5, g1, b6, d6, by omega, by rw [b4, d4], Or.inr ⟨by omega, ?_⟩⟩
        · unfold zX6_stepNumber
          rw [rbd, show zI (zpI M 27 4 (nI i)) 27 4 = nI (i + 0) from by rw [rI_pI, if_pos ⟨rfl, rfl⟩]; rfl, b1]
          rfl
        · rw [d4]
          rcases kNm_2 (tx := tx) (i := i) (n := n) with ⟨e, e5⟩ | e
          · rw [e]
            have hb5 := nmb_b n g2
            have : 10 ^ n ≤ 10 ^ 5 := Nat.pow_le_pow_right (by omega) e5
            exact Or.inr (Or.inl ⟨rfl, nmb tx i n, by omega, b3, by rw [d3, show min n 5 = n by omega]⟩)
          · rw [e]
            exact Or.inr (Or.inr (Or.inr (Or.inr rfl)))
      · rw [bI_f c2, if_pos rfl, if_pos rfl]
        unfold zjX12_goOn_248 zjX12_goOn_253 zjX6_step_118 zjX6_step_128
        have e4 : ∀ v : Int32, zI (zpI (zpI (zpJ (zpI N 0 5 (nI i)) 0 12 0) 0 7 0) 0 6 v) 0 4 = nI i := fun v => by rw [rI_pI, if_neg (by omega)]; exact h4'
        have fin : ∀ x : Int32, x = 3 ∨ x = 4 ∨ x = 5 → ∃ M1 N1 p, (zbd (zpI (zpI M 27 4 (nI i)) 27 3 x) fun M_1 => zbd (zpI M_1 27 2 (nI i + 1)) fun M_2 => some M_2) = some M1 ∧ (zbd (zpI (zpI (zpJ (zpI N 0 5 (nI i)) 0 12 0) 0 7 0) 0 6 x) fun M_3 => zbd (zpI M_3 0 4 (zI M_3 0 4 + 1)) fun M_2 => some M_2) = some N1 ∧ stC M M1 ∧ gnN N N1 ∧ rdk M1 N1 len p i := fun x hx => by
          rw [rbd, rbd, rbd, rbd, e4, nI_1]
          exact ⟨_, _, i + 1, rfl, rfl, (sM.tr (stC.p (by omega))).tr (stC.p (by omega)), (gN.tr (gnN.p (by omega))).tr (gnN.p (by omega)), one_tok x c0 hx⟩
        by_cases c3 : tx i = 45
        · rw [if_pos c3, if_pos c3]
          exact fin 3 (Or.inl rfl)
        · rw [if_neg c3, if_neg c3]
          by_cases c4 : tx i = 59
          · rw [if_pos c4, if_pos c4]
            exact fin 4 (Or.inr (Or.inl rfl))
          · rw [if_neg c4, if_neg c4]
            exact fin 5 (Or.inr (Or.inr rfl))
  · have ht := hT.2.2.2.2 i (by omega)
    rw [if_pos ht, if_neg (show ¬ (0 : Int32) ≤ tx i from by rw [ht]; decide)]
    refine ⟨_, _, i, rfl, rfl, (sM.tr (stC.p (by omega))).tr (stC.p (by omega)), gN.tr (gnN.p (by omega)), ?_⟩
    have e6 : zI (zpI (zpI (zpJ (zpI N 0 5 (nI i)) 0 12 0) 0 7 0) 0 6 0) 0 6 = 0 := by rw [rI_pI, if_pos ⟨rfl, rfl⟩]
    refine ⟨by rw [rI_pI, if_pos ⟨rfl, rfl⟩], by rw [rI_pI, if_neg (by omega)]; exact h4', hi, by rw [rI_pI, if_neg (by omega), rI_pI, if_neg (by omega), rI_pI, if_pos ⟨rfl, rfl⟩], by rw [rI_pI, if_neg (by omega), rI_pI, if_neg (by omega), rI_pJ, rI_pI, if_pos ⟨rfl, rfl⟩], by omega, by rw [e6, rI_pI, if_neg (by omega), rI_pI, if_pos ⟨rfl, rfl⟩], Or.inl e6⟩
theorem step_ok {M N : zMem} {bb sb it len p : Nat} {tx : Nat → Int32} (hC : rfC M bb sb it) (hN : rfN N) (hT : txt M N len tx) (h2 : zI M 27 2 = nI p) (h4 : zI N 0 4 = nI p) (hp : p ≤ len) : ∃ M1 N1 p1 s1, zX6_step shC 27 M = some M1 ∧ zX12_goOn shM 0 N = some N1 ∧ stC M M1 ∧ gnN N N1 ∧ rdk M1 N1 len p1 s1 ∧ p ≤ s1 := by
  have hl := hT.1
  have e0 : zR M 27 0 = 25 := by simp only [hC.o]
  have loop : ∀ (r i F F' : Nat) (N : zMem), i + r = len → r < F → r < F' → rfN N → txt M N len tx → zI N 0 4 = nI i → ∃ M1 N1 p1 s1, zlX6_step_5 shC 27 F (nI i) M = some M1 ∧ zlX12_goOn_0 shM 0 F' N = some N1 ∧ stC M M1 ∧ gnN N N1 ∧ rdk M1 N1 len p1 s1 ∧ i ≤ s1 := by
    intro r
    induction r with
    | zero =>
      intro i F F' N h1 hF hF' hN hT h4
      obtain ⟨F, rfl⟩ : ∃ x, F = x + 1 := ⟨F - 1, by omega⟩
      obtain ⟨F', rfl⟩ : ∃ x, F' = x + 1 := ⟨F' - 1, by omega⟩
      obtain ⟨M1, N1, p, b1, b2, b3, b4, b5⟩ := tail_ok (zlX12_goOn_0 shM 0 F') hC hN hT h4 (by omega) (by rw [hT.2.2.2.2 i (by omega)]; decide)
      refine ⟨M1, N1, p, i, ?_, ?_, b3, b4, b5, Nat.le_refl _⟩
      · simp only [zlX6_step_5]
        unfold zbX6_step_5
        rw [e0, hT.2.1, if_pos (nI_le (by omega) (by omega))]
        exact b1
      · simp only [zlX12_goOn_0]
        exact b2
    | succ r ih =>
      intro i F F' N h1 hF hF' hN hT h4
      obtain ⟨F, rfl⟩ : ∃ x, F = x + 1 := ⟨F - 1, by omega⟩
      obtain ⟨F', rfl⟩ : ∃ x, F' = x + 1 := ⟨F' - 1, by omega⟩
      by_cases c : blp (tx i)
      · obtain ⟨M1, N1, p, s, b1, b2, b3, b4, b5, b6⟩ := ih (i + 1) F F' (zpI N 0 4 (nI (i + 1))) (by omega) (by omega) (by omega) hN (hT.st (stC.rf M) (gnN.p (by omega))) (by rw [rI_pI, if_pos ⟨rfl, rfl⟩])
        refine ⟨M1, N1, p, s, ?_, ?_, b3, (gnN.p (by omega)).tr b4, b5, by omega⟩
        · simp only [zlX6_step_5]
          unfold zbX6_step_5
          rw [e0, hT.2.1, if_neg (nI_ge (by omega) (by omega)), byteC hC hT (by omega), rob, blC, rob, bI_t c, if_neg (by decide), nI_1]
          exact b1
        · have hh : zX12_here shM 0 0 N = some (tx i) := hereM (k := 0) hN hT h4 (by omega)
          simp only [zlX12_goOn_0]
          unfold zbX12_goOn_0 zjX12_goOn_20
          rw [hh, rob, rob, rbd, h4, nI_1]
          by_cases c1 : tx i = 32
          · rw [if_pos c1]
            exact b2
          · rw [if_neg c1, if_pos (c.resolve_left c1)]
            exact b2
      · obtain ⟨M1, N1, p, b1, b2, b3, b4, b5⟩ := tail_ok (zlX12_goOn_0 shM 0 F') hC hN hT h4 (by omega) c
        refine ⟨M1, N1, p, i, ?_, ?_, b3, b4, b5, Nat.le_refl _⟩
        · simp only [zlX6_step_5]
          unfold zbX6_step_5
          rw [e0, hT.2.1, if_neg (nI_ge (by omega) (by omega)), byteC hC hT (by omega), rob, blC, rob, bI_f c, if_pos rfl]
          exact b1
        · simp only [zlX12_goOn_0]
          exact b2
  unfold zX6_step zX12_goOn
  rw [h2]
  exact loop (len - p) p zF zF N (by omega) (by unfold zF; omega) (by unfold zF; omega) hN hT h4
