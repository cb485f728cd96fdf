/-! Phase B: the tokens of a text -/
def txt (M N : zMem) (len : Nat) (tx : Nat → Int32) : Prop := len ≤ 900 ∧ zI M 25 1 = nI len ∧ zI N 0 3 = nI len ∧ (∀ i, i < len → zI M 26 i &&& 255 = tx i ∧ zI N 2 i = tx i ∧ 0 ≤ (tx i).toInt) ∧ ∀ i, len ≤ i → tx i = -1
theorem txt.sm {M N M1 N1 : zMem} {len : Nat} {tx : Nat → Int32} (h : txt M N len tx) (a1 : zI M1 25 1 = zI M 25 1) (a2 : ∀ i, zI M1 26 i = zI M 26 i) (b1 : zI N1 0 3 = zI N 0 3) (b2 : ∀ i, zI N1 2 i = zI N 2 i) : txt M1 N1 len tx := ⟨h.1, a1.trans h.2.1, b1.trans h.2.2.1, fun i hi => by rw [a2, b2]; exact h.2.2.2.1 i hi, h.2.2.2.2⟩
/-- what a step touches in the class, and in the reference -/
def stC (M M1 : zMem) : Prop := M1.2.2 = M.2.2 ∧ ∀ k j, ¬ (k = 27 ∧ 2 ≤ j ∧ j ≤ 5) → zI M1 k j = zI M k j
def gnN (N N1 : zMem) : Prop := N1.2.2 = N.2.2 ∧ (∀ k j, ¬ (k = 0 ∧ 4 ≤ j ∧ j ≤ 7) → zI N1 k j = zI N k j) ∧ ∀ k j, ¬ (k = 0 ∧ j = 12) → zJ N1 k j = zJ N k j
theorem stC.rf (M : zMem) : stC M M := ⟨rfl, fun _ _ _ => rfl⟩
theorem stC.tr {M M1 M2 : zMem} (h : stC M M1) (g : stC M1 M2) : stC M M2 := ⟨g.1.trans h.1, fun k j a => (g.2 k j a).trans (h.2 k j a)⟩
theorem stC.p {M : zMem} {j : Nat} {v : Int32} (h : 2 ≤ j ∧ j ≤ 5) : stC M (zpI M 27 j v) := ⟨rfl, fun k j' a => by rw [rI_pI, if_neg (by omega)]⟩
theorem gnN.rf (N : zMem) : gnN N N := ⟨rfl, fun _ _ _ => rfl, fun _ _ _ => rfl⟩
theorem gnN.tr {N N1 N2 : zMem} (h : gnN N N1) (g : gnN N1 N2) : gnN N N2 := ⟨g.1.trans h.1, fun k j a => (g.2.1 k j a).trans (h.2.1 k j a), fun k j a => (g.2.2 k j a).trans (h.2.2 k j a)⟩
theorem gnN.p {N : zMem} {j : Nat} {v : Int32} (h : 4 ≤ j ∧ j ≤ 7) : gnN N (zpI N 0 j v) := ⟨rfl, fun k j' a => by rw [rI_pI, if_neg (by omega)], fun _ _ _ => rfl⟩
theorem gnN.pJ {N : zMem} {v : Int64} : gnN N (zpJ N 0 12 v) := ⟨rfl, fun _ _ _ => rfl, fun k j a => by rw [rJ_pJ, if_neg a]⟩
theorem txt.st {M N M1 N1 : zMem} {len : Nat} {tx : Nat → Int32} (h : txt M N len tx) (a : stC M M1) (b : gnN N N1) : txt M1 N1 len tx := h.sm (a.2 25 1 (by omega)) (fun i => a.2 26 i (by omega)) (b.2.1 0 3 (by omega)) (fun i => b.2.1 2 i (by omega))
theorem byteC {M N : zMem} {bb sb it len i : Nat} {tx : Nat → Int32} (hC : rfC M bb sb it) (hT : txt M N len tx) (hi : i < 3000) : zX10_byteAt shC 25 (nI i) M = some (tx i) := by
  have e25 : zR M 25 0 = 26 := by simp only [hC.o]
  have hl := hT.1
  unfold zX10_byteAt zjX10_byteAt_34 zjX10_byteAt_35
  rw [hT.2.1, e25, if_neg (show ¬ nI i < 0 from nI_nlt (b := 0) (by omega) (by omega))]
  by_cases c : i < len
  · rw [if_neg (nI_ge c (by omega)), show zlen shC 26 = 900 from rfl, if_neg (show ¬ Int32.ofNat 900 ≤ nI i from nI_ge (b := 900) (by omega) (by omega)), rgd (rin (by rw [nI_toInt (by omega)]; omega) (by rw [nI_toInt (by omega)]; omega)), nI_clamp (by omega), (hT.2.2.2.1 i c).1]
  · rw [if_pos (nI_le (by omega) (by omega)), hT.2.2.2.2 i (by omega)]
theorem hereM {M N : zMem} {len p k : Nat} {tx : Nat → Int32} (hN : rfN N) (hT : txt M N len tx) (hp : zI N 0 4 = nI p) (hk : p + k < 3000) : zX12_here shM 0 (nI k) N = some (tx (p + k)) := by
  have e1 : zR N 0 1 = 2 := by simp only [hN.o]
  have hl := hT.1
  unfold zX12_here zjX12_here_28
  rw [hT.2.2.1, hp, e1, nI_add]
  by_cases c : p + k < len
  · rw [if_neg (nI_ge c (by omega)), show zlen shM 2 = 900 from rfl, rgd (rin (by rw [nI_toInt (by omega)]; omega) (by rw [nI_toInt (by omega)]; omega)), nI_clamp (by omega), (hT.2.2.2.1 _ c).2.1]
  · rw [if_pos (nI_le (by omega) (by omega)), hT.2.2.2.2 _ (by omega)]
abbrev lp (x : Int32) : Prop := 97 ≤ x.toInt ∧ x.toInt ≤ 122
abbrev dgp (x : Int32) : Prop := 48 ≤ x.toInt ∧ x.toInt ≤ 57
abbrev blp (x : Int32) : Prop := x = 32 ∨ x = 10
theorem letC {sh : zShp} {M : zMem} (x : Int32) : zX6_isLetter sh x M = some (bI (lp x)) := by
  unfold zX6_isLetter zjX6_isLetter_16 zjX6_isLetter_17
  rw [rgd isB0, rgd isB1]
  simp only [r_lt, show (97 : Int32).toInt = 97 from rfl, show (122 : Int32).toInt = 122 from rfl]
  by_cases c : lp x
  · rw [bI_t c]; unfold lp at c; rw [if_neg (by omega), if_neg (by omega)]
  · rw [bI_f c]; unfold lp at c
    by_cases d : x.toInt < 97
    · rw [if_pos d]
    · rw [if_neg d, if_pos (by omega)]
theorem letM {sh : zShp} {M : zMem} (x : Int32) : zX12_isLetter sh x M = some (bI (lp x)) := by
  unfold zX12_isLetter zjX12_isLetter_16 zjX12_isLetter_17
  rw [rgd isB0, rgd isB1]
  simp only [r_lt, show (97 : Int32).toInt = 97 from rfl, show (122 : Int32).toInt = 122 from rfl]
  by_cases c : lp x
  · rw [bI_t c]; unfold lp at c; rw [if_neg (by omega), if_neg (by omega)]
  · rw [bI_f c]; unfold lp at c
    by_cases d : x.toInt < 97
    · rw [if_pos d]
    · rw [if_neg d, if_pos (by omega)]
theorem digC {sh : zShp} {M : zMem} (x : Int32) : zX6_isDigit sh x M = some (bI (dgp x)) := by
  unfold zX6_isDigit zjX6_isDigit_16 zjX6_isDigit_17
  rw [rgd isB0, rgd isB1]
  simp only [r_lt, show (48 : Int32).toInt = 48 from rfl, show (57 : Int32).toInt = 57 from rfl]
  by_cases c : dgp x
  · rw [bI_t c]; unfold dgp at c; rw [if_neg (by omega), if_neg (by omega)]
  · rw [bI_f c]; unfold dgp at c
    by_cases d : x.toInt < 48
    · rw [if_pos d]
    · rw [if_neg d, if_pos (by omega)]
theorem digM {sh : zShp} {M : zMem} (x : Int32) : zX12_isDigit sh x M = some (bI (dgp x)) := by
  unfold zX12_isDigit zjX12_isDigit_16 zjX12_isDigit_17
  rw [rgd isB0, rgd isB1]
  simp only [r_lt, show (48 : Int32).toInt = 48 from rfl, show (57 : Int32).toInt = 57 from rfl]
  by_cases c : dgp x
  · rw [bI_t c]; unfold dgp at c; rw [if_neg (by omega), if_neg (by omega)]
  · rw [bI_f c]; unfold dgp at c
    by_cases d : x.toInt < 48
    · rw [if_pos d]
    · rw [if_neg d, if_pos (by omega)]
theorem blC {sh : zShp} {M : zMem} (x : Int32) : zX6_isBlank sh x M = some (bI (blp x)) := by
  unfold zX6_isBlank zjX6_isBlank_12 zjX6_isBlank_17
  rw [rgd isB0, rgd isB1]
  by_cases c : x = 32
  · rw [if_pos c, bI_t (show blp x from Or.inl c)]
  · rw [if_neg c]
    by_cases d : x = 10
    · rw [if_pos d, bI_t (show blp x from Or.inr d)]
    · rw [if_neg d, bI_f (show ¬ blp x from fun h => h.elim c d)]
theorem run_ex (P : Nat → Prop) [DecidablePred P] {len : Nat} (h : ∀ j, len ≤ j → ¬ P j) : ∀ (r i : Nat), i + r = len → ∃ n, i + n ≤ len ∧ (∀ j, j < n → P (i + j)) ∧ ¬ P (i + n) := by
  intro r
  induction r with
  | zero => intro i hi; exact ⟨0, by omega, fun j hj => absurd hj (by omega), h _ (by omega)⟩
  | succ r ih =>
    intro i hi
    by_cases c : P i
    · obtain ⟨n, h1, h2, h3⟩ := ih (i + 1) (by omega)
      refine ⟨n + 1, by omega, fun j hj => ?_, by rw [show i + (n + 1) = i + 1 + n by omega]; exact h3⟩
      by_cases e : j = 0
      · subst e; exact c
      · have := h2 (j - 1) (by omega)
        rw [show i + 1 + (j - 1) = i + j by omega] at this
        exact this
    · exact ⟨0, by omega, fun j hj => absurd hj (by omega), c⟩
/-- the letters from place i on, the last one first -/
def lst (tx : Nat → Int32) (i : Nat) : Nat → List Nat
  | 0 => []
  | n + 1 => ((tx (i + n)).toInt - 96).toNat :: lst tx i n
theorem lst_ok {tx : Nat → Int32} {i : Nat} : ∀ n, (∀ j, j < n → lp (tx (i + j))) → (lst tx i n).length = n ∧ ltr (lst tx i n) := by
  intro n
  induction n with
  | zero => intro _; exact ⟨rfl, fun x hx => absurd hx (List.not_mem_nil)⟩
  | succ n ih =>
    intro h
    obtain ⟨h1, h2⟩ := ih (fun j hj => h j (by omega))
    have h3 := h n (by omega)
    unfold lp at h3
    refine ⟨by show (lst tx i n).length + 1 = n + 1; rw [h1], fun x hx => ?_⟩
    rcases List.mem_cons.mp hx with rfl | hx
    · omega
    · exact h2 x hx
/-- the number from place i on -/
def nmb (tx : Nat → Int32) (i : Nat) : Nat → Nat
  | 0 => 0
  | n + 1 => 10 * nmb tx i n + ((tx (i + n)).toInt - 48).toNat
theorem nmb_b {tx : Nat → Int32} {i : Nat} : ∀ n, (∀ j, j < n → dgp (tx (i + j))) → nmb tx i n < 10 ^ n := by
  intro n
  induction n with
  | zero => intro _; show 0 < 1; omega
  | succ n ih =>
    intro h
    have h1 := ih (fun j hj => h j (by omega))
    have h3 := h n (by omega)
    unfold dgp at h3
    show 10 * nmb tx i n + _ < _
    rw [Nat.pow_succ]
    omega
theorem wordC_lp {bb sb it len i n0 : Nat} {tx : Nat → Int32} {N : zMem} (hi : i + n0 ≤ len) (hP : ∀ j, j < n0 → lp (tx (i + j))) (hE : ¬ lp (tx (i + n0))) : ∀ (r n F : Nat) (M : zMem), n + r = n0 → r < F → rfC M bb sb it → txt M N len tx → zI M 27 4 = nI i → zI M 27 5 = nI (c27 (lst tx i n)) → ∃ M1, zlX6_stepWord_10 shC 27 F (nI (i + n)) M = some M1 ∧ stC M M1 ∧ zI M1 27 5 = nI (c27 (lst tx i n0)) ∧ zI M1 27 3 = (if n0 ≤ 6 then 1 else 5) ∧ zI M1 27 2 = nI (i + n0) ∧ zI M1 27 4 = nI i := by
  intro r
  induction r with
  | zero =>
    intro n F M h1 hF hC hT h4 h5
    obtain ⟨F, rfl⟩ : ∃ x, F = x + 1 := ⟨F - 1, by omega⟩
    obtain rfl : n = n0 := by omega
    have hl := hT.1
    have e0 : zR M 27 0 = 25 := by simp only [hC.o]
    refine ⟨zpI (zpI M 27 3 (if n ≤ 6 then 1 else 5)) 27 2 (nI (i + n)), ?_, (stC.p (by omega)).tr (stC.p (by omega)), by rw [rI_pI, if_neg (by omega), rI_pI, if_neg (by omega)]; exact h5, by rw [rI_pI, if_neg (by omega), rI_pI, if_pos ⟨rfl, rfl⟩], by rw [rI_pI, if_pos ⟨rfl, rfl⟩], by rw [rI_pI, if_neg (by omega), rI_pI, if_neg (by omega)]; exact h4⟩
    have q : zjX6_stepWord_66 shC 27 (nI (i + n)) M = some (zpI (zpI M 27 3 (if n ≤ 6 then 1 else 5)) 27 2 (nI (i + n))) := by
      unfold zjX6_stepWord_66 zjX6_stepWord_83
      rw [h4, show nI (i + n) - nI i = nI n by rw [iI_n, iI_n, iI_n, iI_sub]; congr 1; omega]
      by_cases c : n ≤ 6
      · rw [if_neg (show ¬ (6 : Int32) < nI n from nI_nlt (a := 6) (by omega) (by omega)), if_pos c]; rfl
      · rw [if_pos (show (6 : Int32) < nI n from nI_lt (a := 6) (by omega) (by omega)), if_neg c]; rfl
    simp only [zlX6_stepWord_10]
    unfold zbX6_stepWord_10
    rw [e0, hT.2.1]
    by_cases c : i + n < len
    · rw [if_neg (nI_ge c (by omega)), byteC hC hT (by omega), rob, letC, rob, bI_f hE, if_pos rfl, q]
    · rw [if_pos (nI_le (by omega) (by omega)), q]
  | succ r ih =>
    intro n F M h1 hF hC hT h4 h5
    obtain ⟨F, rfl⟩ : ∃ x, F = x + 1 := ⟨F - 1, by omega⟩
    have hl := hT.1
    have e0 : zR M 27 0 = 25 := by simp only [hC.o]
    have hp := hP n (by omega)
    have hv : zI M 27 5 * 27 + tx (i + n) - 97 + 1 = nI (c27 (lst tx i (n + 1))) := by
      unfold lp at hp
      rw [h5, show tx (i + n) = iI (tx (i + n)).toInt from (iI_t _).symm, show (27 : Int32) = iI 27 from rfl, show (97 : Int32) = iI 97 from rfl, show (1 : Int32) = iI 1 from rfl, iI_n, iI_mul, iI_add, iI_sub, iI_add, iI_n]
      congr 1
      show _ = ((27 * c27 (lst tx i n) + ((tx (i + n)).toInt - 96).toNat : Nat) : Int)
      omega
    obtain ⟨M1, b1, b2, b3, b4, b5, b6⟩ := ih (n + 1) F (zpI M 27 5 (nI (c27 (lst tx i (n + 1))))) (by omega) (by omega) hC (hT.st (stC.p (by omega)) (gnN.rf N)) (by rw [rI_pI, if_neg (by omega)]; exact h4) (by rw [rI_pI, if_pos ⟨rfl, rfl⟩])
    refine ⟨M1, ?_, (stC.p (by omega)).tr b2, b3, b4, b5, b6⟩
    simp only [zlX6_stepWord_10]
    unfold zbX6_stepWord_10
    rw [e0, hT.2.1, if_neg (nI_ge (by omega) (by omega)), byteC hC hT (by omega), rob, letC, rob, bI_t hp, if_neg (by decide), rob, rbd, hv, nI_1]
    exact b1
theorem wordM_lp {M : zMem} {len i n0 : Nat} {tx : Nat → Int32} (hi : i + n0 ≤ len) (hP : ∀ j, j < n0 → lp (tx (i + j))) (hE : ¬ lp (tx (i + n0))) : ∀ (r n F : Nat) (N : zMem), n + r = n0 → r < F → rfN N → txt M N len tx → zI N 0 4 = nI i → zJ N 0 12 = lI (c256 (lst tx i (min n 6)) : Nat) → ∃ N1, zlX12_goOn_78 shM 0 F (nI n) N = some N1 ∧ gnN N N1 ∧ zJ N1 0 12 = lI (c256 (lst tx i (min n0 6)) : Nat) ∧ zI N1 0 6 = (if n0 ≤ 6 then 1 else 5) ∧ zI N1 0 4 = nI (i + n0) ∧ zI N1 0 5 = zI N 0 5 := by
  intro r
  induction r with
  | zero =>
    intro n F N h1 hF hN hT h4 h5
    obtain ⟨F, rfl⟩ : ∃ x, F = x + 1 := ⟨F - 1, by omega⟩
    obtain rfl : n = n0 := by omega
    have hl := hT.1
    refine ⟨zpI (zpI N 0 6 (if n ≤ 6 then 1 else 5)) 0 4 (nI (i + n)), ?_, (gnN.p (by omega)).tr (gnN.p (by omega)), h5, by rw [rI_pI, if_neg (by omega), rI_pI, if_pos ⟨rfl, rfl⟩], by rw [rI_pI, if_pos ⟨rfl, rfl⟩], by rw [rI_pI, if_neg (by omega), rI_pI, if_neg (by omega)]⟩
    simp only [zlX12_goOn_78]
    unfold zbX12_goOn_78 zjX12_goOn_131 zjX12_goOn_253
    rw [hereM hN hT h4 (by omega), rob, letM, rob, bI_f hE, if_pos rfl]
    have e4 : ∀ v : Int32, zI (zpI N 0 6 v) 0 4 = nI i := fun v => by rw [rI_pI, if_neg (by omega)]; exact h4
    by_cases c : n ≤ 6
    · rw [if_pos (show nI n ≤ (6 : Int32) from nI_le (b := 6) c (by omega)), if_pos c, rbd, rbd, e4, nI_add]
    · rw [if_neg (show ¬ nI n ≤ (6 : Int32) from nI_ge (a := 6) (by omega) (by omega)), if_neg c, rbd, rbd, e4, nI_add]
  | succ r ih =>
    intro n F N h1 hF hN hT h4 h5
    obtain ⟨F, rfl⟩ : ∃ x, F = x + 1 := ⟨F - 1, by omega⟩
    have hl := hT.1
    have hp := hP n (by omega)
    by_cases c : 6 ≤ n
    · obtain ⟨N1, b1, b2, b3, b4, b5, b6⟩ := ih (n + 1) F N (by omega) (by omega) hN hT h4 (by rw [show min (n + 1) 6 = min n 6 by omega]; exact h5)
      refine ⟨N1, ?_, b2, b3, b4, b5, b6⟩
      simp only [zlX12_goOn_78]
      unfold zbX12_goOn_78 zjX12_goOn_113
      rw [hereM hN hT h4 (by omega), rob, letM, rob, bI_t hp, if_neg (by decide), if_pos (show (6 : Int32) ≤ nI n from nI_le (a := 6) c (by omega)), nI_1]
      exact b1
    · have hv : (zJ N 0 12 <<< ((8 : Int32).toInt64 &&& 63)) ||| (tx (i + n)).toInt64 = lI (c256 (lst tx i (min (n + 1) 6)) : Nat) := by
        have hlp := lst_ok n (fun j hj => hP j (by omega))
        have hb := c256_b _ hlp.2
        rw [hlp.1] at hb
        have hb2 : 256 ^ n ≤ 256 ^ 5 := Nat.pow_le_pow_right (by omega) (by omega)
        unfold lp at hp
        rw [h5, show min n 6 = n by omega, show min (n + 1) 6 = n + 1 by omega, show tx (i + n) = iI ((((tx (i + n)).toInt - 96).toNat + 96 : Nat) : Int) by rw [show ((((tx (i + n)).toInt - 96).toNat + 96 : Nat) : Int) = (tx (i + n)).toInt by omega, iI_t], sh8 (by omega) (by omega)]
        rfl
      obtain ⟨N1, b1, b2, b3, b4, b5, b6⟩ := ih (n + 1) F (zpJ N 0 12 (lI (c256 (lst tx i (min (n + 1) 6)) : Nat))) (by omega) (by omega) hN (hT.st (stC.rf M) gnN.pJ) h4 (by rw [rJ_pJ, if_pos ⟨rfl, rfl⟩])
      refine ⟨N1, ?_, gnN.pJ.tr b2, b3, b4, b5, b6⟩
      simp only [zlX12_goOn_78]
      unfold zbX12_goOn_78 zjX12_goOn_113
      rw [hereM hN hT h4 (by omega), rob, letM, rob, bI_t hp, if_neg (by decide), if_neg (show ¬ (6 : Int32) ≤ nI n from nI_ge (b := 6) (by omega) (by omega)), rob, rbd, hv, nI_1]
      exact b1
def kNm (tx : Nat → Int32) (i n : Nat) : Int32 := if 5 < n then 5 else if lp (tx (i + n)) then 5 else 2
theorem numC_lp {bb sb it len i n0 : Nat} {tx : Nat → Int32} {N : zMem} (hi : i + n0 ≤ len) (hP : ∀ j, j < n0 → dgp (tx (i + j))) (hE : ¬ dgp (tx (i + n0))) : ∀ (r n F : Nat) (M : zMem), n + r = n0 → r < F → rfC M bb sb it → txt M N len tx → zI M 27 4 = nI i → zI M 27 5 = nI (nmb tx i n) → ∃ M1, zlX6_stepNumber_10 shC 27 F (nI (i + n)) M = some M1 ∧ stC M M1 ∧ zI M1 27 5 = nI (nmb tx i n0) ∧ zI M1 27 3 = kNm tx i n0 ∧ zI M1 27 2 = nI (i + n0) ∧ zI M1 27 4 = nI i := by
  intro r
  induction r with
  | zero =>
    intro n F M h1 hF hC hT h4 h5
    obtain ⟨F, rfl⟩ : ∃ x, F = x + 1 := ⟨F - 1, by omega⟩
    obtain rfl : n = n0 := by omega
    have hl := hT.1
    have e0 : zR M 27 0 = 25 := by simp only [hC.o]
    refine ⟨zpI (zpI M 27 3 (kNm tx i n)) 27 2 (nI (i + n)), ?_, (stC.p (by omega)).tr (stC.p (by omega)), by rw [rI_pI, if_neg (by omega), rI_pI, if_neg (by omega)]; exact h5, by rw [rI_pI, if_neg (by omega), rI_pI, if_pos ⟨rfl, rfl⟩], by rw [rI_pI, if_pos ⟨rfl, rfl⟩], by rw [rI_pI, if_neg (by omega), rI_pI, if_neg (by omega)]; exact h4⟩
    have q : zjX6_stepNumber_64 shC 27 (nI (i + n)) M = some (zpI (zpI M 27 3 (kNm tx i n)) 27 2 (nI (i + n))) := by
      unfold zjX6_stepNumber_64 zjX6_stepNumber_92 zjX6_stepNumber_93 zjX6_stepNumber_104 kNm
      rw [h4, show nI (i + n) - nI i = nI n by rw [iI_n, iI_n, iI_n, iI_sub]; congr 1; omega, e0, byteC hC hT (by omega), rob, letC, rob, if_pos (show (0 : Int32) = 0 from rfl), if_neg (show ¬ (1 : Int32) = 0 by decide)]
      by_cases c : 5 < n
      · rw [if_pos (show (5 : Int32) < nI n from nI_lt (a := 5) (by omega) (by omega)), if_pos c]; rfl
      · rw [if_neg (show ¬ (5 : Int32) < nI n from nI_nlt (a := 5) (by omega) (by omega)), if_neg c]
        by_cases d : lp (tx (i + n))
        · rw [bI_t d, if_neg (by decide), if_pos d]; rfl
        · rw [bI_f d, if_pos rfl, if_neg d]; rfl
    simp only [zlX6_stepNumber_10]
    unfold zbX6_stepNumber_10
    rw [e0, hT.2.1]
    by_cases c : i + n < len
    · rw [if_neg (nI_ge c (by omega)), byteC hC hT (by omega), rob, digC, rob, bI_f hE, if_pos rfl, q]
    · rw [if_pos (nI_le (by omega) (by omega)), q]
  | succ r ih =>
    intro n F M h1 hF hC hT h4 h5
    obtain ⟨F, rfl⟩ : ∃ x, F = x + 1 := ⟨F - 1, by omega⟩
    have hl := hT.1
    have e0 : zR M 27 0 = 25 := by simp only [hC.o]
    have hp := hP n (by omega)
    have hv : zI M 27 5 * 10 + tx (i + n) - 48 = nI (nmb tx i (n + 1)) := by
      unfold dgp at hp
      rw [h5, show tx (i + n) = iI (tx (i + n)).toInt from (iI_t _).symm, show (10 : Int32) = iI 10 from rfl, show (48 : Int32) = iI 48 from rfl, iI_n, iI_mul, iI_add, iI_sub, iI_n]
      congr 1
      show _ = ((10 * nmb tx i n + ((tx (i + n)).toInt - 48).toNat : Nat) : Int)
      omega
    obtain ⟨M1, b1, b2, b3, b4, b5, b6⟩ := ih (n + 1) F (zpI M 27 5 (nI (nmb tx i (n + 1)))) (by omega) (by omega) hC (hT.st (stC.p (by omega)) (gnN.rf N)) (by rw [rI_pI, if_neg (by omega)]; exact h4) (by rw [rI_pI, if_pos ⟨rfl, rfl⟩])
    refine ⟨M1, ?_, (stC.p (by omega)).tr b2, b3, b4, b5, b6⟩
    simp only [zlX6_stepNumber_10]
    unfold zbX6_stepNumber_10
    rw [e0, hT.2.1, if_neg (nI_ge (by omega) (by omega)), byteC hC hT (by omega), rob, digC, rob, bI_t hp, if_neg (by decide), rob, rbd, hv, nI_1]
    exact b1
theorem numM_lp {M : zMem} {len i n0 : Nat} {tx : Nat → Int32} (hi : i + n0 ≤ len) (hP : ∀ j, j < n0 → dgp (tx (i + j))) (hE : ¬ dgp (tx (i + n0))) : ∀ (r n F : Nat) (N : zMem), n + r = n0 → r < F → rfN N → txt M N len tx → zI N 0 4 = nI i → zI N 0 7 = nI (nmb tx i (min n 5)) → ∃ N1, zlX12_goOn_148 shM 0 F (nI n) N = some N1 ∧ gnN N N1 ∧ zI N1 0 7 = nI (nmb tx i (min n0 5)) ∧ zI N1 0 6 = kNm tx i n0 ∧ zI N1 0 4 = nI (i + n0) ∧ zI N1 0 5 = zI N 0 5 := by
  intro r
  induction r with
  | zero =>
    intro n F N h1 hF hN hT h4 h5
    obtain ⟨F, rfl⟩ : ∃ x, F = x + 1 := ⟨F - 1, by omega⟩
    obtain rfl : n = n0 := by omega
    have hl := hT.1
    refine ⟨zpI (zpI N 0 6 (kNm tx i n)) 0 4 (nI (i + n)), ?_, (gnN.p (by omega)).tr (gnN.p (by omega)), by rw [rI_pI, if_neg (by omega), rI_pI, if_neg (by omega)]; exact h5, by rw [rI_pI, if_neg (by omega), rI_pI, if_pos ⟨rfl, rfl⟩], by rw [rI_pI, if_pos ⟨rfl, rfl⟩], by rw [rI_pI, if_neg (by omega), rI_pI, if_neg (by omega)]⟩
    simp only [zlX12_goOn_148]
    unfold zbX12_goOn_148 zjX12_goOn_207 zjX12_goOn_212 zjX12_goOn_253 kNm
    rw [hereM hN hT h4 (by omega), rob, digM, rob, bI_f hE, if_pos rfl, rob, letM, rob]
    have e4 : ∀ v : Int32, zI (zpI N 0 6 v) 0 4 = nI i := fun v => by rw [rI_pI, if_neg (by omega)]; exact h4
    by_cases c : 5 < n
    · rw [if_pos (show (5 : Int32) < nI n from nI_lt (a := 5) (by omega) (by omega)), if_pos c, rbd, rbd, e4, nI_add]
    · rw [if_neg (show ¬ (5 : Int32) < nI n from nI_nlt (a := 5) (by omega) (by omega)), if_neg c]
      by_cases d : lp (tx (i + n))
      · rw [bI_t d, if_neg (by decide), if_pos d, rbd, rbd, e4, nI_add]
      · rw [bI_f d, if_pos rfl, if_neg d, rbd, rbd, e4, nI_add]
  | succ r ih =>
    intro n F N h1 hF hN hT h4 h5
    obtain ⟨F, rfl⟩ : ∃ x, F = x + 1 := ⟨F - 1, by omega⟩
    have hl := hT.1
    have hp := hP n (by omega)
    by_cases c : 5 ≤ n
    · obtain ⟨N1, b1, b2, b3, b4, b5, b6⟩ := ih (n + 1) F N (by omega) (by omega) hN hT h4 (by rw [show min (n + 1) 5 = min n 5 by omega]; exact h5)
      refine ⟨N1, ?_, b2, b3, b4, b5, b6⟩
      simp only [zlX12_goOn_148]
      unfold zbX12_goOn_148 zjX12_goOn_184
      rw [hereM hN hT h4 (by omega), rob, digM, rob, bI_t hp, if_neg (by decide), if_pos (show (5 : Int32) ≤ nI n from nI_le (a := 5) c (by omega)), nI_1]
      exact b1
    · have hv : 10 * zI N 0 7 + tx (i + n) - 48 = nI (nmb tx i (min (n + 1) 5)) := by
        unfold dgp at hp
        rw [h5, show min n 5 = n by omega, show min (n + 1) 5 = n + 1 by omega, show tx (i + n) = iI (tx (i + n)).toInt from (iI_t _).symm, show (10 : Int32) = iI 10 from rfl, show (48 : Int32) = iI 48 from rfl, iI_n, iI_mul, iI_add, iI_sub, iI_n]
        congr 1
        show _ = ((10 * nmb tx i n + ((tx (i + n)).toInt - 48).toNat : Nat) : Int)
        omega
      obtain ⟨N1, b1, b2, b3, b4, b5, b6⟩ := ih (n + 1) F (zpI N 0 7 (nI (nmb tx i (min (n + 1) 5)))) (by omega) (by omega) hN (hT.st (stC.rf M) (gnN.p (by omega))) (by rw [rI_pI, if_neg (by omega)]; exact h4) (by rw [rI_pI, if_pos ⟨rfl, rfl⟩])
      refine ⟨N1, ?_, (gnN.p (by omega)).tr b2, b3, b4, b5, b6.trans (by rw [rI_pI, if_neg (by omega)])⟩
      simp only [zlX12_goOn_148]
      unfold zbX12_goOn_148 zjX12_goOn_184
      rw [hereM hN hT h4 (by omega), rob, digM, rob, bI_t hp, if_neg (by decide), if_neg (show ¬ (5 : Int32) ≤ nI n from nI_ge (b := 5) (by omega) (by omega)), rob, rbd, hv, nI_1]
      exact b1
