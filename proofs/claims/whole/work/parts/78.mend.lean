/-! Phase B: mend -/
/-- nothing but place q of block k is changed -/
def eqB (k q : Nat) (M M1 : zMem) : Prop := M1.2.2 = M.2.2 ∧ ∀ k' j, ¬ (k' = k ∧ j = q) → zI M1 k' j = zI M k' j
theorem eqB.rf (k q : Nat) (M : zMem) : eqB k q M M := ⟨rfl, fun _ _ _ => rfl⟩
theorem eqB.p {k q : Nat} {M M1 : zMem} (h : eqB k q M M1) (v : Int32) : eqB k q M (zpI M1 k q v) := ⟨h.1, fun k' j g => by rw [rI_pI, if_neg g]; exact h.2 k' j g⟩
theorem eqB.all {k q : Nat} {M M1 : zMem} (h : eqB k q M M1) (e : zI M1 k q = zI M k q) : ∀ k' j, zI M1 k' j = zI M k' j := fun k' j => by
  by_cases g : k' = k ∧ j = q
  · rw [g.1, g.2]; exact e
  · exact h.2 k' j g
def wrow (N : zMem) (q : Nat) (c : Int) (j : Nat) : Int32 := if j = q then zI N 12 q + iI c else fRow N j
def ovN (N : zMem) (q : Nat) (c : Int) : Nat := ((fRoot (wrow N q c) q : Int) - 1000).natAbs
theorem ov_eq (R : Nat) (hR : R < 2048) : zabs (nI R - 1000) = nI ((R : Int) - 1000).natAbs := by
  rw [iI_n, show (1000 : Int32) = iI 1000 from rfl, iI_sub, iI_abs (by omega) (by omega), iI_n]
theorem ov_le {N : zMem} {q : Nat} {c : Int} : ovN N q c ≤ 1047 := by
  unfold ovN
  have := fRoot_lt (row := wrow N q c) (n := (q : Int))
  omega
theorem wrow_b {N : zMem} {q : Nat} {c : Int} (hq : q ≤ 64) (hp : ∀ j, j ≤ 64 → btw (zI N 12 j) 0 1000) (hf : ∀ j, j ≤ 64 → btw (zI N 8 j) (-200) 200) (h1 : -200 ≤ c) (h2 : c ≤ 200) : ∀ j, j ≤ 64 → btw (wrow N q c j) (-1200) 1200 := fun j hj => by
  unfold wrow
  by_cases g : j = q
  · rw [if_pos g]
    have : btw (iI c) (-200) 200 := by unfold btw; rw [iI_i (by omega) (by omega)]; omega
    exact (add_b (hp q hq) this (by omega) (by omega)).w (by omega) (by omega)
  · rw [if_neg g]
    exact (add_b (hp j hj) (hf j hj) (by omega) (by omega)).w (by omega) (by omega)
theorem mendM_step {N N1 : zMem} {q : Nat} {c : Int} (hN : rfN N) (hq : q ≤ 64) (hp : ∀ j, j ≤ 64 → btw (zI N 12 j) 0 1000) (hf : ∀ j, j ≤ 64 → btw (zI N 8 j) (-200) 200) (h1 : -200 ≤ c) (h2 : c ≤ 200) (hE : eqB 8 q N N1) (kk : Int32 → Int32 → Int32 → Int32 → zMem → Option (Int32 × zMem)) (had best y i : Int32) : zjX12_mend_60 shM 0 (nI q) kk had best y i (iI c) N1 = if y = -1 then kk had (iI c) (nI (ovN N q c)) (i + 1) (zpI N1 8 q (iI c)) else if nI (ovN N q c) < y then kk had (iI c) (nI (ovN N q c)) (i + 1) (zpI N1 8 q (iI c)) else kk had best y (i + 1) (zpI N1 8 q (iI c)) := by
  have hN1 := hN.sm hE.1
  have hrow : ∀ j, j ≤ 64 → fRow (zpI N1 8 q (iI c)) j = wrow N q c j := fun j hj => by
    unfold fRow wrow
    rw [rI_pI, if_neg (by omega), rI_pI, hE.2 12 j (by omega)]
    by_cases g : j = q
    · rw [if_pos ⟨rfl, g⟩, if_pos g, g]
    · rw [if_neg (fun e => g e.2), if_neg g, hE.2 8 j (fun e => g e.2)]
      rfl
  have hb := wrow_b hq hp hf h1 h2
  have hrt := rootM (N := zpI N1 8 q (iI c)) (by show zR N1 0 33 = 12; simp only [hN1.o]) (by show zR N1 0 18 = 8; simp only [hN1.o]) (fun j hj => by rw [hrow j hj]; exact hb j hj) (nI q)
  unfold zjX12_mend_60 zjX12_mend_100 zjX12_mend_107
  have e18 : zR N1 0 18 = 8 := by simp only [hN1.o]
  rw [e18, show zlen shM 8 = 65 from rfl, rgd (in_a (by omega) (by omega)), nI_clamp (by omega), rbd, hrt, rob, size_eq, rob, fRoot_ext hrow, nI_toInt (by omega), ov_eq _ fRoot_lt]
  rfl
theorem mendC_step {M M1 N : zMem} {k0 k1 pb q : Nat} {c : Int} (hq : q ≤ 64) (hk : pb ≠ k1) (hl1 : zlen shC k1 = 65) (hl0 : zlen shC pb = 65) (hR : zR M k0 0 = pb) (hpl : ∀ j, j ≤ 64 → zI M pb j = zI N 12 j) (hrw : ∀ j, j ≤ 64 → j ≠ q → zI M k1 j = fRow N j) (hp : ∀ j, j ≤ 64 → btw (zI N 12 j) 0 1000) (hf : ∀ j, j ≤ 64 → btw (zI N 8 j) (-200) 200) (h1 : -200 ≤ c) (h2 : c ≤ 200) (hE : eqB k1 q M M1) (kk : Int32 → Int32 → Int32 → Int32 → zMem → Option (Int32 × zMem)) (kept best x5 i : Int32) : zjX9_bestAt_51 shC k0 k1 (nI q) kk kept best x5 i (iI c) M1 = if x5 ≤ nI (ovN N q c) then kk kept best x5 (i + 1) (zpI M1 k1 q (zI N 12 q + iI c)) else kk kept (iI c) (nI (ovN N q c)) (i + 1) (zpI M1 k1 q (zI N 12 q + iI c)) := by
  have hR1 : zR M1 k0 0 = pb := by unfold zR; rw [hE.1]; exact hR
  have hrow : ∀ j, j ≤ 64 → zI (zpI M1 k1 q (zI N 12 q + iI c)) k1 j = wrow N q c j := fun j hj => by
    unfold wrow
    rw [rI_pI]
    by_cases g : j = q
    · rw [if_pos ⟨rfl, g⟩, if_pos g]
    · rw [if_neg (fun e => g e.2), if_neg g, hE.2 k1 j (fun e => g e.2), hrw j hj g]
  have hb := wrow_b hq hp hf h1 h2
  have hrt := rootC (M := zpI M1 k1 q (zI N 12 q + iI c)) (k := k1) (by omega) (fun j hj => by rw [hrow j hj]; exact hb j hj) (nI q)
  unfold zjX9_bestAt_51 zjX9_bestAt_94
  rw [hR1, hl0, hl1, rgd (in_a (by omega) (by omega)), rgd (in_a (by omega) (by omega)), nI_clamp (by omega), hE.2 pb q (fun e => hk e.1), hpl q hq, rbd, hrt, rob, rbd, fRoot_ext hrow, nI_toInt (by omega), ov_eq _ fRoot_lt]
  rfl
def cI (i : Nat) : Int := if i % 2 = 1 then -(((i + 1) / 2 : Nat) : Int) else ((i / 2 : Nat) : Int)
theorem cI_b {i : Nat} (h : i ≤ 400) : -200 ≤ cI i ∧ cI i ≤ 200 := by
  unfold cI
  split <;> omega
theorem zl_me {q : Int32} (F : Nat) (a b c d : Int32) (N : zMem) : zlX12_mend_30 shM 0 q (F + 1) a b c d N = zbX12_mend_30 shM 0 q (zlX12_mend_30 shM 0 q F) a b c d N := rfl
theorem zl_be {k0 k1 : Nat} {q : Int32} (F : Nat) (a b c d : Int32) (M : zMem) : zlX9_bestAt_14 shC k0 k1 q (F + 1) a b c d M = zbX9_bestAt_14 shC k0 k1 q (zlX9_bestAt_14 shC k0 k1 q F) a b c d M := rfl
theorem zb_me {N : zMem} {q : Int32} {i : Nat} (hi : i ≤ 400) (kk : Int32 → Int32 → Int32 → Int32 → zMem → Option (Int32 × zMem)) (a b c : Int32) : zbX12_mend_30 shM 0 q kk a b c (nI i) N = zjX12_mend_60 shM 0 q kk a b c (nI i) (iI (cI i)) N := by
  unfold zbX12_mend_30 cI
  have e2 : (2 : Int32) = nI 2 := rfl
  rw [if_neg (show ¬ (400 : Int32) < nI i from nI_nlt (a := 400) (by omega) (by omega)), nI_1, e2]
  have er : zrem (nI i) (nI 2) = nI (i % 2) := by
    unfold zrem
    exact pk_rem (by omega) (by omega) (by omega)
  rw [er, pk_div (by omega) (by omega) (by omega), pk_div (by omega) (by omega) (by omega)]
  by_cases h : i % 2 = 1
  · rw [if_pos (by rw [h]; rfl), if_pos h, iI_n ((i + 1) / 2), iI_neg]
  · rw [if_neg (by rw [show i % 2 = 0 by omega]; decide), if_neg h, iI_n (i / 2)]
theorem r_and1 (x : Int32) : (x &&& 1).toInt = x.toInt % 2 := r_mask (k := 1) (by decide) (by omega)
theorem zb_be {M : zMem} {k0 k1 : Nat} {q : Int32} {i : Nat} (hi : i ≤ 400) (kk : Int32 → Int32 → Int32 → Int32 → zMem → Option (Int32 × zMem)) (a b c : Int32) (hc : ¬ c ≤ 0) : zbX9_bestAt_14 shC k0 k1 q kk a b c (nI i) M = zjX9_bestAt_51 shC k0 k1 q kk a b c (nI i) (iI (cI i)) M := by
  unfold zbX9_bestAt_14 cI
  have e2 : (2 : Int32) = nI 2 := rfl
  have ea : (nI i &&& 1 = 1) = (i % 2 = 1) := by
    rw [r_eq, r_and1, nI_toInt (by omega), show (1 : Int32).toInt = 1 from rfl, eq_iff_iff]
    omega
  rw [if_neg (show ¬ (400 : Int32) < nI i from nI_nlt (a := 400) (by omega) (by omega)), if_neg hc, nI_1, e2, rbd, pk_div (by omega) (by omega) (by omega)]
  simp only [ea]
  by_cases h : i % 2 = 1
  · rw [if_pos h, if_pos h, iI_n ((i + 1) / 2), iI_neg]
  · rw [if_neg h, if_neg h, show (i + 1) / 2 = i / 2 by omega, iI_n (i / 2)]
theorem mend_stay {N : zMem} {q : Nat} (hN : rfN N) (hq : q ≤ 64) (hp : ∀ j, j ≤ 64 → btw (zI N 12 j) 0 1000) (hf : ∀ j, j ≤ 64 → btw (zI N 8 j) (-200) 200) (had best : Int32) : ∀ (r i F' : Nat) (N1 : zMem), i + r = 401 → r < F' → eqB 8 q N N1 → ∃ N2, zlX12_mend_30 shM 0 (nI q) F' had best 0 (nI i) N1 = some (best, N2) ∧ eqB 8 q N N2 ∧ zI N2 8 q = had := by
  intro r
  induction r with
  | zero =>
    intro i F' N1 h1 h2 hE
    obtain ⟨F', rfl⟩ : ∃ x, F' = x + 1 := ⟨F' - 1, by omega⟩
    have hN1 := hN.sm hE.1
    have e18 : zR N1 0 18 = 8 := by simp only [hN1.o]
    rw [zl_me]
    unfold zbX12_mend_30
    rw [if_pos (show (400 : Int32) < nI i from nI_lt (a := 400) (by omega) (by omega)), e18, show zlen shM 8 = 65 from rfl, rgd (in_a (by omega) (by omega)), nI_clamp (by omega), rbd]
    exact ⟨_, rfl, hE.p had, by rw [rI_pI, if_pos ⟨rfl, rfl⟩]⟩
  | succ r ih =>
    intro i F' N1 h1 h2 hE
    obtain ⟨F', rfl⟩ : ∃ x, F' = x + 1 := ⟨F' - 1, by omega⟩
    have hc := cI_b (i := i) (by omega)
    have hov := ov_le (N := N) (q := q) (c := cI i)
    rw [zl_me, zb_me (by omega), mendM_step hN hq hp hf hc.1 hc.2 hE, if_neg (by decide), if_neg (fun g => by have := r_lt.mp g; rw [nI_toInt (by omega), show (0 : Int32).toInt = 0 from rfl] at this; omega), nI_1]
    exact ih (i + 1) F' _ (by omega) (by omega) (hE.p _)
theorem best_loop {M N : zMem} {k0 k1 pb q : Nat} (hN : rfN N) (hq : q ≤ 64) (hk : pb ≠ k1) (hl1 : zlen shC k1 = 65) (hl0 : zlen shC pb = 65) (hR : zR M k0 0 = pb) (hpl : ∀ j, j ≤ 64 → zI M pb j = zI N 12 j) (hrw : ∀ j, j ≤ 64 → j ≠ q → zI M k1 j = fRow N j) (hp : ∀ j, j ≤ 64 → btw (zI N 12 j) 0 1000) (hf : ∀ j, j ≤ 64 → btw (zI N 8 j) (-200) 200) (kept had : Int32) : ∀ (r i F F' : Nat) (M1 N1 : zMem) (best x5 y : Int32), i + r = 401 → r < F → r < F' → eqB k1 q M M1 → eqB 8 q N N1 → ((x5 = 2147483647 ∧ y = -1) ∨ (x5 = y ∧ btw y 0 2047)) → btw best (-200) 200 → ∃ (b : Int32) (M2 N2 : zMem), zlX9_bestAt_14 shC k0 k1 (nI q) F kept best x5 (nI i) M1 = some (b, M2) ∧ zlX12_mend_30 shM 0 (nI q) F' had best y (nI i) N1 = some (b, N2) ∧ eqB k1 q M M2 ∧ zI M2 k1 q = kept ∧ eqB 8 q N N2 ∧ zI N2 8 q = had ∧ btw b (-200) 200 := by
  intro r
  induction r with
  | zero =>
    intro i F F' M1 N1 best x5 y h1 h2 h3 hE hE' hx hb
    obtain ⟨F, rfl⟩ : ∃ x, F = x + 1 := ⟨F - 1, by omega⟩
    obtain ⟨F', rfl⟩ : ∃ x, F' = x + 1 := ⟨F' - 1, by omega⟩
    have hN1 := hN.sm hE'.1
    have e18 : zR N1 0 18 = 8 := by simp only [hN1.o]
    rw [zl_me, zl_be]
    unfold zbX12_mend_30 zbX9_bestAt_14 zjX9_bestAt_100
    rw [if_pos (show (400 : Int32) < nI i from nI_lt (a := 400) (by omega) (by omega)), if_pos (show (400 : Int32) < nI i from nI_lt (a := 400) (by omega) (by omega)), e18, show zlen shM 8 = 65 from rfl, hl1, rgd (in_a (by omega) (by omega)), rgd (in_a (by omega) (by omega)), nI_clamp (by omega), rbd, rbd]
    exact ⟨best, _, _, rfl, rfl, hE.p kept, by rw [rI_pI, if_pos ⟨rfl, rfl⟩], hE'.p had, by rw [rI_pI, if_pos ⟨rfl, rfl⟩], hb⟩
  | succ r ih =>
    intro i F F' M1 N1 best x5 y h1 h2 h3 hE hE' hx hb
    obtain ⟨F, rfl⟩ : ∃ x, F = x + 1 := ⟨F - 1, by omega⟩
    have hc := cI_b (i := i) (by omega)
    have hov := ov_le (N := N) (q := q) (c := cI i)
    have hbc : btw (iI (cI i)) (-200) 200 := by unfold btw; rw [iI_i (by omega) (by omega)]; omega
    have hbo : btw (nI (ovN N q (cI i))) 0 2047 := by unfold btw; rw [nI_toInt (by omega)]; omega
    by_cases hx0 : x5 ≤ 0
    · have hy : x5 = 0 ∧ y = 0 := by
        have g := r_le.mp hx0
        rw [show (0 : Int32).toInt = 0 from rfl] at g
        rcases hx with ⟨rfl, -⟩ | ⟨rfl, hb2⟩
        · exact absurd g (by decide)
        · unfold btw at hb2
          have : x5 = 0 := r_eq.mpr (by rw [show (0 : Int32).toInt = 0 from rfl]; omega)
          exact ⟨this, this⟩
      obtain ⟨rfl, rfl⟩ := hy
      obtain ⟨N2, t1, t2, t3⟩ := mend_stay hN hq hp hf had best (r + 1) i F' N1 h1 h3 hE'
      rw [zl_be]
      unfold zbX9_bestAt_14 zjX9_bestAt_100
      rw [if_neg (show ¬ (400 : Int32) < nI i from nI_nlt (a := 400) (by omega) (by omega)), if_pos hx0, hl1, rgd (in_a (by omega) (by omega)), nI_clamp (by omega), rbd]
      exact ⟨best, _, N2, rfl, t1, hE.p kept, by rw [rI_pI, if_pos ⟨rfl, rfl⟩], t2, t3, hb⟩
    · obtain ⟨F', rfl⟩ : ∃ x, F' = x + 1 := ⟨F' - 1, by omega⟩
      rw [zl_me, zl_be, zb_me (by omega), zb_be (by omega) _ _ _ _ hx0, mendM_step hN hq hp hf hc.1 hc.2 hE', mendC_step hq hk hl1 hl0 hR hpl hrw hp hf hc.1 hc.2 hE, nI_1]
      rcases hx with ⟨rfl, rfl⟩ | ⟨rfl, hb2⟩
      · rw [if_neg (fun g => by have := r_le.mp g; rw [nI_toInt (by omega), show (2147483647 : Int32).toInt = 2147483647 from rfl] at this; omega), if_pos rfl]
        exact ih (i + 1) F F' _ _ _ _ _ (by omega) (by omega) (by omega) (hE.p _) (hE'.p _) (Or.inr ⟨rfl, hbo⟩) hbc
      · have hb3 := hb2
        unfold btw at hb3
        rw [if_neg (ne_of _ rfl (show ¬ x5.toInt = -1 by omega))]
        by_cases g : nI (ovN N q (cI i)) < x5
        · rw [if_neg (fun k => by have := r_le.mp k; have := r_lt.mp g; omega), if_pos g]
          exact ih (i + 1) F F' _ _ _ _ _ (by omega) (by omega) (by omega) (hE.p _) (hE'.p _) (Or.inr ⟨rfl, hbo⟩) hbc
        · rw [if_pos (r_le.mpr (n_lt g)), if_neg g]
          exact ih (i + 1) F F' _ _ _ _ _ (by omega) (by omega) (by omega) (hE.p _) (hE'.p _) (Or.inr ⟨rfl, hb2⟩) hb
theorem best_eq {M N : zMem} {k0 k1 pb q : Nat} (hN : rfN N) (hq : q ≤ 64) (hk : pb ≠ k1) (hl1 : zlen shC k1 = 65) (hl0 : zlen shC pb = 65) (hR : zR M k0 0 = pb) (hpl : ∀ j, j ≤ 64 → zI M pb j = zI N 12 j) (hrw : ∀ j, j ≤ 64 → j ≠ q → zI M k1 j = fRow N j) (hp : ∀ j, j ≤ 64 → btw (zI N 12 j) 0 1000) (hf : ∀ j, j ≤ 64 → btw (zI N 8 j) (-200) 200) : ∃ (b : Int32) (M2 N2 : zMem), zX9_bestAt shC k0 k1 (nI q) M = some (b, M2) ∧ zX12_mend shM 0 (nI q) N = some (b, N2) ∧ M2.2.2 = M.2.2 ∧ (∀ k j, zI M2 k j = zI M k j) ∧ N2.2.2 = N.2.2 ∧ (∀ k j, zI N2 k j = zI N k j) ∧ btw b (-200) 200 := by
  have e18 : zR N 0 18 = 8 := by simp only [hN.o]
  obtain ⟨b, M2, N2, t1, t2, t3, t4, t5, t6, t7⟩ := best_loop hN hq hk hl1 hl0 hR hpl hrw hp hf (zI M k1 q) (zI N 8 q) 401 0 zF zF M N 0 2147483647 (-1) (by omega) (by unfold zF; omega) (by unfold zF; omega) (eqB.rf _ _ _) (eqB.rf _ _ _) (Or.inl ⟨rfl, rfl⟩) ⟨by decide, by decide⟩
  refine ⟨b, M2, N2, ?_, ?_, t3.1, t3.all t4, t5.1, t5.all t6, t7⟩
  · unfold zX9_bestAt
    rw [hl1, rgd (in_a (by omega) (by omega)), nI_clamp (by omega)]
    exact t1
  · unfold zX12_mend
    rw [isIn_l (nI q) 0 64 _ _ rfl rfl, rob, if_neg (by rw [bI_0]; exact nn ⟨nI_pos' (by omega), nI_le (b := 64) hq (by omega)⟩), e18, show zlen shM 8 = 65 from rfl, rgd (in_a (by omega) (by omega)), nI_clamp (by omega), rbd]
    exact t2
theorem sameC_all {M M1 : zMem} (e : M1.2.2 = M.2.2) (h : ∀ k j, zI M1 k j = zI M k j) : sameC M M1 := ⟨e, fun k j _ => h k j⟩
theorem sameN_all {M M1 : zMem} (e : M1.2.2 = M.2.2) (h : ∀ k j, zI M1 k j = zI M k j) : sameN M M1 := ⟨e, fun k j _ => h k j⟩
theorem B_mend_ok : B_mend Inv := by
  intro n M N v1 hn hI
  have hU := Inv_up n M N hI
  obtain ⟨bb, sb, it, nA, nB, ⟨hb, hC, hN, h6, h7⟩, hS⟩ := Inv_Bx hI
  by_cases c : (0 : Int32) ≤ v1 ∧ v1 ≤ 64
  · have g1 : 0 ≤ v1.toInt := r_le.mp c.1
    have g2 : v1.toInt ≤ 64 := r_le.mp c.2
    obtain ⟨q, hq, rfl⟩ := ax_ex (nA := 65) (x := v1) ⟨g1, by omega⟩
    have e4 : zR M (bb + 5) 0 = bb + 6 := by simp only [hC.b hb]
    obtain ⟨b, M2, N2, t1, t2, t3, t4, t5, t6, t7⟩ := best_eq (M := M) (N := N) (k0 := bb + 5) (k1 := bb + 7) (pb := bb + 6) (q := q) hN (by omega) (by omega) (by simp only [lnB hb]) (by simp only [lnB hb]) e4 (fun j hj => by
      rcases hb with rfl | rfl
      · exact (h7 j hj).1
      · exact (h7 j hj).2.1) (fun j hj _ => h6.row j hj) (fun j hj => (h7 j hj).2.2) (fun j hj => (h6.2.2.2.2.2.2.2.2.2.2.2.2.2 j hj).2)
    refine ⟨b, M2, N2, ?_, t2, Inv_same hI (sameC_all t3 t4) (sameN_all t5 t6)⟩
    unfold zX11_mend
    rw [within_eq, rob, if_neg (by rw [bI_0]; exact nn c)]
    simp only [hC.o, hC.b hb]
    rw [t1, rob2]
  · refine ⟨-2147483648, M, N, ?_, ?_, hU⟩
    · unfold zX11_mend
      rw [within_eq, rob, if_pos (by rw [bI_0]; exact c)]
    · unfold zX12_mend
      rw [isIn_l v1 0 64 _ _ rfl rfl, rob, if_pos (by rw [bI_0]; exact c)]
