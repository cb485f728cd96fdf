/-! Phase B: what holds between the calls -/
/-- the class's references: which bench is in use, which is spare, which the reader writes -/
def rfC (M : zMem) (bb sb it : Nat) : Prop := M.2.2 = fun k j => if k = 0 ∧ j = 11 then bb else if k = 0 ∧ j = 12 then sb else if k = 27 ∧ j = 1 then it else (rC.getD k []).getD j 0
def rfN (N : zMem) : Prop := N.2.2 = mM.2.2
theorem rfC.sm {M M1 : zMem} {bb sb it : Nat} (h : rfC M bb sb it) (e : M1.2.2 = M.2.2) : rfC M1 bb sb it := e.trans h
theorem rfN.sm {N N1 : zMem} (h : rfN N) (e : N1.2.2 = N.2.2) : rfN N1 := e.trans h
theorem rfC.o {M : zMem} {bb sb it : Nat} (h : rfC M bb sb it) : zR M 0 0 = 25 ∧ zR M 0 1 = 27 ∧ zR M 0 2 = 28 ∧ zR M 0 3 = 40 ∧ zR M 0 4 = 52 ∧ zR M 0 5 = 174 ∧ zR M 0 6 = 179 ∧ zR M 0 7 = 181 ∧ zR M 0 8 = 182 ∧ zR M 0 9 = 183 ∧ zR M 0 10 = 184 ∧ zR M 25 0 = 26 ∧ zR M 27 0 = 25 ∧ zR M 52 0 = 53 ∧ zR M 174 0 = 175 ∧ zR M 174 1 = 176 ∧ zR M 174 2 = 177 ∧ zR M 177 0 = 178 ∧ zR M 179 0 = 180 ∧ zR M 0 11 = bb ∧ zR M 0 12 = sb ∧ zR M 27 1 = it := by
  unfold zR
  rw [h]
  exact ⟨rfl, rfl, rfl, rfl, rfl, rfl, rfl, rfl, rfl, rfl, rfl, rfl, rfl, rfl, rfl, rfl, rfl, rfl, rfl, rfl, rfl, rfl⟩
theorem rfC.b {M : zMem} {bb sb it b : Nat} (h : rfC M bb sb it) (hb : b = 1 ∨ b = 13) : zR M b 0 = b + 1 ∧ zR M b 1 = b + 2 ∧ zR M b 2 = b + 3 ∧ zR M b 3 = b + 4 ∧ zR M b 4 = b + 5 ∧ zR M b 5 = b + 8 ∧ zR M (b + 1) 0 = b + 9 ∧ zR M (b + 1) 1 = b + 10 ∧ zR M (b + 1) 2 = b + 11 ∧ zR M (b + 5) 0 = b + 6 ∧ zR M (b + 5) 1 = b + 7 := by
  unfold zR
  rw [h]
  rcases hb with rfl | rfl <;> exact ⟨rfl, rfl, rfl, rfl, rfl, rfl, rfl, rfl, rfl, rfl, rfl⟩
def stB (b : Nat) : Prop := b = 28 ∨ b = 40 ∨ b = 54 ∨ b = 66 ∨ b = 78 ∨ b = 90 ∨ b = 102 ∨ b = 114 ∨ b = 126 ∨ b = 138 ∨ b = 150 ∨ b = 162
theorem rfC.s {M : zMem} {bb sb it b : Nat} (h : rfC M bb sb it) (hb : stB b) : zR M b 0 = b + 1 ∧ zR M b 1 = b + 2 ∧ zR M b 2 = b + 7 ∧ zR M b 3 = b + 8 ∧ zR M (b + 1) 0 = b + 9 ∧ zR M (b + 1) 1 = b + 10 ∧ zR M (b + 1) 2 = b + 11 ∧ zR M (b + 2) 0 = b + 3 ∧ zR M (b + 2) 1 = b + 4 ∧ zR M (b + 2) 2 = b + 5 ∧ zR M (b + 5) 0 = b + 6 := by
  unfold zR
  rw [h]
  rcases hb with rfl | rfl | rfl | rfl | rfl | rfl | rfl | rfl | rfl | rfl | rfl | rfl <;> exact ⟨rfl, rfl, rfl, rfl, rfl, rfl, rfl, rfl, rfl, rfl, rfl⟩
theorem rfC.r {M : zMem} {bb sb it : Nat} (h : rfC M bb sb it) {i : Nat} (hi : i < 10) : zR M 53 i = 54 + 12 * i ∧ stB (54 + 12 * i) := by
  unfold zR
  rw [h]
  rcases (show i = 0 ∨ i = 1 ∨ i = 2 ∨ i = 3 ∨ i = 4 ∨ i = 5 ∨ i = 6 ∨ i = 7 ∨ i = 8 ∨ i = 9 by omega) with rfl | rfl | rfl | rfl | rfl | rfl | rfl | rfl | rfl | rfl <;> exact ⟨rfl, by unfold stB; omega⟩
theorem rfN.o {N : zMem} (h : rfN N) : zR N 0 0 = 1 ∧ zR N 0 1 = 2 ∧ zR N 0 13 = 3 ∧ zR N 0 14 = 4 ∧ zR N 0 15 = 5 ∧ zR N 0 16 = 6 ∧ zR N 0 17 = 7 ∧ zR N 0 18 = 8 ∧ zR N 0 19 = 9 ∧ zR N 0 20 = 10 ∧ zR N 0 21 = 11 ∧ zR N 0 33 = 12 ∧ zR N 0 34 = 13 ∧ zR N 0 35 = 14 ∧ zR N 0 37 = 15 ∧ zR N 0 45 = 16 ∧ zR N 0 47 = 17 := by
  unfold zR
  rw [h]
  exact ⟨rfl, rfl, rfl, rfl, rfl, rfl, rfl, rfl, rfl, rfl, rfl, rfl, rfl, rfl, rfl, rfl, rfl⟩
theorem lnM : zlen shM 1 = 194 ∧ zlen shM 2 = 900 ∧ zlen shM 3 = 3 ∧ zlen shM 4 = 18 ∧ zlen shM 5 = 18 ∧ zlen shM 6 = 18 ∧ zlen shM 7 = 18 ∧ zlen shM 8 = 65 ∧ zlen shM 9 = 65 ∧ zlen shM 10 = 65 ∧ zlen shM 11 = 3 ∧ zlen shM 12 = 65 ∧ zlen shM 13 = 65 ∧ zlen shM 14 = 64 ∧ zlen shM 15 = 3 ∧ zlen shM 16 = 1940 ∧ zlen shM 17 = 194 := ⟨rfl, rfl, rfl, rfl, rfl, rfl, rfl, rfl, rfl, rfl, rfl, rfl, rfl, rfl, rfl, rfl, rfl⟩
theorem lnC : zlen shC 26 = 900 ∧ zlen shC 53 = 10 ∧ zlen shC 175 = 3 ∧ zlen shC 176 = 3 ∧ zlen shC 178 = 61 ∧ zlen shC 180 = 61 ∧ zlen shC 183 = 3 ∧ zlen shC 184 = 65 := ⟨rfl, rfl, rfl, rfl, rfl, rfl, rfl, rfl⟩
theorem lnB {b : Nat} (hb : b = 1 ∨ b = 13) : zlen shC (b + 1) = 3 ∧ zlen shC (b + 2) = 6 ∧ zlen shC (b + 3) = 6 ∧ zlen shC (b + 4) = 6 ∧ zlen shC (b + 6) = 65 ∧ zlen shC (b + 7) = 65 ∧ zlen shC (b + 8) = 65 := by
  rcases hb with rfl | rfl <;> exact ⟨rfl, rfl, rfl, rfl, rfl, rfl, rfl⟩
theorem lnS {b : Nat} (hb : stB b) : zlen shC (b + 1) = 3 ∧ zlen shC (b + 3) = 3 ∧ zlen shC (b + 4) = 3 ∧ zlen shC (b + 6) = 61 ∧ zlen shC (b + 7) = 24 ∧ zlen shC (b + 8) = 3 := by
  rcases hb with rfl | rfl | rfl | rfl | rfl | rfl | rfl | rfl | rfl | rfl | rfl | rfl <;> exact ⟨rfl, rfl, rfl, rfl, rfl, rfl⟩
/-- the sum of a ramp's first k speeds -/
def psum (L : List Int) (k : Nat) : Int := (L.take k).sum
def rmL (L : List Int) : Prop := L.length ≤ 60 ∧ ∀ x ∈ L, 1 ≤ x ∧ x ≤ 60
def evOK (rest E : Int) : Prop := 0 ≤ E ∧ E ≤ rest ∧ rest ≤ 60 * E
/-- what is gone behind k ticks of a move -/
def fG (L : List Int) (E rest : Int) (k : Int) : Int :=
  if k ≤ 0 then 0 else if 2 * L.length + E ≤ k then 2 * psum L L.length + rest else if k ≤ L.length then psum L k.toNat else if k - L.length ≤ E then psum L L.length + rest * (k - L.length) / E else 2 * psum L L.length + rest - psum L (2 * L.length + E - k).toNat
/-- the places of a state that count -/
def relS (k j : Nat) : Bool := (k == 0 && decide (4 ≤ j) && decide (j < 13)) || (k == 2 && decide (3 ≤ j) && decide (j < 10)) || ((k == 3 || k == 4) && decide (j < 3)) || (k == 5 && j == 1) || (k == 6 && decide (j < 61)) || (k == 7 && decide (j < 24)) || (decide (9 ≤ k) && decide (k < 12) && decide (j < 6))
def vSt (M : zMem) (b : Nat) : Nat → Nat → Int32 := fun k j => if relS k j = true then zI M (b + k) j else 0
/-- a number from a to b -/
def btw (x : Int32) (a b : Int) : Prop := a ≤ x.toInt ∧ x.toInt ≤ b
/-- a move that is on: the class's view V, the reference's row f -/
def rMv (V : Nat → Nat → Int32) (f : Nat → Int32) (nA : Nat) : Prop :=
  V 2 4 = f 3 ∧ btw (f 3) 1 60000 ∧ V 2 6 = f 10 ∧ btw (f 10) 1 30 ∧ V 2 7 = f 11 ∧ btw (f 11) 1 10 ∧ V 0 11 = f 16 ∧ btw (f 16) 0 60000 ∧ V 0 12 = f 20 ∧ btw (f 20) 0 60 ∧
  (∀ a, a < nA → V 3 a = f (4 + a) ∧ V 4 a = f (7 + a) ∧ btw (f (4 + a)) (-30000) 30000 ∧ -30000 ≤ (f (4 + a)).toInt + (f (7 + a)).toInt ∧ (f (4 + a)).toInt + (f (7 + a)).toInt ≤ 30000 ∧ -(f 3).toInt ≤ (f (7 + a)).toInt ∧ (f (7 + a)).toInt ≤ (f 3).toInt) ∧
  (V 0 9 = f 17 ∧ 0 < nA) ∧
  ∃ L : List Int, rmL L ∧ (∀ k, k ≤ L.length → V 6 k = iI (psum L k)) ∧ V 5 1 = iI L.length ∧
    ((f 17 = 0 ∧ f 12 = iI L.length ∧ (∀ k, k < L.length → f (66 + k) = iI (L.getD k 0)) ∧ ∃ E rest D : Int, V 2 8 = iI rest ∧ f 13 = iI rest ∧ V 2 9 = iI E ∧ f 14 = iI E ∧ f 15 = iI D ∧ 0 ≤ D ∧ D < 2 * L.length + E ∧ V 0 10 = iI (2 * L.length + E - D) ∧ (f 3).toInt = 2 * psum L L.length + rest ∧ evOK rest E ∧ (f 16).toInt = fG L E rest D) ∨
     (f 17 = 1 ∧ f 18 = iI L.length ∧ (∀ k, k < L.length → f (130 + k) = iI (L.getD k 0)) ∧ ∃ H D : Int, f 15 = iI D ∧ f 19 = iI H ∧ 0 ≤ H ∧ H ≤ 70000 ∧ H ≤ D ∧ D < H + L.length ∧ V 0 10 = iI (H + L.length - D) ∧ (f 16).toInt + psum L (H + L.length - D).toNat ≤ (f 3).toInt))
/-- a state of the class by its view, and the reference's row -/
def rSt (V : Nat → Nat → Int32) (f : Nat → Int32) (nA : Nat) (T : Int) : Prop :=
  V 0 5 = f 0 ∧ btw (f 0) 0 T ∧ V 0 6 = f 21 ∧ V 0 7 = f 22 ∧ V 0 4 = f 23 ∧ btw (f 23) 0 8 ∧
  (∀ i : Nat, i < 24 → (i : Int) < 3 * (f 23).toInt → V 7 i = f (24 + i)) ∧
  (∀ i a : Nat, (i : Int) < (f 23).toInt → a < nA → btw (f (24 + 3 * i + a)) (-30000) 30000) ∧
  (∀ a, a < nA → (∀ j, j < 6 → V (9 + a) j = f (48 + 6 * a + j)) ∧ btw (f (48 + 6 * a)) (-30000) 30000 ∧ btw (f (48 + 6 * a + 3)) (-2000) 2000 ∧ btw (f (48 + 6 * a + 4)) 0 2048 ∧ 0 ≤ (f (48 + 6 * a + 5)).toInt) ∧
  V 0 8 = f 1 ∧ (V 0 9 = 0 ∨ V 0 9 = 1) ∧ ((f 1 = 0 ∧ V 0 10 = 0) ∨ (f 1 = 1 ∧ rMv V f nA))
/-- the tape -/
def IvT (M N : zMem) : Prop := zI M 25 1 = zI N 0 2 ∧ btw (zI N 0 2) 0 900 ∧ ∀ i : Nat, (i : Int) < (zI N 0 2).toInt → zI M 26 i &&& 255 = zI N 2 i
/-- no ramp has gone anywhere behind no tick -/
def G0 (M : zMem) : Prop := zI M 178 0 = 0 ∧ zI M 180 0 = 0 ∧ ∀ b, stB b → zI M (b + 6) 0 = 0
def IvF (M N : zMem) : Prop := zI M 27 7 = zI N 0 10 ∧ zI M 27 8 = zI N 0 11 ∧ G0 M
/-- the bench in use -/
def IvB (M N : zMem) (bb nA nB : Nat) : Prop :=
  nA ≤ 3 ∧ nB ≤ 6 ∧ zI M bb 6 = nI nA ∧ zI N 0 22 = nI nA ∧ zI M bb 7 = nI nB ∧ zI N 0 24 = nI nB ∧ zI M bb 8 = zI N 0 26 ∧ zI M bb 9 = zI N 0 28 ∧ btw (zI N 0 28) 1 2000 ∧ zI M bb 10 = zI N 0 29 ∧ btw (zI N 0 29) 1 99 ∧
  (∀ a, a < nA → (∀ j, j < 6 → zI M (bb + 9 + a) (j + 1) = zI N 4 (6 * a + j)) ∧ btw (zI N 4 (6 * a)) 1 60 ∧ btw (zI N 4 (6 * a + 1)) 1 30 ∧ btw (zI N 4 (6 * a + 2)) 1 10 ∧ btw (zI N 4 (6 * a + 3)) 1 9999 ∧ btw (zI N 4 (6 * a + 4)) 1 999 ∧ btw (zI N 4 (6 * a + 5)) 0 90) ∧
  (∀ b, b < nB → zI M (bb + 2) b = zI N 6 (3 * b) ∧ zI M (bb + 3) b = zI N 6 (3 * b + 1) ∧ zI M (bb + 4) b = zI N 6 (3 * b + 2) ∧ 1 ≤ (zI N 6 (3 * b + 1)).toInt) ∧
  (∀ q, q ≤ 64 → zI M (bb + 7) q = zI N 12 q + zI N 8 q ∧ btw (zI N 8 q) (-200) 200)
/-- both tables without corrections -/
def IvP (M N : zMem) : Prop := ∀ q, q ≤ 64 → zI M 7 q = zI N 12 q ∧ zI M 19 q = zI N 12 q ∧ btw (zI N 12 q) 0 1000
/-- acts that can be undone -/
def IvH (M N : zMem) (nA : Nat) (T : Int) : Prop := ∃ kept next : Nat, kept ≤ 10 ∧ next < 10 ∧ zI M 52 2 = nI kept ∧ zI N 0 46 = nI kept ∧ zI M 52 1 = nI next ∧ ∀ i, i < kept → rSt (vSt M (54 + 12 * ((next + 10 - kept + i) % 10))) (fun j => zI N 16 (194 * i + j)) nA T
def Inv (n : Nat) (M N : zMem) : Prop := ∃ bb sb it nA nB : Nat, ((bb = 1 ∧ sb = 13) ∨ (bb = 13 ∧ sb = 1)) ∧ rfC M bb sb it ∧ rfN N ∧ IvT M N ∧ IvF M N ∧ IvB M N bb nA nB ∧ IvP M N ∧ rSt (vSt M 28) (zI N 1) nA (500 * n) ∧ IvH M N nA (500 * n)
theorem btw.w {x : Int32} {a b c d : Int} (h : btw x a b) (h1 : c ≤ a) (h2 : b ≤ d) : btw x c d := ⟨Int.le_trans h1 h.1, Int.le_trans h.2 h2⟩
theorem rSt.w {V : Nat → Nat → Int32} {f : Nat → Int32} {nA : Nat} {T T1 : Int} (h : rSt V f nA T) (hT : T ≤ T1) : rSt V f nA T1 := ⟨h.1, h.2.1.w (Int.le_refl _) hT, h.2.2⟩
theorem IvH.w {M N : zMem} {nA : Nat} {T T1 : Int} (h : IvH M N nA T) (hT : T ≤ T1) : IvH M N nA T1 := by
  obtain ⟨kept, next, h1, h2, h3, h4, h5, h6⟩ := h
  exact ⟨kept, next, h1, h2, h3, h4, h5, fun i hi => (h6 i hi).w hT⟩
theorem Inv_up (n : Nat) (M N : zMem) (h : Inv n M N) : Inv (n + 1) M N := by
  obtain ⟨bb, sb, it, nA, nB, h1, h2, h3, h4, h5, h6, h7, h8, h9⟩ := h
  exact ⟨bb, sb, it, nA, nB, h1, h2, h3, h4, h5, h6, h7, h8.w (by omega), h9.w (by omega)⟩
/-- the state's view is the same where the blocks are -/
theorem vSt_same {M M1 : zMem} {b : Nat} (h : ∀ k j, b ≤ k → k < b + 12 → k ≠ b + 8 → zI M1 k j = zI M k j) : vSt M1 b = vSt M b := by
  funext k j
  unfold vSt
  by_cases hr : relS k j = true
  · rw [if_pos hr, if_pos hr]
    have : k < 12 ∧ k ≠ 8 := by
      unfold relS at hr
      simp only [Bool.or_eq_true, Bool.and_eq_true, beq_iff_eq, decide_eq_true_eq] at hr
      omega
    exact h _ _ (by omega) (by omega) (by omega)
  · rw [if_neg hr, if_neg hr]
/-- calls that only ask: the class writes ahead and what lies behind the history, the reference its own rows of work -/
def sameC (M M1 : zMem) : Prop := M1.2.2 = M.2.2 ∧ ∀ k j, (k < 36 ∨ (36 < k ∧ k < 40) ∨ (52 ≤ k ∧ k < 174) ∨ ((k = 46 ∨ k = 178 ∨ k = 180) ∧ j = 0)) → zI M1 k j = zI M k j
def keepN (k j : Nat) : Prop := k = 1 ∨ k = 2 ∨ k = 4 ∨ k = 6 ∨ k = 8 ∨ k = 12 ∨ k = 16 ∨ (k = 0 ∧ (j = 2 ∨ j = 10 ∨ j = 11 ∨ j = 22 ∨ j = 24 ∨ j = 26 ∨ j = 28 ∨ j = 29 ∨ j = 46))
def sameN (N N1 : zMem) : Prop := N1.2.2 = N.2.2 ∧ ∀ k j, keepN k j → zI N1 k j = zI N k j
theorem sameC.rf (M : zMem) : sameC M M := ⟨rfl, fun _ _ _ => rfl⟩
theorem sameN.rf (N : zMem) : sameN N N := ⟨rfl, fun _ _ _ => rfl⟩
theorem sameC.tr {M M1 M2 : zMem} (h : sameC M M1) (g : sameC M1 M2) : sameC M M2 := ⟨g.1.trans h.1, fun k j hk => (g.2 k j hk).trans (h.2 k j hk)⟩
theorem sameN.tr {M M1 M2 : zMem} (h : sameN M M1) (g : sameN M1 M2) : sameN M M2 := ⟨g.1.trans h.1, fun k j hk => (g.2 k j hk).trans (h.2 k j hk)⟩
theorem IvT.sm {M M1 N N1 : zMem} (h : IvT M N) (hM : ∀ k j, k = 25 ∨ k = 26 → zI M1 k j = zI M k j) (hN : ∀ k j, (k = 0 ∧ j = 2) ∨ k = 2 → zI N1 k j = zI N k j) : IvT M1 N1 := by
  unfold IvT
  rw [hM 25 1 (by omega), hN 0 2 (by omega)]
  exact ⟨h.1, h.2.1, fun i hi => by rw [hM 26 i (by omega), hN 2 i (by omega)]; exact h.2.2 i hi⟩
theorem IvB.sm {M M1 N N1 : zMem} {bb nA nB : Nat} (h : IvB M N bb nA nB) (hM : ∀ k j, bb ≤ k → k < bb + 12 → zI M1 k j = zI M k j) (hN : ∀ k j, (k = 0 ∧ (j = 22 ∨ j = 24 ∨ j = 26 ∨ j = 28 ∨ j = 29)) ∨ k = 4 ∨ k = 6 ∨ k = 8 ∨ k = 12 → zI N1 k j = zI N k j) : IvB M1 N1 bb nA nB := by
  obtain ⟨h1, h2, h3, h4, h5, h6, h7, h8, h9, h10, h11, h12, h13, h14⟩ := h
  unfold IvB
  rw [hM bb 6 (by omega) (by omega), hM bb 7 (by omega) (by omega), hM bb 8 (by omega) (by omega), hM bb 9 (by omega) (by omega), hM bb 10 (by omega) (by omega), hN 0 22 (by omega), hN 0 24 (by omega), hN 0 26 (by omega), hN 0 28 (by omega), hN 0 29 (by omega)]
  refine ⟨h1, h2, h3, h4, h5, h6, h7, h8, h9, h10, h11, fun a ha => ?_, fun b hb => ?_, fun q hq => ?_⟩
  · rw [hN 4 _ (by omega), hN 4 _ (by omega), hN 4 _ (by omega), hN 4 _ (by omega), hN 4 _ (by omega), hN 4 _ (by omega)]
    exact ⟨fun j hj => by rw [hM _ _ (by omega) (by omega), hN 4 _ (by omega)]; exact (h12 a ha).1 j hj, (h12 a ha).2⟩
  · rw [hM _ _ (by omega) (by omega), hM _ _ (by omega) (by omega), hM _ _ (by omega) (by omega), hN 6 _ (by omega), hN 6 _ (by omega), hN 6 _ (by omega)]
    exact h13 b hb
  · rw [hM _ _ (by omega) (by omega), hN 8 _ (by omega), hN 12 _ (by omega)]
    exact h14 q hq
theorem IvP.sm {M M1 N N1 : zMem} (h : IvP M N) (hM : ∀ k j, k = 7 ∨ k = 19 → zI M1 k j = zI M k j) (hN : ∀ j, zI N1 12 j = zI N 12 j) : IvP M1 N1 := fun q hq => by
  rw [hM 7 q (by omega), hM 19 q (by omega), hN q]
  exact h q hq
theorem IvH.sm {M M1 N N1 : zMem} {nA : Nat} {T : Int} (h : IvH M N nA T) (hM : ∀ k j, 52 ≤ k → k < 174 → zI M1 k j = zI M k j) (hN : ∀ k j, (k = 0 ∧ j = 46) ∨ k = 16 → zI N1 k j = zI N k j) : IvH M1 N1 nA T := by
  obtain ⟨kept, next, h1, h2, h3, h4, h5, h6⟩ := h
  refine ⟨kept, next, h1, h2, by rw [hM 52 2 (by omega) (by omega)]; exact h3, by rw [hN 0 46 (by omega)]; exact h4, by rw [hM 52 1 (by omega) (by omega)]; exact h5, fun i hi => ?_⟩
  have e : (fun j => zI N1 16 (194 * i + j)) = fun j => zI N 16 (194 * i + j) := by funext j; exact hN 16 _ (by omega)
  rw [e, vSt_same (M := M) (M1 := M1) (fun k j g1 g2 g3 => hM k j (by omega) (by omega))]
  exact h6 i hi
theorem Inv_same {n : Nat} {M N M1 N1 : zMem} (h : Inv n M N) (hM : sameC M M1) (hN : sameN N N1) : Inv (n + 1) M1 N1 := by
  obtain ⟨bb, sb, it, nA, nB, h1, h2, h3, h4, h5, h6, h7, h8, h9⟩ := Inv_up n M N h
  refine ⟨bb, sb, it, nA, nB, h1, h2.sm hM.1, h3.sm hN.1, h4.sm (fun k j g => hM.2 k j (by omega)) (fun k j g => hN.2 k j (by unfold keepN; omega)), ?_, h6.sm (fun k j g1 g2 => hM.2 k j (by omega)) (fun k j g => hN.2 k j (by unfold keepN; omega)), h7.sm (fun k j g => hM.2 k j (by omega)) (fun j => hN.2 12 j (by unfold keepN; omega)), ?_, h9.sm (fun k j g1 g2 => hM.2 k j (by omega)) (fun k j g => hN.2 k j (by unfold keepN; omega))⟩
  · unfold IvF
    rw [hM.2 27 7 (by omega), hM.2 27 8 (by omega), hN.2 0 10 (by unfold keepN; omega), hN.2 0 11 (by unfold keepN; omega)]
    exact ⟨h5.1, h5.2.1, by rw [hM.2 178 0 (by omega)]; exact h5.2.2.1, by rw [hM.2 180 0 (by omega)]; exact h5.2.2.2.1, fun b hb => by rw [hM.2 (b + 6) 0 (by unfold stB at hb; omega)]; exact h5.2.2.2.2 b hb⟩
  · have e : zI N1 1 = zI N 1 := by funext j; exact hN.2 1 j (by unfold keepN; omega)
    rw [e, vSt_same (M := M) (M1 := M1) (fun k j g1 g2 g3 => hM.2 k j (by omega))]
    exact h8
