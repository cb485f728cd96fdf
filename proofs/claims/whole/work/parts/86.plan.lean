/-! Phase B: a move planned -/
/-- the first of the longest ways among the first a -/
def isLd (d : Nat → Int) (a l w : Nat) : Prop := (a = 0 ∧ l = 0 ∧ w = 0) ∨ (l < a ∧ w = (d l).natAbs ∧ ∀ c, c < a → (d c).natAbs ≤ (d l).natAbs ∧ (c < l → (d c).natAbs < (d l).natAbs))
theorem isLd_u {d : Nat → Int} {a l w l' w' : Nat} (h : isLd d a l w) (g : isLd d a l' w') : l = l' ∧ w = w' := by
  rcases h with ⟨h0, h1, h2⟩ | ⟨h1, h2, h3⟩
  · rcases g with ⟨g0, g1, g2⟩ | ⟨g1, g2, g3⟩
    · omega
    · omega
  · rcases g with ⟨g0, g1, g2⟩ | ⟨g1, g2, g3⟩
    · omega
    · rcases Nat.lt_trichotomy l l' with k | k | k
      · have a1 := (g3 l h1).2 k
        have a2 := (h3 l' g1).1
        omega
      · subst k; omega
      · have a1 := (h3 l' g1).2 k
        have a2 := (g3 l h1).1
        omega
theorem isLd_s {d : Nat → Int} {a l w : Nat} (h : isLd d a l w) : (w < (d a).natAbs → isLd d (a + 1) a (d a).natAbs) ∧ (¬ w < (d a).natAbs → isLd d (a + 1) l w) := by
  rcases h with ⟨rfl, rfl, rfl⟩ | ⟨h1, h2, h3⟩
  · constructor
    · intro _
      refine Or.inr ⟨by omega, rfl, fun c hc => ?_⟩
      obtain rfl : c = 0 := by omega
      exact ⟨Nat.le_refl _, fun k => by omega⟩
    · intro k
      refine Or.inr ⟨by omega, by omega, fun c hc => ?_⟩
      obtain rfl : c = 0 := by omega
      exact ⟨Nat.le_refl _, fun k => by omega⟩
  · constructor
    · intro k
      refine Or.inr ⟨by omega, rfl, fun c hc => ?_⟩
      by_cases g : c = a
      · subst g; omega
      · have := h3 c (by omega); omega
    · intro k
      refine Or.inr ⟨by omega, h2, fun c hc => ?_⟩
      by_cases g : c = a
      · subst g; omega
      · exact h3 c (by omega)
def frm (mb : Nat) (M M1 : zMem) : Prop := M1.2.2 = M.2.2 ∧ ∀ k j, ¬ (mb ≤ k ∧ k ≤ mb + 4) → zI M1 k j = zI M k j
theorem frm.tr {mb : Nat} {M M1 M2 : zMem} (h : frm mb M M1) (g : frm mb M1 M2) : frm mb M M2 := ⟨g.1.trans h.1, fun k j hk => (g.2 k j hk).trans (h.2 k j hk)⟩
def onlyQ (N N1 : zMem) : Prop := N1.2.2 = N.2.2 ∧ ∀ k j, k ≠ 14 → k ≠ 15 → ¬ (k = 0 ∧ 36 ≤ j ∧ j ≤ 44) → zI N1 k j = zI N k j
theorem onlyQ.tr {M M1 M2 : zMem} (h : onlyQ M M1) (g : onlyQ M1 M2) : onlyQ M M2 := ⟨g.1.trans h.1, fun k j a b c => (g.2 k j a b c).trans (h.2 k j a b c)⟩
theorem onlyQ.N {N N1 : zMem} (h : onlyQ N N1) : sameN N N1 := ⟨h.1, fun k j hk => h.2 k j (by unfold keepN at hk; omega) (by unfold keepN at hk; omega) (by unfold keepN at hk; omega)⟩
theorem onlyR.Q {N N1 : zMem} (h : onlyR N N1) : onlyQ N N1 := ⟨h.1, fun k j a b c => h.2 k j a (by omega)⟩
def its (N : zMem) (d : Nat → Int) (W a j : Nat) : Nat := (zI N 4 (6 * a + j)).toInt.toNat * W / (d a).natAbs
def clF (N : zMem) (d : Nat → Int) (W cap j : Nat) : Nat → Nat
  | 0 => cap
  | a + 1 => if (d a).natAbs = 0 then clF N d W cap j a else min (clF N d W cap j a) (its N d W a j)
def leF (N : zMem) (d : Nat → Int) (W j : Nat) : Nat → Nat
  | 0 => 0
  | a + 1 => if (d a).natAbs = 0 then leF N d W j a else if leF N d W j a = 0 then its N d W a j else min (leF N d W j a) (its N d W a j)
theorem lim_eq {N : zMem} {d : Nat → Int} {W cap j n l : Nat} (hW : 1 ≤ W) (hd : ∀ c, c < n → (d c).natAbs ≤ W) (hl : l < n) (hdl : (d l).natAbs = W) (hp : ∀ c, c < n → 1 ≤ (zI N 4 (6 * c + j)).toInt) (hc : (zI N 4 (6 * l + j)).toInt ≤ cap) : clF N d W cap j n = leF N d W j n ∧ 1 ≤ leF N d W j n ∧ leF N d W j n ≤ cap := by
  have h1 : ∀ c, c < n → (d c).natAbs ≠ 0 → 1 ≤ its N d W c j := fun c hc h0 => by
    unfold its
    have h2 := hp c hc
    have h3 := hd c hc
    have h4 : 1 * W ≤ (zI N 4 (6 * c + j)).toInt.toNat * W := Nat.mul_le_mul (by omega) (Nat.le_refl _)
    exact (Nat.le_div_iff_mul_le (by omega)).mpr (by omega)
  have inv : ∀ a, a ≤ n → (leF N d W j a = 0 ∧ clF N d W cap j a = cap ∧ ∀ c, c < a → (d c).natAbs = 0) ∨ (1 ≤ leF N d W j a ∧ clF N d W cap j a = min cap (leF N d W j a) ∧ ∀ c, c < a → (d c).natAbs ≠ 0 → leF N d W j a ≤ its N d W c j) := by
    intro a
    induction a with
    | zero => intro _; exact Or.inl ⟨rfl, rfl, fun c hc => by omega⟩
    | succ a ih =>
      intro ha
      unfold leF clF
      by_cases h0 : (d a).natAbs = 0
      · rw [if_pos h0, if_pos h0]
        rcases ih (by omega) with ⟨i1, i2, i3⟩ | ⟨i1, i2, i3⟩
        · refine Or.inl ⟨i1, i2, fun c hc => ?_⟩
          by_cases g : c = a
          · rw [g]; exact h0
          · exact i3 c (by omega)
        · refine Or.inr ⟨i1, i2, fun c hc h => ?_⟩
          by_cases g : c = a
          · rw [g] at h; exact absurd h0 h
          · exact i3 c (by omega) h
      · rw [if_neg h0, if_neg h0]
        have hi := h1 a (by omega) h0
        rcases ih (by omega) with ⟨i1, i2, i3⟩ | ⟨i1, i2, i3⟩
        · rw [if_pos i1, i2]
          refine Or.inr ⟨hi, rfl, fun c hc h => ?_⟩
          by_cases g : c = a
          · rw [g]; exact Nat.le_refl _
          · exact absurd (i3 c (by omega)) h
        · rw [if_neg (by omega), i2]
          refine Or.inr ⟨by omega, by omega, fun c hc h => ?_⟩
          by_cases g : c = a
          · rw [g]; omega
          · have := i3 c (by omega) h; omega
  have hil : its N d W l j ≤ cap := by
    unfold its
    rw [hdl, Nat.mul_div_cancel _ (by omega)]
    omega
  rcases inv n (Nat.le_refl _) with ⟨i1, i2, i3⟩ | ⟨i1, i2, i3⟩
  · exact absurd (i3 l hl) (by omega)
  · have := i3 l hl (by omega)
    exact ⟨by omega, i1, by omega⟩
theorem min_n {a b : Nat} (ha : a < 2147483648) (hb : b < 2147483648) : zmin (nI a) (nI b) = nI (min a b) := by
  unfold zmin
  by_cases h : b < a
  · rw [if_pos (nI_lt h (by omega)), Nat.min_eq_right (by omega)]
  · rw [if_neg (nI_nlt (by omega) (by omega)), Nat.min_eq_left (by omega)]
theorem its_le {N : zMem} {d : Nat → Int} {W a j : Nat} (hW : W ≤ 60000) (hp : (zI N 4 (6 * a + j)).toInt ≤ 60) : its N d W a j ≤ 3600000 := by
  unfold its
  have h1 : (zI N 4 (6 * a + j)).toInt.toNat * W ≤ 60 * 60000 := Nat.mul_le_mul (by omega) hW
  exact Nat.le_trans (Nat.div_le_self _ _) (by omega)
theorem leF_le {N : zMem} {d : Nat → Int} {W j n : Nat} (hW : W ≤ 60000) (hp : ∀ c, c < n → (zI N 4 (6 * c + j)).toInt ≤ 60) : ∀ a, a ≤ n → leF N d W j a ≤ 3600000 := by
  intro a
  induction a with
  | zero => intro _; exact Nat.zero_le _
  | succ a ih =>
    intro ha
    have i1 := ih (by omega)
    have i2 := its_le (d := d) hW (hp a (by omega))
    unfold leF
    split
    · exact i1
    · split
      · exact i2
      · omega
theorem axP {N : zMem} {a j : Nat} (h : 0 ≤ (zI N 4 (6 * a + j)).toInt) : zI N 4 (6 * a + j) = nI (zI N 4 (6 * a + j)).toInt.toNat := by
  rw [iI_n, Int.toNat_of_nonneg h, iI_t]
theorem least_eq {M N : zMem} {bb sb it nA nB : Nat} {d : Nat → Int} {W j : Nat} {c : Int32} (hB : Bx M N bb sb it nA nB) (hj : j < 3) (hc : c = nI j) (hW : W ≤ 60000) (h39 : zI N 0 39 = nI W) (hg : ∀ a, a < 3 → zI N 15 a = iI (d a)) (hd : ∀ a, (d a).natAbs ≤ 60000) : zX12_least shM 0 c N = some (nI (leF N d W j nA)) := by
  obtain ⟨hb, hC, hN, h6, h7⟩ := hB
  have hn3 : nA ≤ 3 := h6.1
  have e37 : zR N 0 37 = 15 := by simp only [hN.o]
  have e14 : zR N 0 14 = 4 := by simp only [hN.o]
  have n22 : zI N 0 22 = nI nA := h6.2.2.2.1
  have hpb : ∀ c, c < nA → 1 ≤ (zI N 4 (6 * c + j)).toInt ∧ (zI N 4 (6 * c + j)).toInt ≤ 60 := fun c hc => by
    have hax := h6.2.2.2.2.2.2.2.2.2.2.2.1 c hc
    unfold btw at hax
    rcases (show j = 0 ∨ j = 1 ∨ j = 2 by omega) with rfl | rfl | rfl
    · exact ⟨hax.2.1.1, hax.2.1.2⟩
    · exact ⟨hax.2.2.1.1, by have := hax.2.2.1.2; omega⟩
    · exact ⟨hax.2.2.2.1.1, by have := hax.2.2.2.1.2; omega⟩
  have hle := leF_le (d := d) (j := j) (n := nA) hW (fun c hc => (hpb c hc).2)
  have loop : ∀ (r a F : Nat), a + r = nA → r < F → zlX12_least_4 shM 0 c N F (nI (leF N d W j a)) (nI a) = some (nI (leF N d W j nA)) := by
    intro r
    induction r with
    | zero =>
      intro a F h1 hF
      obtain ⟨F, rfl⟩ : ∃ x, F = x + 1 := ⟨F - 1, by omega⟩
      obtain rfl : a = nA := by omega
      simp only [zlX12_least_4]
      unfold zbX12_least_4
      rw [n22, if_pos (nI_le (by omega) (by omega))]
    | succ r ih =>
      intro a F h1 hF
      obtain ⟨F, rfl⟩ : ∃ x, F = x + 1 := ⟨F - 1, by omega⟩
      have hda := hd a
      have ih := ih (a + 1) F (by omega) (by omega)
      rw [show leF N d W j (a + 1) = (if (d a).natAbs = 0 then leF N d W j a else if leF N d W j a = 0 then its N d W a j else min (leF N d W j a) (its N d W a j)) from rfl] at ih
      have hla := hle a (by omega)
      simp only [zlX12_least_4]
      unfold zbX12_least_4 zjX12_least_71 zjX12_least_72
      rw [n22, if_neg (nI_ge (by omega) (by omega)), e37, show zlen shM 15 = 3 from rfl, rgd (in_a (by omega) (by omega)), nI_clamp (by omega), hg a (by omega)]
      by_cases h0 : (d a).natAbs = 0
      · rw [if_pos h0] at ih
        rw [if_pos (show iI (d a) = 0 by rw [show d a = 0 by omega]; rfl), nI_1]
        exact ih
      · rw [if_neg h0] at ih
        have i := ix6 (a := a) (j := j) (c := c) (by omega) (by omega) hc
        have hp := hpb a (by omega)
        have hpl := its_le (d := d) hW hp.2
        rw [if_neg (show ¬ iI (d a) = 0 by rw [show (0 : Int32) = iI 0 from rfl, iI_eq (by omega) (by omega) (by omega) (by omega)]; omega), i.1, e14, show zlen shM 4 = 18 from rfl, rgd i.2.1, i.2.2, rgd (in_a (by omega) (by omega)), size_eq, rob, iI_abs (by omega) (by omega), h39, axP (by omega), iI_n, iI_n, iI_l (by omega) (by omega), iI_l (by omega) (by omega), iI_l (by omega) (by omega)]
        have hm : ((zI N 4 (6 * a + j)).toInt.toNat : Int) * W ≤ 3600000 := by
          have : (zI N 4 (6 * a + j)).toInt.toNat * W ≤ 60 * 60000 := Nat.mul_le_mul (by omega) hW
          have h2 : (((zI N 4 (6 * a + j)).toInt.toNat * W : Nat) : Int) ≤ 3600000 := by omega
          rw [Int.natCast_mul] at h2
          exact h2
        have hm0 : 0 ≤ ((zI N 4 (6 * a + j)).toInt.toNat : Int) * W := Int.mul_nonneg (by omega) (by omega)
        rw [rgd (lI_nz (by omega) (by omega) (by omega)), lI_mul, lI_divp (by omega) (by omega) (by omega) (by omega), lI_32, rbd]
        have hv : iI (((zI N 4 (6 * a + j)).toInt.toNat : Int) * W / ((d a).natAbs : Int)) = nI (its N d W a j) := by
          unfold its
          rw [iI_n, Int.natCast_ediv, Int.natCast_mul]
        rw [hv]
        by_cases hz : leF N d W j a = 0
        · rw [if_pos hz] at ih
          rw [if_pos (show nI (leF N d W j a) = 0 by rw [hz]; rfl), nI_1]
          exact ih
        · rw [if_neg hz] at ih
          rw [if_neg (nI_ne0 (by omega) (by omega)), lesser_eq, rob, min_n (by omega) (by omega), nI_1]
          exact ih
  unfold zX12_least
  exact loop nA 0 zF (by omega) (by unfold zF; omega)
theorem limits_eq {N : zMem} {bb sb it nA nB mb W : Nat} {d : Nat → Int} (hmb : 25 ≤ mb) (hlen : zlen shC (mb + 2) = 3) (hW : W ≤ 60000) (hd : ∀ a, (d a).natAbs ≤ 60000) : ∀ (r a F : Nat) (M : zMem), a + r = nA → r < F → Bx M N bb sb it nA nB → mvB M mb → (∀ c, c < 3 → zI M (mb + 2) c = iI (d c)) → zI M mb 4 = nI W → zI M mb 5 = nI (clF N d W 60 0 a) → zI M mb 6 = nI (clF N d W 30 1 a) → zI M mb 7 = nI (clF N d W 10 2 a) → ∃ M1, zlX4_findLimits_20 shC mb bb F (nI a) M = some M1 ∧ zI M1 mb 5 = nI (clF N d W 60 0 nA) ∧ zI M1 mb 6 = nI (clF N d W 30 1 nA) ∧ zI M1 mb 7 = nI (clF N d W 10 2 nA) ∧ M1.2.2 = M.2.2 ∧ (∀ k j, ¬ (k = mb ∧ (j = 5 ∨ j = 6 ∨ j = 7)) → zI M1 k j = zI M k j) := by
  have hcl : ∀ cap j a, cap ≤ 60 → clF N d W cap j a ≤ 60 := by
    intro cap j a hcap
    induction a with
    | zero => exact hcap
    | succ a ih =>
      unfold clF
      split
      · exact ih
      · omega
  intro r
  induction r with
  | zero =>
    intro a F M h1 hF hB hm hby e4 e5 e6 e7
    obtain ⟨F, rfl⟩ : ∃ x, F = x + 1 := ⟨F - 1, by omega⟩
    obtain rfl : a = nA := by omega
    have hn3 : a ≤ 3 := hB.2.2.2.1.1
    simp only [zlX4_findLimits_20]
    unfold zbX4_findLimits_20
    rw [hB.2.2.2.1.2.2.1, if_pos (nI_le (by omega) (by omega))]
    exact ⟨M, rfl, e5, e6, e7, rfl, fun _ _ _ => rfl⟩
  | succ r ih =>
    intro a F M h1 hF hB hm hby e4 e5 e6 e7
    obtain ⟨F, rfl⟩ : ∃ x, F = x + 1 := ⟨F - 1, by omega⟩
    have hn3 : nA ≤ 3 := hB.2.2.2.1.1
    have hb : bb = 1 ∨ bb = 13 := hB.1
    have hax := hB.2.2.2.1.2.2.2.2.2.2.2.2.2.2.2.1 a (by omega)
    have p0 := hax.2.1
    have p1 := hax.2.2.1
    have p2 := hax.2.2.2.1
    unfold btw at p0 p1 p2
    have x1 : zI M (bb + 9 + a) 1 = nI (zI N 4 (6 * a + 0)).toInt.toNat := (hax.1 0 (by omega)).trans (axP (by show 0 ≤ (zI N 4 (6 * a)).toInt; omega))
    have x2 : zI M (bb + 9 + a) 2 = nI (zI N 4 (6 * a + 1)).toInt.toNat := (hax.1 1 (by omega)).trans (axP (by omega))
    have x3 : zI M (bb + 9 + a) 3 = nI (zI N 4 (6 * a + 2)).toInt.toNat := (hax.1 2 (by omega)).trans (axP (by omega))
    have hda := hd a
    have c5 := hcl 60 0 a (by omega)
    have c6 := hcl 30 1 a (by omega)
    have c7 := hcl 10 2 a (by omega)
    have m1 : zR M mb 1 = mb + 2 := hm.2.1
    have b0 : zR M bb 0 = bb + 1 := by simp only [hB.2.1.b hb]
    have ra : zR M (bb + 1) a = bb + 9 + a := hB.2.1.ax hb (by omega)
    simp only [zlX4_findLimits_20]
    unfold zbX4_findLimits_20 zjX4_findLimits_119 zX4_wayOf
    rw [hB.2.2.2.1.2.2.1, if_neg (nI_ge (by omega) (by omega)), m1, hlen, rgd (in_a (by omega) (by omega)), rob, nI_clamp (by omega), hby a (by omega), iI_abs (by omega) (by omega)]
    by_cases h0 : (d a).natAbs = 0
    · rw [if_pos (show iI ((d a).natAbs : Int) ≤ 0 by rw [h0]; decide), nI_1]
      refine ih (a + 1) F M (by omega) (by omega) hB hm hby e4 ?_ ?_ ?_
      · rw [e5, show clF N d W 60 0 (a + 1) = (if (d a).natAbs = 0 then clF N d W 60 0 a else min (clF N d W 60 0 a) (its N d W a 0)) from rfl, if_pos h0]
      · rw [e6, show clF N d W 30 1 (a + 1) = (if (d a).natAbs = 0 then clF N d W 30 1 a else min (clF N d W 30 1 a) (its N d W a 1)) from rfl, if_pos h0]
      · rw [e7, show clF N d W 10 2 (a + 1) = (if (d a).natAbs = 0 then clF N d W 10 2 a else min (clF N d W 10 2 a) (its N d W a 2)) from rfl, if_pos h0]
    · have hnz : znz (iI ((d a).natAbs : Int)) = true := iI_nz (by omega) (by omega) (by omega)
      rw [if_neg (show ¬ iI ((d a).natAbs : Int) ≤ 0 by rw [show (0 : Int32) = iI 0 from rfl, iI_le (by omega) (by omega) (by omega) (by omega)]; omega), b0, show zlen shC (bb + 1) = 3 from (lnB hb).1, rgd (in_a (by omega) (by omega)), rgd hnz]
      simp only [rbd]
      have quo : ∀ j, 1 ≤ (zI N 4 (6 * a + j)).toInt → (zI N 4 (6 * a + j)).toInt ≤ 60 → nI (zI N 4 (6 * a + j)).toInt.toNat * nI W / iI ((d a).natAbs : Int) = nI (its N d W a j) ∧ its N d W a j ≤ 3600000 := fun j q1 q2 => by
        have : (zI N 4 (6 * a + j)).toInt.toNat * W ≤ 60 * 60000 := Nat.mul_le_mul (by omega) hW
        refine ⟨?_, its_le hW q2⟩
        rw [pk_mul, ← iI_n, pk_div (by omega) (by omega) (by omega)]
        rfl
      have q0 := quo 0 p0.1 p0.2
      have q1 := quo 1 p1.1 (by omega)
      have q2 := quo 2 p2.1 (by omega)
      have hne : bb + 9 + a ≠ mb := by omega
      have y5 : zmin (zI M mb 5) (zI M (bb + 9 + a) 1 * zI M mb 4 / iI ((d a).natAbs : Int)) = nI (clF N d W 60 0 (a + 1)) := by
        rw [e5, x1, e4, q0.1, min_n (by omega) (by omega)]
        show _ = nI (if (d a).natAbs = 0 then clF N d W 60 0 a else min (clF N d W 60 0 a) (its N d W a 0))
        rw [if_neg h0]
      have y6 : zmin (zI M mb 6) (zI M (bb + 9 + a) 2 * zI M mb 4 / iI ((d a).natAbs : Int)) = nI (clF N d W 30 1 (a + 1)) := by
        rw [e6, x2, e4, q1.1, min_n (by omega) (by omega)]
        show _ = nI (if (d a).natAbs = 0 then clF N d W 30 1 a else min (clF N d W 30 1 a) (its N d W a 1))
        rw [if_neg h0]
      have y7 : zmin (zI M mb 7) (zI M (bb + 9 + a) 3 * zI M mb 4 / iI ((d a).natAbs : Int)) = nI (clF N d W 10 2 (a + 1)) := by
        rw [e7, x3, e4, q2.1, min_n (by omega) (by omega)]
        show _ = nI (if (d a).natAbs = 0 then clF N d W 10 2 a else min (clF N d W 10 2 a) (its N d W a 2))
        rw [if_neg h0]
      rw [ra, y5]
      generalize hM1 : zpI M mb 5 (nI (clF N d W 60 0 (a + 1))) = M1
      have r1 : M1.2.2 = M.2.2 := by rw [← hM1]; rfl
      have k1 : ∀ k j, ¬ (k = mb ∧ j = 5) → zI M1 k j = zI M k j := fun k j h => by rw [← hM1, rI_pI, if_neg h]
      have b01 : zR M1 bb 0 = bb + 1 := by unfold zR; rw [r1]; exact b0
      have ra1 : zR M1 (bb + 1) a = bb + 9 + a := by unfold zR; rw [r1]; exact ra
      rw [b01, show zlen shC (bb + 1) = 3 from (lnB hb).1, rgd (in_a (by omega) (by omega)), rgd hnz, ra1, k1 mb 6 (by omega), k1 (bb + 9 + a) 2 (by omega), k1 mb 4 (by omega), y6]
      generalize hM2 : zpI M1 mb 6 (nI (clF N d W 30 1 (a + 1))) = M2
      have r2 : M2.2.2 = M.2.2 := by rw [← hM2]; exact r1
      have k2 : ∀ k j, ¬ (k = mb ∧ (j = 5 ∨ j = 6)) → zI M2 k j = zI M k j := fun k j h => by rw [← hM2, rI_pI, if_neg (by omega)]; exact k1 k j (by omega)
      have b02 : zR M2 bb 0 = bb + 1 := by unfold zR; rw [r2]; exact b0
      have ra2 : zR M2 (bb + 1) a = bb + 9 + a := by unfold zR; rw [r2]; exact ra
      rw [b02, show zlen shC (bb + 1) = 3 from (lnB hb).1, rgd (in_a (by omega) (by omega)), rgd hnz, ra2, k2 mb 7 (by omega), k2 (bb + 9 + a) 3 (by omega), k2 mb 4 (by omega), y7, nI_1]
      generalize hM3 : zpI M2 mb 7 (nI (clF N d W 10 2 (a + 1))) = M3
      have r3 : M3.2.2 = M.2.2 := by rw [← hM3]; exact r2
      have k3 : ∀ k j, ¬ (k = mb ∧ (j = 5 ∨ j = 6 ∨ j = 7)) → zI M3 k j = zI M k j := fun k j h => by rw [← hM3, rI_pI, if_neg (by omega)]; exact k2 k j (by omega)
      clear b0 ra b01 ra1 b02 ra2 m1 x1 x2 x3
      obtain ⟨M4, t1, t2, t3, t4, t5, t6⟩ := ih (a + 1) F M3 (by omega) (by omega) (hB.sm r3 rfl (fun k j hk => k3 k j (by omega)) (fun _ _ _ => rfl)) (by unfold mvB zR; rw [r3]; exact hm) (fun c hc => by rw [k3 _ _ (by omega)]; exact hby c hc) (by rw [k3 mb 4 (by omega)]; exact e4) (by rw [← hM3, rI_pI, if_neg (by omega), ← hM2, rI_pI, if_neg (by omega), ← hM1, rI_pI, if_pos ⟨rfl, rfl⟩]) (by rw [← hM3, rI_pI, if_neg (by omega), ← hM2, rI_pI, if_pos ⟨rfl, rfl⟩]) (by rw [← hM3, rI_pI, if_pos ⟨rfl, rfl⟩])
      exact ⟨M4, t1, t2, t3, t4, t5.trans r3, fun k j h => (t6 k j h).trans (k3 k j h)⟩
