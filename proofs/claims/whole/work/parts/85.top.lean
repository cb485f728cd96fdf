/-! Phase B: the top of a move -/
theorem fNx_0 {g A J : Nat} (hg : g ≤ 30) (hJ : J ≤ 10) : fNx 0 g A J = 0 := by
  have := (fNx_le (room := 0) (A := A) hg hJ).1
  omega
theorem fL_0 {A J : Nat} (hJ : J ≤ 10) : fL 0 A J = [] := by
  unfold fL
  rw [show fRamp 0 A J 60 0 0 = (if fNx (0 - 0) 0 A J = 0 then [] else ((0 + fNx (0 - 0) 0 A J : Nat) : Int) :: fRamp 0 A J 59 (0 + fNx (0 - 0) 0 A J) (fNx (0 - 0) 0 A J)) from rfl, Nat.sub_zero, if_pos (fNx_0 (by omega) hJ)]
def okT (N : zMem) (nB : Nat) (ld : Int32) (W A J v : Nat) : Prop := 2 * psum (fL v A J) (fL v A J).length ≤ W ∧ fBn N ld (iI (fRe (fL v A J))) nB = 0
theorem okT_d (N : zMem) (nB : Nat) (ld : Int32) (W A J v : Nat) : okT N nB ld W A J v ∨ ¬ okT N nB ld W A J v := Classical.em _
theorem okT_0 {N : zMem} {nB : Nat} {ld : Int32} {W A J : Nat} (hJ : J ≤ 10) (hb : ∀ b, b < nB → 1 ≤ (zI N 6 (3 * b + 1)).toInt) : okT N nB ld W A J 0 := by
  unfold okT
  rw [fL_0 hJ]
  refine ⟨by show 2 * (0 : Int) ≤ W; omega, fBn_0 hb (by show (iI 0).toInt ≤ 0; decide) nB (Nat.le_refl _)⟩
/-- the top: v is it, where the tries begin at s -/
def isTop (N : zMem) (nB : Nat) (ld : Int32) (W A J s v : Nat) : Prop := v ≤ s ∧ okT N nB ld W A J v ∧ ∀ u, v < u → u ≤ s → ¬ okT N nB ld W A J u
theorem isTop_u {N : zMem} {nB : Nat} {ld : Int32} {W A J s v w : Nat} (h : isTop N nB ld W A J s v) (g : isTop N nB ld W A J s w) : v = w := by
  rcases Nat.lt_trichotomy v w with k | k | k
  · exact absurd g.2.1 (h.2.2 w k g.1)
  · exact k
  · exact absurd h.2.1 (g.2.2 v k h.1)
def fEv (rest : Int) (L : List Int) : Int := (rest + max 1 (fRe L) - 1) / max 1 (fRe L)
theorem fEv_ok {rest : Int} {L : List Int} (h0 : 0 ≤ rest) (h : rmL L) : evOK rest (fEv rest L) := by
  have hb := fRe_b h
  unfold fEv evOK
  generalize hp : max 1 (fRe L) = p
  have hp1 : 1 ≤ p := by omega
  have hp2 : p ≤ 60 := by omega
  have h1 := Int.ediv_mul_le (rest + p - 1) (show p ≠ 0 by omega)
  have h2 := Int.lt_ediv_add_one_mul_self (rest + p - 1) (show 0 < p by omega)
  have h3 : 0 ≤ (rest + p - 1) / p := Int.ediv_nonneg (by omega) (by omega)
  generalize hE : (rest + p - 1) / p = E at *
  rw [Int.add_mul, Int.one_mul] at h2
  refine ⟨h3, ?_, ?_⟩
  · by_cases g : rest < E
    · exfalso
      have h4 : (rest + 1) * p ≤ E * p := Int.mul_le_mul_of_nonneg_right (by omega) (by omega)
      rw [Int.add_mul, Int.one_mul] at h4
      have h5 : rest * 1 ≤ rest * p := Int.mul_le_mul_of_nonneg_left hp1 h0
      omega
    · omega
  · have h4 : E * p ≤ E * 60 := Int.mul_le_mul_of_nonneg_left hp2 h3
    omega
theorem evM {N : zMem} {L : List Int} {rest : Int} (hL : rmL L) (hR : zR N 0 35 = 14) (h : rpM N L) (h0 : 0 ≤ rest) (h1 : rest ≤ 60000) : zX12_evenTicks shM 0 (iI rest) N = some (iI (fEv rest L)) := by
  have hb := fRe_b hL
  have e1 : (1 : Int32) = iI 1 := rfl
  have hm : zmax (1 : Int32) (iI (fRe L)) = iI (max 1 (fRe L)) := by rw [e1]; exact iI_max (by omega) (by omega) (by omega) (by omega)
  unfold zX12_evenTicks
  simp only [reachM hL hR h, rob, greater_eq, hm]
  rw [rgd (iI_nz (by omega) (by omega) (by omega)), e1, iI_add, iI_sub, iI_divp (by omega) (by omega) (by omega) (by omega)]
  rfl
/-- a move's object mb, its ramp mb + 3, the ramp's row mb + 4 -/
def mvB (M : zMem) (mb : Nat) : Prop := zR M mb 0 = mb + 1 ∧ zR M mb 1 = mb + 2 ∧ zR M mb 2 = mb + 3 ∧ zR M (mb + 3) 0 = mb + 4
theorem takeTop_eq {M N : zMem} {bb sb it nA nB mb W A J v : Nat} {ld : Int32} (hB : Bx M N bb sb it nA nB) (hm : mvB M mb) (hmb : 25 ≤ mb) (hlen : zlen shC (mb + 4) = 61) (h0 : zI M (mb + 4) 0 = 0) (hW : W ≤ 60000) (hA : A ≤ 30) (hJ : 1 ≤ J) (hJ2 : J ≤ 10) (hv : v ≤ 60) (e3 : zI M mb 3 = ld) (e4 : zI M mb 4 = nI W) (e6 : zI M mb 6 = nI A) (e7 : zI M mb 7 = nI J) : ∃ (r : Int32) (M1 : zMem), zX4_takeTop shC mb bb (nI v) M = some (r, M1) ∧ ((r = 1 ∧ okT N nB ld W A J v ∧ zI M1 mb 8 = iI (W - 2 * psum (fL v A J) (fL v A J).length) ∧ zI M1 mb 9 = iI (fEv (W - 2 * psum (fL v A J) (fL v A J).length) (fL v A J))) ∨ (r = 0 ∧ ¬ okT N nB ld W A J v)) ∧ rpC M1 (mb + 3) (mb + 4) (fL v A J) ∧ M1.2.2 = M.2.2 ∧ zI M1 (mb + 4) 0 = 0 ∧ (∀ k j, k ≠ mb + 4 → ¬ (k = mb + 3 ∧ j = 1) → ¬ (k = mb ∧ (j = 8 ∨ j = 9)) → zI M1 k j = zI M k j) := by
  obtain ⟨m0, m1, m2, m3⟩ := hm
  have hL := (fL_ok (V := v) hv hA hJ2).1
  have hb60 := psum_b hL (fL v A J).length
  have h60 := hL.1
  have hre := fRe_b hL
  obtain ⟨M1, t1, t2, t3, t4, t5⟩ := build_eq (M := M) (k := mb + 3) (kg := mb + 4) (V := v) (A := A) (J := J) (by omega) hlen hv hA hJ hJ2 m3 h0
  have hB1 : Bx M1 N bb sb it nA nB := hB.sm t3 rfl (fun k j hk => t4 k j (by omega) (by omega)) (fun _ _ _ => rfl)
  have n2 : zR M1 mb 2 = mb + 3 := by unfold zR; rw [t3]; exact m2
  have n3 : zR M1 (mb + 3) 0 = mb + 4 := by unfold zR; rw [t3]; exact m3
  have f3 : zI M1 mb 3 = ld := by rw [t4 mb 3 (by omega) (by omega)]; exact e3
  have f4 : zI M1 mb 4 = nI W := by rw [t4 mb 4 (by omega) (by omega)]; exact e4
  have hfb := fBn_b (N := N) (ax := ld) (sp := iI (fRe (fL v A J))) nB hB.2.2.2.1.2.1
  unfold zX4_takeTop zjX4_takeTop_52
  rw [m2, e6, e7, t1, rob, n2, reachC hL n3 hlen t2, rob, microC hL n3 hlen t2, rob, f3, f4, bandsC hB.1 hB1.2.1 hB1.2.2.2.1]
  clear m0 m1 m2 m3 n2 n3 e3 e4 e6 e7
  have e2 : (2 : Int32) = iI 2 := rfl
  have e1 : (1 : Int32) = iI 1 := rfl
  rw [e2, iI_mul, iI_n]
  generalize hP : psum (fL v A J) (fL v A J).length = P at *
  have hP1 : P ≤ 3600 := by omega
  by_cases c1 : (W : Int) < 2 * P
  · rw [if_pos (show iI W < iI (2 * P) by rw [iI_lt (by omega) (by omega) (by omega) (by omega)]; exact c1)]
    refine ⟨0, M1, rfl, Or.inr ⟨rfl, fun g => ?_⟩, t2, t3, t5, fun k j g1 g2 _ => t4 k j g1 g2⟩
    have := g.1
    rw [hP] at this
    omega
  · rw [if_neg (show ¬ iI W < iI (2 * P) by rw [iI_lt (by omega) (by omega) (by omega) (by omega)]; exact c1), rob]
    by_cases c2 : fBn N ld (iI (fRe (fL v A J))) nB = 0
    · rw [if_pos (by rw [c2]; decide), rob]
      have hmx : zmax (1 : Int32) (iI (fRe (fL v A J))) = iI (max 1 (fRe (fL v A J))) := by rw [e1]; exact iI_max (by omega) (by omega) (by omega) (by omega)
      simp only [rbd]
      rw [hmx, rgd (iI_nz (by omega) (by omega) (by omega)), iI_mul, iI_sub]
      have q8 : zI (zpI M1 mb 8 (iI (W - 2 * P))) mb 8 = iI (W - 2 * P) := by rw [rI_pI, if_pos ⟨rfl, rfl⟩]
      rw [q8, iI_add, show (1 : Int32) = iI 1 from rfl, iI_sub, iI_divp (by omega) (by omega) (by omega) (by omega)]
      refine ⟨1, _, rfl, Or.inl ⟨rfl, ⟨by rw [hP]; omega, c2⟩, ?_, ?_⟩, ⟨?_, fun i hi => ?_⟩, t3, ?_, fun k j g1 g2 g3 => ?_⟩
      · rw [rI_pI, if_neg (by omega), rI_pI, if_pos ⟨rfl, rfl⟩]
      · rw [rI_pI, if_pos ⟨rfl, rfl⟩]; rfl
      · rw [rI_pI, if_neg (by omega), rI_pI, if_neg (by omega)]; exact t2.1
      · rw [rI_pI, if_neg (by omega), rI_pI, if_neg (by omega)]; exact t2.2 i hi
      · rw [rI_pI, if_neg (by omega), rI_pI, if_neg (by omega)]; exact t5
      · rw [rI_pI, if_neg (by omega), rI_pI, if_neg (by omega)]; exact t4 k j g1 g2
    · rw [if_neg (fun g => c2 (r_eq.mpr (by have := r_le.mp g; unfold btw at hfb; rw [show (0 : Int32).toInt = 0 from rfl] at *; omega)))]
      exact ⟨0, M1, rfl, Or.inr ⟨rfl, fun g => c2 g.2⟩, t2, t3, t5, fun k j g1 g2 _ => t4 k j g1 g2⟩
theorem layTop_eq {M N : zMem} {bb sb it nA nB W A J s : Nat} {ld : Int32} (hB : Bx M N bb sb it nA nB) (hW : W ≤ 60000) (hA : A ≤ 30) (hJ : 1 ≤ J) (hJ2 : J ≤ 10) (hs : s ≤ 60) : ∃ (v : Nat) (N1 : zMem), zX12_laysTop shM 0 ld (nI W) (nI s) (nI A) (nI J) N = some N1 ∧ isTop N nB ld W A J s v ∧ rpM N1 (fL v A J) ∧ onlyR N N1 := by
  have hbk : ∀ b, b < nB → 1 ≤ (zI N 6 (3 * b + 1)).toInt := fun b hb => (hB.2.2.2.1.2.2.2.2.2.2.2.2.2.2.2.2.1 b hb).2.2.2
  have loop : ∀ (v F : Nat) (N1 : zMem), v ≤ s → v < F → rpM N1 (fL v A J) → onlyR N N1 → (∀ u, v < u → u ≤ s → ¬ okT N nB ld W A J u) → ∃ (w : Nat) (N2 : zMem), zlX12_laysTop_13 shM 0 ld (nI W) (nI s) (nI A) (nI J) F (nI v) N1 = some N2 ∧ isTop N nB ld W A J s w ∧ rpM N2 (fL w A J) ∧ onlyR N N2 := by
    intro v
    induction v with
    | zero =>
      intro F N1 hv hF hr ho hu
      obtain ⟨F, rfl⟩ : ∃ x, F = x + 1 := ⟨F - 1, by omega⟩
      simp only [zlX12_laysTop_13]
      unfold zbX12_laysTop_13 zjX12_laysTop_63
      rw [if_pos (by decide)]
      exact ⟨0, N1, rfl, ⟨by omega, okT_0 hJ2 hbk, hu⟩, hr, ho⟩
    | succ v ih =>
      intro F N1 hv hF hr ho hu
      obtain ⟨F, rfl⟩ : ∃ x, F = x + 1 := ⟨F - 1, by omega⟩
      have hL := (fL_ok (V := v + 1) (by omega) hA hJ2).1
      have hb60 := psum_b hL (fL (v + 1) A J).length
      have h60 := hL.1
      have hre := fRe_b hL
      have hN1 := hB.2.2.1.sm ho.1
      have e35 : zR N1 0 35 = 14 := by simp only [hN1.o]
      have hB1 : Bx M N1 bb sb it nA nB := hB.sm rfl ho.1 (fun _ _ _ => rfl) (fun k j hk => ho.2 k j (by omega) (by omega))
      have hfe : ∀ sp, fBn N1 ld sp nB = fBn N ld sp nB := fun sp => by
        have : ∀ b, fBn N1 ld sp b = fBn N ld sp b := by
          intro b
          induction b with
          | zero => rfl
          | succ b ih2 =>
            unfold fBn
            rw [ih2, ho.2 6 _ (by omega) (by omega), ho.2 6 _ (by omega) (by omega), ho.2 6 _ (by omega) (by omega)]
        exact this nB
      have hfb := fBn_b (N := N) (ax := ld) (sp := iI (fRe (fL (v + 1) A J))) nB hB.2.2.2.1.2.1
      have down : ¬ okT N nB ld W A J (v + 1) → ∃ (w : Nat) (N2 : zMem), (zob (zX12_laysRamp shM 0 (nI (v + 1) + (-1 : Int32)) (nI A) (nI J) N1) fun M_2 => zlX12_laysTop_13 shM 0 ld (nI W) (nI s) (nI A) (nI J) F (nI (v + 1) + (-1 : Int32)) M_2) = some N2 ∧ isTop N nB ld W A J s w ∧ rpM N2 (fL w A J) ∧ onlyR N N2 := by
        intro hno
        obtain ⟨N2, u1, u2, u3⟩ := lays_eq (N := N1) (V := v) (by omega) hA hJ hJ2 e35
        rw [pk_m1, u1, rob]
        exact ih F N2 (by omega) (by omega) u2 ⟨u3.1.trans ho.1, fun k j g1 g2 => (u3.2 k j g1 g2).trans (ho.2 k j g1 g2)⟩ (fun u hu1 hu2 => by
          by_cases g : u = v + 1
          · rw [g]; exact hno
          · exact hu u (by omega) hu2)
      simp only [zlX12_laysTop_13]
      unfold zbX12_laysTop_13 zjX12_laysTop_63 zjX12_laysTop_47
      rw [if_neg (nI_nle (by omega) (by omega)), sumM hL e35 hr, rob, reachM hL e35 hr, rob, rob, bandsM hN1 hB1.2.2.2.1, rob, hfe]
      clear e35
      have e2 : (2 : Int32) = iI 2 := rfl
      rw [e2, iI_mul, iI_n W]
      generalize hP : psum (fL (v + 1) A J) (fL (v + 1) A J).length = P at *
      by_cases c1 : (W : Int) < 2 * P
      · rw [if_pos (show iI W < iI (2 * P) by rw [iI_lt (by omega) (by omega) (by omega) (by omega)]; exact c1)]
        rw [← iI_n W]
        exact down (fun g => by have := g.1; rw [hP] at this; omega)
      · rw [if_neg (show ¬ iI W < iI (2 * P) by rw [iI_lt (by omega) (by omega) (by omega) (by omega)]; exact c1), ← iI_n W]
        by_cases c2 : fBn N ld (iI (fRe (fL (v + 1) A J))) nB = 0
        · have hok : okT N nB ld W A J (v + 1) := ⟨by rw [hP]; omega, c2⟩
          have hend : ∃ (w : Nat) (N2 : zMem), (some N1 : Option zMem) = some N2 ∧ isTop N nB ld W A J s w ∧ rpM N2 (fL w A J) ∧ onlyR N N2 := ⟨v + 1, N1, rfl, ⟨hv, hok, hu⟩, hr, ho⟩
          rw [c2, if_pos (show (0 : Int32) ≤ 0 by decide)]
          split
          · exact hend
          · exact hend
        · have hno : ¬ okT N nB ld W A J (v + 1) := fun g => c2 g.2
          have hpos : ¬ fBn N ld (iI (fRe (fL (v + 1) A J))) nB ≤ 0 := fun g => c2 (r_eq.mpr (by have := r_le.mp g; unfold btw at hfb; rw [show (0 : Int32).toInt = 0 from rfl] at *; omega))
          have hrp : ¬ iI (fRe (fL (v + 1) A J)) ≤ 0 := fun g => c2 (fBn_0 hbk (r_le.mp g) nB (Nat.le_refl _))
          rw [if_neg hrp, if_neg hpos]
          exact down hno
  have e35 : zR N 0 35 = 14 := by simp only [hB.2.2.1.o]
  obtain ⟨N1, u1, u2, u3⟩ := lays_eq (N := N) (V := s) hs hA hJ hJ2 e35
  unfold zX12_laysTop
  rw [u1, rob]
  exact loop s zF N1 (Nat.le_refl _) (by unfold zF; omega) u2 u3 (fun u h1 h2 => by omega)
theorem planTop_eq {N : zMem} {bb sb it nA nB mb W A J s k1 k2 : Nat} {ld : Int32} (hmb : 25 ≤ mb) (hlen : zlen shC (mb + 4) = 61) (hW : W ≤ 60000) (hA : A ≤ 30) (hJ : 1 ≤ J) (hJ2 : J ≤ 10) (hs : s ≤ 60) (hbk : ∀ b, b < nB → 1 ≤ (zI N 6 (3 * b + 1)).toInt) : ∀ (v F : Nat) (M : zMem), v ≤ s → v < F → Bx M N bb sb it nA nB → mvB M mb → zI M (mb + 4) 0 = 0 → zI M mb 3 = ld → zI M mb 4 = nI W → zI M mb 6 = nI A → zI M mb 7 = nI J → (∀ u, v < u → u ≤ s → ¬ okT N nB ld W A J u) → ∃ (w : Nat) (M1 : zMem), zlX4_plan_120 shC mb k1 k2 bb F (nI v) M = some (1, M1) ∧ isTop N nB ld W A J s w ∧ zI M1 mb 8 = iI (W - 2 * psum (fL w A J) (fL w A J).length) ∧ zI M1 mb 9 = iI (fEv (W - 2 * psum (fL w A J) (fL w A J).length) (fL w A J)) ∧ rpC M1 (mb + 3) (mb + 4) (fL w A J) ∧ M1.2.2 = M.2.2 ∧ zI M1 (mb + 4) 0 = 0 ∧ (∀ k j, k ≠ mb + 4 → ¬ (k = mb + 3 ∧ j = 1) → ¬ (k = mb ∧ (j = 8 ∨ j = 9)) → zI M1 k j = zI M k j) := by
  intro v
  induction v with
  | zero =>
    intro F M hv hF hB hm h0 e3 e4 e6 e7 hu
    obtain ⟨F, rfl⟩ : ∃ x, F = x + 1 := ⟨F - 1, by omega⟩
    obtain ⟨r, M1, t1, t2, t3, t4, t5, t6⟩ := takeTop_eq (v := 0) hB hm hmb hlen h0 hW hA hJ hJ2 (by omega) e3 e4 e6 e7
    simp only [zlX4_plan_120]
    unfold zbX4_plan_120
    rw [if_neg (by decide), t1, rob2]
    rcases t2 with ⟨rfl, g1, g2, g3⟩ | ⟨-, g1⟩
    · rw [if_neg (by decide)]
      exact ⟨0, M1, rfl, ⟨by omega, g1, hu⟩, g2, g3, t3, t4, t5, t6⟩
    · exact absurd (okT_0 hJ2 hbk) g1
  | succ v ih =>
    intro F M hv hF hB hm h0 e3 e4 e6 e7 hu
    obtain ⟨F, rfl⟩ : ∃ x, F = x + 1 := ⟨F - 1, by omega⟩
    obtain ⟨r, M1, t1, t2, t3, t4, t5, t6⟩ := takeTop_eq (v := v + 1) hB hm hmb hlen h0 hW hA hJ hJ2 (by omega) e3 e4 e6 e7
    simp only [zlX4_plan_120]
    unfold zbX4_plan_120
    rw [if_neg (nI_pos (by omega)), t1, rob2]
    rcases t2 with ⟨rfl, g1, g2, g3⟩ | ⟨rfl, g1⟩
    · rw [if_neg (by decide)]
      exact ⟨v + 1, M1, rfl, ⟨hv, g1, hu⟩, g2, g3, t3, t4, t5, t6⟩
    · rw [if_pos rfl, pk_m1]
      have hB1 : Bx M1 N bb sb it nA nB := hB.sm t4 rfl (fun k j hk => t6 k j (by omega) (by omega) (by omega)) (fun _ _ _ => rfl)
      have hm1 : mvB M1 mb := by unfold mvB zR; rw [t4]; exact hm
      obtain ⟨w, M2, u1, u2, u3, u4, u5, u6, u7, u8⟩ := ih F M1 (by omega) (by omega) hB1 hm1 t5 (by rw [t6 mb 3 (by omega) (by omega) (by omega)]; exact e3) (by rw [t6 mb 4 (by omega) (by omega) (by omega)]; exact e4) (by rw [t6 mb 6 (by omega) (by omega) (by omega)]; exact e6) (by rw [t6 mb 7 (by omega) (by omega) (by omega)]; exact e7) (fun u h1 h2 => by
        by_cases g : u = v + 1
        · rw [g]; exact g1
        · exact hu u (by omega) h2)
      exact ⟨w, M2, u1, u2, u3, u4, u5, u6.trans t4, u7, fun k j a1 a2 a3 => (u8 k j a1 a2 a3).trans (t6 k j a1 a2 a3)⟩
