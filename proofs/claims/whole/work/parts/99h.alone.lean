/-! Phase B: an axis alone -/
theorem fBn_cg {N N1 : zMem} (ax sp : Int32) (h : ∀ j, zI N1 6 j = zI N 6 j) : ∀ b, fBn N1 ax sp b = fBn N ax sp b := by
  intro b
  induction b with
  | zero => rfl
  | succ b ih =>
    show fBn N1 ax sp b + bI (zI N1 6 (3 * b) = ax ∧ zI N1 6 (3 * b + 1) ≤ sp ∧ sp ≤ zI N1 6 (3 * b + 2)) = fBn N ax sp b + bI (zI N 6 (3 * b) = ax ∧ zI N 6 (3 * b + 1) ≤ sp ∧ sp ≤ zI N 6 (3 * b + 2))
    rw [ih]
    simp only [h]
theorem okT_cg {N N1 : zMem} {nB : Nat} {ld : Int32} {W A J v : Nat} (h : ∀ j, zI N1 6 j = zI N 6 j) : okT N1 nB ld W A J v ↔ okT N nB ld W A J v := by
  unfold okT
  rw [fBn_cg _ _ h]
theorem isTop_cg {N N1 : zMem} {nB : Nat} {ld : Int32} {W A J s v : Nat} (h : ∀ j, zI N1 6 j = zI N 6 j) (g : isTop N nB ld W A J s v) : isTop N1 nB ld W A J s v := ⟨g.1, (okT_cg h).mpr g.2.1, fun u h1 h2 h3 => g.2.2 u h1 h2 ((okT_cg h).mp h3)⟩
def tkT (W A J v : Nat) : Int := 2 * ((fL v A J).length : Int) + fEv ((W : Int) - 2 * psum (fL v A J) (fL v A J).length) (fL v A J)
def aln (M N : zMem) (bb sb it nA nB a W A J : Nat) : Prop := Bx M N bb sb it nA nB ∧ mvB M 174 ∧ zI M 178 0 = 0 ∧ zI M 174 3 = nI a ∧ zI M 174 4 = nI W ∧ zI M 174 6 = nI A ∧ zI M 174 7 = nI J ∧ zI N 4 (6 * a + 1) = nI A ∧ zI N 4 (6 * a + 2) = nI J
def alF (M N M1 N1 : zMem) : Prop := M1.2.2 = M.2.2 ∧ (∀ k j, ¬ (174 ≤ k ∧ k ≤ 178) → zI M1 k j = zI M k j) ∧ zI M1 178 0 = 0 ∧ onlyR N N1
theorem alF.tr {M N M1 N1 M2 N2 : zMem} (h : alF M N M1 N1) (g : alF M1 N1 M2 N2) : alF M N M2 N2 := ⟨g.1.trans h.1, fun k j q => (g.2.1 k j q).trans (h.2.1 k j q), g.2.2.1, g.2.2.2.1.trans h.2.2.2.1, fun k j q1 q2 => (g.2.2.2.2 k j q1 q2).trans (h.2.2.2.2 k j q1 q2)⟩
theorem top_step {M N : zMem} {bb sb it nA nB a W A J s u : Nat} (h : aln M N bb sb it nA nB a W A J) (hW : W ≤ 60000) (hA : A ≤ 30) (hJ : 1 ≤ J) (hJ2 : J ≤ 10) (hs1 : 1 ≤ s) (hs : s ≤ 60) (hu : isTop N nB (nI a) W A J (s - 1) u) : ∃ (r : Int32) (M1 N1 : zMem) (w : Nat), zX4_takeTop shC 174 bb (nI s) M = some (r, M1) ∧ zX12_laysTop shM 0 (nI a) (nI W) (nI s) (nI A) (nI J) N = some N1 ∧ isTop N1 nB (nI a) W A J s w ∧ (r = 0 → w = u) ∧ (¬ r = 0 → zX4_ticks shC 174 M1 = some (iI (tkT W A J w))) ∧ (zob (zX12_rampSum shM 0 N1) fun q => zX12_evenTicks shM 0 (nI W - 2 * q) N1) = some (iI (fEv ((W : Int) - 2 * psum (fL w A J) (fL w A J).length) (fL w A J))) ∧ 2 * zI N1 0 36 + iI (fEv ((W : Int) - 2 * psum (fL w A J) (fL w A J).length) (fL w A J)) = iI (tkT W A J w) ∧ aln M1 N1 bb sb it nA nB a W A J ∧ alF M N M1 N1 := by
  obtain ⟨hB, hm, h0, e3, e4, e6, e7, e8, e9⟩ := h
  obtain ⟨r, M1, a1, a2, a3, a4, a5, a6⟩ := takeTop_eq (mb := 174) (ld := nI a) (v := s) hB hm (by omega) rfl h0 hW hA hJ hJ2 hs e3 e4 e6 e7
  obtain ⟨w, N1, b1, b2, b3, b4⟩ := layTop_eq (ld := nI a) hB hW hA hJ hJ2 hs
  have b6 : ∀ j, zI N1 6 j = zI N 6 j := fun j => b4.2 6 j (by omega) (by omega)
  have hwu : (okT N nB (nI a) W A J s → w = s) ∧ (¬ okT N nB (nI a) W A J s → w = u) := by
    refine ⟨fun c => ?_, fun c => ?_⟩
    · exact isTop_u b2 ⟨Nat.le_refl _, c, fun q q1 q2 => by omega⟩
    · refine isTop_u b2 ⟨by have := hu.1; omega, hu.2.1, fun q q1 q2 => ?_⟩
      by_cases g : q = s
      · rw [g]; exact c
      · exact hu.2.2 q q1 (by omega)
  have hw60 : w ≤ 60 := by have := b2.1; omega
  have hL := (fL_ok (V := w) (A := A) (J := J) hw60 hA hJ2).1
  have hps := psum_b hL (fL w A J).length
  have hok : 2 * psum (fL w A J) (fL w A J).length ≤ W := b2.2.1.1
  have hB1 : Bx M1 N1 bb sb it nA nB := hB.sm a4 b4.1 (fun k j hk => a6 k j (by omega) (by omega) (by omega)) (fun k j hk => b4.2 k j (by omega) (by omega))
  have r35 : zR N1 0 35 = 14 := by simp only [hB1.2.2.1.o]
  refine ⟨r, M1, N1, w, a1, b1, isTop_cg b6 b2, fun c => ?_, fun c => ?_, ?_, ?_, ⟨hB1, ?_, a5, ?_, ?_, ?_, ?_, ?_, ?_⟩, a4, fun k j q => a6 k j (by omega) (by omega) (by omega), a5, b4⟩
  · rcases a2 with ⟨q, -⟩ | ⟨-, q⟩
    · rw [c] at q; exact absurd q (by decide)
    · exact hwu.2 q
  · rcases a2 with ⟨-, q, q8, q9⟩ | ⟨q, -⟩
    · rw [hwu.1 q]
      unfold zX4_ticks tkT
      rw [show zR M1 174 2 = 174 + 3 from by unfold zR; rw [a4]; exact hm.2.2.1, a3.1, q9, iI_n, show (2 : Int32) = iI 2 from rfl, iI_mul, iI_add]
    · exact absurd q c
  · rw [sumM hL r35 b3, rob, show (2 : Int32) = iI 2 from rfl, iI_mul, iI_n, iI_sub]
    exact evM hL r35 b3 (by omega) (by omega)
  · unfold tkT
    rw [b3.1, iI_n, show (2 : Int32) = iI 2 from rfl, iI_mul, iI_add]
  · obtain ⟨g1, g2, g3, g4⟩ := hm
    unfold mvB zR
    rw [a4]
    exact ⟨g1, g2, g3, g4⟩
  · rw [a6 174 3 (by omega) (by omega) (by omega)]; exact e3
  · rw [a6 174 4 (by omega) (by omega) (by omega)]; exact e4
  · rw [a6 174 6 (by omega) (by omega) (by omega)]; exact e6
  · rw [a6 174 7 (by omega) (by omega) (by omega)]; exact e7
  · rw [b4.2 4 _ (by omega) (by omega)]; exact e8
  · rw [b4.2 4 _ (by omega) (by omega)]; exact e9
theorem need_lp {bb sb it nA nB a W A J : Nat} {p : Int32} (ha3 : a < 3) (hW : W ≤ 60000) (hA : A ≤ 30) (hJ : 1 ≤ J) (hJ2 : J ≤ 10) : ∀ (r s F F' u : Nat) (M N : zMem), s + r = 61 → 1 ≤ s → r < F → r < F' → aln M N bb sb it nA nB a W A J → isTop N nB (nI a) W A J (s - 1) u → ∃ v M1 N1, zlX11_needed_49 shC 0 (nI a) (nI W) p F (iI (tkT W A J u)) (nI s) M = some (v, M1) ∧ zlX12_needed_37 shM 0 (nI a) (nI W) p F' (nI s) N = some (v, N1) ∧ alF M N M1 N1 := by
  intro r
  induction r with
  | zero =>
    intro s F F' u M N h1 hs hF hF' h hu
    obtain ⟨F, rfl⟩ : ∃ x, F = x + 1 := ⟨F - 1, by omega⟩
    obtain ⟨F', rfl⟩ : ∃ x, F' = x + 1 := ⟨F' - 1, by omega⟩
    obtain rfl : s = 61 := by omega
    refine ⟨-1, M, N, ?_, ?_, rfl, fun _ _ _ => rfl, h.2.2.1, rfl, fun _ _ _ _ => rfl⟩
    · simp only [zlX11_needed_49]
      unfold zbX11_needed_49
      rw [if_pos (by decide)]
    · simp only [zlX12_needed_37]
      unfold zbX12_needed_37
      rw [if_pos (by decide)]
  | succ r ih =>
    intro s F F' u M N h1 hs hF hF' h hu
    obtain ⟨F, rfl⟩ : ∃ x, F = x + 1 := ⟨F - 1, by omega⟩
    obtain ⟨F', rfl⟩ : ∃ x, F' = x + 1 := ⟨F' - 1, by omega⟩
    have hle : ¬ (60 : Int32) < nI s := by rw [r_lt, nI_toInt (by omega)]; show ¬ (60 : Int) < _; omega
    obtain ⟨q, M1, N1, w, a1, a2, a3, a4, a5, a6, a7, a8, a9⟩ := top_step h hW hA hJ hJ2 hs (by omega) hu
    have e5 : zR M 0 5 = 174 := by simp only [h.1.2.1.o]
    have e11 : zR M 0 11 = bb := by simp only [h.1.2.1.o]
    have f5 : zR M1 0 5 = 174 := by simp only [a8.1.2.1.o]
    have n14 : zR N 0 14 = 4 := by simp only [h.1.2.2.1.o]
    have i1 : (6 : Int32) * nI a + 1 = nI (6 * a + 1) := by rw [show (6 : Int32) = nI 6 from rfl, pk_mul, nI_1]
    have i2 : (6 : Int32) * nI a + 2 = nI (6 * a + 2) := by rw [show (6 : Int32) = nI 6 from rfl, pk_mul, show (2 : Int32) = nI 2 from rfl, nI_add]
    obtain ⟨v, M2, N2, b1, b2, b3⟩ := ih (s + 1) F F' w M1 N1 (by omega) (by omega) (by omega) (by omega) a8 a3
    have bC : zlX11_needed_49 shC 0 (nI a) (nI W) p (F + 1) (iI (tkT W A J u)) (nI s) M = (if p < iI (tkT W A J w) then zlX11_needed_49 shC 0 (nI a) (nI W) p F (iI (tkT W A J w)) (nI (s + 1)) M1 else some (nI s, M1)) := by
      rw [show zlX11_needed_49 shC 0 (nI a) (nI W) p (F + 1) (iI (tkT W A J u)) (nI s) M = zbX11_needed_49 shC 0 (nI a) (nI W) p (zlX11_needed_49 shC 0 (nI a) (nI W) p F) (iI (tkT W A J u)) (nI s) M from rfl]
      unfold zbX11_needed_49 zjX11_needed_84
      rw [if_neg hle, e5, e11, a1, rob2]
      by_cases c : q = 0
      · rw [if_pos c, a4 c, nI_1]
      · rw [if_neg c, f5, a5 c, rob, nI_1]
    have bM : zlX12_needed_37 shM 0 (nI a) (nI W) p (F' + 1) (nI s) N = (if p < iI (tkT W A J w) then zlX12_needed_37 shM 0 (nI a) (nI W) p F' (nI (s + 1)) N1 else some (nI s, N1)) := by
      rw [show zlX12_needed_37 shM 0 (nI a) (nI W) p (F' + 1) (nI s) N = zbX12_needed_37 shM 0 (nI a) (nI W) p (zlX12_needed_37 shM 0 (nI a) (nI W) p F') (nI s) N from rfl]
      unfold zbX12_needed_37
      rw [if_neg hle, n14, show zlen shM 4 = 18 from rfl, i1, i2, rgd (in_a (by omega) (by omega)), rgd (in_a (by omega) (by omega)), nI_clamp (by omega), nI_clamp (by omega), h.2.2.2.2.2.2.2.1, h.2.2.2.2.2.2.2.2, a2, rob, ob_ob, a6, rob, a7, nI_1]
    rw [bC, bM]
    by_cases c : p < iI (tkT W A J w)
    · rw [if_pos c, if_pos c]; exact ⟨v, M2, N2, b1, b2, a9.tr b3⟩
    · rw [if_neg c, if_neg c]; exact ⟨_, M1, N1, rfl, rfl, a9⟩
