/-! Phase B: ramps -/
def tl : Nat → Nat → Nat → Nat
  | 0, _, _ => 0
  | f + 1, x, J => if x = 0 then 0 else x + tl f (x - J) J
theorem tl_ge {f x J : Nat} (h : x ≤ f) : x ≤ tl f x J := by
  cases f with
  | zero => omega
  | succ f =>
    unfold tl
    by_cases g : x = 0
    · omega
    · rw [if_neg g]; omega
theorem tl_le : ∀ {f x J : Nat}, tl f x J ≤ f * x := by
  intro f
  induction f with
  | zero => intro x J; exact Nat.zero_le _
  | succ f ih =>
    intro x J
    unfold tl
    by_cases g : x = 0
    · rw [if_pos g]; exact Nat.zero_le _
    · rw [if_neg g]
      have h1 := ih (x := x - J) (J := J)
      have h2 : f * (x - J) ≤ f * x := Nat.mul_le_mul (Nat.le_refl _) (Nat.sub_le _ _)
      rw [Nat.add_mul, Nat.one_mul]
      omega
def fNx (room g A J : Nat) : Nat := if 0 < g + J ∧ g + J ≤ A ∧ tl 40 (g + J) J ≤ room then g + J else if 0 < g ∧ g ≤ A ∧ tl 40 g J ≤ room then g else if 0 < g - J ∧ g - J ≤ A ∧ tl 40 (g - J) J ≤ room then g - J else 0
theorem fNx_le {room g A J : Nat} (hg : g ≤ 30) (hJ : J ≤ 10) : fNx room g A J ≤ room ∧ fNx room g A J ≤ A := by
  have k1 := tl_ge (f := 40) (x := g + J) (J := J) (by omega)
  have k2 := tl_ge (f := 40) (x := g) (J := J) (by omega)
  have k3 := tl_ge (f := 40) (x := g - J) (J := J) (by omega)
  unfold fNx
  split
  · omega
  · split
    · omega
    · split <;> omega
def fRamp (V A J : Nat) : Nat → Nat → Nat → List Int
  | 0, _, _ => []
  | f + 1, v, g => if fNx (V - v) g A J = 0 then [] else ((v + fNx (V - v) g A J : Nat) : Int) :: fRamp V A J f (v + fNx (V - v) g A J) (fNx (V - v) g A J)
def fL (V A J : Nat) : List Int := fRamp V A J 60 0 0
theorem fRamp_ok {V A J : Nat} (hA : A ≤ 30) (hJ : J ≤ 10) : ∀ (f v g : Nat), v ≤ V → g ≤ 30 → (fRamp V A J f v g).length ≤ f ∧ ∀ x ∈ fRamp V A J f v g, (v : Int) < x ∧ x ≤ V := by
  intro f
  induction f with
  | zero => intro v g _ _; exact ⟨Nat.le_refl _, fun x hx => by simp [fRamp] at hx⟩
  | succ f ih =>
    intro v g hv hg
    have hn := fNx_le (room := V - v) (A := A) hg hJ
    unfold fRamp
    by_cases h : fNx (V - v) g A J = 0
    · rw [if_pos h]; exact ⟨Nat.zero_le _, fun x hx => by simp at hx⟩
    · rw [if_neg h]
      obtain ⟨i1, i2⟩ := ih (v + fNx (V - v) g A J) (fNx (V - v) g A J) (by omega) (by omega)
      refine ⟨by rw [List.length_cons]; omega, fun x hx => ?_⟩
      rcases List.mem_cons.mp hx with rfl | hx
      · omega
      · have := i2 x hx; omega
theorem fL_ok {V A J : Nat} (hV : V ≤ 60) (hA : A ≤ 30) (hJ : J ≤ 10) : rmL (fL V A J) ∧ ∀ x ∈ fL V A J, x ≤ V := by
  obtain ⟨h1, h2⟩ := fRamp_ok (V := V) hA hJ 60 0 0 (by omega) (by omega)
  exact ⟨⟨h1, fun x hx => by have := h2 x hx; omega⟩, fun x hx => (h2 x hx).2⟩
theorem psum_0 (L : List Int) : psum L 0 = 0 := rfl
theorem psum_s : ∀ (L : List Int) (k : Nat), psum L (k + 1) = psum L k + L.getD k 0
  | [], k => by simp [psum]
  | x :: L, 0 => by simp [psum]
  | x :: L, k + 1 => by
    have := psum_s L k
    simp [psum] at this ⊢
    omega
theorem psum_app {P L : List Int} {i : Nat} (h : i ≤ P.length) : psum (P ++ L) i = psum P i := by
  unfold psum
  rw [List.take_append_of_le_length h]
theorem getD_b {L : List Int} (h : rmL L) {k : Nat} (hk : k < L.length) : 1 ≤ L.getD k 0 ∧ L.getD k 0 ≤ 60 := by
  rw [List.getD_eq_getElem?_getD, List.getElem?_eq_getElem hk]
  exact h.2 _ (List.getElem_mem hk)
theorem getD_o {L : List Int} {k : Nat} (hk : L.length ≤ k) : L.getD k 0 = 0 := by
  rw [List.getD_eq_getElem?_getD, List.getElem?_eq_none hk]
  rfl
theorem psum_b {L : List Int} (h : rmL L) : ∀ k : Nat, 0 ≤ psum L k ∧ psum L k ≤ 60 * k ∧ (k ≤ L.length → (k : Int) ≤ psum L k) := by
  intro k
  induction k with
  | zero => rw [psum_0]; omega
  | succ k ih =>
    rw [psum_s]
    by_cases hk : k < L.length
    · have := getD_b h hk; omega
    · rw [getD_o (by omega)]; omega
theorem psum_m {L : List Int} (h : rmL L) {i : Nat} : ∀ d : Nat, psum L i ≤ psum L (i + d) := by
  intro d
  induction d with
  | zero => exact Int.le_refl _
  | succ d ih =>
    rw [← Nat.add_assoc, psum_s]
    by_cases hk : i + d < L.length
    · have := getD_b h hk; omega
    · rw [getD_o (by omega)]; omega
theorem psum_mono {L : List Int} (h : rmL L) {i j : Nat} (hij : i ≤ j) : psum L i ≤ psum L j := by
  have := psum_m h (i := i) (j - i)
  rw [show i + (j - i) = j by omega] at this
  exact this
/-! the gains of both -/
theorem tri_all : ∀ x : Nat, x < 41 → ∀ J : Nat, J < 11 → 0 < x → 0 < J → ((((nI x + nI J) - 1) / nI J) * nI x) - (nI J * (((((nI x + nI J) - 1) / nI J) * ((((nI x + nI J) - 1) / nI J) - 1)) / 2)) = nI (tl 40 x J) := by decide +kernel
theorem ng_step {sh : zShp} {M : zMem} {room g A J : Nat} (hr : room ≤ 60) (hA : A ≤ 30) (hJ : 1 ≤ J) (hJ2 : J ≤ 10) (kk : Int32 → Option Int32) {x4 : Int32} {y : Int} (hy : nI g + x4 * nI J = iI y) (h1 : -10 ≤ y) (h2 : y ≤ 40) (hx : ¬ x4 < -1) : zbX5_nextGain_10 sh (nI room) (nI g) (nI A) (nI J) M kk x4 = if 0 < y ∧ y ≤ A ∧ (tl 40 y.toNat J : Int) ≤ room then some (iI y) else kk (x4 + -1) := by
  unfold zbX5_nextGain_10 zjX5_nextGain_73
  rw [if_neg hx, rgd (rnz (nI_ne0 (by omega) (by omega))), rbd, rbd, hy]
  by_cases g1 : y ≤ 0
  · rw [if_pos (show iI y ≤ 0 by rw [show (0 : Int32) = iI 0 from rfl, iI_le (by omega) (by omega) (by omega) (by omega)]; exact g1), if_neg (by omega)]
  · rw [if_neg (show ¬ iI y ≤ 0 by rw [show (0 : Int32) = iI 0 from rfl, iI_le (by omega) (by omega) (by omega) (by omega)]; exact g1)]
    obtain ⟨x, rfl⟩ : ∃ x : Nat, y = x := ⟨y.toNat, by omega⟩
    rw [← iI_n, tri_all x (by omega) J (by omega) (by omega) (by omega), Int.toNat_natCast]
    have hb := tl_le (f := 40) (x := x) (J := J)
    by_cases g2 : A < x
    · rw [if_pos (nI_lt g2 (by omega)), if_neg (by omega)]
    · rw [if_neg (nI_nlt (by omega) (by omega))]
      by_cases g3 : room < tl 40 x J
      · rw [if_pos (nI_lt g3 (by omega)), if_neg (by omega)]
      · rw [if_neg (nI_nlt (by omega) (by omega)), if_pos (by omega)]
theorem zl_ng {sh : zShp} {M : zMem} {a b c d : Int32} (F : Nat) (x : Int32) : zlX5_nextGain_10 sh a b c d M (F + 1) x = zbX5_nextGain_10 sh a b c d M (zlX5_nextGain_10 sh a b c d M F) x := rfl
theorem nextG {sh : zShp} {M : zMem} {room g A J : Nat} (hr : room ≤ 60) (hg : g ≤ 30) (hA : A ≤ 30) (hJ : 1 ≤ J) (hJ2 : J ≤ 10) : zX5_nextGain sh (nI room) (nI g) (nI A) (nI J) M = some (nI (fNx room g A J)) := by
  unfold zX5_nextGain
  rw [if_pos (show (1 : Int32) ≤ nI J from nI_le (a := 1) hJ (by omega)), show zF = 999996 + 1 + 1 + 1 + 1 from rfl, zl_ng]
  have a1 : nI g + (1 : Int32) * nI J = iI ((g + J : Nat) : Int) := by rw [Int32.one_mul, nI_add, iI_n]
  have a2 : nI g + ((1 : Int32) + -1) * nI J = iI (g : Int) := by rw [show (1 : Int32) + -1 = 0 from rfl, Int32.zero_mul, Int32.add_zero, iI_n]
  have a3 : nI g + ((1 : Int32) + -1 + -1) * nI J = iI ((g : Int) - J) := by rw [show (1 : Int32) + -1 + -1 = iI (-1) from rfl, iI_n, iI_n, iI_mul, iI_add]; congr 1; omega
  rw [ng_step hr hA hJ hJ2 _ a1 (by omega) (by omega) (by decide), zl_ng, ng_step hr hA hJ hJ2 _ a2 (by omega) (by omega) (by decide), zl_ng, ng_step hr hA hJ hJ2 _ a3 (by omega) (by omega) (by decide), zl_ng]
  unfold zbX5_nextGain_10
  rw [if_pos (show (1 : Int32) + -1 + -1 + -1 < -1 by decide), Int.toNat_natCast, Int.toNat_natCast]
  unfold fNx
  by_cases c1 : 0 < g + J ∧ g + J ≤ A ∧ tl 40 (g + J) J ≤ room
  · rw [if_pos c1, if_pos (by omega), ← iI_n]
  · rw [if_neg c1, if_neg (by omega)]
    by_cases c2 : 0 < g ∧ g ≤ A ∧ tl 40 g J ≤ room
    · rw [if_pos c2, if_pos (by omega), ← iI_n]
    · rw [if_neg c2, if_neg (by omega)]
      rw [show ((g : Int) - J).toNat = g - J by omega]
      by_cases c3 : 0 < g - J ∧ g - J ≤ A ∧ tl 40 (g - J) J ≤ room
      · rw [if_pos c3, if_pos (by omega), iI_n]; congr 2; omega
      · rw [if_neg c3, if_neg (by omega)]; rfl
theorem till_eq {sh : zShp} {N : zMem} {J : Nat} (hJ : 1 ≤ J) (hJ2 : J ≤ 10) (p : Int32) : ∀ (f : Nat) (y : Int) (s F : Nat), y.toNat ≤ f → -10 ≤ y → y ≤ 40 → f < F → zlX12_till_4 sh p (nI J) N F (nI s) (iI y) = some (nI (s + tl f y.toNat J)) := by
  intro f
  induction f with
  | zero =>
    intro y s F h1 h2 h3 hF
    obtain ⟨F, rfl⟩ : ∃ x, F = x + 1 := ⟨F - 1, by omega⟩
    simp only [zlX12_till_4]
    unfold zbX12_till_4
    rw [if_pos (show iI y ≤ 0 by rw [show (0 : Int32) = iI 0 from rfl, iI_le (by omega) (by omega) (by omega) (by omega)]; omega)]
    rfl
  | succ f ih =>
    intro y s F h1 h2 h3 hF
    obtain ⟨F, rfl⟩ : ∃ x, F = x + 1 := ⟨F - 1, by omega⟩
    simp only [zlX12_till_4]
    unfold zbX12_till_4 tl
    by_cases g : y ≤ 0
    · rw [if_pos (show iI y ≤ 0 by rw [show (0 : Int32) = iI 0 from rfl, iI_le (by omega) (by omega) (by omega) (by omega)]; omega), if_pos (by omega)]
      rfl
    · rw [if_neg (show ¬ iI y ≤ 0 by rw [show (0 : Int32) = iI 0 from rfl, iI_le (by omega) (by omega) (by omega) (by omega)]; omega), if_neg (by omega)]
      have e1 : nI s + iI y = nI (s + y.toNat) := by rw [iI_n, iI_n, iI_add]; congr 1; omega
      have e2 : iI y - nI J = iI (y - J) := by rw [iI_n, iI_sub]
      rw [e1, e2, ih (y - J) (s + y.toNat) F (by omega) (by omega) (by omega) (by omega), show (y - (J : Int)).toNat = y.toNat - J by omega, Nat.add_assoc]
theorem till_v {sh : zShp} {N : zMem} {J : Nat} (hJ : 1 ≤ J) (hJ2 : J ≤ 10) {y : Int} (h2 : -10 ≤ y) (h3 : y ≤ 40) : zX12_till sh (iI y) (nI J) N = some (nI (tl 40 y.toNat J)) := by
  unfold zX12_till
  have := till_eq (sh := sh) (N := N) hJ hJ2 (iI y) 40 y 0 zF (by omega) h2 h3 (by unfold zF; omega)
  rw [Nat.zero_add] at this
  exact this
theorem lr_step {N : zMem} {V v g A J : Nat} (hV : V ≤ 60) (hv : v ≤ V) (hA : A ≤ 30) (hg : g ≤ 30) (hJ : 1 ≤ J) (hJ2 : J ≤ 10) (kk14 : Int32 → Int32 → Int32 → zMem → Option zMem) (kk28 : Int32 → Int32 → Int32 → Int32 → zMem → Option zMem) (x7 : Int32) {y : Int} (h1 : -10 ≤ y) (h2 : y ≤ g + J) : zbX12_laysRamp_28 shM 0 (nI V) (nI A) (nI J) kk14 kk28 (nI v) (nI g) x7 (iI y) N = kk28 (nI v) (nI g) (if 0 < y ∧ y ≤ A ∧ (tl 40 y.toNat J : Int) ≤ (V - v : Nat) then iI y else x7) (iI y + nI J) N := by
  unfold zbX12_laysRamp_28 zjX12_laysRamp_65
  have e1 : nI g + nI J = iI (g + J) := by rw [iI_n, iI_n, iI_add]
  have hb := tl_le (f := 40) (x := y.toNat) (J := J)
  rw [e1, if_neg (show ¬ iI (g + J) < iI y by rw [iI_lt (by omega) (by omega) (by omega) (by omega)]; omega), till_v hJ hJ2 h1 (by omega), rob]
  by_cases g2 : (A : Int) < y
  · rw [if_pos (show nI A < iI y by rw [iI_n, iI_lt (by omega) (by omega) (by omega) (by omega)]; exact g2), if_neg (by omega)]
  · rw [if_neg (show ¬ nI A < iI y by rw [iI_n, iI_lt (by omega) (by omega) (by omega) (by omega)]; exact g2)]
    by_cases g1 : y ≤ 0
    · rw [if_pos (show iI y ≤ 0 by rw [show (0 : Int32) = iI 0 from rfl, iI_le (by omega) (by omega) (by omega) (by omega)]; exact g1), if_neg (by omega)]
    · rw [if_neg (show ¬ iI y ≤ 0 by rw [show (0 : Int32) = iI 0 from rfl, iI_le (by omega) (by omega) (by omega) (by omega)]; exact g1), nI_add]
      by_cases g3 : V < v + tl 40 y.toNat J
      · rw [if_pos (nI_lt g3 (by omega)), if_neg (by omega)]
      · rw [if_neg (nI_nlt (by omega) (by omega)), if_pos (by omega)]
theorem zl_lr {N : zMem} {a b c : Int32} {kk14 : Int32 → Int32 → Int32 → zMem → Option zMem} (F : Nat) (x4 x5 x7 x8 : Int32) : zlX12_laysRamp_28 shM 0 a b c kk14 (F + 1) x4 x5 x7 x8 N = zbX12_laysRamp_28 shM 0 a b c kk14 (zlX12_laysRamp_28 shM 0 a b c kk14 F) x4 x5 x7 x8 N := rfl
theorem lr_next {N : zMem} {V v g A J : Nat} (hV : V ≤ 60) (hv : v ≤ V) (hA : A ≤ 30) (hg : g ≤ 30) (hJ : 1 ≤ J) (hJ2 : J ≤ 10) (kk14 : Int32 → Int32 → Int32 → zMem → Option zMem) : zlX12_laysRamp_28 shM 0 (nI V) (nI A) (nI J) kk14 zF (nI v) (nI g) 0 (nI g - nI J) N = zjX12_laysRamp_84 shM 0 (nI V) (nI A) (nI J) kk14 (nI v) (nI g) (nI (fNx (V - v) g A J)) (if fNx (V - v) g A J = 0 then 0 else 1) N := by
  have a1 : nI g - nI J = iI ((g : Int) - J) := by rw [iI_n, iI_n, iI_sub]
  have a2 : iI ((g : Int) - J) + nI J = iI (g : Int) := by rw [iI_n, iI_add]; congr 1; omega
  have a3 : iI (g : Int) + nI J = iI ((g + J : Nat) : Int) := by rw [iI_n, iI_add]; congr 1
  have a4 : iI ((g + J : Nat) : Int) + nI J = iI ((g + J + J : Nat) : Int) := by rw [iI_n, iI_add]; congr 1
  rw [a1, show zF = 999996 + 1 + 1 + 1 + 1 from rfl, zl_lr, lr_step hV hv hA hg hJ hJ2 _ _ _ (by omega) (by omega), a2, zl_lr, lr_step hV hv hA hg hJ hJ2 _ _ _ (by omega) (by omega), a3, zl_lr, lr_step hV hv hA hg hJ hJ2 _ _ _ (by omega) (by omega), a4, zl_lr]
  unfold zbX12_laysRamp_28
  have e1 : nI g + nI J = iI ((g + J : Nat) : Int) := by rw [iI_n, iI_n, iI_add]; congr 1
  rw [e1, if_pos (show iI ((g + J : Nat) : Int) < iI ((g + J + J : Nat) : Int) by rw [iI_lt (by omega) (by omega) (by omega) (by omega)]; omega)]
  have e2 : (if 0 < ((g + J : Nat) : Int) ∧ ((g + J : Nat) : Int) ≤ A ∧ (tl 40 ((g + J : Nat) : Int).toNat J : Int) ≤ (V - v : Nat) then iI ((g + J : Nat) : Int) else if 0 < (g : Int) ∧ (g : Int) ≤ A ∧ (tl 40 (g : Int).toNat J : Int) ≤ (V - v : Nat) then iI (g : Int) else if 0 < (g : Int) - J ∧ (g : Int) - J ≤ A ∧ (tl 40 ((g : Int) - J).toNat J : Int) ≤ (V - v : Nat) then iI ((g : Int) - J) else 0) = nI (fNx (V - v) g A J) := by
    rw [Int.toNat_natCast, Int.toNat_natCast, show ((g : Int) - J).toNat = g - J by omega]
    unfold fNx
    by_cases c1 : 0 < g + J ∧ g + J ≤ A ∧ tl 40 (g + J) J ≤ V - v
    · rw [if_pos c1, if_pos (by omega), iI_n]
    · rw [if_neg c1, if_neg (by omega)]
      by_cases c2 : 0 < g ∧ g ≤ A ∧ tl 40 g J ≤ V - v
      · rw [if_pos c2, if_pos (by omega), iI_n]
      · rw [if_neg c2, if_neg (by omega)]
        by_cases c3 : 0 < g - J ∧ g - J ≤ A ∧ tl 40 (g - J) J ≤ V - v
        · rw [if_pos c3, if_pos (by omega), iI_n]; congr 1; omega
        · rw [if_neg c3, if_neg (by omega)]; rfl
  rw [e2]
  have hn := fNx_le (room := V - v) (A := A) hg hJ2
  by_cases c : fNx (V - v) g A J = 0
  · rw [if_pos c, c, if_pos (by decide)]
  · rw [if_neg c, if_neg (nI_nle (by omega) (by omega))]
