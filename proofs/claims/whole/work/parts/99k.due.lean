/-! Phase B: when a lead is due -/
theorem dueM_lp {N : zMem} {L : List Int} {rest E p : Int} {K : Nat} (hL : rmL L) (hR : zR N 0 35 = 14) (cL : rpM N L) (c43 : zI N 0 43 = iI rest) (c44 : zI N 0 44 = iI E) (he : evOK rest E) (hr : rest ≤ 60000) (hp : p ≤ 70000) (hK : (K : Int) < 2 * L.length + E) (hlo : ∀ k : Nat, k ≤ K → 0 ≤ fG L E rest k ∧ fG L E rest k < p) (hhi : p ≤ fG L E rest (K + 1 : Nat)) (hg : ∀ k : Nat, k ≤ K + 1 → fG L E rest k ≤ 70000) : ∀ (r k F : Nat), k + r = K → r < F → zlX12_due_4 shM 0 (iI p) N F (iI (fG L E rest k)) (nI k) = some (iI (1000 * K + 1000 * (p - fG L E rest K) / fS L E rest K)) := by
  intro r
  induction r with
  | zero =>
    intro k F h1 hF
    obtain ⟨F, rfl⟩ : ∃ x, F = x + 1 := ⟨F - 1, by omega⟩
    obtain rfl : k = K := by omega
    have hS := fS_b hL he (k := (k : Int)) (by omega) hK
    have l1 := hlo k (Nat.le_refl _)
    have l2 := hg (k + 1) (Nat.le_refl _)
    have l3 := hg k (by omega)
    simp only [zlX12_due_4]
    unfold zbX12_due_4
    rw [speedK hL hR cL c43 c44 he hr hK, rob, sum_speeds he hK, if_pos (by rw [iI_le (by omega) (by omega) (by omega) (by omega)]; exact hhi), rob, rgd (iI_nz (by omega) (by omega) (by omega)), iI_sub, show (1000 : Int32) = iI 1000 from rfl, iI_n, iI_mul, iI_mul, iI_divp (by omega) (by omega) (by omega) (by omega), iI_add]
  | succ r ih =>
    intro k F h1 hF
    obtain ⟨F, rfl⟩ : ∃ x, F = x + 1 := ⟨F - 1, by omega⟩
    have hk : (k : Int) < 2 * L.length + E := by omega
    have hS := fS_b hL he (k := (k : Int)) (by omega) hk
    have l1 := hlo (k + 1) (by omega)
    have l2 := hg (k + 1) (by omega)
    simp only [zlX12_due_4]
    unfold zbX12_due_4
    rw [speedK hL hR cL c43 c44 he hr hk, rob, sum_speeds he hk, if_neg (by rw [iI_le (by omega) (by omega) (by omega) (by omega)]; omega), rob, sum_speeds he hk, nI_1]
    exact ih (k + 1) F (by omega) (by omega)
/-- the class halves -/
theorem dueC_lp {M : zMem} {mb W K : Nat} {L : List Int} {rest E p : Int} (h : mvP M mb L W rest E) (hlen : zlen shC (mb + 4) = 61) (hp0 : 0 ≤ p) (hp : p ≤ 70000) (hg : ∀ k : Nat, 0 ≤ fG L E rest k ∧ fG L E rest k ≤ 70000) (hlo : ∀ k : Nat, k ≤ K → fG L E rest k < p) (hhi : ∀ k : Nat, K + 1 ≤ k → p ≤ fG L E rest k) : ∀ (r i F lo hi : Nat), i + r = 16 → r < F → lo ≤ K + 1 → K + 1 ≤ hi → hi ≤ 100000 → hi - lo < 2 ^ r → zlX4_dueAt_10 shC mb (iI p) M F (nI lo) (nI hi) (nI i) = zjX4_dueAt_56 shC mb (iI p) M (nI (K + 1)) := by
  intro r
  induction r with
  | zero =>
    intro i F lo hi h1 hF h2 h3 h4 h5
    obtain ⟨F, rfl⟩ : ∃ x, F = x + 1 := ⟨F - 1, by omega⟩
    have h5 : hi - lo < 1 := h5
    obtain rfl : i = 16 := by omega
    obtain rfl : lo = K + 1 := by omega
    simp only [zlX4_dueAt_10]
    unfold zbX4_dueAt_10
    rw [if_pos (by decide)]
  | succ r ih =>
    intro i F lo hi h1 hF h2 h3 h4 h5
    obtain ⟨F, rfl⟩ : ∃ x, F = x + 1 := ⟨F - 1, by omega⟩
    rw [Nat.pow_succ] at h5
    have e2 : (nI lo + nI hi) / (2 : Int32) = nI ((lo + hi) / 2) := by
      rw [nI_add, iI_n, show (2 : Int32) = iI 2 from rfl, iI_divp (by omega) (by omega) (by omega) (by omega), iI_n]
      congr 1
    have hgm := hg ((lo + hi) / 2)
    simp only [zlX4_dueAt_10]
    unfold zbX4_dueAt_10 zjX4_dueAt_50
    rw [if_neg (show ¬ (16 : Int32) ≤ nI i from nI_ge (b := 16) (by omega) (by omega))]
    by_cases c : hi ≤ lo
    · obtain rfl : lo = K + 1 := by omega
      rw [if_pos (nI_le c (by omega))]
    · rw [if_neg (nI_ge (by omega) (by omega)), e2, iI_n ((lo + hi) / 2), goneC h hlen (by omega) (by omega), rob]
      by_cases c2 : (lo + hi) / 2 ≤ K
      · have := hlo _ c2
        rw [if_pos (by rw [iI_lt (by omega) (by omega) (by omega) (by omega)]; exact this), ← iI_n, nI_1, nI_1, rbd]
        exact ih (i + 1) F ((lo + hi) / 2 + 1) hi (by omega) (by omega) (by omega) h3 h4 (by omega)
      · have := hhi ((lo + hi) / 2) (by omega)
        rw [if_neg (by rw [iI_lt (by omega) (by omega) (by omega) (by omega)]; omega), ← iI_n, nI_1]
        exact ih (i + 1) F lo ((lo + hi) / 2) (by omega) (by omega) h2 (by omega) (by omega) (by omega)
theorem dueC_end {M : zMem} {mb W K : Nat} {L : List Int} {rest E p : Int} (h : mvP M mb L W rest E) (hlen : zlen shC (mb + 4) = 61) (hp : p ≤ 70000) (hK : (K : Int) < 2 * L.length + E) (hg : ∀ k : Nat, 0 ≤ fG L E rest k ∧ fG L E rest k ≤ 70000) (hlo : fG L E rest K < p) (hhi : p ≤ fG L E rest (K + 1 : Nat)) : zjX4_dueAt_56 shC mb (iI p) M (nI (K + 1)) = some (iI (1000 * K + 1000 * (p - fG L E rest K) / fS L E rest K)) := by
  have he : evOK rest E := h.2.2.2.2.2.2.2.2
  have hL : rmL L := h.2.2.2.2.2.1
  have h60 := hL.1
  have hps := psum_b hL L.length
  have hWe : (W : Int) = 2 * psum L L.length + rest := h.2.2.2.2.2.2.2.1
  have hW : W ≤ 60000 := h.2.2.2.2.2.2.1
  obtain ⟨y1, y2, y3⟩ := he
  have hS := fS_b hL ⟨y1, y2, y3⟩ (k := (K : Int)) (by omega) hK
  have hs := fG_s (L := L) (E := E) (rest := rest) (k := (K : Int)) ⟨y1, y2, y3⟩ (by omega) hK
  have g1 := hg K
  have e1 : nI (K + 1) - (1 : Int32) = iI (K : Int) := by rw [nI_pred, iI_n]
  unfold zjX4_dueAt_56
  rw [e1, goneC h hlen (by omega) (by omega), rob, iI_n (K + 1), goneC h hlen (by omega) (by omega), rob, iI_sub, show (1 : Int32) = iI 1 from rfl]
  have e3 : fG L E rest ((K + 1 : Nat) : Int) - fG L E rest (K : Int) = fS L E rest (K : Int) := by
    rw [show (((K + 1 : Nat)) : Int) = (K : Int) + 1 by omega, hs]; omega
  rw [e3, iI_max (by omega) (by omega) (by omega) (by omega), show max 1 (fS L E rest (K : Int)) = fS L E rest (K : Int) by omega, rbd, rgd (iI_nz (by omega) (by omega) (by omega)), iI_sub, show (1000 : Int32) = iI 1000 from rfl, iI_mul, iI_mul, iI_divp (by omega) (by omega) (by omega) (by omega), iI_add, Int.mul_comm (K : Int) 1000, Int.mul_comm (p - fG L E rest (K : Int)) 1000]
theorem lead_iff {x m D W : Int} (hD : 0 < D) (hW : 0 < W) : m ≤ (2 * x * D + W) / (2 * W) ↔ ((2 * m - 1) * W + 2 * D - 1) / (2 * D) ≤ x := by
  have h1 : ((2 * m - 1) * W + 2 * D - 1) / (2 * D) ≤ x ↔ (2 * m - 1) * W + 2 * D - 1 < (x + 1) * (2 * D) := by
    rw [← Int.lt_add_one_iff, Int.ediv_lt_iff_lt_mul (by omega)]
  rw [Int.le_ediv_iff_mul_le (by omega), h1]
  have e1 : m * (2 * W) = 2 * (m * W) := by rw [← Int.mul_assoc, Int.mul_comm m 2, Int.mul_assoc]
  have e2 : (2 * m - 1) * W = 2 * (m * W) - W := by rw [Int.sub_mul, Int.mul_assoc, Int.one_mul]
  have e3 : (x + 1) * (2 * D) = 2 * (x * D) + 2 * D := by rw [Int.add_mul, Int.one_mul, ← Int.mul_assoc, Int.mul_comm x 2, Int.mul_assoc]
  have e4 : 2 * x * D = 2 * (x * D) := Int.mul_assoc 2 x D
  rw [e1, e2, e3, e4]
  omega
theorem due_ex {L : List Int} {E rest p : Int} (hp : 1 ≤ p) : ∀ n : Nat, p ≤ fG L E rest n → ∃ K : Nat, K < n ∧ fG L E rest K < p ∧ p ≤ fG L E rest (K + 1 : Nat) := by
  intro n
  induction n with
  | zero =>
    intro h
    have h0 : fG L E rest ((0 : Nat) : Int) = 0 := fG_0
    omega
  | succ n ih =>
    intro h
    by_cases c : p ≤ fG L E rest n
    · obtain ⟨K, k1, k2, k3⟩ := ih c
      exact ⟨K, by omega, k2, k3⟩
    · exact ⟨n, by omega, by omega, h⟩
theorem fG_mn {L : List Int} {E rest : Int} (hL : rmL L) (he : evOK rest E) (i : Nat) : ∀ d : Nat, ((i + d : Nat) : Int) ≤ 2 * L.length + E → fG L E rest i ≤ fG L E rest (i + d : Nat) := by
  intro d
  induction d with
  | zero => intro _; exact Int.le_refl _
  | succ d ih =>
    intro h
    have h1 := ih (by omega)
    have h2 := fS_b hL he (k := ((i + d : Nat) : Int)) (by omega) (by omega)
    have h3 := fG_s (L := L) (E := E) (rest := rest) (k := ((i + d : Nat) : Int)) he (by omega) (by omega)
    rw [show ((i + (d + 1) : Nat) : Int) = ((i + d : Nat) : Int) + 1 by omega]
    omega
