/-! Phase B: when a lead is due -/
theorem dueM_lp {N : zMem} {L : List Int} {rest E p : Int} {K : Nat} (hL : rmL L) (hR : zR N 0 35 = 14) (cL : rpM N L) (c43 : zI N 0 43 = iI rest) (c44 : zI N 0 44 = iI E) (he : evOK rest E) (hr : rest ≤ 60000) (hp : p ≤ 70000) (hK : (K : Int) < 2 * L.length + E) (hlo : ∀ k : Nat, k ≤ K → 0 ≤ fG L E rest k ∧ fG L E rest k < p) (hhi : p ≤ fG L E rest (K + 1 : Nat)) (hg : ∀ k : Nat, k ≤ K + 1 → fG L E rest k ≤ 70000) : ∀ (r k F : Nat), k + r = K → r < F → zlX12_due_4 shM 0 (iI p) N F (iI (fG L E rest k)) (nI k) = some (iI (1000 * K + 1000 * (p - fG L E rest K) / fS L E rest K)) := by
  intro r
  induction r with
  | zero =>
    intro k F h1 hF
    obtain ⟨F, rfl⟩ : ∃ x, F = x + 1 := ⟨F - 1, by omega⟩
    obtain rfl : k = K := by omega
    have hS := fS_b hL he (k := (k : Int)) (by omega) hK
    have l1 := hlo k (Nat.le_refl _)
    have l2 := hg (k + 1) (Nat.le_refl _)
    have l3 := hg k (by omega)
    simp only [zlX12_due_4]
    unfold zbX12_due_4
    rw [speedK hL hR cL c43 c44 he hr hK, rob, sum_speeds he hK, if_pos (by rw [iI_le (by omega) (by omega) (by omega) (by omega)]; exact hhi), rob, rgd (iI_nz (by omega) (by omega) (by omega)), iI_sub, show (1000 : Int32) = iI 1000 from rfl, iI_n, iI_mul, iI_mul, iI_divp (by omega) (by omega) (by omega) (by omega), iI_add]
  | succ r ih =>
    intro k F h1 hF
    obtain ⟨F, rfl⟩ : ∃ x, F = x + 1 := ⟨F - 1, by omega⟩
    have hk : (k : Int) < 2 * L.length + E := by omega
    have hS := fS_b hL he (k := (k : Int)) (by omega) hk
    have l1 := hlo (k + 1) (by omega)
    have l2 := hg (k + 1) (by omega)
    simp only [zlX12_due_4]
    unfold zbX12_due_4
    rw [speedK hL hR cL c43 c44 he hr hk, rob, sum_speeds he hk, if_neg (by rw [iI_le (by omega) (by omega) (by omega) (by omega)]; omega), rob, sum_speeds he hk, nI_1]
    exact ih (k + 1) F (by omega) (by omega)
