/-! Phase B: what is gone of a planned move, tick by tick -/
def fS (L : List Int) (E rest : Int) (k : Int) : Int := if k < L.length then L.getD k.toNat 0 else if k - L.length < E then rest * (k - L.length + 1) / E - rest * (k - L.length) / E else L.getD (L.length - 1 - (k - L.length - E)).toNat 0
theorem div_b {a E rest : Int} (hE : 0 < E) (h1 : E ≤ rest) (h2 : rest ≤ 60 * E) : 1 ≤ (a + rest) / E - a / E ∧ (a + rest) / E - a / E ≤ 60 := by
  have a1 : (a + 1 * E) / E = a / E + 1 := Int.add_mul_ediv_right a 1 (by omega)
  have a2 : (a + 60 * E) / E = a / E + 60 := Int.add_mul_ediv_right a 60 (by omega)
  have a3 : (a + 1 * E) / E ≤ (a + rest) / E := Int.ediv_le_ediv hE (by omega)
  have a4 : (a + rest) / E ≤ (a + 60 * E) / E := Int.ediv_le_ediv hE (by omega)
  omega
theorem fS_b {L : List Int} {E rest k : Int} (hL : rmL L) (he : evOK rest E) (h0 : 0 ≤ k) (h1 : k < 2 * L.length + E) : 1 ≤ fS L E rest k ∧ fS L E rest k ≤ 60 := by
  obtain ⟨e1, e2, e3⟩ := he
  unfold fS
  by_cases c1 : k < L.length
  · rw [if_pos c1]; exact getD_b hL (by omega)
  · rw [if_neg c1]
    by_cases c2 : k - L.length < E
    · rw [if_pos c2, Int.mul_add, Int.mul_one]
      exact div_b (by omega) (by omega) (by omega)
    · rw [if_neg c2]; exact getD_b hL (by omega)
theorem fG_0 {L : List Int} {E rest : Int} : fG L E rest 0 = 0 := by
  unfold fG
  rw [if_pos (by omega)]
theorem fG_up {L : List Int} {E rest k : Int} (hk : 0 ≤ k) (h : k ≤ L.length) (hE : 0 ≤ E) (he0 : E = 0 → rest = 0) : fG L E rest k = psum L k.toNat := by
  unfold fG
  by_cases c0 : k ≤ 0
  · rw [if_pos c0, show k = 0 by omega]; rfl
  · rw [if_neg c0]
    by_cases c1 : 2 * (L.length : Int) + E ≤ k
    · omega
    · rw [if_neg c1, if_pos h]
theorem fG_mid {L : List Int} {E rest m : Int} (h0 : 0 ≤ m) (h1 : m ≤ E) (hE : 0 < E) : fG L E rest (L.length + m) = psum L L.length + rest * m / E := by
  unfold fG
  by_cases c0 : (L.length : Int) + m ≤ 0
  · rw [if_pos c0]
    have hl : L.length = 0 := by omega
    have hm : m = 0 := by omega
    rw [hl, hm, Int.mul_zero, Int.zero_ediv]; rfl
  · rw [if_neg c0]
    by_cases c1 : 2 * (L.length : Int) + E ≤ L.length + m
    · rw [if_pos c1]
      have hl : L.length = 0 := by omega
      have hm : m = E := by omega
      rw [hl, hm, Int.mul_ediv_cancel _ (by omega), psum_0]
      omega
    · rw [if_neg c1]
      by_cases c2 : (L.length : Int) + m ≤ L.length
      · rw [if_pos c2, show m = 0 by omega, Int.add_zero, Int.mul_zero, Int.zero_ediv, Int.toNat_natCast, Int.add_zero]
      · rw [if_neg c2, if_pos (by omega)]
        congr 3
        omega
theorem fG_down {L : List Int} {E rest j : Int} (h0 : 0 ≤ j) (h1 : j ≤ L.length) (hE : 0 ≤ E) (he0 : E = 0 → rest = 0) : fG L E rest (2 * L.length + E - j) = 2 * psum L L.length + rest - psum L j.toNat := by
  by_cases cj : j = L.length
  · by_cases cE : E = 0
    · rw [show 2 * (L.length : Int) + E - j = L.length by omega, fG_up (by omega) (by omega) hE he0, cj, Int.toNat_natCast, he0 cE]
      omega
    · rw [show 2 * (L.length : Int) + E - j = L.length + E by omega, fG_mid hE (by omega) (by omega), Int.mul_ediv_cancel _ cE, cj, Int.toNat_natCast]
      omega
  · unfold fG
    rw [if_neg (by omega)]
    by_cases c1 : 2 * (L.length : Int) + E ≤ 2 * L.length + E - j
    · rw [if_pos c1, show j = 0 by omega]
      show _ = _ - psum L 0
      rw [psum_0, Int.sub_zero]
    · rw [if_neg c1, if_neg (by omega), if_neg (by omega)]
      congr 2
      omega
theorem fG_s {L : List Int} {E rest k : Int} (he : evOK rest E) (h0 : 0 ≤ k) (h1 : k < 2 * L.length + E) : fG L E rest (k + 1) = fG L E rest k + fS L E rest k := by
  obtain ⟨e1, e2, e3⟩ := he
  have he0 : E = 0 → rest = 0 := fun h => by omega
  unfold fS
  by_cases c1 : k < L.length
  · rw [if_pos c1, fG_up (by omega) (by omega) e1 he0, fG_up h0 (by omega) e1 he0, show (k + 1).toNat = k.toNat + 1 by omega, psum_s]
  · rw [if_neg c1]
    by_cases c2 : k - L.length < E
    · rw [if_pos c2]
      have a1 := fG_mid (L := L) (rest := rest) (E := E) (m := k - L.length + 1) (by omega) (by omega) (by omega)
      have a2 := fG_mid (L := L) (rest := rest) (E := E) (m := k - L.length) (by omega) (by omega) (by omega)
      rw [show (L.length : Int) + (k - L.length + 1) = k + 1 by omega] at a1
      rw [show (L.length : Int) + (k - L.length) = k by omega] at a2
      rw [a1, a2]
      omega
    · rw [if_neg c2]
      have a1 := fG_down (L := L) (rest := rest) (E := E) (j := 2 * L.length + E - (k + 1)) (by omega) (by omega) e1 he0
      have a2 := fG_down (L := L) (rest := rest) (E := E) (j := 2 * L.length + E - k) (by omega) (by omega) e1 he0
      rw [show 2 * (L.length : Int) + E - (2 * L.length + E - (k + 1)) = k + 1 by omega] at a1
      rw [show 2 * (L.length : Int) + E - (2 * L.length + E - k) = k by omega] at a2
      rw [a1, a2, show (2 * (L.length : Int) + E - k).toNat = (2 * (L.length : Int) + E - (k + 1)).toNat + 1 by omega, psum_s, show ((L.length : Int) - 1 - (k - L.length - E)).toNat = (2 * (L.length : Int) + E - (k + 1)).toNat by omega]
      omega
theorem fG_end {L : List Int} {E rest k : Int} (he : evOK rest E) (h : 2 * L.length + E ≤ k) (h0 : 0 ≤ 2 * (L.length : Int) + E) : fG L E rest k = 2 * psum L L.length + rest := by
  obtain ⟨e1, e2, e3⟩ := he
  unfold fG
  by_cases c0 : k ≤ 0
  · rw [if_pos c0]
    have hl : L.length = 0 := by omega
    rw [hl, psum_0]
    omega
  · rw [if_neg c0, if_pos h]
theorem fG_b {L : List Int} {E rest : Int} (hL : rmL L) (he : evOK rest E) : ∀ k : Nat, (k : Int) ≤ 2 * L.length + E → (k : Int) ≤ fG L E rest k ∧ fG L E rest k + (2 * L.length + E - k) ≤ 2 * psum L L.length + rest := by
  have up : ∀ k : Nat, (k : Int) ≤ 2 * L.length + E → (k : Int) ≤ fG L E rest k := by
    intro k
    induction k with
    | zero => intro _; show 0 ≤ fG L E rest 0; rw [fG_0]; exact Int.le_refl _
    | succ k ih =>
      intro hk
      have := ih (by omega)
      have s := fS_b hL he (k := k) (by omega) (by omega)
      rw [show ((k + 1 : Nat) : Int) = (k : Int) + 1 by omega, fG_s he (by omega) (by omega)]
      omega
  have dn : ∀ r k : Nat, (k : Int) + r = 2 * L.length + E → fG L E rest k + r ≤ 2 * psum L L.length + rest := by
    intro r
    induction r with
    | zero => intro k hk; rw [fG_end he (by omega) (by omega)]; omega
    | succ r ih =>
      intro k hk
      have := ih (k + 1) (by omega)
      have s := fS_b hL he (k := k) (by omega) (by omega)
      rw [show ((k + 1 : Nat) : Int) = (k : Int) + 1 by omega, fG_s he (by omega) (by omega)] at this
      omega
  intro k hk
  refine ⟨up k hk, ?_⟩
  have := dn (2 * L.length + E - k).toNat k (by omega)
  omega
/-- the class's move, as a plan has it -/
def mvP (M : zMem) (mb : Nat) (L : List Int) (W : Nat) (rest E : Int) : Prop := mvB M mb ∧ rpC M (mb + 3) (mb + 4) L ∧ zI M mb 4 = nI W ∧ zI M mb 8 = iI rest ∧ zI M mb 9 = iI E ∧ rmL L ∧ W ≤ 60000 ∧ (W : Int) = 2 * psum L L.length + rest ∧ evOK rest E
theorem ticksC {M : zMem} {mb W : Nat} {L : List Int} {rest E : Int} (h : mvP M mb L W rest E) : zX4_ticks shC mb M = some (iI (2 * L.length + E)) := by
  obtain ⟨hm, hr, h4, h8, h9, -⟩ := h
  unfold zX4_ticks
  rw [hm.2.2.1, hr.1, h9, iI_n, show (2 : Int32) = iI 2 from rfl, iI_mul, iI_add]
theorem goneC {M : zMem} {mb W : Nat} {L : List Int} {rest E k : Int} (h : mvP M mb L W rest E) (hlen : zlen shC (mb + 4) = 61) (hk0 : -1000000 ≤ k) (hk1 : k ≤ 1000000) : zX4_goneBehind shC mb (iI k) M = some (iI (fG L E rest k)) := by
  have ht := ticksC h
  obtain ⟨hm, hr, h4, h8, h9, hL, hW, hWe, e1, e2, e3⟩ := h
  have h60 := hL.1
  have hps := psum_b hL L.length
  unfold zX4_goneBehind
  rw [ht, rob, rbd, hm.2.2.1, hr.1, iI_n, iI_sub, h9, h4, h8, hm.2.2.2, hlen, microC hL hm.2.2.2 hlen hr]
  have e0 : (0 : Int32) = iI 0 := rfl
  have q1 : ((0 : Int32) < iI k) = (0 < k) := by rw [e0]; exact iI_lt (by omega) (by omega) (by omega) (by omega)
  have q2 : (iI k < iI (2 * L.length + E)) = (k < 2 * L.length + E) := iI_lt (by omega) (by omega) (by omega) (by omega)
  have q3 : ((0 : Int32) < iI (k - L.length)) = (0 < k - L.length) := by rw [e0]; exact iI_lt (by omega) (by omega) (by omega) (by omega)
  have q4 : (iI E < iI (k - L.length)) = (E < k - L.length) := iI_lt (by omega) (by omega) (by omega) (by omega)
  simp only [q1, q2, q3, q4]
  unfold fG
  by_cases c0 : k ≤ 0
  · rw [if_neg (by omega), if_pos c0]; rfl
  · rw [if_pos (show 0 < k by omega), if_neg c0]
    by_cases c1 : 2 * (L.length : Int) + E ≤ k
    · rw [if_neg (by omega), if_pos c1, iI_n, hWe]
    · rw [if_pos (show k < 2 * (L.length : Int) + E by omega), if_neg c1]
      by_cases c2 : k ≤ L.length
      · rw [if_neg (by omega), if_pos c2, rgd (iI_in (by omega) (by omega) (by omega)), iI_cl (by omega) (by omega), hr.2 _ (by omega)]
      · rw [if_pos (show 0 < k - (L.length : Int) by omega), if_neg c2]
        by_cases c3 : k - (L.length : Int) ≤ E
        · have hp : 0 ≤ rest * (k - L.length) := Int.mul_nonneg (by omega) (by omega)
          have hp2 : rest * (k - L.length) ≤ 60000 * (k - L.length) := Int.mul_le_mul_of_nonneg_right (by omega) (by omega)
          have hq : rest * (k - L.length) / E ≤ rest := Int.ediv_le_of_le_mul (by omega) (Int.mul_le_mul_of_nonneg_left c3 (by omega))
          have hq0 : 0 ≤ rest * (k - L.length) / E := Int.ediv_nonneg hp (by omega)
          rw [if_neg (by omega), if_pos c3, rob, iI_l (by omega) (by omega), iI_l (by omega) (by omega), iI_l (by omega) (by omega), rgd (lI_nz (by omega) (by omega) (by omega)), lI_mul, lI_divp hp (by omega) (by omega) (by omega), lI_32, iI_add]
        · rw [if_pos (show E < k - (L.length : Int) by omega), if_neg c3, iI_sub, rgd (iI_in (by omega) (by omega) (by omega)), iI_cl (by omega) (by omega), hr.2 _ (by omega), iI_n, iI_sub, hWe]
/-- how far an axis is gone behind s of the lead -/
def fPa (s : Int) (d : Int) (W : Nat) : Int := if 0 ≤ d then (2 * s * d.natAbs + W) / (2 * W) else -((2 * s * d.natAbs + W) / (2 * W))
theorem fPa_b {s d : Int} {W : Nat} (hW : 1 ≤ W) (h0 : 0 ≤ s) (h1 : s ≤ W) : 0 ≤ (2 * s * d.natAbs + W) / (2 * W) ∧ (2 * s * d.natAbs + W) / (2 * W) ≤ d.natAbs := by
  have p : 0 ≤ 2 * s * (d.natAbs : Int) := Int.mul_nonneg (by omega) (by omega)
  refine ⟨Int.ediv_nonneg (by omega) (by omega), ?_⟩
  have p2 : 2 * s * (d.natAbs : Int) ≤ 2 * W * d.natAbs := Int.mul_le_mul_of_nonneg_right (by omega) (by omega)
  have h3 : (2 * s * (d.natAbs : Int) + W) / (2 * W) < d.natAbs + 1 := by
    apply Int.ediv_lt_of_lt_mul (by omega)
    rw [Int.add_mul, Int.one_mul, Int.mul_comm (d.natAbs : Int)]
    omega
  omega
theorem big {s d : Int} {W : Nat} (hW2 : W ≤ 60000) (h0 : 0 ≤ s) (h1 : s ≤ 60000) (hd : d.natAbs ≤ 60000) : 0 ≤ 2 * s * (d.natAbs : Int) ∧ 2 * s * (d.natAbs : Int) ≤ 7200000000 := by
  have p : 0 ≤ 2 * s * (d.natAbs : Int) := Int.mul_nonneg (by omega) (by omega)
  have p2 : 2 * s * (d.natAbs : Int) ≤ 2 * s * 60000 := Int.mul_le_mul_of_nonneg_left (by omega) (by omega)
  omega
theorem goneByM {N : zMem} {s d : Int} {W : Nat} (hW : 1 ≤ W) (hW2 : W ≤ 60000) (h0 : 0 ≤ s) (h1 : s ≤ 60000) (hd : d.natAbs ≤ 60000) : zX12_goneBy shM (iI s) (iI d) (nI W) N = some (iI (fPa s d W)) := by
  have hb := big (s := s) (d := d) hW2 h0 h1 hd
  have hz : ((0 : Int32) ≤ iI d) = (0 ≤ d) := by rw [show (0 : Int32) = iI 0 from rfl]; exact iI_le (by omega) (by omega) (by omega) (by omega)
  have hq0 : 0 ≤ (2 * s * (d.natAbs : Int) + W) / (2 * W) := Int.ediv_nonneg (by omega) (by omega)
  unfold zX12_goneBy zjX12_goneBy_34 fPa
  rw [size_eq, rob, iI_abs (by omega) (by omega), iI_n, iI_l (by omega) (by omega), iI_l (by omega) (by omega), iI_l (by omega) (by omega), show (2 : Int64) = lI 2 from rfl, lI_mul, rgd (lI_nz (by omega) (by omega) (by omega)), lI_mul, lI_mul, lI_add, lI_divp (by omega) (by omega) (by omega) (by omega), lI_32, rbd]
  simp only [hz]
  by_cases c : 0 ≤ d
  · rw [if_pos c, if_pos c]
  · rw [if_neg c, if_neg c, iI_neg]
theorem placeC {M : zMem} {mb W a : Nat} {s d : Int} {z : Int32} (hm : mvB M mb) (hl1 : zlen shC (mb + 1) = 3) (hl2 : zlen shC (mb + 2) = 3) (ha : a < 3) (h4 : zI M mb 4 = nI W) (hf : zI M (mb + 1) a = z) (hby : zI M (mb + 2) a = iI d) (hW : 1 ≤ W) (hW2 : W ≤ 60000) (h0 : 0 ≤ s) (h1 : s ≤ 60000) (hd : d.natAbs ≤ 60000) : zX4_placeOf shC mb (nI a) (iI s) M = some (z + iI (fPa s d W)) := by
  have hb := big (s := s) (d := d) hW2 h0 h1 hd
  have hz : ((0 : Int32) ≤ iI d) = (0 ≤ d) := by rw [show (0 : Int32) = iI 0 from rfl]; exact iI_le (by omega) (by omega) (by omega) (by omega)
  unfold zX4_placeOf zjX4_placeOf_74 zX4_wayOf fPa
  rw [h4, if_pos (show (1 : Int32) ≤ nI W from nI_le (a := 1) hW (by omega)), hm.1, hm.2.1, hl1, hl2, rgd (in_a ha (by omega)), rob, nI_clamp (by omega), hby, hf, iI_abs (by omega) (by omega), iI_n, iI_l (by omega) (by omega), iI_l (by omega) (by omega), iI_l (by omega) (by omega), show (2 : Int64) = lI 2 from rfl, lI_mul, rgd (lI_nz (by omega) (by omega) (by omega)), lI_mul, lI_mul, lI_add, lI_divp (by omega) (by omega) (by omega) (by omega), lI_32, rbd, rgd (in_a ha (by omega))]
  simp only [hz, rgd (in_a ha (show 3 < 2147483648 by omega))]
  by_cases c : 0 ≤ d
  · rw [if_pos c, if_pos c]
  · rw [if_neg c, if_neg c, ← iI_neg, Int32.sub_eq_add_neg]
theorem partM {N : zMem} {rest m E : Int} (h1 : 0 ≤ rest) (h2 : rest ≤ 60000) (h3 : 0 ≤ m) (h4 : m ≤ 60001) (h5 : 0 < E) (h6 : E ≤ 60000) : zX12_part shM (iI rest) (iI m) (iI E) N = some (iI (rest * m / E)) := by
  have hp : 0 ≤ rest * m := Int.mul_nonneg (by omega) (by omega)
  have hp2 : rest * m ≤ 60000 * m := Int.mul_le_mul_of_nonneg_right (by omega) (by omega)
  unfold zX12_part
  rw [iI_l (by omega) (by omega), iI_l (by omega) (by omega), iI_l (by omega) (by omega), rgd (lI_nz (by omega) (by omega) (by omega)), lI_mul, lI_divp hp (by omega) (by omega) (by omega), lI_32]
theorem speedOfM {N : zMem} {L : List Int} {rest E k : Int} (hL : rmL L) (hR : zR N 0 35 = 14) (hr : rpM N L) (h43 : zI N 0 43 = iI rest) (h44 : zI N 0 44 = iI E) (he : evOK rest E) (hr2 : rest ≤ 60000) (h0 : 0 ≤ k) (h1 : k < 2 * L.length + E) : zX12_speedOf shM 0 (iI k) N = some (iI (fS L E rest k)) := by
  obtain ⟨e1, e2, e3⟩ := he
  have h60 := hL.1
  have hlen : zlen shM 14 = 64 := rfl
  unfold zX12_speedOf zjX12_speedOf_78 fS
  rw [hr.1, h43, h44, hR, iI_n, iI_sub]
  have q1 : (iI L.length ≤ iI k) = ((L.length : Int) ≤ k) := iI_le (by omega) (by omega) (by omega) (by omega)
  have q2 : (iI E ≤ iI (k - L.length)) = (E ≤ k - L.length) := iI_le (by omega) (by omega) (by omega) (by omega)
  simp only [q1, q2]
  by_cases c1 : k < L.length
  · rw [if_neg (by omega), if_pos c1, hlen, rgd (iI_in (by omega) (by omega) (by omega)), iI_cl (by omega) (by omega), hr.2 _ (by omega)]
  · rw [if_pos (show (L.length : Int) ≤ k by omega), if_neg c1]
    by_cases c2 : k - L.length < E
    · rw [if_neg (by omega), if_pos c2, show (1 : Int32) = iI 1 from rfl, iI_add, partM (by omega) (by omega) (by omega) (by omega) (by omega) (by omega), rob, partM (by omega) (by omega) (by omega) (by omega) (by omega) (by omega), rob, iI_sub]
    · rw [if_pos (show E ≤ k - (L.length : Int) by omega), if_neg c2, show (1 : Int32) = iI 1 from rfl, iI_sub, iI_sub, iI_sub, hlen, rgd (iI_in (by omega) (by omega) (by omega)), iI_cl (by omega) (by omega), hr.2 _ (by omega)]
