/-! Phase B: bands, rotors -/
def fBn (N : zMem) (ax sp : Int32) : Nat → Int32
  | 0 => 0
  | b + 1 => fBn N ax sp b + bI (zI N 6 (3 * b) = ax ∧ zI N 6 (3 * b + 1) ≤ sp ∧ sp ≤ zI N 6 (3 * b + 2))
theorem fBn_0 {N : zMem} {ax sp : Int32} {nB : Nat} (h : ∀ b, b < nB → 1 ≤ (zI N 6 (3 * b + 1)).toInt) (hs : sp.toInt ≤ 0) : ∀ b, b ≤ nB → fBn N ax sp b = 0 := by
  intro b
  induction b with
  | zero => intro _; rfl
  | succ b ih =>
    intro hb
    unfold fBn
    rw [ih (by omega), bI_f (fun g => by have := r_le.mp g.2.1; have := h b (by omega); omega)]
    rfl
theorem fBn_b {N : zMem} {ax sp : Int32} : ∀ b : Nat, b ≤ 6 → btw (fBn N ax sp b) 0 b := by
  intro b
  induction b with
  | zero => intro _; exact (show btw (0 : Int32) 0 0 from ⟨by decide, by decide⟩)
  | succ b ih =>
    intro hb
    unfold fBn
    have h1 := ih (by omega)
    have h2 : btw (bI (zI N 6 (3 * b) = ax ∧ zI N 6 (3 * b + 1) ≤ sp ∧ sp ≤ zI N 6 (3 * b + 2))) 0 1 := by
      unfold bI
      split
      · exact ⟨by decide, by decide⟩
      · exact ⟨by decide, by decide⟩
    exact (add_b h1 h2 (by omega) (by omega)).w (by omega) (by omega)
theorem bandsC {M N : zMem} {bb sb it nA nB : Nat} (hb : bb = 1 ∨ bb = 13) (hC : rfC M bb sb it) (h6 : IvB M N bb nA nB) (ax sp : Int32) : zX1_bandsOver shC bb ax sp M = some (fBn N ax sp nB) := by
  have hB := h6.2.2.2.2.2.2.2.2.2.2.2.2.1
  have h2 : nB ≤ 6 := h6.2.1
  have h7 : zI M bb 7 = nI nB := h6.2.2.2.2.1
  have loop : ∀ (r b F : Nat), b + r = nB → r < F → zlX1_bandsOver_5 shC bb ax sp M F (fBn N ax sp b) (nI b) = some (fBn N ax sp nB) := by
    intro r
    induction r with
    | zero =>
      intro b F h1 hF
      obtain ⟨F, rfl⟩ : ∃ x, F = x + 1 := ⟨F - 1, by omega⟩
      obtain rfl : b = nB := by omega
      simp only [zlX1_bandsOver_5]
      unfold zbX1_bandsOver_5
      rw [h7, if_pos (nI_le (by omega) (by omega))]
    | succ r ih =>
      intro b F h1 hF
      obtain ⟨F, rfl⟩ : ∃ x, F = x + 1 := ⟨F - 1, by omega⟩
      have hq := hB b (by omega)
      have := ih (b + 1) F (by omega) (by omega)
      simp only [zlX1_bandsOver_5]
      unfold zbX1_bandsOver_5 zjX1_bandsOver_49
      rw [h7, if_neg (nI_ge (by omega) (by omega))]
      simp only [hC.b hb, lnB hb, rgd (in_a (show b < 6 by omega) (show 6 < 2147483648 by omega)), nI_clamp (show b < 2 ^ 31 by omega), hq, within_eq, rob, bI_0, nI_1]
      rw [show fBn N ax sp (b + 1) = fBn N ax sp b + bI (zI N 6 (3 * b) = ax ∧ zI N 6 (3 * b + 1) ≤ sp ∧ sp ≤ zI N 6 (3 * b + 2)) from rfl] at this
      by_cases c1 : zI N 6 (3 * b) = ax
      · rw [if_pos c1]
        by_cases c2 : zI N 6 (3 * b + 1) ≤ sp ∧ sp ≤ zI N 6 (3 * b + 2)
        · rw [if_neg (nn c2)]
          rw [bI_t ⟨c1, c2⟩] at this
          exact this
        · rw [if_pos c2]
          rw [bI_f (fun g => c2 g.2), Int32.add_zero] at this
          exact this
      · rw [if_neg c1]
        rw [bI_f (fun g => c1 g.1), Int32.add_zero] at this
        exact this
  exact loop nB 0 zF (by omega) (by unfold zF; omega)
theorem bandsM {M N : zMem} {bb nA nB : Nat} (hN : rfN N) (h6 : IvB M N bb nA nB) (ax sp : Int32) : zX12_bandsAt shM 0 ax sp N = some (fBn N ax sp nB) := by
  have h2 : nB ≤ 6 := h6.2.1
  have h7 : zI N 0 24 = nI nB := h6.2.2.2.2.2.1
  have loop : ∀ (r b F : Nat), b + r = nB → r < F → zlX12_bandsAt_5 shM 0 ax sp N F (fBn N ax sp b) (nI b) = some (fBn N ax sp nB) := by
    intro r
    induction r with
    | zero =>
      intro b F h1 hF
      obtain ⟨F, rfl⟩ : ∃ x, F = x + 1 := ⟨F - 1, by omega⟩
      obtain rfl : b = nB := by omega
      simp only [zlX12_bandsAt_5]
      unfold zbX12_bandsAt_5
      rw [h7, if_pos (nI_le (by omega) (by omega))]
    | succ r ih =>
      intro b F h1 hF
      obtain ⟨F, rfl⟩ : ∃ x, F = x + 1 := ⟨F - 1, by omega⟩
      have := ih (b + 1) F (by omega) (by omega)
      have e0 : (3 : Int32) * nI b = nI (3 * b) := by rw [show (3 : Int32) = nI 3 from rfl, pk_mul]
      have e1 : nI (3 * b) + 1 = nI (3 * b + 1) := nI_1 _
      have e2 : nI (3 * b) + 2 = nI (3 * b + 2) := by rw [show (2 : Int32) = nI 2 from rfl, nI_add]
      simp only [zlX12_bandsAt_5]
      unfold zbX12_bandsAt_5 zjX12_bandsAt_64 zjX12_bandsAt_65
      rw [h7, if_neg (nI_ge (by omega) (by omega))]
      simp only [hN.o, lnM, e0, e1, e2]
      simp only [rgd (in_a (show 3 * b < 18 by omega) (show 18 < 2147483648 by omega)), rgd (in_a (show 3 * b + 1 < 18 by omega) (show 18 < 2147483648 by omega)), rgd (in_a (show 3 * b + 2 < 18 by omega) (show 18 < 2147483648 by omega)), nI_clamp (show 3 * b < 2 ^ 31 by omega), nI_clamp (show 3 * b + 1 < 2 ^ 31 by omega), nI_clamp (show 3 * b + 2 < 2 ^ 31 by omega), isIn_i, rob, bI_0, nI_1, truth_eq, show bI ((0 : Int32) ≠ 0) = 0 from rfl, show bI ((1 : Int32) ≠ 0) = 1 from rfl]
      rw [show fBn N ax sp (b + 1) = fBn N ax sp b + bI (zI N 6 (3 * b) = ax ∧ zI N 6 (3 * b + 1) ≤ sp ∧ sp ≤ zI N 6 (3 * b + 2)) from rfl] at this
      by_cases c1 : zI N 6 (3 * b) = ax
      · rw [if_pos c1]
        by_cases c2 : zI N 6 (3 * b + 1) ≤ sp ∧ sp ≤ zI N 6 (3 * b + 2)
        · rw [if_neg (nn c2)]
          rw [bI_t ⟨c1, c2⟩] at this
          exact this
        · rw [if_pos c2]
          rw [bI_f (fun g => c2 g.2)] at this
          exact this
      · rw [if_neg c1]
        rw [bI_f (fun g => c1 g.1)] at this
        exact this
  exact loop nB 0 zF (by omega) (by unfold zF; omega)
theorem B_bands_ok : B_bands Inv := by
  intro n M N v1 v2 hn hI
  have hU := Inv_up n M N hI
  obtain ⟨bb, sb, it, nA, nB, h1, h2, h3, h4, h5, h6, h7, h8, h9⟩ := hI
  have hb : bb = 1 ∨ bb = 13 := by omega
  have h11 : zR M 0 11 = bb := by simp only [h2.o]
  unfold zX11_bands zX12_bands zjX11_bands_18 zjX12_bands_29 zjX12_bands_30
  rw [axisC h11 h6.2.2.1 h6.1, axisM h6.2.2.2.1 h6.1, rob, rob, within_eq, rob, isIn_l v2 1 60 _ _ rfl rfl, rob, h11, bandsC hb h2 h6, bandsM h3 h6]
  simp only [rob, bI_0]
  by_cases c1 : 0 ≤ v1.toInt ∧ v1.toInt < nA
  · rw [if_neg (nn c1)]
    by_cases c2 : (1 : Int32) ≤ v2 ∧ v2 ≤ 60
    · exact ⟨_, M, N, if_neg (nn c2), if_neg (nn c2), hU⟩
    · exact ⟨_, M, N, if_pos c2, if_pos c2, hU⟩
  · exact ⟨_, M, N, if_pos c1, if_pos c1, hU⟩
/-- (PULL less LOAD) / MASS -/
def fPush (N : zMem) (a : Nat) (ang load : Int32) : Int32 := (zI N 4 (6 * a + 3) * fW (zI N 12) (ang / 16).toInt / 1000 - load) / zI N 4 (6 * a + 4)
def fTurn (N : zMem) (a : Nat) (ang swing load : Int32) : Int32 := zmax (-2000) (zmin 2000 (swing + fPush N a ang load - (swing + fPush N a ang load) * zI N 4 (6 * a + 5) / 100))
theorem fTurn_b {N : zMem} {a : Nat} {ang swing load : Int32} : btw (fTurn N a ang swing load) (-2000) 2000 := by
  unfold fTurn
  generalize swing + fPush N a ang load - (swing + fPush N a ang load) * zI N 4 (6 * a + 5) / 100 = v
  obtain ⟨x, rfl, h1, h2⟩ := iI_ex v
  rw [show (-2000 : Int32) = iI (-2000) from rfl, show (2000 : Int32) = iI 2000 from rfl, iI_min (by omega) (by omega) h1 h2, iI_max (by omega) (by omega) (by omega) (by omega)]
  unfold btw
  rw [iI_i (by omega) (by omega)]
  omega
theorem pull_eq {h w : Int32} (hh : btw h 1 9999) (hw : btw w (-1000) 1000) : ((h.toInt64 * w.toInt64) / (1000 : Int64)).toInt32 = h * w / 1000 := by
  obtain ⟨a, rfl, a1, a2⟩ := iI_ex h
  obtain ⟨b, rfl, b1, b2⟩ := iI_ex w
  unfold btw at hh hw
  rw [iI_i a1 a2] at hh
  rw [iI_i b1 b2] at hw
  have p1 : a * b ≤ a * 1000 := Int.mul_le_mul_of_nonneg_left (by omega) (by omega)
  have p2 : a * (-1000) ≤ a * b := Int.mul_le_mul_of_nonneg_left (by omega) (by omega)
  rw [iI_l a1 a2, iI_l b1 b2, lI_mul, show (1000 : Int64) = lI 1000 from rfl, lI_div (by omega) (by omega) (by omega) (by omega), lI_32, iI_mul, show (1000 : Int32) = iI 1000 from rfl, iI_div (by omega) (by omega) (by omega) (by omega) (by omega)]
theorem ix6 {a j : Nat} {c : Int32} (ha : a < 3) (hj : j < 6) (hc : c = nI j) : (6 : Int32) * nI a + c = nI (6 * a + j) ∧ zin (nI (6 * a + j)) 18 = true ∧ (nI (6 * a + j)).toNatClampNeg = 6 * a + j := ⟨by rw [hc, show (6 : Int32) = nI 6 from rfl, pk_mul, nI_add], in_a (by omega) (by omega), nI_clamp (by omega)⟩
theorem plain_b {M N : zMem} (h7 : IvP M N) : ∀ q, q ≤ 64 → btw (zI N 12 q) (-1000) 1000 := fun q hq => (h7 q hq).2.2.w (by omega) (by omega)
theorem pushedM {M N : zMem} {bb nA nB a : Nat} (hN : rfN N) (h6 : IvB M N bb nA nB) (h7 : IvP M N) (ha : a < nA) (ang load : Int32) : zX12_pushed shM 0 (nI a) ang load N = some (fPush N a ang load) := by
  have ha3 : a < 3 := by have := h6.1; omega
  have hax := h6.2.2.2.2.2.2.2.2.2.2.2.1 a ha
  have h33 : zR N 0 33 = 12 := by simp only [hN.o]
  have h18 : zR N 0 18 = 8 := by simp only [hN.o]
  have i3 := ix6 (c := 3) ha3 (show 3 < 6 by omega) rfl
  have i4 := ix6 (c := 4) ha3 (show 4 < 6 by omega) rfl
  have hm := hax.2.2.2.2.2.1
  unfold zX12_pushed
  rw [sine_eq h33 h18, rob, i3.1, i4.1]
  simp only [hN.o, lnM, i3.2, i4.2, gd_t]
  rw [rgd (rnz (by intro g; unfold btw at hm; rw [g] at hm; exact absurd hm.1 (by decide)))]
  congr 1
  unfold fPush
  rw [Int64.toInt32_sub]
  have er : (fun q => zI N 12 q + (if (0 : Int32) = 0 then (0 : Int32) else zI N 8 q)) = zI N 12 := by funext q; simp
  simp only [if_true, Int32.add_zero]
  rw [pull_eq hax.2.2.2.2.1 (fW_b (plain_b h7) (by omega) _)]
  congr 2
  exact Int32.toInt32_toInt64 load
theorem swungM {M N : zMem} {bb nA nB a : Nat} (hN : rfN N) (h6 : IvB M N bb nA nB) (h7 : IvP M N) (ha : a < nA) (ang swing load : Int32) : zX12_swung shM 0 (nI a) ang swing load N = some (fTurn N a ang swing load) := by
  have ha3 : a < 3 := by have := h6.1; omega
  have i5 := ix6 (c := 5) ha3 (show 5 < 6 by omega) rfl
  unfold zX12_swung
  rw [pushedM hN h6 h7 ha, rob, i5.1]
  simp only [hN.o, lnM, i5.2, gd_t, rbd, lesser_eq, greater_eq, rob]
  rfl
theorem pushC {M N : zMem} {bb sb it nA nB a k : Nat} (hb : bb = 1 ∨ bb = 13) (hC : rfC M bb sb it) (h6 : IvB M N bb nA nB) (h7 : IvP M N) (ha : a < nA) : zX7_push shC k (bb + 9 + a) (bb + 5) M = some (fPush N a (16 * zI M k 0 - zI M k 1) (zI M k 3)) := by
  have hax := h6.2.2.2.2.2.2.2.2.2.2.2.1 a ha
  have hm := hax.2.2.2.2.2.1
  have e4 := hax.1 3 (by omega)
  have e5 := hax.1 4 (by omega)
  have hp : ∀ q, q ≤ 64 → zI M (bb + 6) q = zI N 12 q := fun q hq => by
    rcases hb with rfl | rfl
    · exact (h7 q hq).1
    · exact (h7 q hq).2.1
  unfold zX7_push zX7_angle zjX7_push_47
  rw [rob]
  simp only [hC.b hb]
  rw [wave_eq _ (by rw [(lnB hb).2.2.2.2.1]; exact Nat.le_refl _), rob, rbd, e4, e5, fW_ext hp, if_pos (show (1 : Int32) ≤ zI N 4 (6 * a + 4) from r_le.mpr hm.1), rgd (rnz (by intro g; unfold btw at hm; rw [g] at hm; exact absurd hm.1 (by decide)))]
  rfl
theorem turnC {M N : zMem} {bb sb it nA nB a k : Nat} (hb : bb = 1 ∨ bb = 13) (hC : rfC M bb sb it) (h6 : IvB M N bb nA nB) (h7 : IvP M N) (ha : a < nA) (hk : 25 ≤ k) : zX7_turn shC k (bb + 9 + a) (bb + 5) M = some (zpI (zpI M k 2 (fTurn N a (16 * zI M k 0 - zI M k 1) (zI M k 2) (zI M k 3))) k 1 (zI M k 1 + fTurn N a (16 * zI M k 0 - zI M k 1) (zI M k 2) (zI M k 3))) := by
  have hax := h6.2.2.2.2.2.2.2.2.2.2.2.1 a ha
  have e6 := hax.1 5 (by omega)
  unfold zX7_turn
  rw [pushC hb hC h6 h7 ha, rob, rbd, rbd, rbd, e6]
  simp only [rI_pI]
  rfl
