/-! Phase B: axes go -/
theorem place_ex {M : zMem} {mb W a : Nat} (hm : mvB M mb) (hl1 : zlen shC (mb + 1) = 3) (hl2 : zlen shC (mb + 2) = 3) (ha : a < 3) (h4 : zI M mb 4 = nI W) (hW : 1 ≤ W) (hW2 : W ≤ 60000) (s : Int32) : ∃ v, zX4_placeOf shC mb (nI a) s M = some v := by
  unfold zX4_placeOf zjX4_placeOf_74 zX4_wayOf
  rw [h4, if_pos (show (1 : Int32) ≤ nI W from nI_le (a := 1) hW (by omega)), hm.1, hm.2.1, hl1, hl2, rgd (in_a ha (by omega)), rob, iI_n W, iI_l (by omega) (by omega), show (2 : Int64) = lI 2 from rfl, lI_mul, rgd (lI_nz (by omega) (by omega) (by omega)), rbd, rgd (in_a ha (by omega))]
  simp only [rgd (in_a ha (show 3 < 2147483648 by omega))]
  split
  · exact ⟨_, rfl⟩
  · exact ⟨_, rfl⟩
theorem zl_ad {b : Nat} (F : Nat) (x : Int32) (M : zMem) : zlX8_advance_79 shC b (F + 1) x M = zbX8_advance_79 shC b (zlX8_advance_79 shC b F) x M := rfl
/-- the class's axes go to where the lead is -/
theorem adv_loop {M : zMem} {bb sb it nA b W : Nat} {s : Int} {zf : Nat → Int32} {d : Nat → Int} (hC : rfC M bb sb it) (hb : stB b) (hn3 : nA ≤ 3) (h4 : zI M (b + 2) 4 = nI W) (hW : 1 ≤ W) (hW2 : W ≤ 60000) (hs0 : 0 ≤ s) (hs1 : s ≤ 60000) (h11 : zI M b 11 = iI s) (hfb : ∀ a, a < nA → zI M (b + 3) a = zf a ∧ zI M (b + 4) a = iI (d a) ∧ (d a).natAbs ≤ 60000) : ∃ M1, zlX8_advance_79 shC b zF 0 M = (if 0 < zI M b 10 then some M1 else some (zpI (zpI M1 b 8 0) b 9 0)) ∧ M1.2.2 = M.2.2 ∧ (∀ k j, ¬ (b + 9 ≤ k ∧ j = 0) → zI M1 k j = zI M k j) ∧ (∀ k j, ¬ (b ≤ k ∧ k < b + 12) → zI M1 k j = zI M k j) ∧ (∀ a, a < nA → zI M1 (b + 9 + a) 0 = zf a + iI (fPa s (d a) W)) := by
  have hbr : 28 ≤ b ∧ b ≤ 162 := by unfold stB at hb; omega
  have step : ∀ (a : Nat) (Mx : zMem), a < 3 → Mx.2.2 = M.2.2 → (∀ k j, ¬ (b + 9 ≤ k ∧ k < b + 9 + a ∧ j = 0) → zI Mx k j = zI M k j) → (∀ c, c < a → c < nA → zI Mx (b + 9 + c) 0 = zf c + iI (fPa s (d c) W)) → ∀ F, ∃ My, zlX8_advance_79 shC b (F + 1) (nI a) Mx = zlX8_advance_79 shC b F (nI (a + 1)) My ∧ My.2.2 = M.2.2 ∧ (∀ k j, ¬ (b + 9 ≤ k ∧ k < b + 9 + (a + 1) ∧ j = 0) → zI My k j = zI M k j) ∧ (∀ c, c < a + 1 → c < nA → zI My (b + 9 + c) 0 = zf c + iI (fPa s (d c) W)) := by
    intro a Mx ha e1 e2 e3 F
    have hC1 := hC.sm e1
    have z0 : zR Mx b 0 = b + 1 := by simp only [hC1.s hb]
    have z1 : zR Mx b 1 = b + 2 := by simp only [hC1.s hb]
    have hm : mvB Mx (b + 2) := by
      have := hC1.s hb
      exact ⟨by simp only [this], by simp only [this], by simp only [this], by simp only [this]⟩
    have hro := hC1.ro hb ha
    have w4 : zI Mx (b + 2) 4 = nI W := by rw [e2 _ _ (by omega)]; exact h4
    have w11 : zI Mx b 11 = iI s := by rw [e2 _ _ (by omega)]; exact h11
    obtain ⟨v, hv⟩ := place_ex (M := Mx) (mb := b + 2) (a := a) hm (lnS hb).2.1 (lnS hb).2.2.1 ha w4 hW hW2 (iI s)
    have hv2 : a < nA → v = zf a + iI (fPa s (d a) W) := fun hx => by
      obtain ⟨g1, g2, g3⟩ := hfb a hx
      have := placeC (M := Mx) (mb := b + 2) (a := a) (s := s) (d := d a) (z := zf a) hm (lnS hb).2.1 (lnS hb).2.2.1 ha w4 (by rw [e2 _ _ (by omega)]; exact g1) (by rw [e2 _ _ (by omega)]; exact g2) hW hW2 hs0 hs1 g3
      rw [hv] at this
      exact Option.some.inj this
    refine ⟨zpI Mx (b + 9 + a) 0 v, ?_, e1, fun k j h => ?_, fun c hc hx => ?_⟩
    · rw [zl_ad]
      unfold zbX8_advance_79
      rw [if_neg (show ¬ (3 : Int32) ≤ nI a from nI_ge (b := 3) (by omega) (by omega)), z0, show zlen shC (b + 1) = 3 from (lnS hb).1, rgd (in_a ha (by omega)), z1, w11, hv, rob, nI_clamp (by omega), hro, rbd, nI_1]
    · clear z0 z1 hro
      rw [rI_pI, if_neg (by omega)]; exact e2 k j (by omega)
    · clear z0 z1 hro
      rw [rI_pI]
      by_cases g : c = a
      · rw [if_pos ⟨by omega, rfl⟩, g]; exact hv2 (by omega)
      · rw [if_neg (by omega)]; exact e3 c (by omega) hx
  obtain ⟨Ma, a1, a2, a3, a4⟩ := step 0 M (by omega) rfl (fun _ _ _ => rfl) (fun c hc => by omega) (999996 + 1 + 1 + 1)
  obtain ⟨Mb, b1, b2, b3, b4⟩ := step 1 Ma (by omega) a2 a3 a4 (999996 + 1 + 1)
  obtain ⟨Mc, c1, c2, c3, c4⟩ := step 2 Mb (by omega) b2 b3 b4 (999996 + 1)
  refine ⟨Mc, ?_, c2, fun k j h => c3 k j (by omega), fun k j h => c3 k j (by omega), fun a ha => c4 a (by omega) ha⟩
  rw [show zlX8_advance_79 shC b zF 0 M = zlX8_advance_79 shC b (999996 + 1 + 1 + 1 + 1) (nI 0) M from rfl, a1, b1, c1, zl_ad]
  unfold zbX8_advance_79 zjX8_advance_128
  rw [if_pos (show (3 : Int32) ≤ nI (2 + 1) by decide), c3 b 10 (by omega)]
  simp only [rbd]
/-- the reference's axes go -/
theorem mov_loop {N : zMem} {nA W : Nat} {s : Int} {zf : Nat → Int32} {d : Nat → Int} (hN : rfN N) (hn3 : nA ≤ 3) (h22 : zI N 0 22 = nI nA) (h3 : zI N 1 3 = nI W) (hW : 1 ≤ W) (hW2 : W ≤ 60000) (hs0 : 0 ≤ s) (hs1 : s ≤ 60000) (h16 : zI N 1 16 = iI s) (hfb : ∀ a, a < nA → zI N 1 (4 + a) = zf a ∧ zI N 1 (7 + a) = iI (d a) ∧ (d a).natAbs ≤ 60000) : ∀ (r a F : Nat) (Nx : zMem), a + r = nA → r < F → Nx.2.2 = N.2.2 → (∀ k j, ¬ (k = 1 ∧ 48 ≤ j ∧ j < 66) → zI Nx k j = zI N k j) → (∀ c j, j < 6 → ¬ (c < a ∧ j = 0) → zI Nx 1 (48 + 6 * c + j) = zI N 1 (48 + 6 * c + j)) → (∀ c, c < a → zI Nx 1 (48 + 6 * c) = zf c + iI (fPa s (d c) W)) → ∃ N1, zlX12_moves_47 shM 0 F (nI a) Nx = some (if zI N 1 15 = (if zI N 1 17 = 1 then zI N 1 19 + zI N 1 18 else 2 * zI N 1 12 + zI N 1 14) then zpI N1 1 1 0 else N1) ∧ N1.2.2 = N.2.2 ∧ (∀ k j, ¬ (k = 1 ∧ 48 ≤ j ∧ j < 66) → zI N1 k j = zI N k j) ∧ (∀ c j, j < 6 → ¬ (c < nA ∧ j = 0) → zI N1 1 (48 + 6 * c + j) = zI N 1 (48 + 6 * c + j)) ∧ (∀ c, c < nA → zI N1 1 (48 + 6 * c) = zf c + iI (fPa s (d c) W)) := by
  intro r
  induction r with
  | zero =>
    intro a F Nx h1 hF hR hk hc hp
    obtain ⟨F, rfl⟩ : ∃ x, F = x + 1 := ⟨F - 1, by omega⟩
    obtain rfl : a = nA := by omega
    have hN1 := hN.sm hR
    have e0 : zR Nx 0 0 = 1 := hN1.o.1
    refine ⟨Nx, ?_, hR, hk, hc, hp⟩
    simp only [zlX12_moves_47]
    unfold zbX12_moves_47 zjX12_moves_122
    rw [hk 0 22 (by omega), h22, if_pos (nI_le (by omega) (by omega)), e0, show zlen shM 1 = 194 from rfl, rgd (by decide), allTicks_eq e0, rob, rgd (by decide), show (15 : Int32).toNatClampNeg = 15 from rfl, show (1 : Int32).toNatClampNeg = 1 from rfl, hk 1 15 (by omega), hk 1 17 (by omega), hk 1 19 (by omega), hk 1 18 (by omega), hk 1 12 (by omega), hk 1 14 (by omega)]
    simp only [rbd]
    generalize (if zI N 1 17 = 1 then zI N 1 19 + zI N 1 18 else 2 * zI N 1 12 + zI N 1 14) = t
    by_cases h : zI N 1 15 = t
    · rw [if_pos h, if_pos h]
    · rw [if_neg h, if_neg h]
  | succ r ih =>
    intro a F Nx h1 hF hR hk hc hp
    obtain ⟨F, rfl⟩ : ∃ x, F = x + 1 := ⟨F - 1, by omega⟩
    have hN1 := hN.sm hR
    have e0 : zR Nx 0 0 = 1 := hN1.o.1
    have ha : a < nA := by omega
    obtain ⟨g1, g2, g3⟩ := hfb a ha
    have e4 : (4 : Int32) + nI a = nI (4 + a) := by rw [show (4 : Int32) = nI 4 from rfl, nI_add]
    have e7 : (7 : Int32) + nI a = nI (7 + a) := by rw [show (7 : Int32) = nI 7 from rfl, nI_add]
    simp only [zlX12_moves_47]
    unfold zbX12_moves_47
    rw [hk 0 22 (by omega), h22, if_neg (nI_ge (by omega) (by omega)), e0, show zlen shM 1 = 194 from rfl, e4, rgd (in_a (by omega) (by omega)), rgd (by decide), e7, rgd (in_a (by omega) (by omega)), rgd (by decide), nI_clamp (by omega), nI_clamp (by omega), show (16 : Int32).toNatClampNeg = 16 from rfl, show (3 : Int32).toNatClampNeg = 3 from rfl, hk 1 16 (by omega), hk 1 (7 + a) (by omega), hk 1 3 (by omega), hk 1 (4 + a) (by omega), h16, g2, h3, g1, goneByM hW hW2 hs0 hs1 g3, rob, sets_0 e0 (by omega), rob, nI_1]
    clear e0 e4 e7
    refine ih (a + 1) F _ (by omega) (by omega) hR (fun k j h => ?_) (fun c j hj h => ?_) (fun c hc2 => ?_)
    · rw [rI_pI, if_neg (by omega)]; exact hk k j h
    · rw [rI_pI, if_neg (by omega)]; exact hc c j hj (by omega)
    · rw [rI_pI]
      by_cases g : c = a
      · rw [if_pos ⟨rfl, by omega⟩, g]
      · rw [if_neg (by omega)]; exact hp c (by omega)
/-- the reference's speed now, no halt -/
theorem speedNow0 {N : zMem} {L : List Int} {rest E D : Int} (hL : rmL L) (e0 : zR N 0 0 = 1) (h17 : zI N 1 17 = 0) (h12 : zI N 1 12 = iI L.length) (hr : ∀ k, k < L.length → zI N 1 (66 + k) = iI (L.getD k 0)) (h13 : zI N 1 13 = iI rest) (h14 : zI N 1 14 = iI E) (h15 : zI N 1 15 = iI D) (he : evOK rest E) (hr2 : rest ≤ 60000) (h0 : 0 ≤ D) (h1 : D < 2 * L.length + E) : zX12_speedNow shM 0 N = some (iI (fS L E rest D)) := by
  obtain ⟨e1, e2, e3⟩ := he
  have h60 := hL.1
  have hlen : zlen shM 1 = 194 := rfl
  unfold zX12_speedNow zjX12_speedNow_159 fS
  rw [e0, hlen]
  simp only [rgd (show zin (12 : Int32) 194 = true by decide), rgd (show zin (13 : Int32) 194 = true by decide), rgd (show zin (14 : Int32) 194 = true by decide), rgd (show zin (15 : Int32) 194 = true by decide), rgd (show zin (17 : Int32) 194 = true by decide), rbd]
  rw [show (15 : Int32).toNatClampNeg = 15 from rfl, show (17 : Int32).toNatClampNeg = 17 from rfl, show (12 : Int32).toNatClampNeg = 12 from rfl, show (13 : Int32).toNatClampNeg = 13 from rfl, show (14 : Int32).toNatClampNeg = 14 from rfl, h15, h17, h12, h13, h14, if_neg (show ¬ (0 : Int32) = 1 by decide), iI_sub]
  have q1 : (iI L.length ≤ iI D) = ((L.length : Int) ≤ D) := iI_le (by omega) (by omega) (by omega) (by omega)
  have q2 : (iI E ≤ iI (D - L.length)) = (E ≤ D - L.length) := iI_le (by omega) (by omega) (by omega) (by omega)
  simp only [q1, q2]
  by_cases c1 : D < L.length
  · rw [if_neg (by omega), if_pos c1, show (66 : Int32) = iI 66 from rfl, iI_add, rgd (iI_in (by omega) (by omega) (by omega)), iI_cl (by omega) (by omega), show (66 + D).toNat = 66 + D.toNat by omega, hr _ (by omega)]
  · rw [if_pos (show (L.length : Int) ≤ D by omega), if_neg c1]
    by_cases c2 : D - L.length < E
    · rw [if_neg (by omega), if_pos c2, show (1 : Int32) = iI 1 from rfl, iI_add, partM (by omega) (by omega) (by omega) (by omega) (by omega) (by omega), rob, partM (by omega) (by omega) (by omega) (by omega) (by omega) (by omega), rob, iI_sub]
    · rw [if_pos (show E ≤ D - (L.length : Int) by omega), if_neg c2, show (1 : Int32) = iI 1 from rfl, show (66 : Int32) = iI 66 from rfl, iI_add, iI_sub, iI_sub, iI_sub, rgd (iI_in (by omega) (by omega) (by omega)), iI_cl (by omega) (by omega), show (66 + (L.length : Int) - 1 - (D - L.length - E)).toNat = 66 + (L.length - 1 - (D - L.length - E)).toNat by omega, hr _ (by omega)]
/-- the reference's speed now, halted -/
theorem speedNow1 {N : zMem} {L : List Int} {H D : Int} (hL : rmL L) (e0 : zR N 0 0 = 1) (h17 : zI N 1 17 = 1) (h18 : zI N 1 18 = iI L.length) (hr : ∀ k, k < L.length → zI N 1 (130 + k) = iI (L.getD k 0)) (h15 : zI N 1 15 = iI D) (h19 : zI N 1 19 = iI H) (h0 : H ≤ D) (h1 : D < H + L.length) : zX12_speedNow shM 0 N = some (iI (L.getD (H + L.length - D - 1).toNat 0)) := by
  have h60 := hL.1
  have hlen : zlen shM 1 = 194 := rfl
  unfold zX12_speedNow
  rw [e0, hlen]
  simp only [rgd (show zin (15 : Int32) 194 = true by decide), rgd (show zin (17 : Int32) 194 = true by decide), rgd (show zin (18 : Int32) 194 = true by decide), rgd (show zin (19 : Int32) 194 = true by decide), rbd]
  rw [show (15 : Int32).toNatClampNeg = 15 from rfl, show (17 : Int32).toNatClampNeg = 17 from rfl, show (18 : Int32).toNatClampNeg = 18 from rfl, show (19 : Int32).toNatClampNeg = 19 from rfl, h15, h17, h18, h19, if_pos rfl, show (1 : Int32) = iI 1 from rfl, show (130 : Int32) = iI 130 from rfl, iI_add, iI_sub, iI_sub, iI_sub, rgd (iI_in (by omega) (by omega) (by omega)), iI_cl (by omega) (by omega), show (130 + (L.length : Int) - 1 - (D - H)).toNat = 130 + (H + L.length - D - 1).toNat by omega, hr _ (by omega)]
