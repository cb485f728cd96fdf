/-! Phase B: a move that waits begins -/
theorem shiftW {N : zMem} {w : Nat} (hN : rfN N) (hw : w ≤ 7) (h23 : zI N 1 23 = nI w) (r0 : Int32) (kk : zMem → Option zMem) : ∀ (r k F : Nat) (Nx : zMem), k + r = 3 * w → r < F → Nx.2.2 = N.2.2 → (∀ c j, ¬ (c = 1 ∧ 24 ≤ j ∧ j < 48) → zI Nx c j = zI N c j) → (∀ i, i < k → zI Nx 1 (24 + i) = zI N 1 (27 + i)) → (∀ i, k ≤ i → zI Nx 1 (24 + i) = zI N 1 (24 + i)) → ∃ N1, zlX12_waitingBegins_58 shM 0 kk F r0 (nI k) Nx = (if r0 = 0 then kk N1 else zob (zX12_begins shM 0 N1) kk) ∧ N1.2.2 = N.2.2 ∧ (∀ c j, ¬ (c = 1 ∧ 24 ≤ j ∧ j < 48) → zI N1 c j = zI N c j) ∧ (∀ i, i < 3 * w → zI N1 1 (24 + i) = zI N 1 (27 + i)) := by
  intro r
  induction r with
  | zero =>
    intro k F Nx h1 hF hR hk hi hh
    obtain ⟨F, rfl⟩ : ∃ x, F = x + 1 := ⟨F - 1, by omega⟩
    have hN1 := hN.sm hR
    have e0 : zR Nx 0 0 = 1 := hN1.o.1
    have e3 : (3 : Int32) * nI w = nI (3 * w) := by rw [show (3 : Int32) = nI 3 from rfl, pk_mul]
    simp only [zlX12_waitingBegins_58]
    unfold zbX12_waitingBegins_58 zjX12_waitingBegins_103
    rw [e0, show zlen shM 1 = 194 from rfl, rgd (by decide), show (23 : Int32).toNatClampNeg = 23 from rfl, hk 1 23 (by omega), h23, e3, if_pos (nI_le (by omega) (by omega))]
    exact ⟨Nx, rfl, hR, hk, fun i hi2 => hi i (by omega)⟩
  | succ r ih =>
    intro k F Nx h1 hF hR hk hi hh
    obtain ⟨F, rfl⟩ : ∃ x, F = x + 1 := ⟨F - 1, by omega⟩
    have hN1 := hN.sm hR
    have e0 : zR Nx 0 0 = 1 := hN1.o.1
    have e3 : (3 : Int32) * nI w = nI (3 * w) := by rw [show (3 : Int32) = nI 3 from rfl, pk_mul]
    have e27 : (27 : Int32) + nI k = nI (27 + k) := by rw [show (27 : Int32) = nI 27 from rfl, nI_add]
    have e24 : (24 : Int32) + nI k = nI (24 + k) := by rw [show (24 : Int32) = nI 24 from rfl, nI_add]
    simp only [zlX12_waitingBegins_58]
    unfold zbX12_waitingBegins_58
    rw [e0, show zlen shM 1 = 194 from rfl, rgd (by decide), show (23 : Int32).toNatClampNeg = 23 from rfl, hk 1 23 (by omega), h23, e3, if_neg (nI_ge (by omega) (by omega)), e27, e24, rgd (in_a (by omega) (by omega)), rgd (in_a (by omega) (by omega)), nI_clamp (by omega), nI_clamp (by omega), rbd, nI_1]
    clear e0 e3 e27 e24
    refine ih (k + 1) F _ (by omega) (by omega) hR (fun c j h => ?_) (fun i hi2 => ?_) (fun i hi2 => ?_)
    · rw [rI_pI, if_neg (by omega)]; exact hk c j h
    · rw [rI_pI]
      by_cases g : i = k
      · rw [if_pos ⟨rfl, by omega⟩, show 27 + k = 24 + (k + 3) by omega, hh (k + 3) (by omega), g]
        congr 1
        omega
      · rw [if_neg (by omega)]; exact hi i (by omega)
    · rw [rI_pI, if_neg (by omega)]; exact hh i (by omega)
theorem takeW {M : zMem} {bb sb it b w : Nat} (hC : rfC M bb sb it) (hb : stB b) (hw : w ≤ 7) (h4 : zI M b 4 = nI (w + 1)) : ∃ M1, zX8_takeWaiting shC b M = some M1 ∧ M1.2.2 = M.2.2 ∧ (∀ a, a < 3 → zI M1 (b + 8) a = zI M (b + 7) a) ∧ (∀ j, j < 21 → zI M1 (b + 7) j = zI M (b + 7) (j + 3)) ∧ zI M1 b 4 = nI w ∧ (∀ k j, k ≠ b + 7 → k ≠ b + 8 → ¬ (k = b ∧ j = 4) → zI M1 k j = zI M k j) := by
  have z2 : zR M b 2 = b + 7 := by simp only [hC.s hb]
  have z3 : zR M b 3 = b + 8 := by simp only [hC.s hb]
  unfold zX8_takeWaiting zjX8_takeWaiting_51
  rw [h4, if_neg (nI_nle (by omega) (by omega)), z2, z3, show zlen shC (b + 7) = 24 from (lnS hb).2.2.2.2.1, show zlen shC (b + 8) = 3 from (lnS hb).2.2.2.2.2, rgd (by decide)]
  simp only [rbd, rR_pC, z2]
  rw [show zlen shC (b + 7) = 24 from (lnS hb).2.2.2.2.1, rgd (by decide)]
  have e21 : (Int32.ofNat 24 - 3).toNatClampNeg = 21 := by decide
  have e0 : (0 : Int32).toNatClampNeg = 0 := rfl
  have e3 : (3 : Int32).toNatClampNeg = 3 := rfl
  rw [e21, e0, e3]
  clear z2 z3 e21 e0 e3
  refine ⟨_, rfl, rfl, fun a ha => ?_, fun j hj => ?_, ?_, fun k j h1 h2 h3 => ?_⟩
  · rw [rI_pI, if_neg (by omega), rI_pC, if_neg (by omega), rI_pC, if_pos rfl]
    unfold va_cpy
    rw [if_pos (by omega)]
    congr 1
    omega
  · rw [rI_pI, if_neg (by omega), rI_pC, if_pos rfl]
    unfold va_cpy
    rw [if_pos (by omega), rI_pC, if_neg (by omega)]
    congr 1
    omega
  · rw [rI_pI, if_pos ⟨rfl, rfl⟩, rI_pC, if_neg (by omega), rI_pC, if_neg (by omega), h4, nI_pred]
  · rw [rI_pI, if_neg h3, rI_pC, if_neg h1, rI_pC, if_neg h2]
theorem wait_eq {bb sb it nA nB b : Nat} (hb : stB b) : ∀ (w i F F' : Nat) (M N : zMem), w + i ≤ 8 → w + 1 < F → w + 1 < F' → Bx M N bb sb it nA nB → rSx (vSt M b) (zI N 1) nA → zI N 1 23 = nI w → zI M (b + 6) 0 = 0 → ∃ M1 N1, zlX8_tick_12 shC b bb F (nI i) M = zjX8_tick_51 shC b bb M1 ∧ zlX12_waitingBegins_0 shM 0 F' N = some N1 ∧ rSx (vSt M1 b) (zI N1 1) nA ∧ M1.2.2 = M.2.2 ∧ N1.2.2 = N.2.2 ∧ (∀ k j, ¬ (b ≤ k ∧ k < b + 12) → zI M1 k j = zI M k j) ∧ zI M1 b 5 = zI M b 5 ∧ zI N1 1 0 = zI N 1 0 ∧ zI M1 (b + 6) 0 = 0 ∧ (∀ k j, k ≠ 1 → k ≠ 14 → k ≠ 15 → ¬ (k = 0 ∧ 36 ≤ j ∧ j ≤ 44) → zI N1 k j = zI N k j) := by
  have hbr : 28 ≤ b ∧ b ≤ 162 := by unfold stB at hb; omega
  intro w
  induction w with
  | zero =>
    intro i F F' M N hi hF hF' hB hx h23 hG
    obtain ⟨F, rfl⟩ : ∃ y, F = y + 1 := ⟨F - 1, by omega⟩
    obtain ⟨F', rfl⟩ : ∃ y, F' = y + 1 := ⟨F' - 1, by omega⟩
    have n0 : zR N 0 0 = 1 := hB.2.2.1.o.1
    have s8 : zI M b 8 = zI N 1 1 := by have := hx.2.2.2.2.2.2.2.1; rw [vSt_at rfl] at this; exact this
    have s4 : zI M b 4 = nI 0 := by have := hx.2.2.1; rw [vSt_at rfl, h23] at this; exact this
    refine ⟨M, N, ?_, ?_, hx, rfl, rfl, fun _ _ _ => rfl, rfl, rfl, hG, fun _ _ _ _ _ _ => rfl⟩
    · simp only [zlX8_tick_12]
      unfold zbX8_tick_12
      rw [s4, if_pos (show nI 0 ≤ 0 by decide)]
      split
      · rfl
      · split <;> rfl
    · simp only [zlX12_waitingBegins_0]
      unfold zbX12_waitingBegins_0 zjX12_waitingBegins_106
      rw [n0, show zlen shM 1 = 194 from rfl, rgd (by decide), rgd (by decide), show (1 : Int32).toNatClampNeg = 1 from rfl, show (23 : Int32).toNatClampNeg = 23 from rfl, h23, if_pos (show nI 0 ≤ 0 by decide)]
      split <;> rfl
  | succ w ih =>
    intro i F F' M N hi hF hF' hB hx h23 hG
    obtain ⟨F, rfl⟩ : ∃ y, F = y + 1 := ⟨F - 1, by omega⟩
    obtain ⟨F', rfl⟩ : ∃ y, F' = y + 1 := ⟨F' - 1, by omega⟩
    have hn3 : nA ≤ 3 := hB.2.2.2.1.1
    have n0 : zR N 0 0 = 1 := hB.2.2.1.o.1
    have s8 : zI M b 8 = zI N 1 1 := by have := hx.2.2.2.2.2.2.2.1; rw [vSt_at rfl] at this; exact this
    have s4 : zI M b 4 = nI (w + 1) := by have := hx.2.2.1; rw [vSt_at rfl, h23] at this; exact this
    have hcl : zlX8_tick_12 shC b bb (F + 1) (nI i) M = zbX8_tick_12 shC b bb (zlX8_tick_12 shC b bb F) (nI i) M := rfl
    have hml : zlX12_waitingBegins_0 shM 0 (F' + 1) N = zbX12_waitingBegins_0 shM 0 (zlX12_waitingBegins_0 shM 0 F') N := rfl
    rcases hx.2.2.2.2.2.2.2.2.2 with ⟨hon, h10⟩ | ⟨hon, hmv⟩
    · obtain ⟨M1, t1, t2, t3, t4, t5, t6⟩ := takeW hB.2.1 hb (by omega) s4
      have hB1 : Bx M1 N bb sb it nA nB := hB.sm t2 rfl (fun k j hk => t6 k j (by omega) (by omega) (by omega)) (fun _ _ _ => rfl)
      have h23i : (zI N 1 23).toInt = (w : Int) + 1 := by rw [h23, nI_toInt (by omega)]; omega
      have hwt := hx.2.2.2.2.1
      have hwb := hx.2.2.2.2.2.1
      have hok : okG (zI N 1 24) (zI N 1 25) (zI N 1 26) nA := fun a ha => by
        have := hwb 0 a (by rw [h23i]; omega) ha
        rcases (show a = 0 ∨ a = 1 ∨ a = 2 by omega) with rfl | rfl | rfl <;> exact this
      obtain ⟨r, M2, N1, p1, p2, p3, p4, p5, p6, p7⟩ := begin_eq (b := b) (tb := b + 8) (x := zI N 1 24) (y := zI N 1 25) (z := zI N 1 26) hB1 hb (Or.inr rfl) (fun a ha => by
        rw [t3 a (by omega)]
        have := hwt a (by omega) (by rw [h23i]; omega)
        rw [vSt_at (by unfold relS; simp; omega)] at this
        rw [this]
        rcases (show a = 0 ∨ a = 1 ∨ a = 2 by omega) with rfl | rfl | rfl <;> rfl) hok (fun a ha => by
        have g := hx.2.2.2.2.2.2.1 a ha
        have r0 := g.1 0 (by omega)
        rw [vSt_ro (by omega) (by omega)] at r0
        exact ⟨by rw [t6 _ _ (by omega) (by omega) (by omega)]; exact r0, g.2.1⟩) (by rw [t6 _ _ (by omega) (by omega) (by omega)]; exact hG)
      have hN1 := hB.2.2.1.sm p4.1
      have m0 : zR N1 0 0 = 1 := hN1.o.1
      have q23 : zI N1 1 23 = nI (w + 1) := by rw [p4.2 1 23 (by omega) (by omega) (by omega)]; exact h23
      obtain ⟨N2, u1, u2, u3, u4⟩ := shiftW (N := zpI N1 1 23 (nI w)) (w := w) (hN1.sm rfl) (by omega) rfl r (zlX12_waitingBegins_0 shM 0 F') (3 * w) 0 zF (zpI N1 1 23 (nI w)) (by omega) (by unfold zF; omega) rfl (fun _ _ _ => rfl) (fun i hi => by omega) (fun i hi => rfl)
      have z23 : zI N2 1 23 = nI w := by rw [u3 1 23 (by omega)]; rfl
      have eN2 : ∀ k j, ¬ (k = 1 ∧ 23 ≤ j ∧ j < 48) → zI N2 k j = zI N1 k j := fun k j h => by rw [u3 k j (by omega), rI_pI, if_neg (by omega)]
      have eN0 : ∀ j, ¬ (23 ≤ j ∧ j < 48) → zI N2 1 j = zI N 1 j := fun j h => by rw [eN2 1 j (by omega)]; exact p4.2 1 j (by omega) (by omega) (by omega)
      have z35 : zR M1 b 3 = b + 8 := by simp only [hB1.2.1.s hb]
      have hR2 : rRest (vSt M2 b) (zI N2 1) nA := by
        obtain ⟨r1, r2, r3, r4, r5, r6, r7⟩ := hx.rest
        have vb : ∀ j, 4 ≤ j → j < 8 → vSt M2 b 0 j = zI M1 b j := fun j j1 j2 => by rw [vSt_at (by unfold relS; simp; omega)]; exact p6 b j (by omega) (by omega)
        have v0 : ∀ j, 4 ≤ j → j < 8 → vSt M b 0 j = zI M b j := fun j j1 j2 => vSt_at (by unfold relS; simp; omega)
        refine ⟨?_, ?_, ?_, ?_, fun c hc hc2 => ?_, fun c a hc ha => ?_, fun a ha => ?_⟩
        · rw [vb 6 (by omega) (by omega), t6 _ _ (by omega) (by omega) (by omega), eN0 21 (by omega), ← v0 6 (by omega) (by omega)]; exact r1
        · rw [vb 7 (by omega) (by omega), t6 _ _ (by omega) (by omega) (by omega), eN0 22 (by omega), ← v0 7 (by omega) (by omega)]; exact r2
        · rw [vb 4 (by omega) (by omega), t5, z23]
        · rw [z23]; unfold btw; rw [nI_toInt (by omega)]; omega
        · rw [z23, nI_toInt (by omega)] at hc2
          rw [vSt_at (by unfold relS; simp; omega), p6 _ _ (by omega) (by omega), t4 c (by omega), u4 c (by omega), rI_pI, if_neg (by omega), p4.2 1 _ (by omega) (by omega) (by omega)]
          have := r5 (c + 3) (by omega) (by rw [h23i]; omega)
          rw [vSt_at (by unfold relS; simp; omega)] at this
          rw [this]
          congr 1
          omega
        · rw [z23, nI_toInt (by omega)] at hc
          rw [show 24 + 3 * c + a = 24 + (3 * c + a) by omega, u4 _ (by omega), rI_pI, if_neg (by omega), p4.2 1 _ (by omega) (by omega) (by omega)]
          have := r6 (c + 1) a (by rw [h23i]; omega) ha
          rw [show 24 + 3 * (c + 1) + a = 27 + (3 * c + a) by omega] at this
          exact this
        · obtain ⟨g1, g2, g3, g4, g5⟩ := r7 a ha
          rw [eN0 _ (by omega), eN0 _ (by omega), eN0 _ (by omega), eN0 _ (by omega)]
          refine ⟨fun j hj => ?_, g2, g3, g4, g5⟩
          rw [vSt_ro (by omega) hj, p6 _ _ (by omega) (by omega), t6 _ _ (by omega) (by omega) (by omega), eN0 _ (by omega)]
          have := g1 j hj
          rw [vSt_ro (by omega) hj] at this
          exact this
      have hclass : zlX8_tick_12 shC b bb (F + 1) (nI i) M = zlX8_tick_12 shC b bb F (nI (i + 1)) M2 := by
        rw [hcl]
        unfold zbX8_tick_12
        rw [if_neg (show ¬ (8 : Int32) ≤ nI i from nI_ge (b := 8) (by omega) (by omega)), s8, if_pos hon, s4, if_neg (nI_nle (by omega) (by omega)), t1, rob, z35, p1, rob, nI_1]
      have href : zlX12_waitingBegins_0 shM 0 (F' + 1) N = (if r = 0 then zlX12_waitingBegins_0 shM 0 F' N2 else zob (zX12_begins shM 0 N2) (zlX12_waitingBegins_0 shM 0 F')) := by
        rw [hml]
        unfold zbX12_waitingBegins_0
        rw [n0, show zlen shM 1 = 194 from rfl, rgd (by decide), rgd (by decide), show (1 : Int32).toNatClampNeg = 1 from rfl, show (23 : Int32).toNatClampNeg = 23 from rfl, if_pos hon, h23, if_neg (nI_nle (by omega) (by omega)), rgd (by decide), rgd (by decide), rgd (by decide), show (24 : Int32).toNatClampNeg = 24 from rfl, show (25 : Int32).toNatClampNeg = 25 from rfl, show (26 : Int32).toNatClampNeg = 26 from rfl, p2, rob2, m0, show zlen shM 1 = 194 from rfl, rgd (by decide), rgd (by decide), q23, nI_pred, rbd]
        exact u1
      clear n0 m0 z35 hcl hml
      have frC : ∀ k j, ¬ (b ≤ k ∧ k < b + 12) → zI M2 k j = zI M k j := fun k j h => by rw [p6 k j (by omega) (by omega), t6 k j (by omega) (by omega) (by omega)]
      have f5 : zI M2 b 5 = zI M b 5 := by rw [p6 b 5 (by omega) (by omega), t6 b 5 (by omega) (by omega) (by omega)]
      have frN : ∀ k j, k ≠ 1 → k ≠ 14 → k ≠ 15 → ¬ (k = 0 ∧ 36 ≤ j ∧ j ≤ 44) → zI N2 k j = zI N k j := fun k j h1 h2 h3 h4 => by rw [eN2 k j (by omega)]; exact p4.2 k j h2 h3 h4
      rw [hclass, href]
      rcases p7 with ⟨rfl, p8⟩ | ⟨rfl, -, p8⟩
      · rw [if_pos rfl]
        have hx2 : rSx (vSt M2 b) (zI N2 1) nA := by
          refine hR2.x ?_ ?_ (Or.inl ⟨?_, ?_⟩)
          · rw [vSt_at rfl, eN0 1 (by omega), ← s8]
            show zI M2 b 8 = _
            rw [p8, t6 _ _ (by omega) (by omega) (by omega)]
          · have := hx.2.2.2.2.2.2.2.2.1
            rw [vSt_at rfl] at this ⊢
            show zI M2 b 9 = 0 ∨ zI M2 b 9 = 1
            rw [p8, t6 _ _ (by omega) (by omega) (by omega)]; exact this
          · rw [eN0 1 (by omega)]; exact hon
          · rw [vSt_at rfl] at h10 ⊢
            show zI M2 b 10 = 0
            rw [p8, t6 _ _ (by omega) (by omega) (by omega)]; exact h10
        obtain ⟨M3, N3, w1, w2, w3, w4, w5, w6, w7, w8, w9, w10⟩ := ih (i + 1) F F' M2 N2 (by omega) (by omega) (by omega) (hB.sm (p3.trans t2) (u2.trans p4.1) (fun k j hk => frC k j (by omega)) (fun k j hk => frN k j (by omega) (by omega) (by omega) (by omega))) hx2 z23 p5
        exact ⟨M3, N3, w1, w2, w3, w4.trans (p3.trans t2), w5.trans (u2.trans p4.1), fun k j h => by rw [w6 k j h]; exact frC k j h, w7.trans f5, w8.trans (eN0 0 (by omega)), w9, fun k j h1 h2 h3 h4 => by rw [w10 k j h1 h2 h3 h4]; exact frN k j h1 h2 h3 h4⟩
      · rw [if_neg (by decide)]
        obtain ⟨N3, w1, w2, w3, w4, w5, hon3⟩ := p8 N2 (u2.trans p4.1) (fun k j hk => eN2 k j (by omega)) (fun a ha => eN0 _ (by omega)) hR2
        rw [w1, rob]
        obtain ⟨F, rfl⟩ : ∃ y, F = y + 1 := ⟨F - 1, by omega⟩
        obtain ⟨F', rfl⟩ : ∃ y, F' = y + 1 := ⟨F' - 1, by omega⟩
        have m3 : zR N3 0 0 = 1 := (hB.2.2.1.sm w2).o.1
        have s83 : zI M2 b 8 = zI N3 1 1 := by have := w5.2.2.2.2.2.2.2.1; rw [vSt_at rfl] at this; exact this
        refine ⟨M2, N3, ?_, ?_, w5, p3.trans t2, w2, frC, f5, w4.trans (eN0 0 (by omega)), p5, fun k j h1 h2 h3 h4 => by rw [w3 k j h1]; exact frN k j h1 h2 h3 h4⟩
        · simp only [zlX8_tick_12]
          unfold zbX8_tick_12
          rw [s83, hon3, if_neg (show ¬ (1 : Int32) = 0 by decide)]
          split <;> rfl
        · simp only [zlX12_waitingBegins_0]
          unfold zbX12_waitingBegins_0 zjX12_waitingBegins_106
          rw [m3, show zlen shM 1 = 194 from rfl, rgd (by decide), show (1 : Int32).toNatClampNeg = 1 from rfl, hon3, if_neg (show ¬ (1 : Int32) = 0 by decide)]
    · have hnz : ¬ zI N 1 1 = 0 := by rw [hon]; decide
      refine ⟨M, N, ?_, ?_, hx, rfl, rfl, fun _ _ _ => rfl, rfl, rfl, hG, fun _ _ _ _ _ _ => rfl⟩
      · rw [hcl]
        unfold zbX8_tick_12
        rw [s8, if_neg hnz]
        split <;> rfl
      · rw [hml]
        unfold zbX12_waitingBegins_0 zjX12_waitingBegins_106
        rw [n0, show zlen shM 1 = 194 from rfl, rgd (by decide), show (1 : Int32).toNatClampNeg = 1 from rfl, if_neg hnz]
