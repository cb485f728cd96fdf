/-! Phase B: trips, and a tick -/
theorem trip_loop {bb sb it nA nB b : Nat} (hb : stB b) : ∀ (r a F F' : Nat) (M N : zMem), a + r = nA → r + 1 < F → r + 1 < F' → Bx M N bb sb it nA nB → rSx (vSt M b) (zI N 1) nA → zI M b 5 = zI N 1 0 → zI N 1 1 = 1 → ∃ M1 N1, zlX8_tripIfOver_2 shC b (nI nA) F (nI a) M = some M1 ∧ zlX12_trips_2 shM 0 F' (nI a) N = some N1 ∧ rSx (vSt M1 b) (zI N1 1) nA ∧ M1.2.2 = M.2.2 ∧ N1.2.2 = N.2.2 ∧ (∀ k j, k ≠ b → zI M1 k j = zI M k j) ∧ zI M1 b 5 = zI M b 5 ∧ zI N1 1 0 = zI N 1 0 ∧ (∀ k j, k ≠ 1 → zI N1 k j = zI N k j) := by
  have hbr : 28 ≤ b ∧ b ≤ 162 := by unfold stB at hb; omega
  intro r
  induction r with
  | zero =>
    intro a F F' M N h1 hF hF' hB hx h5 hon
    obtain ⟨F, rfl⟩ : ∃ x, F = x + 1 := ⟨F - 1, by omega⟩
    obtain ⟨F', rfl⟩ : ∃ x, F' = x + 1 := ⟨F' - 1, by omega⟩
    have n22 : zI N 0 22 = nI nA := hB.2.2.2.1.2.2.2.1
    have hn3 : nA ≤ 3 := hB.2.2.2.1.1
    have hle : nI nA ≤ nI a := nI_le (by omega) (by omega)
    refine ⟨M, N, ?_, ?_, hx, rfl, rfl, fun _ _ _ => rfl, rfl, rfl, fun _ _ _ => rfl⟩
    · simp only [zlX8_tripIfOver_2]
      unfold zbX8_tripIfOver_2
      rw [if_pos hle]
    · simp only [zlX12_trips_2]
      unfold zbX12_trips_2 zjX12_trips_91
      rw [n22, if_pos hle]
  | succ r ih =>
    intro a F F' M N h1 hF hF' hB hx h5 hon
    obtain ⟨F, rfl⟩ : ∃ x, F = x + 1 := ⟨F - 1, by omega⟩
    obtain ⟨F', rfl⟩ : ∃ x, F' = x + 1 := ⟨F' - 1, by omega⟩
    have n22 : zI N 0 22 = nI nA := hB.2.2.2.1.2.2.2.1
    have hn3 : nA ≤ 3 := hB.2.2.2.1.1
    have ha : a < nA := by omega
    have ha3 : a < 3 := by omega
    have hnle : ¬ nI nA ≤ nI a := nI_ge (by omega) (by omega)
    have n0 : zR N 0 0 = 1 := hB.2.2.1.o.1
    have zz0 : zR M b 0 = b + 1 := by simp only [hB.2.1.s hb]
    have lS1 : zlen shC (b + 1) = 3 := (lnS hb).1
    have l1 : zlen shM 1 = 194 := rfl
    have roM := hB.2.1.ro hb ha3
    have g := (hx.2.2.2.2.2.2.1 a ha).1
    have g4 := (hx.2.2.2.2.2.2.1 a ha).2.2.2.1
    have p0 := g 0 (by omega)
    have p1 := g 1 (by omega)
    have p4 := g 4 (by omega)
    rw [vSt_ro ha3 (by omega)] at p0 p1 p4
    have p0 : zI M (b + 9 + a) 0 = zI N 1 (48 + 6 * a) := p0
    have c1m : (1 : Int32).toNatClampNeg = 1 := rfl
    have e4 : (zI N 1 (48 + 6 * a + 4) ≤ 0) ↔ zI N 1 (48 + 6 * a + 4) = 0 := by
      obtain ⟨y1, y2⟩ := g4
      rw [r_le, r_eq, show (0 : Int32).toInt = 0 from rfl]
      omega
    have bC : zlX8_tripIfOver_2 shC b (nI nA) (F + 1) (nI a) M = (if zI N 1 (48 + 6 * a + 4) ≤ 0 then zlX8_tripIfOver_2 shC b (nI nA) F (nI (a + 1)) M else (if (if zabs (16 * zI N 1 (48 + 6 * a) - zI N 1 (48 + 6 * a + 1)) < zI N 1 (48 + 6 * a + 4) then (0 : Int32) else 1) = 0 then zlX8_tripIfOver_2 shC b (nI nA) F (nI (a + 1)) M else some (zpI (zpI (zpI (zpI (zpI (zpI M b 6 (zI N 1 0)) b 7 (nI a)) b 8 0) b 9 0) b 10 0) b 4 0))) := by
      simp only [zlX8_tripIfOver_2]
      unfold zbX8_tripIfOver_2 zjX8_tripIfOver_58 zX8_stop
      rw [if_neg hnle, zz0, lS1, rgd (in_a ha3 (by omega)), nI_clamp (by omega), roM, p4, rgd (in_a ha3 (by omega)), rgd (in_a ha3 (by omega)), offC, rob, p0, p1, h5, nI_1]
      simp only [rbd, rob]
    have bM : zlX12_trips_2 shM 0 (F' + 1) (nI a) N = (if zI N 1 (48 + 6 * a + 4) = 0 then zlX12_trips_2 shM 0 F' (nI (a + 1)) N else (if zI N 1 (48 + 6 * a + 4) ≤ zabs (16 * zI N 1 (48 + 6 * a) - zI N 1 (48 + 6 * a + 1)) then zlX12_trips_2 shM 0 F' (nI (a + 1)) (zpI (zpI (zpI (zpI N 1 1 0) 1 23 0) 1 21 (zI N 1 0)) 1 22 (nI a)) else zlX12_trips_2 shM 0 F' (nI (a + 1)) N)) := by
      simp only [zlX12_trips_2]
      unfold zbX12_trips_2 zjX12_trips_85
      rw [n22, if_neg hnle, n0, l1, rgd (by decide), c1m, hon, if_pos rfl, axisAt_4 n0 ha3, rob, angleM n0 ha3, rob, size_eq, rob, rob, rgd (by decide), rbd, show zR (zpI N 1 1 0) 0 0 = 1 from n0, l1, rgd (by decide), rbd, show (23 : Int32).toNatClampNeg = 23 from rfl, show zR (zpI (zpI N 1 1 0) 1 23 0) 0 0 = 1 from n0, l1, rgd (by decide), rgd (by decide), rbd, show (21 : Int32).toNatClampNeg = 21 from rfl, show (0 : Int32).toNatClampNeg = 0 from rfl, show zI (zpI (zpI N 1 1 0) 1 23 0) 1 0 = zI N 1 0 from rfl, show zR (zpI (zpI (zpI N 1 1 0) 1 23 0) 1 21 (zI N 1 0)) 0 0 = 1 from n0, l1, rgd (by decide), rbd, show (22 : Int32).toNatClampNeg = 22 from rfl, nI_1]
    rw [bC, bM]
    by_cases c1 : zI N 1 (48 + 6 * a + 4) = 0
    · rw [if_pos (e4.mpr c1), if_pos c1]
      exact ih (a + 1) F F' M N (by omega) (by omega) (by omega) hB hx h5 hon
    · rw [if_neg (fun h => c1 (e4.mp h)), if_neg c1]
      by_cases c2 : zabs (16 * zI N 1 (48 + 6 * a) - zI N 1 (48 + 6 * a + 1)) < zI N 1 (48 + 6 * a + 4)
      · rw [if_pos c2, if_pos rfl, if_neg (by rw [r_lt] at c2; rw [r_le]; omega)]
        exact ih (a + 1) F F' M N (by omega) (by omega) (by omega) hB hx h5 hon
      · rw [if_neg c2, if_neg (show ¬ (1 : Int32) = 0 by decide), if_pos (by rw [r_lt] at c2; rw [r_le]; omega)]
        clear bC bM zz0 lS1 roM
        have m1 : ∀ k j, ¬ (k = b ∧ (j = 4 ∨ (6 ≤ j ∧ j ≤ 10))) → zI (zpI (zpI (zpI (zpI (zpI (zpI M b 6 (zI N 1 0)) b 7 (nI a)) b 8 0) b 9 0) b 10 0) b 4 0) k j = zI M k j := fun k j h => by
          rw [rI_pI, if_neg (by omega), rI_pI, if_neg (by omega), rI_pI, if_neg (by omega), rI_pI, if_neg (by omega), rI_pI, if_neg (by omega), rI_pI, if_neg (by omega)]
        have v4 : zI (zpI (zpI (zpI (zpI (zpI (zpI M b 6 (zI N 1 0)) b 7 (nI a)) b 8 0) b 9 0) b 10 0) b 4 0) b 4 = 0 := by rw [rI_pI, if_pos ⟨rfl, rfl⟩]
        have v10 : zI (zpI (zpI (zpI (zpI (zpI (zpI M b 6 (zI N 1 0)) b 7 (nI a)) b 8 0) b 9 0) b 10 0) b 4 0) b 10 = 0 := by rw [rI_pI, if_neg (by omega), rI_pI, if_pos ⟨rfl, rfl⟩]
        have v9 : zI (zpI (zpI (zpI (zpI (zpI (zpI M b 6 (zI N 1 0)) b 7 (nI a)) b 8 0) b 9 0) b 10 0) b 4 0) b 9 = 0 := by rw [rI_pI, if_neg (by omega), rI_pI, if_neg (by omega), rI_pI, if_pos ⟨rfl, rfl⟩]
        have v8 : zI (zpI (zpI (zpI (zpI (zpI (zpI M b 6 (zI N 1 0)) b 7 (nI a)) b 8 0) b 9 0) b 10 0) b 4 0) b 8 = 0 := by rw [rI_pI, if_neg (by omega), rI_pI, if_neg (by omega), rI_pI, if_neg (by omega), rI_pI, if_pos ⟨rfl, rfl⟩]
        have v7 : zI (zpI (zpI (zpI (zpI (zpI (zpI M b 6 (zI N 1 0)) b 7 (nI a)) b 8 0) b 9 0) b 10 0) b 4 0) b 7 = nI a := by rw [rI_pI, if_neg (by omega), rI_pI, if_neg (by omega), rI_pI, if_neg (by omega), rI_pI, if_neg (by omega), rI_pI, if_pos ⟨rfl, rfl⟩]
        have v6 : zI (zpI (zpI (zpI (zpI (zpI (zpI M b 6 (zI N 1 0)) b 7 (nI a)) b 8 0) b 9 0) b 10 0) b 4 0) b 6 = zI N 1 0 := by rw [rI_pI, if_neg (by omega), rI_pI, if_neg (by omega), rI_pI, if_neg (by omega), rI_pI, if_neg (by omega), rI_pI, if_neg (by omega), rI_pI, if_pos ⟨rfl, rfl⟩]
        have mR : (zpI (zpI (zpI (zpI (zpI (zpI M b 6 (zI N 1 0)) b 7 (nI a)) b 8 0) b 9 0) b 10 0) b 4 0).2.2 = M.2.2 := rfl
        generalize zpI (zpI (zpI (zpI (zpI (zpI M b 6 (zI N 1 0)) b 7 (nI a)) b 8 0) b 9 0) b 10 0) b 4 0 = Mz at *
        obtain ⟨Nz, hNz⟩ : ∃ Nz, Nz = zpI (zpI (zpI (zpI N 1 1 0) 1 23 0) 1 21 (zI N 1 0)) 1 22 (nI a) := ⟨_, rfl⟩
        rw [← hNz]
        have nR : Nz.2.2 = N.2.2 := by rw [hNz]; rfl
        have nk : ∀ k j, ¬ (k = 1 ∧ (j = 1 ∨ j = 21 ∨ j = 22 ∨ j = 23)) → zI Nz k j = zI N k j := fun k j h => by
          rw [hNz, rI_pI, if_neg (by omega), rI_pI, if_neg (by omega), rI_pI, if_neg (by omega), rI_pI, if_neg (by omega)]
        have w1 : zI Nz 1 1 = 0 := by rw [hNz]; rfl
        have w23 : zI Nz 1 23 = 0 := by rw [hNz]; rfl
        have w21 : zI Nz 1 21 = zI N 1 0 := by rw [hNz]; rfl
        have w22 : zI Nz 1 22 = nI a := by rw [hNz]; rfl
        have n0z : zR Nz 0 0 = 1 := by unfold zR; rw [nR]; exact n0
        obtain ⟨F', rfl⟩ : ∃ x, F' = x + 1 := ⟨F' - 1, by omega⟩
        have h00 : (0 : Int32).toInt = 0 := rfl
        refine ⟨Mz, Nz, rfl, ?_, ?_, mR, nR, fun k j h => m1 k j (by omega), m1 b 5 (by omega), nk 1 0 (by omega), fun k j h => nk k j (by omega)⟩
        · simp only [zlX12_trips_2]
          unfold zbX12_trips_2 zjX12_trips_91
          rw [nk 0 22 (by omega), n22, n0z, l1, rgd (by decide), c1m, w1, if_neg (show ¬ (0 : Int32) = 1 by decide)]
          split <;> rfl
        · have hrest := hx.rest
          obtain ⟨r1, r2, r3, r4, r5, r6, r7⟩ := hrest
          have hR : rRest (vSt Mz b) (zI Nz 1) nA := by
            unfold rRest
            rw [w23, w21, w22, vSt_at rfl, vSt_at rfl, vSt_at rfl, h00]
            refine ⟨v6, v7, v4, ⟨by rw [h00]; omega, by rw [h00]; omega⟩, fun i _ hi => by omega, fun i _ hi => by omega, fun c hc => ?_⟩
            obtain ⟨y1, y2, y3, y4, y5⟩ := r7 c hc
            rw [nk 1 (48 + 6 * c) (by omega), nk 1 (48 + 6 * c + 3) (by omega), nk 1 (48 + 6 * c + 4) (by omega), nk 1 (48 + 6 * c + 5) (by omega)]
            refine ⟨fun j hj => ?_, y2, y3, y4, y5⟩
            rw [vSt_ro (by omega) hj, m1 _ _ (by omega), nk _ _ (by omega), ← y1 j hj, vSt_ro (by omega) hj]
          refine hR.x ?_ ?_ (Or.inl ⟨w1, ?_⟩)
          · rw [vSt_at rfl, w1]; exact v8
          · rw [vSt_at rfl]; exact Or.inl v9
          · rw [vSt_at rfl]; exact v10
/-- a tick -/
theorem tick_eq {M N : zMem} {bb sb it nA nB b : Nat} {T : Int} (hB : Bx M N bb sb it nA nB) (hb : stB b) (hS : rSt (vSt M b) (zI N 1) nA T) (hT : T ≤ 2000000000) (hG : zI M (b + 6) 0 = 0) : ∃ M1 N1, zX8_tick shC b bb M = some M1 ∧ zX12_tick shM 0 N = some N1 ∧ rSt (vSt M1 b) (zI N1 1) nA (T + 1) ∧ M1.2.2 = M.2.2 ∧ N1.2.2 = N.2.2 ∧ (∀ k j, ¬ (b ≤ k ∧ k < b + 12) → zI M1 k j = zI M k j) ∧ zI M1 (b + 6) 0 = 0 ∧ (∀ k j, k ≠ 1 → k ≠ 14 → k ≠ 15 → ¬ (k = 0 ∧ 36 ≤ j ∧ j ≤ 44) → zI N1 k j = zI N k j) ∧ zI N1 1 0 = zI N 1 0 + 1 := by
  have hbr : 28 ≤ b ∧ b ≤ 162 := by unfold stB at hb; omega
  obtain ⟨s5, s0, hx⟩ := rSt_x.mp hS
  obtain ⟨t0, t1⟩ := s0
  have s5 : zI M b 5 = zI N 1 0 := by rw [vSt_at rfl] at s5; exact s5
  have hn3 : nA ≤ 3 := hB.2.2.2.1.1
  -- the class counts first
  have k1 : ∀ k j, ¬ (k = b ∧ j = 5) → zI (zpI M b 5 (zI M b 5 + 1)) k j = zI M k j := fun k j h => by rw [rI_pI, if_neg h]
  have v1 : zI (zpI M b 5 (zI M b 5 + 1)) b 5 = zI M b 5 + 1 := by rw [rI_pI, if_pos ⟨rfl, rfl⟩]
  have hB1 : Bx (zpI M b 5 (zI M b 5 + 1)) N bb sb it nA nB := hB.sm rfl rfl (fun k j hk => k1 k j (by omega)) (fun _ _ _ => rfl)
  have hx1 : rSx (vSt (zpI M b 5 (zI M b 5 + 1)) b) (zI N 1) nA := by
    have hv : ∀ k j, ¬ (k = 0 ∧ j = 5) → vSt (zpI M b 5 (zI M b 5 + 1)) b k j = vSt M b k j := fun k j h => by
      unfold vSt
      by_cases hr : relS k j = true
      · rw [if_pos hr, if_pos hr, k1 _ _ (by omega)]
      · rw [if_neg hr, if_neg hr]
    have h10 := hx.2.2.2.2.2.2.2.2.2
    have h8 := hx.2.2.2.2.2.2.2.1
    have h9 := hx.2.2.2.2.2.2.2.2.1
    refine (hx.rest.cg hn3 (fun k j h => hv k j (by omega)) (fun _ _ _ => rfl)).x ?_ ?_ ?_
    · rw [hv 0 8 (by omega)]; exact h8
    · rw [hv 0 9 (by omega)]; exact h9
    · rcases h10 with ⟨q1, q2⟩ | ⟨q1, q2⟩
      · exact Or.inl ⟨q1, by rw [hv 0 10 (by omega)]; exact q2⟩
      · exact Or.inr ⟨q1, q2.cg hn3 (fun k j _ h => hv k j (by omega)) (fun _ _ => rfl)⟩
  obtain ⟨w, hw, hw8⟩ : ∃ w : Nat, zI N 1 23 = nI w ∧ w ≤ 8 := by
    obtain ⟨y1, y2⟩ := hx.2.2.2.1
    exact ⟨(zI N 1 23).toInt.toNat, by rw [iI_n, show (((zI N 1 23).toInt.toNat : Nat) : Int) = (zI N 1 23).toInt by omega, iI_t], by omega⟩
  obtain ⟨M2, N2, a1, a2, a3, a4, a5, a6, a7, a8, a9, a10⟩ := wait_eq (bb := bb) (sb := sb) (it := it) (nA := nA) (nB := nB) hb w 0 zF zF (zpI M b 5 (zI M b 5 + 1)) N (by omega) (by unfold zF; omega) (by unfold zF; omega) hB1 hx1 hw (by rw [k1 _ _ (by omega)]; exact hG)
  have hB2 : Bx M2 N2 bb sb it nA nB := hB1.sm a4 a5 (fun k j hk => a6 k j (by omega)) (fun k j hk => a10 k j (by omega) (by omega) (by omega) (by omega))
  -- axes
  have s82 : zI M2 b 8 = zI N2 1 1 := by have := a3.2.2.2.2.2.2.2.1; rw [vSt_at rfl] at this; exact this
  have n02 : zR N2 0 0 = 1 := hB2.2.2.1.o.1
  have l1 : zlen shM 1 = 194 := rfl
  obtain ⟨M3, N3, b1, b2, b3, b4, b5, b6, b7, b8, b9, b10⟩ : ∃ M3 N3, zjX8_tick_51 shC b bb M2 = zjX8_tick_62 shC b bb M3 ∧ zX12_moves shM 0 N2 = some N3 ∧ rSx (vSt M3 b) (zI N3 1) nA ∧ M3.2.2 = M2.2.2 ∧ N3.2.2 = N2.2.2 ∧ (∀ k j, ¬ (b ≤ k ∧ k < b + 12) → zI M3 k j = zI M2 k j) ∧ zI M3 b 5 = zI M2 b 5 ∧ zI N3 1 0 = zI N2 1 0 ∧ zI M3 (b + 6) 0 = zI M2 (b + 6) 0 ∧ (∀ k j, k ≠ 1 → zI N3 k j = zI N2 k j) := by
    by_cases hon : zI N2 1 1 = 0
    · refine ⟨M2, N2, ?_, ?_, a3, rfl, rfl, fun _ _ _ => rfl, rfl, rfl, rfl, fun _ _ _ => rfl⟩
      · unfold zjX8_tick_51
        rw [s82, if_pos hon]
      · unfold zX12_moves
        rw [n02, l1, rgd (by decide), show (1 : Int32).toNatClampNeg = 1 from rfl, if_pos hon]
    · have hon1 : zI N2 1 1 = 1 := by
        rcases a3.2.2.2.2.2.2.2.2.2 with ⟨q, -⟩ | ⟨q, -⟩
        · exact absurd q hon
        · exact q
      obtain ⟨M3, N3, c1, c2⟩ := adv_eq hB2 hb a3 hon1
      refine ⟨M3, N3, ?_, c2⟩
      unfold zjX8_tick_51
      rw [s82, if_neg hon, c1, rob]
  have hB3 : Bx M3 N3 bb sb it nA nB := hB2.sm b4 b5 (fun k j hk => b6 k j (by omega)) (fun k j hk => b10 k j (by omega))
  -- the reference counts
  have n03 : zR N3 0 0 = 1 := hB3.2.2.1.o.1
  have e30 : zI N3 1 0 = zI N 1 0 := b8.trans a8
  have e35 : zI M3 b 5 = zI N 1 0 + 1 := by rw [b7, a7, v1, s5]
  have ti : (zI N 1 0 + 1).toInt = (zI N 1 0).toInt + 1 := by
    rw [← iI_t (zI N 1 0), show iI (zI N 1 0).toInt + (1 : Int32) = iI ((zI N 1 0).toInt + 1) from iI_add _ 1, iI_i (by omega) (by omega), iI_i (by omega) (by omega)]
  have kp : ∀ k j, ¬ (k = 1 ∧ j = 0) → zI (zpI N3 1 0 (zI N 1 0 + 1)) k j = zI N3 k j := fun k j h => by rw [rI_pI, if_neg h]
  have hB4 : Bx M3 (zpI N3 1 0 (zI N 1 0 + 1)) bb sb it nA nB := hB3.sm rfl rfl (fun _ _ _ => rfl) (fun k j hk => kp k j (by omega))
  have hx4 : rSx (vSt M3 b) (zI (zpI N3 1 0 (zI N 1 0 + 1)) 1) nA := by
    have h10 := b3.2.2.2.2.2.2.2.2.2
    have h8 := b3.2.2.2.2.2.2.2.1
    have h9 := b3.2.2.2.2.2.2.2.2.1
    refine (b3.rest.cg hn3 (fun _ _ _ => rfl) (fun j _ _ => kp 1 j (by omega))).x ?_ h9 ?_
    · rw [kp 1 1 (by omega)]; exact h8
    · rw [kp 1 1 (by omega)]
      rcases h10 with q | ⟨q1, q2⟩
      · exact Or.inl q
      · exact Or.inr ⟨q1, q2.cg hn3 (fun _ _ _ _ => rfl) (fun j _ => kp 1 j (by omega))⟩
  obtain ⟨M5, N5, d1, d2, d3, d4, d5, d6, d7, d8, d9⟩ := rot_loop (bb := bb) (sb := sb) (it := it) (nA := nA) (nB := nB) hb nA 0 zF zF M3 (zpI N3 1 0 (zI N 1 0 + 1)) (by omega) (by unfold zF; omega) (by unfold zF; omega) hB4 hx4 e35 (by show 0 ≤ (zI N 1 0 + 1).toInt; rw [ti]; omega)
  have d8 : zI N5 1 0 = zI N 1 0 + 1 := d8
  have hB5 : Bx M5 N5 bb sb it nA nB := hB4.sm d4 d5 (fun k j hk => d6 k j (by omega)) (fun k j hk => d9 k j (by omega))
  have s85 : zI M5 b 8 = zI N5 1 1 := by have := d3.2.2.2.2.2.2.2.1; rw [vSt_at rfl] at this; exact this
  have n05 : zR N5 0 0 = 1 := hB5.2.2.1.o.1
  have h55 : zI M5 b 5 = zI N5 1 0 := by rw [d7 b 5 (by omega), e35, d8]
  obtain ⟨M6, N6, f1, f2, f3, f4, f5, f6, f7, f8, f9⟩ : ∃ M6 N6, (if zI M5 b 8 = 0 then some M5 else zX8_tripIfOver shC b (nI nA) M5) = some M6 ∧ zX12_trips shM 0 N5 = some N6 ∧ rSx (vSt M6 b) (zI N6 1) nA ∧ M6.2.2 = M5.2.2 ∧ N6.2.2 = N5.2.2 ∧ (∀ k j, k ≠ b → zI M6 k j = zI M5 k j) ∧ zI M6 b 5 = zI M5 b 5 ∧ zI N6 1 0 = zI N5 1 0 ∧ (∀ k j, k ≠ 1 → zI N6 k j = zI N5 k j) := by
    by_cases hon : zI N5 1 1 = 0
    · refine ⟨M5, N5, ?_, ?_, d3, rfl, rfl, fun _ _ _ => rfl, rfl, rfl, fun _ _ _ => rfl⟩
      · rw [s85, if_pos hon]
      · unfold zX12_trips
        rw [show zlX12_trips_2 shM 0 zF 0 N5 = zbX12_trips_2 shM 0 (zlX12_trips_2 shM 0 999999) 0 N5 from rfl]
        unfold zbX12_trips_2 zjX12_trips_91
        rw [n05, l1, rgd (by decide), show (1 : Int32).toNatClampNeg = 1 from rfl, hon, if_neg (show ¬ (0 : Int32) = 1 by decide)]
        split <;> rfl
    · have hon1 : zI N5 1 1 = 1 := by
        rcases d3.2.2.2.2.2.2.2.2.2 with ⟨q, -⟩ | ⟨q, -⟩
        · exact absurd q hon
        · exact q
      obtain ⟨M6, N6, c1, c2, c3⟩ := trip_loop (bb := bb) (sb := sb) (it := it) (nA := nA) (nB := nB) hb nA 0 zF zF M5 N5 (by omega) (by unfold zF; omega) (by unfold zF; omega) hB5 d3 h55 hon1
      refine ⟨M6, N6, ?_, c2, c3⟩
      rw [s85, if_neg hon]
      exact c1
  refine ⟨M6, N6, ?_, ?_, rSt_x.mpr ⟨?_, ?_, f3⟩, f4.trans (d4.trans (b4.trans a4)), f5.trans (d5.trans (b5.trans a5)), fun k j h => ?_, ?_, fun k j h1 h2 h3 h4 => ?_, f8.trans d8⟩
  · unfold zX8_tick
    rw [rbd]
    refine a1.trans (b1.trans ?_)
    unfold zjX8_tick_62
    exact d1.trans f1
  · unfold zX12_tick zX12_waitingBegins
    rw [a2, rob, b2, rob, n03, l1, rgd (by decide), rgd (by decide), show (0 : Int32).toNatClampNeg = 0 from rfl, e30, rbd]
    exact d2.trans f2
  · rw [vSt_at rfl, f8]
    exact f7.trans h55
  · rw [f8, d8]
    unfold btw
    rw [ti]
    omega
  · clear n02 n03 n05
    rw [f6 k j (by omega), d6 k j h, b6 k j h, a6 k j h, k1 k j (by omega)]
  · rw [f6 _ _ (by omega), d7 _ _ (by omega), b9]; exact a9
  · rw [f9 k j h1, d9 k j h1, kp k j (by omega), b10 k j h1]; exact a10 k j h1 h2 h3 h4
