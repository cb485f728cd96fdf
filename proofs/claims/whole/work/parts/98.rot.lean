/-! Phase B: rotors turn, and trips -/
theorem rMv.cg {V V' : Nat → Nat → Int32} {f f' : Nat → Int32} {nA : Nat} (h : rMv V f nA) (h3 : nA ≤ 3) (eV : ∀ k j, relS k j = true → (k = 0 ∧ 9 ≤ j) ∨ (2 ≤ k ∧ k ≤ 6) → V' k j = V k j) (ef : ∀ j, (3 ≤ j ∧ j < 21) ∨ 66 ≤ j → f' j = f j) : rMv V' f' nA := by
  obtain ⟨k1, k2, k3, k4, k5, k6, k7, k8, k9, k10, k11, k12, L, k13, k14, k15, k16⟩ := h
  have h60 := k13.1
  unfold rMv
  rw [ef 3 (by omega), ef 10 (by omega), ef 11 (by omega), ef 12 (by omega), ef 13 (by omega), ef 14 (by omega), ef 15 (by omega), ef 16 (by omega), ef 17 (by omega), ef 18 (by omega), ef 19 (by omega), ef 20 (by omega), eV 2 4 rfl (by omega), eV 2 6 rfl (by omega), eV 2 7 rfl (by omega), eV 2 8 rfl (by omega), eV 2 9 rfl (by omega), eV 5 1 rfl (by omega), eV 0 9 rfl (by omega), eV 0 10 rfl (by omega), eV 0 11 rfl (by omega), eV 0 12 rfl (by omega)]
  refine ⟨k1, k2, k3, k4, k5, k6, k7, k8, k9, k10, fun a ha => ?_, k12, L, k13, fun k hk => ?_, k15, ?_⟩
  · rw [eV 3 a (by unfold relS; simp; omega) (by omega), eV 4 a (by unfold relS; simp; omega) (by omega), ef _ (by omega), ef _ (by omega)]; exact k11 a ha
  · rw [eV 6 k (by unfold relS; simp; omega) (by omega)]; exact k14 k hk
  · rcases k16 with ⟨a1, a2, a3, a4⟩ | ⟨a1, a2, a3, a4⟩
    · exact Or.inl ⟨a1, a2, fun k hk => by rw [ef _ (by omega)]; exact a3 k hk, a4⟩
    · exact Or.inr ⟨a1, a2, fun k hk => by rw [ef _ (by omega)]; exact a3 k hk, a4⟩
theorem rSx.rot {V V' : Nat → Nat → Int32} {f f' : Nat → Int32} {nA a : Nat} (h : rSx V f nA) (h3 : nA ≤ 3) (eV : ∀ k j, relS k j = true → ¬ (k = 9 + a ∧ (j = 1 ∨ j = 2 ∨ j = 5)) → ¬ (k = 0 ∧ j = 5) → V' k j = V k j) (ef : ∀ j, j ≠ 0 → ¬ (j = 48 + 6 * a + 1 ∨ j = 48 + 6 * a + 2 ∨ j = 48 + 6 * a + 5) → f' j = f j) (ha : a < nA) (e1 : V' (9 + a) 1 = f' (48 + 6 * a + 1)) (e2 : V' (9 + a) 2 = f' (48 + 6 * a + 2)) (e5 : V' (9 + a) 5 = f' (48 + 6 * a + 5)) (h5 : 0 ≤ (f' (48 + 6 * a + 5)).toInt) : rSx V' f' nA := by
  obtain ⟨r1, r2, r3, r4, r5, r6, r7, r8, r9, r10⟩ := h
  unfold rSx
  rw [eV 0 6 rfl (by omega) (by omega), eV 0 7 rfl (by omega) (by omega), eV 0 4 rfl (by omega) (by omega), eV 0 8 rfl (by omega) (by omega), eV 0 9 rfl (by omega) (by omega), eV 0 10 rfl (by omega) (by omega), ef 21 (by omega) (by omega), ef 22 (by omega) (by omega), ef 23 (by omega) (by omega), ef 1 (by omega) (by omega)]
  refine ⟨r1, r2, r3, r4, fun i hi hi2 => ?_, fun i c hi hc => ?_, fun c hc => ?_, r8, r9, ?_⟩
  · rw [eV 7 i (by unfold relS; simp; omega) (by omega) (by omega), ef _ (by omega) (by omega)]; exact r5 i hi hi2
  · have := r4.2
    rw [ef _ (by omega) (by omega)]; exact r6 i c hi hc
  · obtain ⟨g1, g2, g3, g4, g5⟩ := r7 c hc
    rw [ef (48 + 6 * c) (by omega) (by omega), ef (48 + 6 * c + 3) (by omega) (by omega), ef (48 + 6 * c + 4) (by omega) (by omega)]
    refine ⟨fun j hj => ?_, g2, g3, g4, ?_⟩
    · by_cases g : c = a ∧ (j = 1 ∨ j = 2 ∨ j = 5)
      · obtain ⟨rfl, rfl | rfl | rfl⟩ := g
        · exact e1
        · exact e2
        · exact e5
      · rw [eV (9 + c) j (by unfold relS; simp; omega) (by omega) (by omega), ef _ (by omega) (by omega)]; exact g1 j hj
    · by_cases g : c = a
      · rw [g]; exact h5
      · rw [ef _ (by omega) (by omega)]; exact g5
  · rcases r10 with r10 | ⟨q1, q2⟩
    · exact Or.inl r10
    · exact Or.inr ⟨q1, q2.cg h3 (fun k j hr g => eV k j hr (by omega) (by omega)) (fun j g => ef j (by omega) (by omega))⟩
theorem offC {M : zMem} (k : Nat) (p : Int32) : zX7_isOffBy shC k p M = some (if zabs (16 * zI M k 0 - zI M k 1) < p then 0 else 1) := by
  unfold zX7_isOffBy zX7_angle zjX7_isOffBy_16
  rw [rob]
  split
  · rw [rgd isB0]
  · rw [rgd isB1]
theorem rot_loop {bb sb it nA nB b : Nat} (hb : stB b) : ∀ (r a F F' : Nat) (M N : zMem), a + r = nA → r < F → r < F' → Bx M N bb sb it nA nB → rSx (vSt M b) (zI N 1) nA → zI M b 5 = zI N 1 0 → 0 ≤ (zI N 1 0).toInt → ∃ M1 N1, zlX8_tick_64 shC b bb F (nI a) M = (if zI M1 b 8 = 0 then some M1 else zX8_tripIfOver shC b (nI nA) M1) ∧ zlX12_tick_20 shM 0 F' (nI a) N = zX12_trips shM 0 N1 ∧ rSx (vSt M1 b) (zI N1 1) nA ∧ M1.2.2 = M.2.2 ∧ N1.2.2 = N.2.2 ∧ (∀ k j, ¬ (b ≤ k ∧ k < b + 12) → zI M1 k j = zI M k j) ∧ (∀ k j, k < b + 9 → zI M1 k j = zI M k j) ∧ zI N1 1 0 = zI N 1 0 ∧ (∀ k j, k ≠ 1 → zI N1 k j = zI N k j) := by
  have hbr : 28 ≤ b ∧ b ≤ 162 := by unfold stB at hb; omega
  intro r
  induction r with
  | zero =>
    intro a F F' M N h1 hF hF' hB hx h5 h5p
    obtain ⟨F, rfl⟩ : ∃ x, F = x + 1 := ⟨F - 1, by omega⟩
    obtain ⟨F', rfl⟩ : ∃ x, F' = x + 1 := ⟨F' - 1, by omega⟩
    have b6 : zI M bb 6 = nI nA := hB.2.2.2.1.2.2.1
    have n22 : zI N 0 22 = nI nA := hB.2.2.2.1.2.2.2.1
    have hn3 : nA ≤ 3 := hB.2.2.2.1.1
    have hle : nI nA ≤ nI a := nI_le (by omega) (by omega)
    refine ⟨M, N, ?_, ?_, hx, rfl, rfl, fun _ _ _ => rfl, fun _ _ _ => rfl, rfl, fun _ _ _ => rfl⟩
    · simp only [zlX8_tick_64]
      unfold zbX8_tick_64 zjX8_tick_152
      rw [b6, if_pos hle]
      split
      · rfl
      · cases zX8_tripIfOver shC b (nI nA) M <;> rfl
    · simp only [zlX12_tick_20]
      unfold zbX12_tick_20
      rw [n22, if_pos hle]
      cases zX12_trips shM 0 N <;> rfl
  | succ r ih =>
    intro a F F' M N h1 hF hF' hB hx h5 h5p
    obtain ⟨F, rfl⟩ : ∃ x, F = x + 1 := ⟨F - 1, by omega⟩
    obtain ⟨F', rfl⟩ : ∃ x, F' = x + 1 := ⟨F' - 1, by omega⟩
    have b6 : zI M bb 6 = nI nA := hB.2.2.2.1.2.2.1
    have n22 : zI N 0 22 = nI nA := hB.2.2.2.1.2.2.2.1
    have hn3 : nA ≤ 3 := hB.2.2.2.1.1
    have ha : a < nA := by omega
    have ha3 : a < 3 := by omega
    have hnle : ¬ nI nA ≤ nI a := nI_ge (by omega) (by omega)
    have n0 : zR N 0 0 = 1 := hB.2.2.1.o.1
    have g := (hx.2.2.2.2.2.2.1 a ha).1
    have g5 := (hx.2.2.2.2.2.2.1 a ha).2.2.2.2
    have p0 := g 0 (by omega)
    have p1 := g 1 (by omega)
    have p2 := g 2 (by omega)
    have p3 := g 3 (by omega)
    have p5 := g 5 (by omega)
    rw [vSt_ro ha3 (by omega)] at p0 p1 p2 p3 p5
    have p0 : zI M (b + 9 + a) 0 = zI N 1 (48 + 6 * a) := p0
    obtain ⟨v, hv⟩ : ∃ v, v = fTurn N a (16 * zI N 1 (48 + 6 * a) - zI N 1 (48 + 6 * a + 1)) (zI N 1 (48 + 6 * a + 2)) (zI N 1 (48 + 6 * a + 3)) := ⟨_, rfl⟩
    have ht := turnC (k := b + 9 + a) hB.1 hB.2.1 hB.2.2.2.1 hB.2.2.2.2 ha (by omega)
    rw [p0, p1, p2, p3, ← hv] at ht
    obtain ⟨Mp, hMp⟩ : ∃ Mp, Mp = zpI (zpI M (b + 9 + a) 2 v) (b + 9 + a) 1 (zI N 1 (48 + 6 * a + 1) + v) := ⟨_, rfl⟩
    obtain ⟨Np, hNp⟩ : ∃ Np, Np = zpI (zpI N 1 (48 + 6 * a + 2) v) 1 (48 + 6 * a + 1) (zI N 1 (48 + 6 * a + 1) + v) := ⟨_, rfl⟩
    have mR : Mp.2.2 = M.2.2 := by rw [hMp]; rfl
    have nR : Np.2.2 = N.2.2 := by rw [hNp]; rfl
    have mk : ∀ k j, ¬ (k = b + 9 + a ∧ (j = 1 ∨ j = 2)) → zI Mp k j = zI M k j := fun k j h => by rw [hMp, rI_pI, if_neg (by omega), rI_pI, if_neg (by omega)]
    have nk : ∀ k j, ¬ (k = 1 ∧ (j = 48 + 6 * a + 1 ∨ j = 48 + 6 * a + 2)) → zI Np k j = zI N k j := fun k j h => by rw [hNp, rI_pI, if_neg (by omega), rI_pI, if_neg (by omega)]
    have m1 : zI Mp (b + 9 + a) 1 = zI N 1 (48 + 6 * a + 1) + v := by rw [hMp, rI_pI, if_pos ⟨rfl, rfl⟩]
    have m2 : zI Mp (b + 9 + a) 2 = v := by rw [hMp, rI_pI, if_neg (by omega), rI_pI, if_pos ⟨rfl, rfl⟩]
    have q1 : zI Np 1 (48 + 6 * a + 1) = zI N 1 (48 + 6 * a + 1) + v := by rw [hNp, rI_pI, if_pos ⟨rfl, rfl⟩]
    have q2 : zI Np 1 (48 + 6 * a + 2) = v := by rw [hNp, rI_pI, if_neg (by omega), rI_pI, if_pos ⟨rfl, rfl⟩]
    have hCp := hB.2.1.sm mR
    have n0p : zR Np 0 0 = 1 := (hB.2.2.1.sm nR).o.1
    obtain ⟨C, hC⟩ : ∃ C : Prop, C = (zI N 1 (48 + 6 * a + 5) = 0 ∧ ¬ zabs (16 * zI N 1 (48 + 6 * a) - (zI N 1 (48 + 6 * a + 1) + v)) < 1024) := ⟨_, rfl⟩
    have zz0 : zR M b 0 = b + 1 := by simp only [hB.2.1.s hb]
    have zzp : zR Mp b 0 = b + 1 := by simp only [hCp.s hb]
    have zb0 : zR M bb 0 = bb + 1 := by simp only [hB.2.1.b hB.1]
    have zb4 : zR M bb 4 = bb + 5 := by simp only [hB.2.1.b hB.1]
    have lS1 : zlen shC (b + 1) = 3 := (lnS hb).1
    have lB1 : zlen shC (bb + 1) = 3 := (lnB hB.1).1
    have roM := hB.2.1.ro hb ha3
    have roP := hCp.ro hb ha3
    have axM := hB.2.1.ax hB.1 ha3
    have mp0 : zI Mp (b + 9 + a) 0 = zI N 1 (48 + 6 * a) := by rw [mk _ _ (by omega)]; exact p0
    have mp5 : zI Mp (b + 9 + a) 5 = zI N 1 (48 + 6 * a + 5) := by rw [mk _ _ (by omega)]; exact p5
    have mb5 : zI Mp b 5 = zI N 1 0 := by rw [mk _ _ (by omega)]; exact h5
    have nq0 : zI Np 1 (48 + 6 * a) = zI N 1 (48 + 6 * a) := nk _ _ (by omega)
    have nq5 : zI Np 1 (48 + 6 * a + 5) = zI N 1 (48 + 6 * a + 5) := nk _ _ (by omega)
    have nqt : zI Np 1 0 = zI N 1 0 := nk _ _ (by omega)
    have hcl : (C → zlX8_tick_64 shC b bb (F + 1) (nI a) M = zlX8_tick_64 shC b bb F (nI (a + 1)) (zpI Mp (b + 9 + a) 5 (zI N 1 0))) ∧ (¬ C → zlX8_tick_64 shC b bb (F + 1) (nI a) M = zlX8_tick_64 shC b bb F (nI (a + 1)) Mp) := by
      have base : zlX8_tick_64 shC b bb (F + 1) (nI a) M = (if zI N 1 (48 + 6 * a + 5) = 0 then (if (if zabs (16 * zI N 1 (48 + 6 * a) - (zI N 1 (48 + 6 * a + 1) + v)) < 1024 then (0 : Int32) else 1) = 0 then zlX8_tick_64 shC b bb F (nI (a + 1)) Mp else zlX8_tick_64 shC b bb F (nI (a + 1)) (zpI Mp (b + 9 + a) 5 (zI N 1 0))) else zlX8_tick_64 shC b bb F (nI (a + 1)) Mp) := by
        simp only [zlX8_tick_64]
        unfold zbX8_tick_64 zjX8_tick_131
        rw [b6, if_neg hnle, zz0, lS1, rgd (in_a ha3 (by omega)), zb0, lB1, rgd (in_a ha3 (by omega)), nI_clamp (by omega), roM, axM, zb4, ht, rob, ← hMp, zzp, lS1, rgd (in_a ha3 (by omega)), roP, mp5, rgd (in_a ha3 (by omega)), offC, rob, mp0, m1, rgd (in_a ha3 (by omega)), mb5, rbd, nI_1]
      rw [base]
      refine ⟨fun c => ?_, fun c => ?_⟩
      · rw [hC] at c
        rw [if_pos c.1, if_neg c.2, if_neg (show ¬ (1 : Int32) = 0 by decide)]
      · rw [hC] at c
        by_cases c1 : zI N 1 (48 + 6 * a + 5) = 0
        · have c2 : zabs (16 * zI N 1 (48 + 6 * a) - (zI N 1 (48 + 6 * a + 1) + v)) < 1024 := Classical.byContradiction fun h => c ⟨c1, h⟩
          rw [if_pos c1, if_pos c2, if_pos rfl]
        · rw [if_neg c1]
    have hrf : (C → zlX12_tick_20 shM 0 (F' + 1) (nI a) N = zlX12_tick_20 shM 0 F' (nI (a + 1)) (zpI Np 1 (48 + 6 * a + 5) (zI N 1 0))) ∧ (¬ C → zlX12_tick_20 shM 0 (F' + 1) (nI a) N = zlX12_tick_20 shM 0 F' (nI (a + 1)) Np) := by
      have base : zlX12_tick_20 shM 0 (F' + 1) (nI a) N = (if zI N 1 (48 + 6 * a + 5) = 0 then (if zabs (16 * zI N 1 (48 + 6 * a) - (zI N 1 (48 + 6 * a + 1) + v)) < 1024 then zlX12_tick_20 shM 0 F' (nI (a + 1)) Np else zlX12_tick_20 shM 0 F' (nI (a + 1)) (zpI Np 1 (48 + 6 * a + 5) (zI N 1 0))) else zlX12_tick_20 shM 0 F' (nI (a + 1)) Np) := by
        simp only [zlX12_tick_20]
        unfold zbX12_tick_20 zjX12_tick_107
        rw [n22, if_neg hnle, angleM n0 ha3, rob, axisAt_2 n0 ha3, rob, axisAt_3 n0 ha3, rob, swungM hB.2.2.1 hB.2.2.2.1 hB.2.2.2.2 ha, rob, ← hv, sets_2 n0 ha3, rob, axisAt_1 (N := zpI N 1 (48 + 6 * a + 2) v) n0 ha3, rob, sets_1 (N := zpI N 1 (48 + 6 * a + 2) v) n0 ha3, rob, show zI (zpI N 1 (48 + 6 * a + 2) v) 1 (48 + 6 * a + 1) = zI N 1 (48 + 6 * a + 1) from by rw [rI_pI, if_neg (by omega)], ← hNp, axisAt_5 n0p ha3, rob, angleM n0p ha3, rob, size_eq, rob, n0p, show zlen shM 1 = 194 from rfl, rgd (by decide), show (0 : Int32).toNatClampNeg = 0 from rfl, sets_5 n0p ha3, rob, nq0, nq5, nqt, q1, nI_1]
      rw [base]
      refine ⟨fun c => ?_, fun c => ?_⟩
      · rw [hC] at c
        rw [if_pos c.1, if_neg c.2]
      · rw [hC] at c
        by_cases c1 : zI N 1 (48 + 6 * a + 5) = 0
        · have c2 : zabs (16 * zI N 1 (48 + 6 * a) - (zI N 1 (48 + 6 * a + 1) + v)) < 1024 := Classical.byContradiction fun h => c ⟨c1, h⟩
          rw [if_pos c1, if_pos c2]
        · rw [if_neg c1]
    clear zz0 zzp zb0 zb4 lS1 lB1 roM roP axM n0 n0p
    by_cases c : C
    · rw [hcl.1 c, hrf.1 c]
      have f1 : ∀ k j, ¬ (k = b + 9 + a ∧ (j = 1 ∨ j = 2 ∨ j = 5)) → zI (zpI Mp (b + 9 + a) 5 (zI N 1 0)) k j = zI M k j := fun k j h => by rw [rI_pI, if_neg (by omega)]; exact mk k j (by omega)
      have f2 : ∀ k j, ¬ (k = 1 ∧ (j = 48 + 6 * a + 1 ∨ j = 48 + 6 * a + 2 ∨ j = 48 + 6 * a + 5)) → zI (zpI Np 1 (48 + 6 * a + 5) (zI N 1 0)) k j = zI N k j := fun k j h => by rw [rI_pI, if_neg (by omega)]; exact nk k j (by omega)
      have j5 : zI (zpI Np 1 (48 + 6 * a + 5) (zI N 1 0)) 1 (48 + 6 * a + 5) = zI N 1 0 := by rw [rI_pI, if_pos ⟨rfl, rfl⟩]
      have hx2 : rSx (vSt (zpI Mp (b + 9 + a) 5 (zI N 1 0)) b) (zI (zpI Np 1 (48 + 6 * a + 5) (zI N 1 0)) 1) nA := by
        refine hx.rot hn3 (a := a) (fun k j hr g1 g2 => ?_) (fun j g1 g2 => f2 1 j (by omega)) ha ?_ ?_ ?_ ?_
        · have hrc := relS_c hr
          rw [vSt_at hr, vSt_at hr, f1 _ _ (by omega)]
        · rw [vSt_ro ha3 (by omega), rI_pI, if_neg (by omega), m1, rI_pI, if_neg (by omega), q1]
        · rw [vSt_ro ha3 (by omega), rI_pI, if_neg (by omega), m2, rI_pI, if_neg (by omega), q2]
        · rw [vSt_ro ha3 (by omega), rI_pI, if_pos ⟨rfl, rfl⟩, j5]
        · rw [j5]; exact h5p
      obtain ⟨M1, N1, w1, w2, w3, w4, w5, w6, w7, w8, w9⟩ := ih (a + 1) F F' (zpI Mp (b + 9 + a) 5 (zI N 1 0)) (zpI Np 1 (48 + 6 * a + 5) (zI N 1 0)) (by omega) (by omega) (by omega) (hB.sm mR nR (fun k j hk => f1 k j (by omega)) (fun k j hk => f2 k j (by omega))) hx2 (by rw [f1 _ _ (by omega), f2 _ _ (by omega)]; exact h5) (by rw [f2 _ _ (by omega)]; exact h5p)
      exact ⟨M1, N1, w1, w2, w3, w4.trans mR, w5.trans nR, fun k j h => by rw [w6 k j h]; exact f1 k j (by omega), fun k j h => by rw [w7 k j h]; exact f1 k j (by omega), by rw [w8]; exact f2 1 0 (by omega), fun k j h => by rw [w9 k j h]; exact f2 k j (by omega)⟩
    · rw [hcl.2 c, hrf.2 c]
      have hx2 : rSx (vSt Mp b) (zI Np 1) nA := by
        refine hx.rot hn3 (a := a) (fun k j hr g1 g2 => ?_) (fun j g1 g2 => nk 1 j (by omega)) ha ?_ ?_ ?_ ?_
        · have hrc := relS_c hr
          rw [vSt_at hr, vSt_at hr, mk _ _ (by omega)]
        · rw [vSt_ro ha3 (by omega), m1, q1]
        · rw [vSt_ro ha3 (by omega), m2, q2]
        · rw [vSt_ro ha3 (by omega), mp5, nq5]
        · rw [nq5]; exact g5
      obtain ⟨M1, N1, w1, w2, w3, w4, w5, w6, w7, w8, w9⟩ := ih (a + 1) F F' Mp Np (by omega) (by omega) (by omega) (hB.sm mR nR (fun k j hk => mk k j (by omega)) (fun k j hk => nk k j (by omega))) hx2 (by rw [mb5, nqt]) (by rw [nqt]; exact h5p)
      exact ⟨M1, N1, w1, w2, w3, w4.trans mR, w5.trans nR, fun k j h => by rw [w6 k j h]; exact mk k j (by omega), fun k j h => by rw [w7 k j h]; exact mk k j (by omega), w8.trans nqt, fun k j h => by rw [w9 k j h]; exact nk k j (by omega)⟩
