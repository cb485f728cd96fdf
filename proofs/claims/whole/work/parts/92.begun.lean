/-! Phase B: begin and begins -/
def rRest (V : Nat → Nat → Int32) (f : Nat → Int32) (nA : Nat) : Prop :=
  V 0 6 = f 21 ∧ V 0 7 = f 22 ∧ V 0 4 = f 23 ∧ btw (f 23) 0 8 ∧
  (∀ i : Nat, i < 24 → (i : Int) < 3 * (f 23).toInt → V 7 i = f (24 + i)) ∧
  (∀ i a : Nat, (i : Int) < (f 23).toInt → a < nA → btw (f (24 + 3 * i + a)) (-30000) 30000) ∧
  (∀ a, a < nA → (∀ j, j < 6 → V (9 + a) j = f (48 + 6 * a + j)) ∧ btw (f (48 + 6 * a)) (-30000) 30000 ∧ btw (f (48 + 6 * a + 3)) (-2000) 2000 ∧ btw (f (48 + 6 * a + 4)) 0 2048 ∧ 0 ≤ (f (48 + 6 * a + 5)).toInt)
theorem rSx.rest {V : Nat → Nat → Int32} {f : Nat → Int32} {nA : Nat} (h : rSx V f nA) : rRest V f nA := ⟨h.1, h.2.1, h.2.2.1, h.2.2.2.1, h.2.2.2.2.1, h.2.2.2.2.2.1, h.2.2.2.2.2.2.1⟩
theorem rRest.x {V : Nat → Nat → Int32} {f : Nat → Int32} {nA : Nat} (h : rRest V f nA) (h8 : V 0 8 = f 1) (h9 : V 0 9 = 0 ∨ V 0 9 = 1) (h10 : (f 1 = 0 ∧ V 0 10 = 0) ∨ (f 1 = 1 ∧ rMv V f nA)) : rSx V f nA := ⟨h.1, h.2.1, h.2.2.1, h.2.2.2.1, h.2.2.2.2.1, h.2.2.2.2.2.1, h.2.2.2.2.2.2, h8, h9, h10⟩
/-- the rest of a state depends on little -/
theorem rRest.cg {V V' : Nat → Nat → Int32} {f f' : Nat → Int32} {nA : Nat} (h : rRest V f nA) (h3 : nA ≤ 3) (eV : ∀ k j, (k = 0 ∧ (j = 4 ∨ j = 6 ∨ j = 7)) ∨ k = 7 ∨ 9 ≤ k → V' k j = V k j) (e : ∀ j, 21 ≤ j → j < 66 → f' j = f j) : rRest V' f' nA := by
  obtain ⟨h1, h2, h4, h5, h6, h7, h8⟩ := h
  unfold rRest
  rw [eV 0 6 (by omega), eV 0 7 (by omega), eV 0 4 (by omega), e 21 (by omega) (by omega), e 22 (by omega) (by omega), e 23 (by omega) (by omega)]
  refine ⟨h1, h2, h4, h5, fun i hi hi2 => by rw [eV 7 i (by omega), e _ (by omega) (by omega)]; exact h6 i hi hi2, fun i a hi ha => by rw [e _ (by omega) (by unfold btw at h5; omega)]; exact h7 i a hi ha, fun a ha => ?_⟩
  obtain ⟨g1, g2, g3, g4, g5⟩ := h8 a ha
  rw [e _ (by omega) (by omega), e _ (by omega) (by omega), e _ (by omega) (by omega), e _ (by omega) (by omega)]
  exact ⟨fun j hj => by rw [eV _ _ (by omega), e _ (by omega) (by omega)]; exact g1 j hj, g2, g3, g4, g5⟩
theorem begin_eq {M N : zMem} {bb sb it nA nB b tb : Nat} {x y z : Int32} (hB : Bx M N bb sb it nA nB) (hb : stB b) (htb : tb = 183 ∨ tb = b + 8) (hto : ∀ a, a < nA → zI M tb a = on3 x y z a) (hok : okG x y z nA) (hro : ∀ a, a < nA → zI M (b + 9 + a) 0 = zI N 1 (48 + 6 * a) ∧ btw (zI N 1 (48 + 6 * a)) (-30000) 30000) (hG : zI M (b + 6) 0 = 0) : ∃ (r : Int32) (M1 N1 : zMem), zX8_begin shC b tb bb M = some M1 ∧ zX12_plans shM 0 x y z N = some (r, N1) ∧ M1.2.2 = M.2.2 ∧ onlyQ N N1 ∧ zI M1 (b + 6) 0 = 0 ∧ (∀ k j, ¬ (k = b ∧ 8 ≤ j) → ¬ (b + 2 ≤ k ∧ k ≤ b + 6) → zI M1 k j = zI M k j) ∧ ((r = 0 ∧ ∀ j, zI M1 b j = zI M b j) ∨ (r = 1 ∧ zX12_planTicks shM 0 N1 = some (zI M1 b 10) ∧ ∀ N2, N2.2.2 = N.2.2 → (∀ k j, k = 14 ∨ k = 15 ∨ (k = 0 ∧ 36 ≤ j ∧ j ≤ 44) → zI N2 k j = zI N1 k j) → (∀ a, a < nA → zI N2 1 (48 + 6 * a) = zI N 1 (48 + 6 * a)) → rRest (vSt M1 b) (zI N2 1) nA → ∃ N3, zX12_begins shM 0 N2 = some N3 ∧ N3.2.2 = N.2.2 ∧ (∀ c j, c ≠ 1 → zI N3 c j = zI N2 c j) ∧ zI N3 1 0 = zI N2 1 0 ∧ rSx (vSt M1 b) (zI N3 1) nA ∧ zI N3 1 1 = 1)) := by
  have hn3 : nA ≤ 3 := hB.2.2.2.1.1
  have hbb : bb = 1 ∨ bb = 13 := hB.1
  have hC := hB.2.1
  have hbr : 28 ≤ b ∧ b ≤ 162 := by unfold stB at hb; omega
  have z0 : zR M b 0 = b + 1 := by simp only [hC.s hb]
  have z1 : zR M b 1 = b + 2 := by simp only [hC.s hb]
  have hmv : mvB M (b + 2) := by
    have := hC.s hb
    exact ⟨by simp only [this], by simp only [this], by simp only [this], by simp only [this]⟩
  have hat : ∀ a, a < nA → zI M (b + 9 + a) 0 = zI N 1 (48 + 6 * a) ∧ btw (zI N 1 (48 + 6 * a)) (-30000) 30000 ∧ btw (on3 x y z a) (-30000) 30000 := fun a ha => by
    exact ⟨(hro a ha).1, (hro a ha).2, hok a ha⟩
  have hltb : zlen shC tb = 3 := by
    rcases htb with rfl | rfl
    · rfl
    · exact (lnS hb).2.2.2.2.2
  obtain ⟨r, M5, N1, d, p1, p2, p3, p4, p5, p6, p7⟩ := plan_eq (mb := b + 2) (rb := b + 1) (tb := tb) (rk := fun a => b + 9 + a) (x := x) (y := y) (z := z) hB hmv (by omega) (lnS hb).2.1 (lnS hb).2.2.1 (lnS hb).2.2.2.1 (lnS hb).1 hltb (fun a ha => ⟨hC.ro hb ha, by omega⟩) (by omega) hto hG hat
  clear hltb
  have p3' : ∀ k j, ¬ (b + 2 ≤ k ∧ k ≤ b + 6) → zI M5 k j = zI M k j := fun k j h => p3.2 k j (by omega)
  unfold zX8_begin zjX8_begin_47
  rw [z0, z1, p1, rob2]
  rcases p6 with ⟨rfl, hP⟩ | ⟨rfl, -⟩
  · rw [if_neg (by decide)]
    simp only [rbd]
    obtain ⟨ld, W, S, A, J, L, rest, E, a1, a2, a3, a4, a5, a6, a7, a8, a9, a10, a11, a12, a13, ⟨b1, b2, b3, b4, b5, b6, b7, b8, b9⟩, ⟨c1, c2, c3, c4, c5, c6, c7, c8, c9⟩⟩ := hP
    have h60 := a11.1
    have hps := psum_b a11 L.length
    have q1 : zR (zpI (zpI M5 b 8 1) b 9 0) b 1 = b + 2 := by show M5.2.2 b 1 = b + 2; rw [p3.1]; exact z1
    have m2 : zR (zpI (zpI M5 b 8 1) b 9 0) (b + 2) 2 = b + 5 := by show M5.2.2 (b + 2) 2 = b + 5; rw [p3.1]; exact hmv.2.2.1
    have htk : zX4_ticks shC (b + 2) (zpI (zpI M5 b 8 1) b 9 0) = some (iI (2 * L.length + E)) := by
      unfold zX4_ticks
      rw [m2, rI_pI, if_neg (by omega), rI_pI, if_neg (by omega), rI_pI, if_neg (by omega), rI_pI, if_neg (by omega), show zI M5 (b + 5) 1 = nI L.length from b8.1, b7, iI_n, show (2 : Int32) = iI 2 from rfl, iI_mul, iI_add]
    rw [q1, htk, rob]
    clear q1 m2 z0 z1
    generalize hM1 : zpI (zpI (zpI (zpI (zpI M5 b 8 1) b 9 0) b 10 (iI (2 * L.length + E))) b 11 0) b 12 0 = M1
    have k1 : ∀ k j, ¬ (k = b ∧ 8 ≤ j) → zI M1 k j = zI M5 k j := fun k j h => by
      rw [← hM1, rI_pI, if_neg (by omega), rI_pI, if_neg (by omega), rI_pI, if_neg (by omega), rI_pI, if_neg (by omega), rI_pI, if_neg (by omega)]
    have s8 : zI M1 b 8 = 1 := by rw [← hM1, rI_pI, if_neg (by omega), rI_pI, if_neg (by omega), rI_pI, if_neg (by omega), rI_pI, if_neg (by omega), rI_pI, if_pos ⟨rfl, rfl⟩]
    have s9 : zI M1 b 9 = 0 := by rw [← hM1, rI_pI, if_neg (by omega), rI_pI, if_neg (by omega), rI_pI, if_neg (by omega), rI_pI, if_pos ⟨rfl, rfl⟩]
    have s10 : zI M1 b 10 = iI (2 * L.length + E) := by rw [← hM1, rI_pI, if_neg (by omega), rI_pI, if_neg (by omega), rI_pI, if_pos ⟨rfl, rfl⟩]
    have s11 : zI M1 b 11 = 0 := by rw [← hM1, rI_pI, if_neg (by omega), rI_pI, if_pos ⟨rfl, rfl⟩]
    have s12 : zI M1 b 12 = 0 := by rw [← hM1, rI_pI, if_pos ⟨rfl, rfl⟩]
    refine ⟨1, M1, N1, rfl, p2, by rw [← hM1]; exact p3.1, p4, by rw [k1 _ _ (by omega)]; exact p5, fun k j h1 h2 => by rw [k1 k j h1]; exact p3' k j h2, Or.inr ⟨rfl, by rw [s10]; exact planTicksM c8.1 c7, fun N2 e1 e2 e3 hR2 => ?_⟩⟩
    obtain ⟨N3, t1, t2, t3, ⟨u1, u3, u10, u11, u12, u13, u14, u15, u16, u17, u20⟩, t5, t6, t7⟩ := begins_eq (N := N2) (n := L.length) (hB.2.2.1.sm e1) h60 (by rw [e2 0 36 (by omega)]; exact c8.1)
    refine ⟨N3, t1, t2.trans e1, t3, t7 0 (by omega), ?_, u1⟩
    have hR3 : rRest (vSt M1 b) (zI N3 1) nA := hR2.cg hn3 (fun _ _ _ => rfl) (fun j j1 j2 => t7 j (by omega))
    rw [e2 0 39 (by omega), c2] at u3
    rw [e2 0 41 (by omega), c4] at u10
    rw [e2 0 42 (by omega), c5] at u11
    rw [e2 0 36 (by omega), c8.1] at u12
    rw [e2 0 43 (by omega), c6] at u13
    rw [e2 0 44 (by omega), c7] at u14
    have vb : ∀ j, 4 ≤ j → j < 13 → vSt M1 b 0 j = zI M1 b j := fun j j1 j2 => vSt_at (by unfold relS; simp; omega)
    have v2 : ∀ j, 3 ≤ j → j < 10 → vSt M1 b 2 j = zI M5 (b + 2) j := fun j j1 j2 => by rw [vSt_at (by unfold relS; simp; omega), k1 _ _ (by omega)]
    refine hR3.x ?_ (Or.inl ?_) (Or.inr ⟨u1, ?_⟩)
    · rw [vb 8 (by omega) (by omega), s8, u1]
    · rw [vb 9 (by omega) (by omega), s9]
    · unfold rMv
      rw [v2 4 (by omega) (by omega), v2 6 (by omega) (by omega), v2 7 (by omega) (by omega), v2 8 (by omega) (by omega), v2 9 (by omega) (by omega), vb 9 (by omega) (by omega), vb 10 (by omega) (by omega), vb 11 (by omega) (by omega), vb 12 (by omega) (by omega), s9, s10, s11, s12, u3, u10, u11, u12, u13, u14, u15, u16, u17, u20, b2, b4, b5, b6, b7]
      have hbt : ∀ (n : Nat) (lo hi : Int), lo ≤ n → (n : Int) ≤ hi → n < 2147483648 → btw (nI n) lo hi := fun n lo hi h1 h2 h3 => by unfold btw; rw [nI_toInt (by omega)]; exact ⟨h1, h2⟩
      refine ⟨rfl, hbt W _ _ (by omega) (by omega) (by omega), rfl, hbt A _ _ (by omega) (by omega) (by omega), rfl, hbt J _ _ (by omega) (by omega) (by omega), rfl, ⟨by decide, by decide⟩, rfl, ⟨by decide, by decide⟩, fun a ha => ?_, ⟨rfl, by omega⟩, L, a11, fun k hk => ?_, ?_, Or.inl ⟨rfl, by rw [iI_n], fun k hk => ?_, E, rest, 0, rfl, rfl, rfl, rfl, rfl, by omega, ?_, by rw [Int.sub_zero], ?_, a13, ?_⟩⟩
      · have h15 := c9 a (by omega)
        rw [vSt_at (by unfold relS; simp; omega), vSt_at (by unfold relS; simp; omega), k1 _ _ (by omega), k1 _ _ (by omega), (t5 a (by omega)).1, (t5 a (by omega)).2, e3 a ha, e2 15 a (by omega), h15]
        have hd := p7 a (by omega)
        rw [if_pos ha] at hd
        have hh := hat a ha
        have ha4 := a4 a (by omega)
        refine ⟨?_, ?_, hh.2.1, ?_⟩
        · have := (b9 a (by omega)).1
          exact this.trans hh.1
        · exact (b9 a (by omega)).2
        · rw [iI_i (by omega) (by omega), nI_toInt (by omega)]
          have h3 := hh.2.2
          unfold btw at h3
          omega
      · rw [vSt_at (by unfold relS; simp; omega), k1 _ _ (by omega)]
        exact b8.2 k hk
      · rw [vSt_at rfl, k1 _ _ (by omega)]
        rw [show zI M5 (b + 5) 1 = nI L.length from b8.1, iI_n]
      · rw [t6 k hk, e2 14 k (by omega)]
        exact c8.2 k hk
      · obtain ⟨q1, q2, q3⟩ := a13
        omega
      · rw [nI_toInt (by omega)]; exact a12
      · rw [show (0 : Int32).toInt = 0 from rfl, fG_0]
  · rw [if_pos rfl]
    exact ⟨0, M5, N1, rfl, p2, p3.1, p4, p5, fun k j _ h2 => p3' k j h2, Or.inl ⟨rfl, fun j => p3' b j (by omega)⟩⟩
