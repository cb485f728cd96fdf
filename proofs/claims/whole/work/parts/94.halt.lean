/-! Phase B: halt -/
theorem halt_rows {N : zMem} {n : Nat} (hN : rfN N) (hn : n ≤ 60) (h36 : zI N 0 36 = nI n) : ∀ (r k F : Nat) (Nx : zMem), k + r = n → r < F → Nx.2.2 = N.2.2 → (∀ c j, ¬ (c = 1 ∧ 130 ≤ j) → zI Nx c j = zI N c j) → (∀ i, i < k → zI Nx 1 (130 + i) = zI N 14 i) → ∃ N1, zlX12_halt_117 shM 0 F (nI k) Nx = some (nI n, N1) ∧ N1.2.2 = N.2.2 ∧ (∀ c j, ¬ (c = 1 ∧ (130 ≤ j ∨ j = 1)) → zI N1 c j = zI N c j) ∧ (∀ i, i < n → zI N1 1 (130 + i) = zI N 14 i) ∧ zI N1 1 1 = (if n = 0 then 0 else 1) := by
  intro r
  induction r with
  | zero =>
    intro k F Nx h1 hF hR hk hi
    obtain ⟨F, rfl⟩ : ∃ x, F = x + 1 := ⟨F - 1, by omega⟩
    have hN1 := hN.sm hR
    have e0 : zR Nx 0 0 = 1 := hN1.o.1
    have q : ∀ v : Int32, zI (zpI Nx 1 1 v) 0 36 = nI n := fun v => by rw [rI_pI, if_neg (by omega), hk 0 36 (by omega)]; exact h36
    simp only [zlX12_halt_117]
    unfold zbX12_halt_117 zjX12_halt_164
    rw [hk 0 36 (by omega), h36, if_pos (nI_le (by omega) (by omega)), e0]
    simp only [truth_eq, rob, rbd, show zlen shM 1 = 194 from rfl, rgd (show zin (1 : Int32) 194 = true by decide), show (1 : Int32).toNatClampNeg = 1 from rfl, q, show bI ((0 : Int32) ≠ 0) = 0 from rfl, show bI ((1 : Int32) ≠ 0) = 1 from rfl]
    clear e0
    by_cases c : n = 0
    · rw [if_pos (show nI n ≤ 0 by rw [c]; decide), if_pos c]
      exact ⟨_, rfl, hR, fun a j h => by rw [rI_pI, if_neg (by omega)]; exact hk a j (by omega), fun i hi2 => by omega, rfl⟩
    · rw [if_neg (nI_nle (by omega) (by omega)), if_neg c]
      exact ⟨_, rfl, hR, fun a j h => by rw [rI_pI, if_neg (by omega)]; exact hk a j (by omega), fun i hi2 => by rw [rI_pI, if_neg (by omega)]; exact hi i (by omega), rfl⟩
  | succ r ih =>
    intro k F Nx h1 hF hR hk hi
    obtain ⟨F, rfl⟩ : ∃ x, F = x + 1 := ⟨F - 1, by omega⟩
    have hN1 := hN.sm hR
    have e0 : zR Nx 0 0 = 1 := hN1.o.1
    have e35 : zR Nx 0 35 = 14 := by simp only [hN1.o]
    have ek : (130 : Int32) + nI k = nI (130 + k) := by rw [show (130 : Int32) = nI 130 from rfl, nI_add]
    simp only [zlX12_halt_117]
    unfold zbX12_halt_117
    rw [hk 0 36 (by omega), h36, if_neg (nI_ge (by omega) (by omega)), e35, e0, show zlen shM 14 = 64 from rfl, show zlen shM 1 = 194 from rfl, rgd (in_a (by omega) (by omega)), ek, rgd (in_a (by omega) (by omega)), nI_clamp (by omega), nI_clamp (by omega), rbd, nI_1]
    clear e35 e0 ek
    refine ih (k + 1) F _ (by omega) (by omega) hR (fun c j h => ?_) (fun i hi2 => ?_)
    · rw [rI_pI, if_neg (by omega)]; exact hk c j h
    · rw [rI_pI]
      by_cases g : i = k
      · rw [if_pos ⟨rfl, by omega⟩, hk 14 k (by omega), g]
      · rw [if_neg (by omega)]; exact hi i (by omega)
theorem B_halt_ok : B_halt Inv := by
  intro n M N hn hI
  have hU := Inv_up n M N hI
  have hI' := hI
  obtain ⟨bb, sb, it, nA, nB, h1, h2, h3, h4, h5, h6, h7, h8, h9⟩ := hI
  have hb : bb = 1 ∨ bb = 13 := by omega
  have hn3 : nA ≤ 3 := h6.1
  have e2 : zR M 0 2 = 28 := by simp only [h2.o]
  have e6 : zR M 0 6 = 179 := by simp only [h2.o]
  have e179 : zR M 179 0 = 180 := by simp only [h2.o]
  have e28 : zR M 28 1 = 30 := by simp only [h2.s st28]
  have n0 : zR N 0 0 = 1 := h3.o.1
  have n35 : zR N 0 35 = 14 := by simp only [h3.o]
  have hx8 := rSt_x.mp h8
  have s8 : zI M 28 8 = zI N 1 1 := by have := h8.2.2.2.2.2.2.2.2.2.1; rw [vSt_at rfl] at this; exact this
  have hon := h8.2.2.2.2.2.2.2.2.2.2.2
  have l1 : zlen shM 1 = 194 := rfl
  unfold zX11_halt zX12_halt zjX11_halt_20 zjX12_halt_20
  rw [e2, e28, e6, n0, l1, rgd (by decide), show (1 : Int32).toNatClampNeg = 1 from rfl, s8]
  rcases hon with ⟨h0, -⟩ | ⟨h0, hmv⟩
  · exact ⟨-1, M, N, if_pos h0, if_pos h0, hU⟩
  · have hnz : ¬ zI N 1 1 = 0 := by rw [h0]; decide
    rw [if_neg hnz, if_neg hnz, rgd (by decide), show (17 : Int32).toNatClampNeg = 17 from rfl]
    obtain ⟨k1, k2, k3, k4, k5, k6, k7, k8, k9, k10, k11, ⟨k12, k12'⟩, L, k13, k14, k15, k16⟩ := hmv
    have s9 : zI M 28 9 = zI N 1 17 := by rw [vSt_at rfl] at k12; exact k12
    rw [s9]
    rcases k16 with ⟨m1, m2, m3, E, rest, D, m4, m5, m6, m7, m8, m9, m10, m11, m12, m13, m14⟩ | ⟨m1, -⟩
    · rw [if_pos m1, if_neg (show ¬ zI N 1 17 = 1 by rw [m1]; decide)]
      have w12 : zI M 28 12 = zI N 1 20 := by rw [vSt_at rfl] at k9; exact k9
      have w6 : zI M 30 6 = zI N 1 10 := by rw [vSt_at rfl] at k3; exact k3
      have w7 : zI M 30 7 = zI N 1 11 := by rw [vSt_at rfl] at k5; exact k5
      have w4 : zI M 30 4 = zI N 1 3 := by rw [vSt_at rfl] at k1; exact k1
      have w11 : zI M 28 11 = zI N 1 16 := by rw [vSt_at rfl] at k7; exact k7
      have kk := k10
      have kg := k4
      have kj := k6
      have kw := k2
      have kd := k8
      unfold btw at kk kg kj kw kd
      obtain ⟨v, hv, ev⟩ := ax_ex (nA := 61) (x := zI N 1 20) ⟨by omega, by omega⟩
      obtain ⟨A, hA, eA⟩ := ax_ex (nA := 31) (x := zI N 1 10) ⟨by omega, by omega⟩
      obtain ⟨J, hJ, eJ⟩ := ax_ex (nA := 11) (x := zI N 1 11) ⟨by omega, by omega⟩
      have hJ1 : 1 ≤ J := by rw [eJ, nI_toInt (by omega)] at kj; omega
      have hL := (fL_ok (V := v) (A := A) (J := J) (by omega) (by omega) (by omega)).1
      obtain ⟨M1, t1, t2, t3, t4, t5⟩ := build_eq (M := M) (k := 179) (kg := 180) (V := v) (A := A) (J := J) (by omega) rfl (by omega) (by omega) hJ1 (by omega) e179 h5.2.2.2.1
      obtain ⟨N1, u1, u2, u3⟩ := lays_eq (N := N) (V := v) (A := A) (J := J) (by omega) (by omega) hJ1 (by omega) n35
      generalize hLL : fL v A J = Ld at *
      have h60 := hL.1
      have hps := psum_b hL Ld.length
      have h2' := h2.sm t3
      have h3' := h3.sm u3.1
      have f6 : zR M1 0 6 = 179 := by simp only [h2'.o]
      have f2 : zR M1 0 2 = 28 := by simp only [h2'.o]
      have f4 : zR M1 0 4 = 52 := by simp only [h2'.o]
      have f179 : zR M1 179 0 = 180 := by simp only [h2'.o]
      have g0 : zR N1 0 0 = 1 := h3'.o.1
      have g35 : zR N1 0 35 = 14 := by simp only [h3'.o]
      have x4 : zI M1 30 4 = zI N 1 3 := by rw [t4 30 4 (by omega) (by omega)]; exact w4
      have x11 : zI M1 28 11 = zI N 1 16 := by rw [t4 28 11 (by omega) (by omega)]; exact w11
      have y3 : zI N1 1 3 = zI N 1 3 := u3.2 1 3 (by omega) (by omega)
      have y16 : zI N1 1 16 = zI N 1 16 := u3.2 1 16 (by omega) (by omega)
      rw [rgd (show zin (20 : Int32) 194 = true by decide), rgd (show zin (10 : Int32) 194 = true by decide), rgd (show zin (11 : Int32) 194 = true by decide), show (20 : Int32).toNatClampNeg = 20 from rfl, show (10 : Int32).toNatClampNeg = 10 from rfl, show (11 : Int32).toNatClampNeg = 11 from rfl, w12, w6, w7, ev, eA, eJ, t1, rob, u1, rob, f6, microC hL f179 rfl t2, rob, sumM hL g35 u2, rob, f2, x4, x11, g0, l1, rgd (show zin (3 : Int32) 194 = true by decide), rgd (show zin (16 : Int32) 194 = true by decide), show (3 : Int32).toNatClampNeg = 3 from rfl, show (16 : Int32).toNatClampNeg = 16 from rfl, y3, y16]
      clear e2 e6 e179 e28 n0 n35 g35 f179
      have hsC : sameC M M1 := ⟨t3, fun k j hk => by
        by_cases g : k = 180
        · subst g
          obtain rfl : j = 0 := by omega
          rw [t5, h5.2.2.2.1]
        · exact t4 k j g (by omega)⟩
      have hsub : (zI N 1 3 - zI N 1 16).toInt = (zI N 1 3).toInt - (zI N 1 16).toInt := r_sub (by omega) (by omega)
      have hcnd : (iI (psum Ld Ld.length) ≤ zI N 1 3 - zI N 1 16) = (psum Ld Ld.length ≤ (zI N 1 3).toInt - (zI N 1 16).toInt) := by rw [r_le, hsub, iI_i (by omega) (by omega)]
      by_cases c : psum Ld Ld.length ≤ (zI N 1 3).toInt - (zI N 1 16).toInt
      · rw [if_pos (by rw [hcnd]; exact c), if_pos (by rw [hcnd]; exact c)]
        have eV1 : vSt M1 28 = vSt M 28 := vSt_same (fun k j i1 i2 i3 => t4 k j (by omega) (by omega))
        have eN1 : zI N1 1 = zI N 1 := by funext j; exact u3.2 1 j (by omega) (by omega)
        have h8' : rSt (vSt M1 28) (zI N1 1) nA (500 * n) := by rw [eV1, eN1]; exact h8
        have h9' : IvH M1 N1 nA (500 * n) := h9.sm (fun k j i1 i2 => t4 k j (by omega) (by omega)) (fun k j g => u3.2 k j (by omega) (by omega))
        obtain ⟨M2, N2, p1, p2, p3, p4, p5, p6, p7, p8⟩ := keep_act h2' h3' hn3 h9' h8'
        have h2'' := h2'.sm p4
        have h3'' := h3'.sm p5
        have i2 : zR M2 0 2 = 28 := by simp only [h2''.o]
        have i6 : zR M2 0 6 = 179 := by simp only [h2''.o]
        have i28 : zR M2 28 1 = 30 := by simp only [h2''.s st28]
        have i30 : zR M2 30 2 = 33 := by simp only [h2''.s st28]
        have i33 : zR M2 33 0 = 34 := by simp only [h2''.s st28]
        have i179 : zR M2 179 0 = 180 := by simp only [h2''.o]
        have j0 : zR N2 0 0 = 1 := h3''.o.1
        have r179 : zI M2 179 1 = nI Ld.length := by rw [p6 179 1 (by omega)]; exact t2.1
        have r180 : ∀ i, i ≤ Ld.length → zI M2 180 i = iI (psum Ld i) := fun i hi => by rw [p6 180 i (by omega)]; exact t2.2 i hi
        have q36 : zI N2 0 36 = nI Ld.length := by rw [p7 0 36 (by omega) (by omega)]; exact u2.1
        have q14 : ∀ i, i < Ld.length → zI N2 14 i = iI (Ld.getD i 0) := fun i hi => by rw [p7 14 i (by omega) (by omega)]; exact u2.2 i hi
        have qN : ∀ j, zI N2 1 j = zI N 1 j := fun j => by rw [p7 1 j (by omega) (by omega), eN1]
        have qM : ∀ k j, k < 52 → zI M2 k j = zI M k j := fun k j hk => by rw [p6 k j (by omega), t4 k j (by omega) (by omega)]
        rw [f4, p1, rob, i2, i6, p2, rob]
        -- the reference
        generalize hNy : zpI (zpI (zpI (zpI N2 1 23 0) 1 17 1) 1 18 (nI Ld.length)) 1 19 (zI N 1 15) = Ny
        have ryy : Ny.2.2 = N2.2.2 := by rw [← hNy]; rfl
        have kyy : ∀ c' j, ¬ (c' = 1 ∧ (j = 23 ∨ j = 17 ∨ j = 18 ∨ j = 19)) → zI Ny c' j = zI N2 c' j := fun c' j h => by
          rw [← hNy, rI_pI, if_neg (by omega), rI_pI, if_neg (by omega), rI_pI, if_neg (by omega), rI_pI, if_neg (by omega)]
        obtain ⟨N3, z1, z2, z3, z4, z5⟩ := halt_rows (N := Ny) (n := Ld.length) (h3''.sm ryy) h60 (by rw [kyy 0 36 (by omega)]; exact q36) Ld.length 0 zF Ny (by omega) (by unfold zF; omega) rfl (fun _ _ _ => rfl) (fun i hi => by omega)
        have hN3 : (zgd (zin (23 : Int32) (zlen shM (zR N2 0 0))) (zbd (zpI N2 (zR N2 0 0) ((23 : Int32).toNatClampNeg) (0 : Int32)) fun M_38 => zgd (zin (17 : Int32) (zlen shM (zR M_38 0 0))) (zbd (zpI M_38 (zR M_38 0 0) 17 (1 : Int32)) fun M_41 => zgd (zin (18 : Int32) (zlen shM (zR M_41 0 0))) (zbd (zpI M_41 (zR M_41 0 0) ((18 : Int32).toNatClampNeg) (zI M_41 0 36)) fun M_44 => zgd (zin (15 : Int32) (zlen shM (zR M_44 0 0))) (zgd (zin (19 : Int32) (zlen shM (zR M_44 0 0))) (zbd (zpI M_44 (zR M_44 0 0) ((19 : Int32).toNatClampNeg) (zI M_44 (zR M_44 0 0) ((15 : Int32).toNatClampNeg))) fun M_49 => zlX12_halt_117 shM 0 zF (0 : Int32) M_49)))))) = some (nI Ld.length, N3) := by
          have a36 : zI (zpI (zpI N2 1 23 0) 1 17 1) 0 36 = nI Ld.length := q36
          have a15 : zI (zpI (zpI (zpI N2 1 23 0) 1 17 1) 1 18 (nI Ld.length)) 1 15 = zI N 1 15 := qN 15
          simp only [rbd, rR_pI, j0, l1, clL, rgd (show zin (23 : Int32) 194 = true by decide), rgd (show zin (17 : Int32) 194 = true by decide), rgd (show zin (18 : Int32) 194 = true by decide), rgd (show zin (15 : Int32) 194 = true by decide), rgd (show zin (19 : Int32) 194 = true by decide), a36, a15]
          rw [hNy]
          exact z1
        rw [hN3]
        clear hN3 f2 f4 f6 g0
        have gN : ∀ j, j < 130 → ¬ (j = 1 ∨ j = 17 ∨ j = 18 ∨ j = 19 ∨ j = 23) → zI N3 1 j = zI N 1 j := fun j j1 j2 => by rw [z3 1 j (by omega), kyy 1 j (by omega)]; exact qN j
        have y17 : zI N3 1 17 = 1 := by rw [z3 1 17 (by omega), ← hNy]; rfl
        have y18 : zI N3 1 18 = nI Ld.length := by rw [z3 1 18 (by omega), ← hNy]; rfl
        have y19 : zI N3 1 19 = zI N 1 15 := by rw [z3 1 19 (by omega), ← hNy]; rfl
        have y23 : zI N3 1 23 = 0 := by rw [z3 1 23 (by omega), ← hNy]; rfl
        have hrest0 := hx8.2.2.rest
        have rest3 : ∀ V' : Nat → Nat → Int32, (∀ k j, (k = 0 ∧ (j = 6 ∨ j = 7)) ∨ 9 ≤ k → V' k j = vSt M 28 k j) → V' 0 4 = 0 → rRest V' (zI N3 1) nA := fun V' hV h04 => by
          obtain ⟨r1, r2, r3, r4, r5, r6, r7⟩ := hrest0
          have ee0 : (0 : Int32).toInt = 0 := rfl
          refine ⟨?_, ?_, ?_, ?_, fun i hi hi2 => ?_, fun i a hi ha => ?_, fun a ha => ?_⟩
          · rw [hV 0 6 (by omega), gN 21 (by omega) (by omega)]; exact r1
          · rw [hV 0 7 (by omega), gN 22 (by omega) (by omega)]; exact r2
          · rw [h04, y23]
          · rw [y23]; exact ⟨by decide, by decide⟩
          · rw [y23, ee0] at hi2; omega
          · rw [y23, ee0] at hi; omega
          · obtain ⟨g1, g2, g3, g4, g5⟩ := r7 a ha
            rw [gN _ (by omega) (by omega), gN _ (by omega) (by omega), gN _ (by omega) (by omega), gN _ (by omega) (by omega)]
            exact ⟨fun j hj => by rw [hV _ _ (by omega), gN _ (by omega) (by omega)]; exact g1 j hj, g2, g3, g4, g5⟩
        have fin : ∀ M4 : zMem, M4.2.2 = M2.2.2 → (∀ k j, ¬ (k = 28 ∧ (j = 4 ∨ 8 ≤ j)) → k ≠ 33 → k ≠ 34 → zI M4 k j = zI M2 k j) → zI M4 34 0 = 0 → zI M4 28 4 = 0 → zI M4 28 8 = zI N3 1 1 → (zI M4 28 9 = 0 ∨ zI M4 28 9 = 1) → ((zI N3 1 1 = 0 ∧ zI M4 28 10 = 0) ∨ (zI N3 1 1 = 1 ∧ rMv (vSt M4 28) (zI N3 1) nA)) → Inv (n + 1) M4 N3 := by
          intro M4 hR4 hk4 h34 q4 q8 q9 q10
          have hG2 := p8 ⟨by rw [hsC.2 178 0 (by omega)]; exact h5.2.2.1, t5, fun b hb2 => by rw [hsC.2 (b + 6) 0 (by unfold stB at hb2; omega)]; exact h5.2.2.2.2 b hb2⟩
          refine Inv_of h1 h2 h3 h4 h5 h6 h7 (hR4.trans (p4.trans t3)) (z2.trans (ryy.trans (p5.trans u3.1))) (fun k j hk => ?_) (fun k j hk => ?_) ?_ ?_ ?_
          · rw [hk4 k j (by omega) (by omega) (by omega)]; exact qM k j (by omega)
          · rw [z3 k j (by omega), kyy k j (by omega), p7 k j (by omega) (by omega), u3.2 k j (by omega) (by omega)]
          · refine ⟨by rw [hk4 178 0 (by omega) (by omega) (by omega)]; exact hG2.1, by rw [hk4 180 0 (by omega) (by omega) (by omega)]; exact hG2.2.1, fun d hd => ?_⟩
            by_cases g : d = 28
            · subst g; exact h34
            · have hdd := stB_d hd st28 g
              rw [hk4 _ _ (by omega) (by omega) (by omega)]; exact hG2.2.2 d hd
          · refine rSt_x.mpr ⟨?_, ?_, (rest3 (vSt M4 28) (fun k j hk => ?_) (by rw [vSt_at rfl]; exact q4)).x (by rw [vSt_at rfl]; exact q8) (by rw [vSt_at rfl]; exact q9) (by rw [vSt_at rfl]; exact q10)⟩
            · rw [vSt_at rfl, gN 0 (by omega) (by omega)]
              have := hx8.1
              rw [vSt_at rfl] at this
              rw [← this]
              show zI M4 28 5 = zI M 28 5
              rw [hk4 28 5 (by omega) (by omega) (by omega)]; exact qM 28 5 (by omega)
            · rw [gN 0 (by omega) (by omega)]; exact hx8.2.1.w (by omega) (by omega)
            · unfold vSt
              by_cases hr : relS k j = true
              · have hrc := relS_c hr
                rw [if_pos hr, if_pos hr, hk4 _ _ (by omega) (by omega) (by omega), qM _ _ (by omega)]
              · rw [if_neg hr, if_neg hr]
          · exact (p3.w (by omega)).sm (fun k j g1 g2 => hk4 k j (by omega) (by omega) (by omega)) (fun k j g => by rw [z3 k j (by omega), kyy k j (by omega)])
        unfold zX8_haltBy
        rw [r179]
        by_cases cl : Ld.length = 0
        · rw [if_pos (show nI Ld.length = 0 by rw [cl]; rfl)]
          unfold zX8_stop
          simp only [rbd, rob, rR_pI, i6]
          refine ⟨nI Ld.length, zpI (zpI (zpI (zpI M2 28 8 0) 28 9 0) 28 10 0) 28 4 0, N3, ?_, rfl, fin (zpI (zpI (zpI (zpI M2 28 8 0) 28 9 0) 28 10 0) 28 4 0) rfl (fun k j g1 g2 g3 => ?_) ?_ rfl ?_ (Or.inl rfl) (Or.inl ⟨?_, rfl⟩)⟩
          · rw [rI_pI, if_neg (by omega), rI_pI, if_neg (by omega), rI_pI, if_neg (by omega), rI_pI, if_neg (by omega), r179]
          · rw [rI_pI, if_neg (by omega), rI_pI, if_neg (by omega), rI_pI, if_neg (by omega), rI_pI, if_neg (by omega)]
          · rw [rI_pI, if_neg (by omega), rI_pI, if_neg (by omega), rI_pI, if_neg (by omega), rI_pI, if_neg (by omega), qM 34 0 (by omega)]
            exact h5.2.2.2.2 28 st28
          · rw [z5, if_pos cl]; rfl
          · rw [z5, if_pos cl]
        · rw [if_neg (nI_ne0 (by omega) (by omega)), i28, i30]
          obtain ⟨M5, c1, c2, c3, c4, c5⟩ := copyP (M := M2) (k0 := 33) (k1 := 179) (g0 := 34) (g1 := 180) i33 i179 rfl rfl (by omega) (by omega) (by omega) (by omega) (by omega)
          have d179 : zI (zpI M5 28 9 1) 179 1 = nI Ld.length := by rw [rI_pI, if_neg (by omega), c5 179 1 (by omega) (by omega)]; exact r179
          have b6 : zR M5 0 6 = 179 := by unfold zR; rw [c4]; exact i6
          rw [c1, rob]
          simp only [rbd, rob, rR_pI, b6]
          rw [d179]
          clear i2 i6 i28 i30 i33 i179 j0 b6
          have kz : ∀ k j, ¬ (k = 28 ∧ (j = 4 ∨ 8 ≤ j)) → k ≠ 33 → k ≠ 34 → zI (zpI (zpI (zpI M5 28 9 1) 28 10 (nI Ld.length)) 28 4 0) k j = zI M2 k j := fun k j g1 g2 g3 => by
            rw [rI_pI, if_neg (by omega), rI_pI, if_neg (by omega), rI_pI, if_neg (by omega), c5 k j (by omega) (by omega)]
          have k28 : ∀ j, ¬ (j = 4 ∨ j = 9 ∨ j = 10) → zI (zpI (zpI (zpI M5 28 9 1) 28 10 (nI Ld.length)) 28 4 0) 28 j = zI M 28 j := fun j g => by
            rw [rI_pI, if_neg (by omega), rI_pI, if_neg (by omega), rI_pI, if_neg (by omega), c5 28 j (by omega) (by omega)]; exact qM 28 j (by omega)
          have k34 : ∀ i, i ≤ Ld.length → zI (zpI (zpI (zpI M5 28 9 1) 28 10 (nI Ld.length)) 28 4 0) 34 i = iI (psum Ld i) := fun i hi => by
            rw [rI_pI, if_neg (by omega), rI_pI, if_neg (by omega), rI_pI, if_neg (by omega), c3 i (by omega)]; exact r180 i hi
          have k33 : zI (zpI (zpI (zpI M5 28 9 1) 28 10 (nI Ld.length)) 28 4 0) 33 1 = nI Ld.length := by
            rw [rI_pI, if_neg (by omega), rI_pI, if_neg (by omega), rI_pI, if_neg (by omega), c2]; exact r179
          refine ⟨nI Ld.length, zpI (zpI (zpI M5 28 9 1) 28 10 (nI Ld.length)) 28 4 0, N3, ?_, rfl, fin (zpI (zpI (zpI M5 28 9 1) 28 10 (nI Ld.length)) 28 4 0) c4 kz ?_ rfl ?_ (Or.inr rfl) (Or.inr ⟨by rw [z5, if_neg cl], ?_⟩)⟩
          · rw [rI_pI, if_neg (by omega), rI_pI, if_neg (by omega), d179]
          · rw [k34 0 (by omega)]; rfl
          · rw [k28 8 (by omega), s8, h0, z5, if_neg cl]
          · have vk : ∀ k j, relS k j = true → k ≠ 0 → k ≠ 5 → k ≠ 6 → vSt (zpI (zpI (zpI M5 28 9 1) 28 10 (nI Ld.length)) 28 4 0) 28 k j = vSt M 28 k j := fun k j hr g1 g2 g3 => by
              have hrc := relS_c hr
              rw [vSt_at hr, vSt_at hr, kz _ _ (by omega) (by omega) (by omega), qM _ _ (by omega)]
            have hW60 : (zI N 1 3).toInt ≤ 60000 := kw.2
            obtain ⟨q1, q2, q3⟩ := m13
            have hD : D ≤ 70000 := by
              have h60L := k13.1
              have hpL := psum_b k13 L.length
              omega
            unfold rMv
            rw [vk 2 4 rfl (by omega) (by omega) (by omega), vk 2 6 rfl (by omega) (by omega) (by omega), vk 2 7 rfl (by omega) (by omega) (by omega), gN 3 (by omega) (by omega), gN 10 (by omega) (by omega), gN 11 (by omega) (by omega), gN 16 (by omega) (by omega), gN 20 (by omega) (by omega), gN 15 (by omega) (by omega), y17, y18, y19]
            rw [vSt_at rfl, vSt_at rfl, vSt_at rfl, vSt_at rfl, vSt_at rfl]
            refine ⟨k1, k2, k3, k4, k5, k6, ?_, k8, ?_, k10, fun a ha => ?_, ⟨rfl, k12'⟩, Ld, hL, fun k hk => ?_, ?_, Or.inr ⟨rfl, by rw [iI_n], fun k hk => ?_, D, D, m8, m8, m9, hD, Int.le_refl _, by omega, ?_, ?_⟩⟩
            · show zI _ 28 11 = _
              rw [k28 11 (by omega)]; exact w11
            · show zI _ 28 12 = _
              rw [k28 12 (by omega)]; exact w12
            · rw [vk 3 a (by unfold relS; simp; omega) (by omega) (by omega) (by omega), vk 4 a (by unfold relS; simp; omega) (by omega) (by omega) (by omega), gN _ (by omega) (by omega), gN _ (by omega) (by omega)]
              exact k11 a ha
            · rw [vSt_at (by unfold relS; simp; omega)]
              exact k34 k hk
            · show zI _ 33 1 = _
              rw [k33, iI_n]
            · rw [z4 k hk, kyy 14 k (by omega)]; exact q14 k hk
            · show nI Ld.length = _
              rw [iI_n]; congr 1; omega
            · rw [show (D + (Ld.length : Int) - D).toNat = Ld.length by omega]; omega
      · rw [if_neg (by rw [hcnd]; exact c), if_neg (by rw [hcnd]; exact c)]
        exact ⟨-1, M1, N1, rfl, rfl, Inv_same hI' hsC u3.N⟩
    · exact ⟨-1, M, N, if_neg (show ¬ zI N 1 17 = 0 by rw [m1]; decide), if_pos m1, hU⟩
