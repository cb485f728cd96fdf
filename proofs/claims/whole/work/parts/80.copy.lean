/-! Phase B: states copied -/
theorem relS_c {k j : Nat} (h : relS k j = true) : (k = 0 ∧ 4 ≤ j ∧ j < 13) ∨ (k = 2 ∧ 3 ≤ j ∧ j < 10) ∨ ((k = 3 ∨ k = 4) ∧ j < 3) ∨ (k = 5 ∧ j = 1) ∨ (k = 6 ∧ j < 61) ∨ (k = 7 ∧ j < 24) ∨ (9 ≤ k ∧ k < 12 ∧ j < 6) := by
  unfold relS at h
  simp only [Bool.or_eq_true, Bool.and_eq_true, beq_iff_eq, decide_eq_true_eq] at h
  omega
/-- place by place from block s to block d -/
theorem stB_d {b b' : Nat} (h : stB b) (h' : stB b') (hne : b ≠ b') : b + 12 ≤ b' ∨ b' + 12 ≤ b := by
  unfold stB at h h'
  omega
theorem copyR {M : zMem} {d s : Nat} (hne : d ≠ s) : ∃ M1, zX7_copyFrom shC d s M = some M1 ∧ (∀ j, j < 6 → zI M1 d j = zI M s j) ∧ M1.2.2 = M.2.2 ∧ ∀ k j, k ≠ d → zI M1 k j = zI M k j := by
  have hne' := Ne.symm hne
  unfold zX7_copyFrom
  simp only [rbd]
  refine ⟨_, rfl, fun j hj => ?_, rfl, fun k j hk => ?_⟩
  · rcases (show j = 0 ∨ j = 1 ∨ j = 2 ∨ j = 3 ∨ j = 4 ∨ j = 5 by omega) with rfl | rfl | rfl | rfl | rfl | rfl <;> simp [rI_pI, hne']
  · simp [rI_pI, hk]
theorem copyP {M : zMem} {k0 k1 g0 g1 : Nat} (h0 : zR M k0 0 = g0) (h1 : zR M k1 0 = g1) (l0 : zlen shC g0 = 61) (l1 : zlen shC g1 = 61) (n1 : k0 ≠ g1) (n2 : k0 ≠ k1) (n3 : k0 ≠ g0) (n4 : g0 ≠ g1) (n5 : g0 ≠ k1) : ∃ M1, zX5_copyFrom shC k0 k1 M = some M1 ∧ zI M1 k0 1 = zI M k1 1 ∧ (∀ j, j < 61 → zI M1 g0 j = zI M g1 j) ∧ M1.2.2 = M.2.2 ∧ (∀ k j, k ≠ g0 → ¬ (k = k0 ∧ j = 1) → zI M1 k j = zI M k j) := by
  have r0 : zR (zpI M k0 1 (zI M k1 1)) k0 0 = g0 := h0
  have r1 : zR (zpI M k0 1 (zI M k1 1)) k1 0 = g1 := h1
  unfold zX5_copyFrom
  simp only [rbd]
  rw [r0, r1, l0, l1, rgd (by decide)]
  refine ⟨_, rfl, ?_, fun j hj => ?_, rfl, fun k j hk hk2 => ?_⟩
  · rw [rI_pC, if_neg n3, rI_pI, if_pos ⟨rfl, rfl⟩]
  · rw [rI_pC, if_pos rfl]
    unfold va_cpy
    rw [if_pos (by have : (Int32.ofNat 61).toNatClampNeg = 61 := rfl; have : (0 : Int32).toNatClampNeg = 0 := rfl; omega), rI_pI, if_neg (fun e => n1 e.1.symm)]
    congr 1
    have : (0 : Int32).toNatClampNeg = 0 := rfl
    omega
  · rw [rI_pC, if_neg hk, rI_pI, if_neg hk2]
theorem cp3 {M : zMem} {a d : Nat} {n : Nat} (hn : n < 2147483648) {j : Nat} (hj : j < n) : zI (zpC M a (0 : Int32).toNatClampNeg d (0 : Int32).toNatClampNeg (Int32.ofNat n).toNatClampNeg) d j = zI M a j := by
  have e1 : (Int32.ofNat n).toNatClampNeg = n := nI_clamp (n := n) (by omega)
  have e0 : (0 : Int32).toNatClampNeg = 0 := rfl
  rw [rI_pC, if_pos rfl, e1, e0]
  unfold va_cpy
  rw [if_pos (by omega)]
  congr 1
  omega
theorem cp3o {M : zMem} {a d p q n : Nat} {k j : Nat} (hk : k ≠ d) : zI (zpC M a p d q n) k j = zI M k j := by
  rw [rI_pC, if_neg hk]
theorem copyM {M : zMem} {bb sb it b b' : Nat} (hC : rfC M bb sb it) (hb : stB b) (hb' : stB b') (hne : b ≠ b') : ∃ M1, zX4_copyFrom shC (b + 2) (b' + 2) M = some M1 ∧ (∀ j, j < 3 → zI M1 (b + 3) j = zI M (b' + 3) j) ∧ (∀ j, j < 3 → zI M1 (b + 4) j = zI M (b' + 4) j) ∧ zI M1 (b + 5) 1 = zI M (b' + 5) 1 ∧ (∀ j, j < 61 → zI M1 (b + 6) j = zI M (b' + 6) j) ∧ (∀ j, 3 ≤ j → j < 10 → zI M1 (b + 2) j = zI M (b' + 2) j) ∧ M1.2.2 = M.2.2 ∧ (∀ k j, ¬ (b + 2 ≤ k ∧ k ≤ b + 6) → zI M1 k j = zI M k j) := by
  have hD := stB_d hb hb' hne
  have q30 : zR M (b + 2) 0 = b + 3 := by simp only [hC.s hb]
  have q31 : zR M (b + 2) 1 = b + 4 := by simp only [hC.s hb]
  have q32 : zR M (b + 2) 2 = b + 5 := by simp only [hC.s hb]
  have q50 : zR M (b + 5) 0 = b + 6 := by simp only [hC.s hb]
  have p30 : zR M (b' + 2) 0 = b' + 3 := by simp only [hC.s hb']
  have p31 : zR M (b' + 2) 1 = b' + 4 := by simp only [hC.s hb']
  have p32 : zR M (b' + 2) 2 = b' + 5 := by simp only [hC.s hb']
  have p50 : zR M (b' + 5) 0 = b' + 6 := by simp only [hC.s hb']
  have n1 : b + 5 ≠ b' + 6 := by clear q30 q31 q32 q50 p30 p31 p32 p50; omega
  have n2 : b + 5 ≠ b' + 5 := by clear q30 q31 q32 q50 p30 p31 p32 p50; omega
  have n3 : b + 5 ≠ b + 6 := by clear q30 q31 q32 q50 p30 p31 p32 p50; omega
  have n4 : b + 6 ≠ b' + 6 := by clear q30 q31 q32 q50 p30 p31 p32 p50; omega
  have n5 : b + 6 ≠ b' + 5 := by clear q30 q31 q32 q50 p30 p31 p32 p50; omega
  unfold zX4_copyFrom
  rw [q30, p30]
  clear q30 p30
  rw [(lnS hb).2.1, (lnS hb').2.1, rgd (by decide), rbd]
  generalize hMa : zpC M (b' + 3) (0 : Int32).toNatClampNeg (b + 3) (0 : Int32).toNatClampNeg (Int32.ofNat 3).toNatClampNeg = Ma
  have ra : Ma.2.2 = M.2.2 := by rw [← hMa]; rfl
  have a1 : ∀ j, j < 3 → zI Ma (b + 3) j = zI M (b' + 3) j := fun j hj => by rw [← hMa]; exact cp3 (by omega) hj
  have a2 : ∀ k j, k ≠ b + 3 → zI Ma k j = zI M k j := fun k j hk => by rw [← hMa]; exact cp3o hk
  have z1 : zR Ma (b + 2) 1 = b + 4 := by unfold zR; rw [ra]; exact q31
  have z2 : zR Ma (b' + 2) 1 = b' + 4 := by unfold zR; rw [ra]; exact p31
  rw [z1, z2, (lnS hb).2.2.1, (lnS hb').2.2.1, rgd (by decide), rbd]
  clear z1 z2 q31 p31
  generalize hMb : zpC Ma (b' + 4) (0 : Int32).toNatClampNeg (b + 4) (0 : Int32).toNatClampNeg (Int32.ofNat 3).toNatClampNeg = Mb
  have rb : Mb.2.2 = M.2.2 := by rw [← hMb]; exact ra
  have b1 : ∀ j, j < 3 → zI Mb (b + 4) j = zI M (b' + 4) j := fun j hj => by rw [← hMb, cp3 (by omega) hj]; exact a2 _ _ (by omega)
  have b2 : ∀ k j, k ≠ b + 4 → zI Mb k j = zI Ma k j := fun k j hk => by rw [← hMb]; exact cp3o hk
  have z3 : zR Mb (b + 2) 2 = b + 5 := by unfold zR; rw [rb]; exact q32
  have z4 : zR Mb (b' + 2) 2 = b' + 5 := by unfold zR; rw [rb]; exact p32
  rw [z3, z4]
  clear z3 z4 q32 p32
  obtain ⟨Mc, c1, c2, c3, c4, c5⟩ := copyP (M := Mb) (k0 := b + 5) (k1 := b' + 5) (g0 := b + 6) (g1 := b' + 6) (by unfold zR; rw [rb]; exact q50) (by unfold zR; rw [rb]; exact p50) (lnS hb).2.2.2.1 (lnS hb').2.2.2.1 n1 n2 n3 n4 n5
  rw [c1, rob]
  clear q50 p50
  simp only [rbd]
  have hx : b' + 2 ≠ b + 2 := by omega
  refine ⟨_, rfl, fun j hj => ?_, fun j hj => ?_, ?_, fun j hj => ?_, fun j h1 h2 => ?_, c4.trans rb, fun k j hk => ?_⟩
  · rw [show ∀ v w x y z u t, zI (zpI (zpI (zpI (zpI (zpI (zpI (zpI Mc (b + 2) 3 v) (b + 2) 4 w) (b + 2) 5 x) (b + 2) 6 y) (b + 2) 7 z) (b + 2) 8 u) (b + 2) 9 t) (b + 3) j = zI Mc (b + 3) j from fun v w x y z u t => by simp [rI_pI]]
    rw [c5 _ _ (by omega) (by omega), b2 _ _ (by omega), a1 j hj]
  · rw [show ∀ v w x y z u t, zI (zpI (zpI (zpI (zpI (zpI (zpI (zpI Mc (b + 2) 3 v) (b + 2) 4 w) (b + 2) 5 x) (b + 2) 6 y) (b + 2) 7 z) (b + 2) 8 u) (b + 2) 9 t) (b + 4) j = zI Mc (b + 4) j from fun v w x y z u t => by simp [rI_pI]]
    rw [c5 _ _ (by omega) (by omega), b1 j hj]
  · rw [show ∀ v w x y z u t, zI (zpI (zpI (zpI (zpI (zpI (zpI (zpI Mc (b + 2) 3 v) (b + 2) 4 w) (b + 2) 5 x) (b + 2) 6 y) (b + 2) 7 z) (b + 2) 8 u) (b + 2) 9 t) (b + 5) 1 = zI Mc (b + 5) 1 from fun v w x y z u t => by simp [rI_pI]]
    rw [c2, b2 _ _ (by omega), a2 _ _ (by omega)]
  · rw [show ∀ v w x y z u t, zI (zpI (zpI (zpI (zpI (zpI (zpI (zpI Mc (b + 2) 3 v) (b + 2) 4 w) (b + 2) 5 x) (b + 2) 6 y) (b + 2) 7 z) (b + 2) 8 u) (b + 2) 9 t) (b + 6) j = zI Mc (b + 6) j from fun v w x y z u t => by simp [rI_pI]]
    rw [c3 j hj, b2 _ _ (by omega), a2 _ _ (by omega)]
  · have hc : ∀ j, zI Mc (b' + 2) j = zI M (b' + 2) j := fun j => by rw [c5 _ _ (by omega) (by omega), b2 _ _ (by omega), a2 _ _ (by omega)]
    rcases (show j = 3 ∨ j = 4 ∨ j = 5 ∨ j = 6 ∨ j = 7 ∨ j = 8 ∨ j = 9 by omega) with rfl | rfl | rfl | rfl | rfl | rfl | rfl <;> (simp [rI_pI, show b' ≠ b by omega]; exact hc _)
  · rw [show ∀ v w x y z u t, zI (zpI (zpI (zpI (zpI (zpI (zpI (zpI Mc (b + 2) 3 v) (b + 2) 4 w) (b + 2) 5 x) (b + 2) 6 y) (b + 2) 7 z) (b + 2) 8 u) (b + 2) 9 t) k j = zI Mc k j from fun v w x y z u t => by simp [rI_pI, show k ≠ b + 2 by omega]]
    rw [c5 _ _ (by omega) (by omega), b2 _ _ (by omega), a2 _ _ (by omega)]
theorem zl_cp {b b' : Nat} (F : Nat) (x : Int32) (M : zMem) : zlX8_copyFrom_2 shC b b' (F + 1) x M = zbX8_copyFrom_2 shC b b' (zlX8_copyFrom_2 shC b b' F) x M := rfl
theorem copy_st {M : zMem} {bb sb it b b' : Nat} (hC : rfC M bb sb it) (hb : stB b) (hb' : stB b') (hne : b ≠ b') (h8 : zisB (zI M b' 8) = true) (h9 : zisB (zI M b' 9) = true) : ∃ M1, zX8_copyFrom shC b b' M = some M1 ∧ vSt M1 b = vSt M b' ∧ M1.2.2 = M.2.2 ∧ (∀ k j, ¬ (b ≤ k ∧ k < b + 12) → zI M1 k j = zI M k j) := by
  have hD := stB_d hb hb' hne
  have step : ∀ (a : Nat), a < 3 → ∀ (Mx : zMem), Mx.2.2 = M.2.2 → (∀ k j, ¬ (b + 9 ≤ k ∧ k < b + 9 + a) → zI Mx k j = zI M k j) → (∀ i j, i < a → j < 6 → zI Mx (b + 9 + i) j = zI M (b' + 9 + i) j) → ∀ F, ∃ My, zlX8_copyFrom_2 shC b b' (F + 1) (nI a) Mx = zlX8_copyFrom_2 shC b b' F (nI (a + 1)) My ∧ My.2.2 = M.2.2 ∧ (∀ k j, ¬ (b + 9 ≤ k ∧ k < b + 9 + (a + 1)) → zI My k j = zI M k j) ∧ (∀ i j, i < a + 1 → j < 6 → zI My (b + 9 + i) j = zI M (b' + 9 + i) j) := by
    intro a ha Mx e1 e2 e3 F
    have hC1 := hC.sm e1
    have z0 : zR Mx b 0 = b + 1 := by simp only [hC1.s hb]
    have z1 : zR Mx b' 0 = b' + 1 := by simp only [hC1.s hb']
    obtain ⟨My, y1, y2, y3, y4⟩ := copyR (M := Mx) (d := b + 9 + a) (s := b' + 9 + a) (by omega)
    refine ⟨My, ?_, y3.trans e1, fun k j hk => ?_, fun i j hi hj => ?_⟩
    · rw [zl_cp]
      unfold zbX8_copyFrom_2
      rw [z0, z1, (lnS hb).1, (lnS hb').1, if_neg (show ¬ Int32.ofNat 3 ≤ nI a from nI_ge (b := 3) (by omega) (by omega)), rgd (in_a ha (by omega)), rgd (in_a ha (by omega)), nI_clamp (by omega), hC1.ro hb ha, hC1.ro hb' ha, y1, rob, nI_1]
    · rw [y4 k j (by omega)]; exact e2 k j (by omega)
    · by_cases g : i = a
      · subst g; rw [y2 j hj]; exact e2 _ _ (by omega)
      · rw [y4 _ _ (by omega)]; exact e3 i j (by omega) hj
  unfold zX8_copyFrom
  obtain ⟨Ma, a1, a2, a3, a4⟩ := step 0 (by omega) M rfl (fun _ _ _ => rfl) (fun i j hi => by omega) (999996 + 1 + 1 + 1)
  obtain ⟨Mb, b1, b2, b3, b4⟩ := step 1 (by omega) Ma a2 a3 a4 (999996 + 1 + 1)
  obtain ⟨Mc, c1, c2, c3, c4⟩ := step 2 (by omega) Mb b2 b3 b4 (999996 + 1)
  have hC3 := hC.sm c2
  rw [show zlX8_copyFrom_2 shC b b' zF (0 : Int32) M = zlX8_copyFrom_2 shC b b' (999996 + 1 + 1 + 1 + 1) (nI 0) M from rfl, a1, b1, c1, zl_cp]
  unfold zbX8_copyFrom_2
  have z0 : zR Mc b 0 = b + 1 := by simp only [hC3.s hb]
  have z1 : zR Mc b 1 = b + 2 := by simp only [hC3.s hb]
  have z2 : zR Mc b' 1 = b' + 2 := by simp only [hC3.s hb']
  obtain ⟨Md, d1, d2, d3, d4, d5, d6, d7, d8⟩ := copyM hC3 hb hb' hne
  have hC4 := hC3.sm d7
  have z3 : zR Md b 2 = b + 7 := by simp only [hC4.s hb]
  have z4 : zR Md b' 2 = b' + 7 := by simp only [hC4.s hb']
  rw [z0, (lnS hb).1, if_pos (show Int32.ofNat 3 ≤ nI (2 + 1) from nI_le (a := 3) (by omega) (by omega)), z1, z2, d1, rob, z3, z4, (lnS hb).2.2.2.2.1, (lnS hb').2.2.2.2.1, rgd (by decide), rbd]
  generalize hMe : zpC Md (b' + 7) (0 : Int32).toNatClampNeg (b + 7) (0 : Int32).toNatClampNeg (Int32.ofNat 24).toNatClampNeg = Me
  have re : Me.2.2 = M.2.2 := by rw [← hMe]; exact d7.trans c2
  have e1 : ∀ j, j < 24 → zI Me (b + 7) j = zI M (b' + 7) j := fun j hj => by rw [← hMe, cp3 (by omega) hj, d8 _ _ (by omega), c3 _ _ (by omega)]
  have e2 : ∀ k j, k ≠ b + 7 → zI Me k j = zI Md k j := fun k j hk => by rw [← hMe]; exact cp3o hk
  have e3 : ∀ j, zI Me b' j = zI M b' j := fun j => by rw [e2 _ _ (by omega), d8 _ _ (by omega), c3 _ _ (by omega)]
  have hbb : b' ≠ b := by omega
  simp only [rbd]
  rw [rgd (show zisB (zI (zpI (zpI (zpI (zpI Me b 4 (zI Me b' 4)) b 5 (zI (zpI Me b 4 (zI Me b' 4)) b' 5)) b 6 (zI (zpI (zpI Me b 4 (zI Me b' 4)) b 5 (zI (zpI Me b 4 (zI Me b' 4)) b' 5)) b' 6)) b 7 (zI (zpI (zpI (zpI Me b 4 (zI Me b' 4)) b 5 (zI (zpI Me b 4 (zI Me b' 4)) b' 5)) b 6 (zI (zpI (zpI Me b 4 (zI Me b' 4)) b 5 (zI (zpI Me b 4 (zI Me b' 4)) b' 5)) b' 6)) b' 7)) b' 8) = true by simp only [rI_pI, hbb, false_and, if_false, e3]; exact h8)]
  rw [rgd (by simp only [rI_pI, hbb, false_and, if_false, e3]; exact h9)]
  simp only [rI_pI, hbb, false_and, if_false, e3]
  have scal : ∀ (k j : Nat) (v4 v5 v6 v7 v8 v9 v10 v11 v12 : Int32), k ≠ b → zI (zpI (zpI (zpI (zpI (zpI (zpI (zpI (zpI (zpI Me b 4 v4) b 5 v5) b 6 v6) b 7 v7) b 8 v8) b 9 v9) b 10 v10) b 11 v11) b 12 v12) k j = zI Me k j := fun k j v4 v5 v6 v7 v8 v9 v10 v11 v12 hk => by simp only [rI_pI, hk, false_and, if_false]
  refine ⟨_, rfl, ?_, re, fun k j hk => ?_⟩
  · funext k j
    unfold vSt
    by_cases hr : relS k j = true
    · rw [if_pos hr, if_pos hr]
      rcases relS_c hr with ⟨rfl, h1, h2⟩ | ⟨rfl, h1, h2⟩ | ⟨h1, h2⟩ | ⟨rfl, rfl⟩ | ⟨rfl, h1⟩ | ⟨rfl, h1⟩ | ⟨h1, h2, h3⟩
      · rcases (show j = 4 ∨ j = 5 ∨ j = 6 ∨ j = 7 ∨ j = 8 ∨ j = 9 ∨ j = 10 ∨ j = 11 ∨ j = 12 by omega) with rfl | rfl | rfl | rfl | rfl | rfl | rfl | rfl | rfl <;> simp [rI_pI]
      · rw [scal _ _ _ _ _ _ _ _ _ _ _ (by omega), e2 _ _ (by omega), d6 j h1 h2, c3 _ _ (by omega)]
      · rcases h1 with rfl | rfl
        · rw [scal _ _ _ _ _ _ _ _ _ _ _ (by omega), e2 _ _ (by omega), d2 j h2, c3 _ _ (by omega)]
        · rw [scal _ _ _ _ _ _ _ _ _ _ _ (by omega), e2 _ _ (by omega), d3 j h2, c3 _ _ (by omega)]
      · rw [scal _ _ _ _ _ _ _ _ _ _ _ (by omega), e2 _ _ (by omega), d4, c3 _ _ (by omega)]
      · rw [scal _ _ _ _ _ _ _ _ _ _ _ (by omega), e2 _ _ (by omega), d5 j h1, c3 _ _ (by omega)]
      · rw [scal _ _ _ _ _ _ _ _ _ _ _ (by omega), e1 j h1]
      · obtain ⟨i, rfl⟩ : ∃ i, k = 9 + i := ⟨k - 9, by omega⟩
        rw [← Nat.add_assoc, ← Nat.add_assoc, scal _ _ _ _ _ _ _ _ _ _ _ (by omega), e2 _ _ (by omega), d8 _ _ (by omega), c4 i j (by omega) h3]
    · rw [if_neg hr, if_neg hr]
  · rw [scal _ _ _ _ _ _ _ _ _ _ _ (by omega), e2 _ _ (by omega), d8 _ _ (by omega), c3 _ _ (by omega)]
