/-! Phase B: what a rotor let go would do -/
def Bx (M N : zMem) (bb sb it nA nB : Nat) : Prop := (bb = 1 ∨ bb = 13) ∧ rfC M bb sb it ∧ rfN N ∧ IvB M N bb nA nB ∧ IvP M N
theorem Bx.sm {M N M1 N1 : zMem} {bb sb it nA nB : Nat} (h : Bx M N bb sb it nA nB) (e1 : M1.2.2 = M.2.2) (e2 : N1.2.2 = N.2.2) (hM : ∀ k j, k < 25 → zI M1 k j = zI M k j) (hN : ∀ k j, (k = 0 ∧ (j = 22 ∨ j = 24 ∨ j = 26 ∨ j = 28 ∨ j = 29)) ∨ k = 4 ∨ k = 6 ∨ k = 8 ∨ k = 12 → zI N1 k j = zI N k j) : Bx M1 N1 bb sb it nA nB :=
  ⟨h.1, h.2.1.sm e1, h.2.2.1.sm e2, h.2.2.2.1.sm (fun k j g1 g2 => hM k j (by have := h.1; omega)) hN, h.2.2.2.2.sm (fun k j g => hM k j (by omega)) (fun j => hN 12 j (by omega))⟩
theorem Bx.o {M N M1 : zMem} {bb sb it nA nB b : Nat} (h : Bx M N bb sb it nA nB) (g : only b M M1) (hb : 174 ≤ b) : Bx M1 N bb sb it nA nB := h.sm g.1 rfl (fun k j hk => g.2 k j (by omega)) (fun _ _ _ => rfl)
def prb (M : zMem) (at_ pl sw ld : Int32) : Prop := zI M 181 0 = at_ ∧ zI M 181 1 = pl ∧ zI M 181 2 = sw ∧ zI M 181 3 = ld
theorem letGo_eq {M : zMem} (ld ang : Int32) : ∃ M1, zX7_letGo shC 181 ld ang M = some M1 ∧ prb M1 0 (-ang) 0 ld ∧ only 181 M M1 := by
  unfold zX7_letGo
  simp only [rbd]
  refine ⟨_, rfl, ?_, ((((only.rf 181 M).p _ _).p _ _).p _ _).p _ _⟩
  exact ⟨rfl, rfl, rfl, rfl⟩
theorem turnP {M N : zMem} {bb sb it nA nB a : Nat} {at_ pl sw ld : Int32} (hB : Bx M N bb sb it nA nB) (ha : a < nA) (h : prb M at_ pl sw ld) : ∃ M1, zX7_turn shC 181 (bb + 9 + a) (bb + 5) M = some M1 ∧ prb M1 at_ (pl + fTurn N a (16 * at_ - pl) sw ld) (fTurn N a (16 * at_ - pl) sw ld) ld ∧ only 181 M M1 := by
  obtain ⟨hb, hC, hN, h6, h7⟩ := hB
  obtain ⟨p0, p1, p2, p3⟩ := h
  rw [turnC hb hC h6 h7 ha (by omega), p0, p1, p2, p3]
  refine ⟨_, rfl, ?_, ((only.rf 181 M).p _ _).p _ _⟩
  exact ⟨p0, rfl, rfl, p3⟩
theorem calmC {M N : zMem} {bb sb it nA nB a k : Nat} (hB : Bx M N bb sb it nA nB) (ha : a < nA) : zX7_isCalm shC k (bb + 9 + a) (bb + 5) M = some (bI (zI M k 2 = 0 ∧ fPush N a (16 * zI M k 0 - zI M k 1) (zI M k 3) = 0)) := by
  obtain ⟨hb, hC, hN, h6, h7⟩ := hB
  unfold zX7_isCalm zjX7_isCalm_20 zjX7_isCalm_21
  rw [pushC hb hC h6 h7 ha, rob]
  by_cases c1 : zI M k 2 = 0
  · rw [if_pos c1]
    by_cases c2 : fPush N a (16 * zI M k 0 - zI M k 1) (zI M k 3) = 0
    · rw [if_pos c2, bI_t ⟨c1, c2⟩]; rfl
    · rw [if_neg c2, bI_f (fun g => c2 g.2)]; rfl
  · rw [if_neg c1, bI_f (fun g => c1 g.1)]; rfl
def sg (x : Int32) : Int32 := if x ≤ 0 then (if 0 ≤ x then 0 else -1) else 1
theorem signM {sh : zShp} {N : zMem} (x : Int32) : zX12_sign sh x N = some (sg x) := by
  unfold zX12_sign zjX12_sign_17 sg
  by_cases h : x ≤ 0
  · rw [if_pos h, if_pos h]
    by_cases g : 0 ≤ x
    · rw [if_pos g, if_pos g]
    · rw [if_neg g, if_neg g]
  · rw [if_neg h, if_neg h]
theorem signum_all : ∀ i : Nat, i < 64 → ∀ j : Nat, j < 64 → ((iI (((64 * i + j : Nat) : Int) - 2000) >>> ((31 : Int32) &&& 31)) ||| (((-(iI (((64 * i + j : Nat) : Int) - 2000))).toUInt32 >>> ((31 : Int32).toUInt32 &&& Int32.toUInt32 31)).toInt32)) = sg (iI (((64 * i + j : Nat) : Int) - 2000)) := by decide +kernel
theorem signC {sh : zShp} {M : zMem} {x : Int32} (h : btw x (-2000) 2000) : zJ6_signum_0f7a4 sh x M = some (sg x) := by
  obtain ⟨a, rfl, g1, g2⟩ := iI_ex x
  unfold btw at h
  rw [iI_i g1 g2] at h
  have := signum_all ((a + 2000).toNat / 64) (by omega) ((a + 2000).toNat % 64) (by omega)
  rw [show ((64 * ((a + 2000).toNat / 64) + (a + 2000).toNat % 64 : Nat) : Int) - 2000 = a by omega] at this
  unfold zJ6_signum_0f7a4
  rw [this]
theorem ang0 (pl : Int32) : (16 : Int32) * 0 - pl = -pl := by rw [Int32.mul_zero, Int32.zero_sub]
theorem swings_loop {N : zMem} {bb sb it nA nB a : Nat} (ha : a < nA) {p2 ld : Int32} {P : Nat} (hP : P ≤ 500) (hld : zI N 1 (48 + 6 * a + 3) = ld) : ∀ (r t F F' : Nat) (M : zMem) (pl sw many : Int32), t + r = P → r < F → r < F' → Bx M N bb sb it nA nB → prb M 0 pl sw ld → ∃ (v : Int32) (M1 : zMem), zlX11_swings_57 shC 0 (nI a) p2 (nI P) F many (sg sw) (nI t) M = some (v, M1) ∧ zlX12_swings_42 shM 0 (nI a) p2 (nI P) N F' pl sw many (nI t) = some v ∧ only 181 M M1 := by
  intro r
  induction r with
  | zero =>
    intro t F F' M pl sw many h1 h2 h3 hB hp
    obtain ⟨F, rfl⟩ : ∃ x, F = x + 1 := ⟨F - 1, by omega⟩
    obtain ⟨F', rfl⟩ : ∃ x, F' = x + 1 := ⟨F' - 1, by omega⟩
    refine ⟨many, M, ?_, ?_, only.rf _ _⟩
    · simp only [zlX11_swings_57]
      unfold zbX11_swings_57
      rw [if_pos (nI_le (by omega) (by omega))]
    · simp only [zlX12_swings_42]
      unfold zbX12_swings_42
      rw [if_pos (nI_le (by omega) (by omega))]
  | succ r ih =>
    intro t F F' M pl sw many h1 h2 h3 hB hp
    obtain ⟨F, rfl⟩ : ∃ x, F = x + 1 := ⟨F - 1, by omega⟩
    obtain ⟨F', rfl⟩ : ∃ x, F' = x + 1 := ⟨F' - 1, by omega⟩
    have hcl : zlX11_swings_57 shC 0 (nI a) p2 (nI P) (F + 1) many (sg sw) (nI t) M = zbX11_swings_57 shC 0 (nI a) p2 (nI P) (zlX11_swings_57 shC 0 (nI a) p2 (nI P) F) many (sg sw) (nI t) M := rfl
    have hml : zlX12_swings_42 shM 0 (nI a) p2 (nI P) N (F' + 1) pl sw many (nI t) = zbX12_swings_42 shM 0 (nI a) p2 (nI P) N (zlX12_swings_42 shM 0 (nI a) p2 (nI P) N F') pl sw many (nI t) := rfl
    have hBB := hB
    obtain ⟨hb, hC, hN, h6, h7⟩ := hB
    have ha3 : a < 3 := by have := h6.1; omega
    obtain ⟨M1, s1, s2, s3⟩ := turnP hBB ha hp
    rw [ang0] at s2
    have hB1 := hBB.o s3 (by omega)
    have e7 : zR M1 0 7 = 181 := by simp only [hB1.2.1.o]
    rw [hcl, hml]
    unfold zbX11_swings_57 zbX12_swings_42 zjX11_swings_108 zjX12_swings_97
    rw [if_neg (nI_ge (by omega) (by omega)), if_neg (nI_ge (by omega) (by omega))]
    simp only [hC.o, hC.b hb, lnB hb, rgd (in_a ha3 (show 3 < 2147483648 by omega)), nI_clamp (show a < 2 ^ 31 by omega), hC.ax hb ha3, axisAt_3 hN.o.1 ha3, hld, swungM hN h6 h7 ha, signM, rob]
    rw [s1, rob]
    simp only [e7, s2.2.2.1, signC fTurn_b, rob, truth_eq, nI_1]
    generalize fTurn N a (-pl) sw ld = v at *
    have e0 : bI ((0 : Int32) ≠ 0) = 0 := rfl
    have e1 : bI ((1 : Int32) ≠ 0) = 1 := rfl
    by_cases g : sg v = sg sw
    · rw [if_pos g, if_pos g, e0, Int32.add_zero]
      obtain ⟨w, M2, t1, t2, t3⟩ := ih (t + 1) F F' M1 (pl + v) v many (by omega) (by omega) (by omega) hB1 s2
      exact ⟨w, M2, t1, t2, s3.tr t3⟩
    · rw [if_neg g, if_neg g, e1]
      obtain ⟨w, M2, t1, t2, t3⟩ := ih (t + 1) F F' M1 (pl + v) v (many + 1) (by omega) (by omega) (by omega) hB1 s2
      exact ⟨w, M2, t1, t2, s3.tr t3⟩
theorem isLetC {M : zMem} (x : Int32) : zX11_isLetGo shC x M = some (bI ((-1023 : Int32) ≤ x ∧ x ≤ 1023)) := by
  unfold zX11_isLetGo
  rw [within_eq, rob, rgd (bI_B _)]
theorem isLetM {M : zMem} (x : Int32) : zX12_isLet shM x M = some (bI ((-1023 : Int32) ≤ x ∧ x ≤ 1023)) := by
  unfold zX12_isLet
  rw [isIn_l x (-1023) 1023 _ _ rfl rfl, rob, rgd (bI_B _)]
theorem Inv_Bx {n : Nat} {M N : zMem} (h : Inv n M N) : ∃ bb sb it nA nB, Bx M N bb sb it nA nB ∧ rSt (vSt M 28) (zI N 1) nA (500 * n) := by
  obtain ⟨bb, sb, it, nA, nB, h1, h2, h3, h4, h5, h6, h7, h8, h9⟩ := h
  exact ⟨bb, sb, it, nA, nB, ⟨by omega, h2, h3, h6, h7⟩, h8⟩
/-- the load that both see -/
theorem rSt.load {M N : zMem} {nA a : Nat} {T : Int} (h : rSt (vSt M 28) (zI N 1) nA T) (ha : a < nA) (ha3 : a < 3) : zI M (37 + a) 3 = zI N 1 (48 + 6 * a + 3) := by
  have := (h.2.2.2.2.2.2.2.2.1 a ha).1 3 (by omega)
  rw [vSt_ro ha3 (by omega)] at this
  exact this
theorem B_swings_ok : B_swings Inv := by
  intro n M N v1 v2 v3 hn hI
  have hU := Inv_up n M N hI
  obtain ⟨bb, sb, it, nA, nB, hB, hS⟩ := Inv_Bx hI
  have hBB := hB
  obtain ⟨hb, hC, hN, h6, h7⟩ := hB
  have h11 : zR M 0 11 = bb := by simp only [hC.o]
  unfold zX11_swings zX12_swings zjX11_swings_26 zjX12_swings_27
  rw [axisC h11 h6.2.2.1 h6.1, axisM h6.2.2.2.1 h6.1, rob, rob, isLetC, isLetM, rob, rob, within_eq, rob, isIn_l v3 1 500 _ _ rfl rfl, rob]
  simp only [bI_0]
  by_cases c1 : 0 ≤ v1.toInt ∧ v1.toInt < nA
  · rw [if_neg (nn c1), if_neg (nn c1)]
    obtain ⟨a, ha, rfl⟩ := ax_ex c1
    have ha3 : a < 3 := by have := h6.1; omega
    by_cases c2 : (-1023 : Int32) ≤ v2 ∧ v2 ≤ 1023
    · rw [if_neg (nn c2), if_neg (nn c2)]
      by_cases c3 : (1 : Int32) ≤ v3 ∧ v3 ≤ 500
      · rw [if_neg (nn c3), if_neg (nn c3)]
        have g1 : 1 ≤ v3.toInt := r_le.mp c3.1
        have g2 : v3.toInt ≤ 500 := r_le.mp c3.2
        obtain ⟨P, hP, rfl⟩ := ax_ex (nA := 501) (x := v3) ⟨by omega, by omega⟩
        simp only [hC.o, hC.s st28, lnS st28, rgd (in_a ha3 (show 3 < 2147483648 by omega)), nI_clamp (show a < 2 ^ 31 by omega), hC.ro st28 ha3]
        obtain ⟨M1, s1, s2, s3⟩ := letGo_eq (M := M) (zI M (28 + 9 + a) 3) v2
        rw [s1, rob]
        obtain ⟨v, M2, t1, t2, t3⟩ := swings_loop (N := N) (bb := bb) (sb := sb) (it := it) (nB := nB) (p2 := v2) ha (show P ≤ 500 by omega) (hS.load ha ha3).symm P 0 zF zF M1 (-v2) 0 0 (by omega) (by unfold zF; omega) (by unfold zF; omega) (hBB.o s3 (by omega)) s2
        exact ⟨v, M2, N, t1, t2, Inv_same hI ((s3.tr t3).C (by omega)) (sameN.rf N)⟩
      · exact ⟨_, M, N, if_pos c3, if_pos c3, hU⟩
    · exact ⟨_, M, N, if_pos c2, if_pos c2, hU⟩
  · exact ⟨_, M, N, if_pos c1, if_pos c1, hU⟩
theorem settles_loop {N : zMem} {bb sb it nA nB a : Nat} (ha : a < nA) {p2 ld : Int32} (hld : zI N 1 (48 + 6 * a + 3) = ld) : ∀ (r t F F' : Nat) (M : zMem) (pl sw : Int32), t + r = 2001 → r < F → r < F' → Bx M N bb sb it nA nB → prb M 0 pl sw ld → ∃ (v : Int32) (M1 : zMem), zlX11_settles_39 shC 0 (nI a) p2 F (nI t) M = some (v, M1) ∧ zlX12_settles_26 shM 0 (nI a) p2 N F' pl sw (nI t) = some v ∧ only 181 M M1 := by
  intro r
  induction r with
  | zero =>
    intro t F F' M pl sw h1 h2 h3 hB hp
    obtain ⟨F, rfl⟩ : ∃ x, F = x + 1 := ⟨F - 1, by omega⟩
    obtain ⟨F', rfl⟩ : ∃ x, F' = x + 1 := ⟨F' - 1, by omega⟩
    refine ⟨-1, M, ?_, ?_, only.rf _ _⟩
    · simp only [zlX11_settles_39]
      unfold zbX11_settles_39
      rw [if_pos (show (2000 : Int32) < nI t from nI_lt (a := 2000) (by omega) (by omega))]
    · simp only [zlX12_settles_26]
      unfold zbX12_settles_26
      rw [if_pos (show (2000 : Int32) < nI t from nI_lt (a := 2000) (by omega) (by omega))]
  | succ r ih =>
    intro t F F' M pl sw h1 h2 h3 hB hp
    obtain ⟨F, rfl⟩ : ∃ x, F = x + 1 := ⟨F - 1, by omega⟩
    obtain ⟨F', rfl⟩ : ∃ x, F' = x + 1 := ⟨F' - 1, by omega⟩
    have hcl : zlX11_settles_39 shC 0 (nI a) p2 (F + 1) (nI t) M = zbX11_settles_39 shC 0 (nI a) p2 (zlX11_settles_39 shC 0 (nI a) p2 F) (nI t) M := rfl
    have hml : zlX12_settles_26 shM 0 (nI a) p2 N (F' + 1) pl sw (nI t) = zbX12_settles_26 shM 0 (nI a) p2 N (zlX12_settles_26 shM 0 (nI a) p2 N F') pl sw (nI t) := rfl
    have hBB := hB
    obtain ⟨hb, hC, hN, h6, h7⟩ := hB
    have ha3 : a < 3 := by have := h6.1; omega
    obtain ⟨M1, s1, s2, s3⟩ := turnP hBB ha hp
    rw [ang0] at s2
    have hB1 := hBB.o s3 (by omega)
    obtain ⟨w, M2, t1, t2, t3⟩ := ih (t + 1) F F' M1 _ _ (by omega) (by omega) (by omega) hB1 s2
    rw [hcl, hml]
    unfold zbX11_settles_39 zbX12_settles_26 zjX12_settles_58
    rw [if_neg (show ¬ (2000 : Int32) < nI t from nI_nlt (a := 2000) (by omega) (by omega)), if_neg (show ¬ (2000 : Int32) < nI t from nI_nlt (a := 2000) (by omega) (by omega))]
    simp only [hC.o, hC.b hb, lnB hb, rgd (in_a ha3 (show 3 < 2147483648 by omega)), nI_clamp (show a < 2 ^ 31 by omega), hC.ax hb ha3, axisAt_3 hN.o.1 ha3, hld, swungM hN h6 h7 ha, pushedM hN h6 h7 ha, rob, calmC hBB ha, s1, bI_0, nI_1, hp.1, hp.2.1, hp.2.2.1, hp.2.2.2, ang0]
    by_cases g1 : sw = 0
    · rw [if_pos g1]
      by_cases g2 : fPush N a (-pl) ld = 0
      · rw [if_neg (nn ⟨g1, g2⟩), if_pos g2]
        exact ⟨_, M, rfl, rfl, only.rf _ _⟩
      · rw [if_pos (fun g => g2 g.2), if_neg g2]
        exact ⟨w, M2, t1, t2, s3.tr t3⟩
    · rw [if_pos (fun g => g1 g.1), if_neg g1]
      exact ⟨w, M2, t1, t2, s3.tr t3⟩
theorem B_settles_ok : B_settles Inv := by
  intro n M N v1 v2 hn hI
  have hU := Inv_up n M N hI
  obtain ⟨bb, sb, it, nA, nB, hB, hS⟩ := Inv_Bx hI
  have hBB := hB
  obtain ⟨hb, hC, hN, h6, h7⟩ := hB
  have h11 : zR M 0 11 = bb := by simp only [hC.o]
  unfold zX11_settles zX12_settles zjX11_settles_15 zjX12_settles_15
  rw [axisC h11 h6.2.2.1 h6.1, axisM h6.2.2.2.1 h6.1, rob, rob, isLetC, isLetM, rob, rob]
  simp only [bI_0]
  by_cases c1 : 0 ≤ v1.toInt ∧ v1.toInt < nA
  · rw [if_neg (nn c1), if_neg (nn c1)]
    obtain ⟨a, ha, rfl⟩ := ax_ex c1
    have ha3 : a < 3 := by have := h6.1; omega
    by_cases c2 : (-1023 : Int32) ≤ v2 ∧ v2 ≤ 1023
    · rw [if_neg (nn c2), if_neg (nn c2)]
      simp only [hC.o, hC.s st28, lnS st28, rgd (in_a ha3 (show 3 < 2147483648 by omega)), nI_clamp (show a < 2 ^ 31 by omega), hC.ro st28 ha3]
      obtain ⟨M1, s1, s2, s3⟩ := letGo_eq (M := M) (zI M (28 + 9 + a) 3) v2
      rw [s1, rob]
      obtain ⟨v, M2, t1, t2, t3⟩ := settles_loop (N := N) (bb := bb) (sb := sb) (it := it) (nB := nB) (p2 := v2) ha (hS.load ha ha3).symm 2001 0 zF zF M1 (-v2) 0 (by omega) (by unfold zF; omega) (by unfold zF; omega) (hBB.o s3 (by omega)) s2
      exact ⟨v, M2, N, t1, t2, Inv_same hI ((s3.tr t3).C (by omega)) (sameN.rf N)⟩
    · exact ⟨_, M, N, if_pos c2, if_pos c2, hU⟩
  · exact ⟨_, M, N, if_pos c1, if_pos c1, hU⟩
theorem shake_loop {N : zMem} {bb sb it nA nB a : Nat} (ha : a < nA) {w ld : Int32} {P : Nat} (hP : P ≤ 500) (hld : zI N 1 (48 + 6 * a + 3) = ld) : ∀ (r t F F' : Nat) (M : zMem) (at_ pl sw most : Int32), t + r = P → r < F → r < F' → 0 ≤ most.toInt → Bx M N bb sb it nA nB → prb M at_ pl sw ld → ∃ (v : Int32) (M1 : zMem), zlX11_shakeBy_26 shC 0 (nI a) w (nI P) F most (nI t) M = some (v, M1) ∧ zlX12_shakeOf_15 shM 0 (nI a) w (nI P) N F' at_ pl sw most (nI t) = some v ∧ only 181 M M1 ∧ 0 ≤ v.toInt := by
  intro r
  induction r with
  | zero =>
    intro t F F' M at_ pl sw most h1 h2 h3 h0 hB hp
    obtain ⟨F, rfl⟩ : ∃ x, F = x + 1 := ⟨F - 1, by omega⟩
    obtain ⟨F', rfl⟩ : ∃ x, F' = x + 1 := ⟨F' - 1, by omega⟩
    refine ⟨most, M, ?_, ?_, only.rf _ _, h0⟩
    · simp only [zlX11_shakeBy_26]
      unfold zbX11_shakeBy_26
      rw [if_pos (nI_le (by omega) (by omega))]
    · simp only [zlX12_shakeOf_15]
      unfold zbX12_shakeOf_15
      rw [if_pos (nI_le (by omega) (by omega))]
  | succ r ih =>
    intro t F F' M at_ pl sw most h1 h2 h3 h0 hB hp
    obtain ⟨F, rfl⟩ : ∃ x, F = x + 1 := ⟨F - 1, by omega⟩
    obtain ⟨F', rfl⟩ : ∃ x, F' = x + 1 := ⟨F' - 1, by omega⟩
    have hcl : zlX11_shakeBy_26 shC 0 (nI a) w (nI P) (F + 1) most (nI t) M = zbX11_shakeBy_26 shC 0 (nI a) w (nI P) (zlX11_shakeBy_26 shC 0 (nI a) w (nI P) F) most (nI t) M := rfl
    have hml : zlX12_shakeOf_15 shM 0 (nI a) w (nI P) N (F' + 1) at_ pl sw most (nI t) = zbX12_shakeOf_15 shM 0 (nI a) w (nI P) N (zlX12_shakeOf_15 shM 0 (nI a) w (nI P) N F') at_ pl sw most (nI t) := rfl
    have ha3 : a < 3 := by have := hB.2.2.2.1.1; omega
    have o0 : only 181 M (zpI M 181 0 (at_ + w)) := (only.rf 181 M).p _ _
    have hB0 := hB.o o0 (by omega)
    have hp0 : prb (zpI M 181 0 (at_ + w)) (at_ + w) pl sw ld := by
      exact ⟨rfl, hp.2.1, hp.2.2.1, hp.2.2.2⟩
    obtain ⟨M1, s1, s2, s3⟩ := turnP hB0 ha hp0
    have hB1 := hB0.o s3 (by omega)
    have hmx : ∀ y : Int32, 0 ≤ (zmax most y).toInt := fun y => by
      unfold zmax
      by_cases g : most < y
      · rw [if_pos g]; have := r_lt.mp g; omega
      · rw [if_neg g]; exact h0
    obtain ⟨v, M2, t1, t2, t3, t4⟩ := ih (t + 1) F F' M1 _ _ _ (zmax most (zabs (16 * (at_ + w) - (pl + fTurn N a (16 * (at_ + w) - pl) sw ld)))) (by omega) (by omega) (by omega) (hmx _) hB1 s2
    refine ⟨v, M2, ?_, ?_, (o0.tr s3).tr t3, t4⟩
    · rw [hcl]
      unfold zbX11_shakeBy_26
      rw [if_neg (nI_ge (by omega) (by omega))]
      simp only [hB.2.1.o, hp.1, rbd]
      simp only [hB0.2.1.o, hB0.2.1.b hB.1, lnB hB.1, rgd (in_a ha3 (show 3 < 2147483648 by omega)), nI_clamp (show a < 2 ^ 31 by omega), hB0.2.1.ax hB.1 ha3, s1, rob, hB1.2.1.o, nI_1]
      unfold zX7_angle
      rw [rob, s2.1, s2.2.1]
      exact t1
    · rw [hml]
      unfold zbX12_shakeOf_15 zX12_angleBy
      rw [if_neg (nI_ge (by omega) (by omega))]
      simp only [axisAt_3 hB.2.2.1.o.1 ha3, hld, swungM hB.2.2.1 hB.2.2.2.1 hB.2.2.2.2 ha, rob, size_eq, greater_eq, nI_1]
      exact t2
theorem shake_eq {M N : zMem} {bb sb it nA nB a : Nat} {T : Int} (hB : Bx M N bb sb it nA nB) (hL : ∀ a, a < nA → zI M (37 + a) 3 = zI N 1 (48 + 6 * a + 3)) (ha : a < nA) (w : Int32) {P : Nat} (hP : P ≤ 500) : ∃ (v : Int32) (M1 : zMem), zX11_shakeBy shC 0 (nI a) w (nI P) M = some (v, M1) ∧ zX12_shakeOf shM 0 (nI a) w (nI P) N = some v ∧ only 181 M M1 ∧ 0 ≤ v.toInt := by
  have ha3 : a < 3 := by have := hB.2.2.2.1.1; omega
  obtain ⟨M1, s1, s2, s3⟩ := letGo_eq (M := M) (zI M (28 + 9 + a) 3) 0
  obtain ⟨v, M2, t1, t2, t3, t4⟩ := shake_loop (N := N) (bb := bb) (sb := sb) (it := it) (nB := nB) (w := w) ha hP (hL a ha).symm P 0 zF zF M1 0 0 0 0 (by omega) (by unfold zF; omega) (by unfold zF; omega) (by decide) (hB.o s3 (by omega)) s2
  refine ⟨v, M2, ?_, t2, s3.tr t3, t4⟩
  unfold zX11_shakeBy
  simp only [hB.2.1.o, hB.2.1.s st28, lnS st28, rgd (in_a ha3 (show 3 < 2147483648 by omega)), nI_clamp (show a < 2 ^ 31 by omega), hB.2.1.ro st28 ha3, s1, rob]
  exact t1
theorem Bx.ld {M N M1 : zMem} {nA : Nat} (hL : ∀ a, a < nA → zI M (37 + a) 3 = zI N 1 (48 + 6 * a + 3)) (g : only 181 M M1) (h3 : nA ≤ 3) : ∀ a, a < nA → zI M1 (37 + a) 3 = zI N 1 (48 + 6 * a + 3) := fun a ha => by rw [g.2 _ _ (by omega)]; exact hL a ha
theorem B_shake_ok : B_shake Inv := by
  intro n M N v1 v2 v3 hn hI
  have hU := Inv_up n M N hI
  obtain ⟨bb, sb, it, nA, nB, hB, hS⟩ := Inv_Bx hI
  have hBB := hB
  obtain ⟨hb, hC, hN, h6, h7⟩ := hB
  have h11 : zR M 0 11 = bb := by simp only [hC.o]
  have hL : ∀ a, a < nA → zI M (37 + a) 3 = zI N 1 (48 + 6 * a + 3) := fun a ha => hS.load ha (by have := h6.1; omega)
  unfold zX11_shake zX12_shake zjX11_shake_29 zjX12_shake_42 zjX12_shake_43
  rw [axisC h11 h6.2.2.1 h6.1, axisM h6.2.2.2.1 h6.1, rob, rob, within_eq, rob, isIn_l v2 0 60 _ _ rfl rfl, rob, within_eq, rob, isIn_l v3 1 500 _ _ rfl rfl, rob]
  simp only [bI_0]
  by_cases c1 : 0 ≤ v1.toInt ∧ v1.toInt < nA
  · rw [if_neg (nn c1), if_neg (nn c1)]
    obtain ⟨a, ha, rfl⟩ := ax_ex c1
    by_cases c2 : (0 : Int32) ≤ v2 ∧ v2 ≤ 60
    · rw [if_neg (nn c2), if_neg (nn c2)]
      by_cases c3 : (1 : Int32) ≤ v3 ∧ v3 ≤ 500
      · rw [if_neg (nn c3), if_neg (nn c3)]
        have g1 : 1 ≤ v3.toInt := r_le.mp c3.1
        have g2 : v3.toInt ≤ 500 := r_le.mp c3.2
        obtain ⟨P, hP, rfl⟩ := ax_ex (nA := 501) (x := v3) ⟨by omega, by omega⟩
        obtain ⟨v, M1, t1, t2, t3, t4⟩ := shake_eq (T := 0) hBB hL ha v2 (show P ≤ 500 by omega)
        rw [t1, t2, rob2, rob]
        exact ⟨v, M1, N, rfl, rfl, Inv_same hI (t3.C (by omega)) (sameN.rf N)⟩
      · exact ⟨_, M, N, if_pos c3, if_pos c3, hU⟩
    · exact ⟨_, M, N, if_pos c2, if_pos c2, hU⟩
  · exact ⟨_, M, N, if_pos c1, if_pos c1, hU⟩
