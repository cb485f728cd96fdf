/-! Phase B: acts kept, taken back -/
theorem rSt.cf {V : Nat → Nat → Int32} {f f' : Nat → Int32} {nA : Nat} {T : Int} (h : rSt V f nA T) (h3 : nA ≤ 3) (e : ∀ j, j < 194 → f' j = f j) : rSt V f' nA T := by
  have e0 := e 0 (by omega)
  have e1 := e 1 (by omega)
  have e3 := e 3 (by omega)
  have e10 := e 10 (by omega)
  have e11 := e 11 (by omega)
  have e12 := e 12 (by omega)
  have e13 := e 13 (by omega)
  have e14 := e 14 (by omega)
  have e15 := e 15 (by omega)
  have e16 := e 16 (by omega)
  have e17 := e 17 (by omega)
  have e18 := e 18 (by omega)
  have e19 := e 19 (by omega)
  have e20 := e 20 (by omega)
  have e21 := e 21 (by omega)
  have e22 := e 22 (by omega)
  have e23 := e 23 (by omega)
  unfold rSt at h ⊢
  simp only [e0, e1, e3, e10, e11, e12, e13, e14, e15, e16, e17, e18, e19, e20, e21, e22, e23]
  obtain ⟨h1, h2, h4, h5, h6, h7, h8, h9, h10, h11, h12, h13⟩ := h
  refine ⟨h1, h2, h4, h5, h6, h7, fun i hi hi2 => by rw [e _ (by omega)]; exact h8 i hi hi2, fun i a hi ha => by rw [e _ (by unfold btw at h7; omega)]; exact h9 i a hi ha, fun a ha => ?_, h11, h12, ?_⟩
  · obtain ⟨g1, g2, g3, g4, g5⟩ := h10 a ha
    rw [e _ (by omega), e _ (by omega), e _ (by omega), e _ (by omega)]
    exact ⟨fun j hj => by rw [e _ (by omega)]; exact g1 j hj, g2, g3, g4, g5⟩
  · rcases h13 with g | ⟨g, k⟩
    · exact Or.inl g
    · refine Or.inr ⟨g, ?_⟩
      unfold rMv at k ⊢
      simp only [e3, e10, e11, e12, e13, e14, e15, e16, e17, e18, e19, e20]
      obtain ⟨k1, k2, k3, k4, k5, k6, k7, k8, k9, k10, k11, k12, L, k13, k14, k15, k16⟩ := k
      have h60 := k13.1
      refine ⟨k1, k2, k3, k4, k5, k6, k7, k8, k9, k10, fun a ha => ?_, k12, L, k13, k14, k15, ?_⟩
      · rw [e _ (by omega), e _ (by omega)]
        exact k11 a ha
      · rcases k16 with ⟨m1, m2, m3, m4⟩ | ⟨m1, m2, m3, m4⟩
        · exact Or.inl ⟨m1, m2, fun k hk => by rw [e _ (by omega)]; exact m3 k hk, m4⟩
        · exact Or.inr ⟨m1, m2, fun k hk => by rw [e _ (by omega)]; exact m3 k hk, m4⟩
theorem shift_loop {N : zMem} (hN : rfN N) : ∀ (r x F : Nat) (N1 : zMem), x + r = 1940 → 194 ≤ x → r < F → N1.2.2 = N.2.2 → (∀ k j, k ≠ 16 → zI N1 k j = zI N k j) → (∀ i, i + 194 < x → zI N1 16 i = zI N 16 (i + 194)) → (∀ i, x ≤ i + 194 → zI N1 16 i = zI N 16 i) → ∃ N2, zlX12_act_13 shM 0 F (nI x) N1 = zjX12_act_52 shM 0 (zpI N2 0 46 (zI N2 0 46 - 1)) ∧ N2.2.2 = N.2.2 ∧ (∀ k j, k ≠ 16 → zI N2 k j = zI N k j) ∧ (∀ i, i < 1746 → zI N2 16 i = zI N 16 (i + 194)) := by
  intro r
  induction r with
  | zero =>
    intro x F N1 h1 h2 hF hR hk hlo hhi
    obtain ⟨F, rfl⟩ : ∃ y, F = y + 1 := ⟨F - 1, by omega⟩
    simp only [zlX12_act_13]
    unfold zbX12_act_13
    rw [if_pos (show (1940 : Int32) ≤ nI x from nI_le (a := 1940) (by omega) (by omega)), rbd]
    exact ⟨N1, rfl, hR, hk, fun i hi => hlo i (by omega)⟩
  | succ r ih =>
    intro x F N1 h1 h2 hF hR hk hlo hhi
    obtain ⟨F, rfl⟩ : ∃ y, F = y + 1 := ⟨F - 1, by omega⟩
    have hN1 := hN.sm hR
    have e45 : zR N1 0 45 = 16 := by simp only [hN1.o]
    have es : nI x - 194 = nI (x - 194) := pk_sub (b := 194) (by omega)
    simp only [zlX12_act_13]
    unfold zbX12_act_13
    rw [if_neg (show ¬ (1940 : Int32) ≤ nI x from nI_ge (b := 1940) (by omega) (by omega)), e45, show zlen shM 16 = 1940 from rfl, rgd (in_a (by omega) (by omega)), es, rgd (in_a (by omega) (by omega)), nI_clamp (by omega), nI_clamp (by omega), rbd, nI_1]
    clear e45 es
    refine ih (x + 1) F _ (by omega) (by omega) (by omega) hR (fun k j g => ?_) (fun i hi => ?_) (fun i hi => ?_)
    · rw [rI_pI, if_neg (fun e => g e.1)]; exact hk k j g
    · rw [rI_pI]
      by_cases g : i = x - 194
      · rw [if_pos ⟨rfl, g⟩, hhi x (by omega)]; congr 1; omega
      · rw [if_neg (fun e => g e.2)]; exact hlo i (by omega)
    · rw [rI_pI, if_neg (by omega)]; exact hhi i (by omega)
theorem put_loop {N : zMem} {A : Nat} (hN : rfN N) (hA : A < 10) (ha : zI N 0 46 = nI A) : ∀ (r x F : Nat) (N1 : zMem), x + r = 194 → r < F → N1.2.2 = N.2.2 → (∀ k j, k ≠ 16 → zI N1 k j = zI N k j) → (∀ i, i < x → zI N1 16 (194 * A + i) = zI N 1 i) → (∀ i, ¬ (194 * A ≤ i ∧ i < 194 * A + 194) → zI N1 16 i = zI N 16 i) → ∃ N2, zlX12_act_54 shM 0 F (nI x) N1 = some (zpI N2 0 46 (nI (A + 1))) ∧ N2.2.2 = N.2.2 ∧ (∀ k j, k ≠ 16 → zI N2 k j = zI N k j) ∧ (∀ i, i < 194 → zI N2 16 (194 * A + i) = zI N 1 i) ∧ (∀ i, ¬ (194 * A ≤ i ∧ i < 194 * A + 194) → zI N2 16 i = zI N 16 i) := by
  intro r
  induction r with
  | zero =>
    intro x F N1 h1 hF hR hk hlo hhi
    obtain ⟨F, rfl⟩ : ∃ y, F = y + 1 := ⟨F - 1, by omega⟩
    simp only [zlX12_act_54]
    unfold zbX12_act_54
    rw [if_pos (show (194 : Int32) ≤ nI x from nI_le (a := 194) (by omega) (by omega)), rbd, hk 0 46 (by omega), ha, nI_1]
    exact ⟨N1, rfl, hR, hk, fun i hi => hlo i (by omega), hhi⟩
  | succ r ih =>
    intro x F N1 h1 hF hR hk hlo hhi
    obtain ⟨F, rfl⟩ : ∃ y, F = y + 1 := ⟨F - 1, by omega⟩
    have hN1 := hN.sm hR
    have e45 : zR N1 0 45 = 16 := by simp only [hN1.o]
    have e0 : zR N1 0 0 = 1 := by simp only [hN1.o]
    have es : (194 : Int32) * nI A + nI x = nI (194 * A + x) := by rw [show (194 : Int32) = nI 194 from rfl, pk_mul, nI_add]
    simp only [zlX12_act_54]
    unfold zbX12_act_54
    rw [if_neg (show ¬ (194 : Int32) ≤ nI x from nI_ge (b := 194) (by omega) (by omega)), e45, e0, hk 0 46 (by omega), ha, es, show zlen shM 16 = 1940 from rfl, show zlen shM 1 = 194 from rfl, rgd (in_a (by omega) (by omega)), rgd (in_a (by omega) (by omega)), nI_clamp (by omega), nI_clamp (by omega), rbd, nI_1]
    clear e45 es e0
    refine ih (x + 1) F _ (by omega) (by omega) hR (fun k j g => ?_) (fun i hi => ?_) (fun i hi => ?_)
    · rw [rI_pI, if_neg (fun e => g e.1)]; exact hk k j g
    · rw [rI_pI]
      by_cases g : i = x
      · rw [if_pos ⟨rfl, by omega⟩, hk 1 x (by omega), g]
      · rw [if_neg (fun e => g (by omega))]; exact hlo i (by omega)
    · rw [rI_pI, if_neg (by omega)]; exact hhi i hi
/-- what act leaves in the reference -/
theorem act_M {N : zMem} {kept : Nat} (hN : rfN N) (hk : kept ≤ 10) (ha : zI N 0 46 = nI kept) : ∃ N1, zX12_act shM 0 N = some N1 ∧ N1.2.2 = N.2.2 ∧ (∀ k j, k ≠ 16 → ¬ (k = 0 ∧ j = 46) → zI N1 k j = zI N k j) ∧ zI N1 0 46 = nI (if kept = 10 then 10 else kept + 1) ∧ (∀ i j, j < 194 → i < (if kept = 10 then 9 else kept) → zI N1 16 (194 * i + j) = zI N 16 (194 * (if kept = 10 then i + 1 else i) + j)) ∧ (∀ j, j < 194 → zI N1 16 (194 * (if kept = 10 then 9 else kept) + j) = zI N 1 j) := by
  unfold zX12_act
  rw [ha]
  by_cases h10 : kept = 10
  · subst h10
    rw [if_pos rfl, show (194 : Int32) = nI 194 from rfl]
    obtain ⟨N2, t1, t2, t3, t4⟩ := shift_loop hN 1746 194 zF N (by omega) (by omega) (by unfold zF; omega) rfl (fun _ _ _ => rfl) (fun i hi => by omega) (fun i hi => rfl)
    rw [t1, t3 0 46 (by omega), ha, show nI 10 - 1 = nI 9 from rfl]
    unfold zjX12_act_52
    obtain ⟨N3, u1, u2, u3, u4, u5⟩ := put_loop (N := zpI N2 0 46 (nI 9)) (A := 9) (hN.sm t2) (by omega) rfl 194 0 zF (zpI N2 0 46 (nI 9)) (by omega) (by unfold zF; omega) rfl (fun _ _ _ => rfl) (fun i hi => by omega) (fun _ _ => rfl)
    rw [show (0 : Int32) = nI 0 from rfl, u1]
    refine ⟨_, rfl, u2.trans t2, fun k j g1 g2 => ?_, rfl, fun i j hj hi => ?_, fun j hj => ?_⟩
    · rw [rI_pI, if_neg g2, u3 k j g1, rI_pI, if_neg g2, t3 k j g1]
    · simp only [if_true] at hi ⊢
      rw [rI_pI, if_neg (by omega), u5 _ (by omega), rI_pI, if_neg (by omega), t4 _ (by omega)]
      congr 1
      omega
    · simp only [if_true]
      rw [rI_pI, if_neg (by omega), u4 j hj, rI_pI, if_neg (by omega), t3 1 j (by omega)]
  · rw [if_neg (show ¬ nI kept = (10 : Int32) from fun g => h10 ((nI_eq (b := 10) (by omega) (by omega)).mp g))]
    unfold zjX12_act_52
    obtain ⟨N3, u1, u2, u3, u4, u5⟩ := put_loop (N := N) (A := kept) hN (by omega) ha 194 0 zF N (by omega) (by unfold zF; omega) rfl (fun _ _ _ => rfl) (fun i hi => by omega) (fun _ _ => rfl)
    rw [show (0 : Int32) = nI 0 from rfl, u1]
    refine ⟨_, rfl, u2, fun k j g1 g2 => ?_, ?_, fun i j hj hi => ?_, fun j hj => ?_⟩
    · rw [rI_pI, if_neg g2, u3 k j g1]
    · rw [rI_pI, if_pos ⟨rfl, rfl⟩, if_neg h10]
    · rw [if_neg h10] at hi ⊢
      have hm : 194 * i + 194 ≤ 194 * kept := by omega
      rw [rI_pI, if_neg (by omega), u5 _ (by omega)]
    · rw [if_neg h10, rI_pI, if_neg (by omega), u4 j hj]
/-- what an act keeps in both -/
theorem keep_act {M N : zMem} {bb sb it nA : Nat} {T : Int} (hC : rfC M bb sb it) (hN : rfN N) (h3 : nA ≤ 3) (hH : IvH M N nA T) (hS : rSt (vSt M 28) (zI N 1) nA T) : ∃ M1 N1, zX3_keep shC 52 28 M = some M1 ∧ zX12_act shM 0 N = some N1 ∧ IvH M1 N1 nA T ∧ M1.2.2 = M.2.2 ∧ N1.2.2 = N.2.2 ∧ (∀ k j, (k < 52 ∨ 174 ≤ k) → zI M1 k j = zI M k j) ∧ (∀ k j, k ≠ 16 → ¬ (k = 0 ∧ j = 46) → zI N1 k j = zI N k j) ∧ (G0 M → G0 M1) := by
  obtain ⟨kept, next, k1, k2, k3, k4, k5, k6⟩ := hH
  obtain ⟨N1, n1, n2, n3, n4, n5, n6⟩ := act_M hN k1 k4
  have hring := hC.r (i := next) k2
  have hst := hring.2
  have hb8 : zisB (zI M 28 8) = true := by
    have := hS.2.2.2.2.2.2.2.2.2.1
    rw [vSt_at rfl] at this
    have this : zI M 28 8 = zI N 1 1 := this
    rw [this]
    rcases hS.2.2.2.2.2.2.2.2.2.2.2 with g | g
    · rw [g.1]; rfl
    · rw [g.1]; rfl
  have hb9 : zisB (zI M 28 9) = true := by
    have := hS.2.2.2.2.2.2.2.2.2.2.1
    rw [vSt_at rfl] at this
    have this : zI M 28 9 = 0 ∨ zI M 28 9 = 1 := this
    rcases this with g | g
    · rw [g]; rfl
    · rw [g]; rfl
  obtain ⟨M1, m1, m2, m3, m4⟩ := copy_st hC hst st28 (by omega) hb8 hb9
  have e0 : zR M 52 0 = 53 := by simp only [hC.o]
  have enx : zrem (nI next + 1) 10 = nI ((next + 1) % 10) := by
    rw [nI_1]
    unfold zrem
    exact pk_rem (d := 10) (by omega) (by omega) (by omega)
  have ekp : zmin 10 (nI kept + 1) = nI (if kept = 10 then 10 else kept + 1) := by
    rw [nI_1]
    unfold zmin
    by_cases g : kept = 10
    · subst g; rfl
    · rw [if_neg g]
      by_cases g9 : kept = 9
      · subst g9; rfl
      · rw [if_pos (show nI (kept + 1) < (10 : Int32) from nI_lt (b := 10) (by omega) (by omega))]
  refine ⟨zpI (zpI M1 52 1 (nI ((next + 1) % 10))) 52 2 (nI (if kept = 10 then 10 else kept + 1)), N1, ?_, n1, ?_, m3, n2, fun k j hk => ?_, n3, fun hG => ?_⟩
  · unfold zX3_keep
    rw [k5, e0, show zlen shC 53 = 10 from rfl, rgd (in_a k2 (by omega)), nI_clamp (by omega), hring.1, m1, rob]
    simp only [rbd]
    rw [m4 52 1 (by omega), k5, enx, rI_pI, if_neg (by omega), m4 52 2 (by omega), k3, ekp]
  · clear hring e0 enx ekp
    have hv : ∀ b, stB b → b ≠ 54 + 12 * next → vSt (zpI (zpI M1 52 1 (nI ((next + 1) % 10))) 52 2 (nI (if kept = 10 then 10 else kept + 1))) b = vSt M b := fun b hb hne => vSt_same (fun k j g1 g2 g3 => by
      have hd := stB_d hb hst hne
      unfold stB at hb
      rw [rI_pI, if_neg (by omega), rI_pI, if_neg (by omega), m4 k j (by omega)])
    have hv2 : vSt (zpI (zpI M1 52 1 (nI ((next + 1) % 10))) 52 2 (nI (if kept = 10 then 10 else kept + 1))) (54 + 12 * next) = vSt M 28 := by
      rw [← m2]
      exact vSt_same (fun k j g1 g2 g3 => by rw [rI_pI, if_neg (by omega), rI_pI, if_neg (by omega)])
    have hsb : ∀ i, i < 10 → stB (54 + 12 * i) := fun i hi => by unfold stB; omega
    by_cases g : kept = 10
    · refine ⟨10, (next + 1) % 10, by omega, by omega, ?_, ?_, ?_, fun i hi => ?_⟩
      · rw [rI_pI, if_pos ⟨rfl, rfl⟩, if_pos g]
      · rw [n4, if_pos g]
      · rw [rI_pI, if_neg (by omega), rI_pI, if_pos ⟨rfl, rfl⟩]
      · by_cases hi9 : i = 9
        · rw [show ((next + 1) % 10 + 10 - 10 + i) % 10 = next by omega, hv2]
          exact hS.cf h3 (fun j hj => by have := n6 j hj; rw [if_pos g] at this; rw [hi9]; exact this)
        · rw [hv _ (hsb _ (by omega)) (by omega)]
          have := k6 (i + 1) (by omega)
          rw [show (next + 10 - kept + (i + 1)) % 10 = ((next + 1) % 10 + 10 - 10 + i) % 10 by omega] at this
          exact this.cf h3 (fun j hj => by have := n5 i j hj (by rw [if_pos g]; omega); rw [if_pos g] at this; exact this)
    · refine ⟨kept + 1, (next + 1) % 10, by omega, by omega, ?_, ?_, ?_, fun i hi => ?_⟩
      · rw [rI_pI, if_pos ⟨rfl, rfl⟩, if_neg g]
      · rw [n4, if_neg g]
      · rw [rI_pI, if_neg (by omega), rI_pI, if_pos ⟨rfl, rfl⟩]
      · by_cases hik : i = kept
        · rw [show ((next + 1) % 10 + 10 - (kept + 1) + i) % 10 = next by omega, hv2]
          exact hS.cf h3 (fun j hj => by have := n6 j hj; rw [if_neg g] at this; rw [hik]; exact this)
        · rw [hv _ (hsb _ (by omega)) (by omega)]
          have := k6 i (by omega)
          rw [show (next + 10 - kept + i) % 10 = ((next + 1) % 10 + 10 - (kept + 1) + i) % 10 by omega] at this
          exact this.cf h3 (fun j hj => by have := n5 i j hj (by rw [if_neg g]; omega); rw [if_neg g] at this; exact this)
  · rw [rI_pI, if_neg (by omega), rI_pI, if_neg (by omega), m4 k j (by omega)]
  · clear hring e0 enx ekp
    refine ⟨?_, ?_, fun b hb => ?_⟩
    · rw [rI_pI, if_neg (by omega), rI_pI, if_neg (by omega), m4 178 0 (by omega)]; exact hG.1
    · rw [rI_pI, if_neg (by omega), rI_pI, if_neg (by omega), m4 180 0 (by omega)]; exact hG.2.1
    · have hbb := hb
      unfold stB at hbb
      rw [rI_pI, if_neg (by omega), rI_pI, if_neg (by omega)]
      by_cases g : b = 54 + 12 * next
      · subst g
        have := congrFun (congrFun m2 6) 0
        rw [vSt_at rfl, vSt_at rfl] at this
        rw [this]
        exact hG.2.2 28 st28
      · have hd := stB_d hb hst g
        rw [m4 (b + 6) 0 (by omega)]
        exact hG.2.2 b hb
