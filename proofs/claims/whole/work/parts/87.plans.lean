/-! Phase B: plan and plans -/
/-- what both know of a planned move -/
def PL (M N : zMem) (mb nA : Nat) (zA : Nat → Int32) (d : Nat → Int) : Prop := ∃ (ld W S A J : Nat) (L : List Int) (rest E : Int), ld < nA ∧ 1 ≤ W ∧ W ≤ 60000 ∧ (∀ a, a < 3 → (d a).natAbs ≤ W) ∧ (d ld).natAbs = W ∧ S ≤ 60 ∧ 1 ≤ A ∧ A ≤ 30 ∧ 1 ≤ J ∧ J ≤ 10 ∧ rmL L ∧ (W : Int) = 2 * psum L L.length + rest ∧ evOK rest E ∧
  (zI M mb 3 = nI ld ∧ zI M mb 4 = nI W ∧ zI M mb 5 = nI S ∧ zI M mb 6 = nI A ∧ zI M mb 7 = nI J ∧ zI M mb 8 = iI rest ∧ zI M mb 9 = iI E ∧ rpC M (mb + 3) (mb + 4) L ∧ ∀ a, a < 3 → zI M (mb + 1) a = zA a ∧ zI M (mb + 2) a = iI (d a)) ∧
  (zI N 0 38 = nI ld ∧ zI N 0 39 = nI W ∧ zI N 0 40 = nI S ∧ zI N 0 41 = nI A ∧ zI N 0 42 = nI J ∧ zI N 0 43 = iI rest ∧ zI N 0 44 = iI E ∧ rpM N L ∧ ∀ a, a < 3 → zI N 15 a = iI (d a))
theorem planC_loop {M N : zMem} {bb sb it nA nB mb rb tb : Nat} {rk : Nat → Nat} {to : Nat → Int32} {d : Nat → Int} (hB : Bx M N bb sb it nA nB) (hm : mvB M mb) (hmb : 25 ≤ mb) (hl1 : zlen shC (mb + 1) = 3) (hl2 : zlen shC (mb + 2) = 3) (hlr : zlen shC rb = 3) (hlt : zlen shC tb = 3) (hrk : ∀ a, a < 3 → zR M rb a = rk a ∧ ¬ (mb ≤ rk a ∧ rk a ≤ mb + 4)) (htb : ¬ (mb ≤ tb ∧ tb ≤ mb + 4)) (hto : ∀ a, a < nA → zI M tb a = to a) (hd : ∀ a, a < 3 → (if a < nA then to a - zI M (rk a) 0 else 0) = iI (d a)) (hdb : ∀ a, (d a).natAbs ≤ 60000) : ∀ (r a F : Nat) (Mx : zMem) (l w : Nat), a + r = 3 → r < F → frm mb M Mx → (∀ c, c < a → zI Mx (mb + 1) c = zI M (rk c) 0 ∧ zI Mx (mb + 2) c = iI (d c)) → zI Mx mb 3 = nI l → zI Mx mb 4 = nI w → isLd d a l w → zI Mx (mb + 4) 0 = 0 → ∃ (l w : Nat) (My : zMem), zlX4_plan_13 shC mb rb tb bb F (nI a) Mx = (if nI w = 0 then some (0, My) else zob (zX4_findLimits shC mb bb My) fun M_18 => zlX4_plan_120 shC mb rb tb bb zF (zI M_18 mb 5) M_18) ∧ frm mb M My ∧ (∀ c, c < 3 → zI My (mb + 1) c = zI M (rk c) 0 ∧ zI My (mb + 2) c = iI (d c)) ∧ zI My mb 3 = nI l ∧ zI My mb 4 = nI w ∧ isLd d 3 l w ∧ zI My (mb + 4) 0 = 0 := by
  have hn3 : nA ≤ 3 := hB.2.2.2.1.1
  have hb : bb = 1 ∨ bb = 13 := hB.1
  intro r
  induction r with
  | zero =>
    intro a F Mx l w h1 hF hf hc e3 e4 hl h0
    obtain ⟨F, rfl⟩ : ∃ x, F = x + 1 := ⟨F - 1, by omega⟩
    obtain rfl : a = 3 := by omega
    refine ⟨l, w, Mx, ?_, hf, hc, e3, e4, hl, h0⟩
    simp only [zlX4_plan_13]
    unfold zbX4_plan_13
    rw [if_pos (show (3 : Int32) ≤ nI 3 by decide), e4]
  | succ r ih =>
    intro a F Mx l w h1 hF hf hc e3 e4 hl h0
    obtain ⟨F, rfl⟩ : ∃ x, F = x + 1 := ⟨F - 1, by omega⟩
    have ha : a < 3 := by omega
    have hda := hdb a
    have hw6 : w ≤ 60000 := by
      rcases hl with ⟨-, -, k⟩ | ⟨-, k, -⟩
      · omega
      · have := hdb l; omega
    have m0 : zR Mx mb 0 = mb + 1 := by unfold zR; rw [hf.1]; exact hm.1
    have m1 : zR Mx mb 1 = mb + 2 := by unfold zR; rw [hf.1]; exact hm.2.1
    have rr : zR Mx rb a = rk a := by unfold zR; rw [hf.1]; exact (hrk a ha).1
    have hrk2 := (hrk a ha).2
    have z0 : zI Mx (rk a) 0 = zI M (rk a) 0 := hf.2 _ _ hrk2
    have hbb : zI (zpI Mx (mb + 1) a (zI M (rk a) 0)) bb 6 = nI nA := by rw [rI_pI, if_neg (by omega), hf.2 _ _ (by omega)]; exact hB.2.2.2.1.2.2.1
    have hl' := isLd_s hl
    simp only [zlX4_plan_13]
    unfold zbX4_plan_13
    rw [if_neg (show ¬ (3 : Int32) ≤ nI a from nI_ge (b := 3) (by omega) (by omega)), hlr, rgd (in_a ha (by omega)), m0, hl1, rgd (in_a ha (by omega)), nI_clamp (by omega), rr, z0]
    simp only [rbd]
    rw [hbb]
    have n0 : zR (zpI Mx (mb + 1) a (zI M (rk a) 0)) mb 0 = mb + 1 := m0
    have n1 : zR (zpI Mx (mb + 1) a (zI M (rk a) 0)) mb 1 = mb + 2 := m1
    have n2 : zR (zpI (zpI Mx (mb + 1) a (zI M (rk a) 0)) (mb + 2) a (iI (d a))) mb 1 = mb + 2 := m1
    rw [n0, n1, hl1, hlt]
    have hto2 : a < nA → zI (zpI Mx (mb + 1) a (zI M (rk a) 0)) tb a - zI (zpI Mx (mb + 1) a (zI M (rk a) 0)) (mb + 1) a = iI (d a) := fun hx => by
      rw [rI_pI, if_neg (by omega), rI_pI, if_pos ⟨rfl, rfl⟩, hf.2 _ _ htb, hto a hx]
      have := hd a ha
      rw [if_pos hx] at this
      exact this
    have hd0 : ¬ a < nA → (0 : Int32) = iI (d a) := fun hx => by
      have := hd a ha
      rw [if_neg hx] at this
      exact this
    have key : ∀ s : Int32, s = iI (d a) → ∃ (l w : Nat) (My : zMem), zjX4_plan_64 shC mb rb tb bb (zlX4_plan_13 shC mb rb tb bb F) (nI a) (mb + 2) (nI a) s (zpI Mx (mb + 1) a (zI M (rk a) 0)) = (if nI w = 0 then some (0, My) else zob (zX4_findLimits shC mb bb My) fun M_18 => zlX4_plan_120 shC mb rb tb bb zF (zI M_18 mb 5) M_18) ∧ frm mb M My ∧ (∀ c, c < 3 → zI My (mb + 1) c = zI M (rk c) 0 ∧ zI My (mb + 2) c = iI (d c)) ∧ zI My mb 3 = nI l ∧ zI My mb 4 = nI w ∧ isLd d 3 l w ∧ zI My (mb + 4) 0 = 0 := by
      intro s hs
      subst hs
      unfold zjX4_plan_64 zjX4_plan_94 zX4_wayOf
      have hby : zI (zpI (zpI Mx (mb + 1) a (zI M (rk a) 0)) (mb + 2) a (iI (d a))) (mb + 2) a = iI (d a) := by rw [rI_pI, if_pos ⟨rfl, rfl⟩]
      rw [hl2, rgd (in_a ha (by omega)), nI_clamp (by omega), rbd, n2, hl2]
      simp only [rgd (in_a ha (show 3 < 2147483648 by omega)), rob, hby, rbd]
      rw [iI_abs (by omega) (by omega)]
      generalize hMy : zpI (zpI Mx (mb + 1) a (zI M (rk a) 0)) (mb + 2) a (iI (d a)) = My
      have fy : frm mb M My := ⟨by rw [← hMy]; exact hf.1, fun k j hk => by rw [← hMy, rI_pI, if_neg (by omega), rI_pI, if_neg (by omega)]; exact hf.2 k j hk⟩
      have cy : ∀ c, c < a + 1 → zI My (mb + 1) c = zI M (rk c) 0 ∧ zI My (mb + 2) c = iI (d c) := fun c hc2 => by
        rw [← hMy]
        by_cases g : c = a
        · subst g
          exact ⟨by rw [rI_pI, if_neg (by omega), rI_pI, if_pos ⟨rfl, rfl⟩], by rw [rI_pI, if_pos ⟨rfl, rfl⟩]⟩
        · rw [rI_pI, if_neg (by omega), rI_pI, if_neg (by omega), rI_pI, if_neg (by omega), rI_pI, if_neg (by omega)]
          exact hc c (by omega)
      have y3 : zI My mb 3 = nI l := by rw [← hMy, rI_pI, if_neg (by omega), rI_pI, if_neg (by omega)]; exact e3
      have y4 : zI My mb 4 = nI w := by rw [← hMy, rI_pI, if_neg (by omega), rI_pI, if_neg (by omega)]; exact e4
      have y0 : zI My (mb + 4) 0 = 0 := by rw [← hMy, rI_pI, if_neg (by omega), rI_pI, if_neg (by omega)]; exact h0
      rw [y4, ← iI_n, nI_1]
      by_cases g : (d a).natAbs ≤ w
      · rw [if_pos (nI_le g (by omega))]
        exact ih (a + 1) F My l w (by omega) (by omega) fy cy y3 y4 (hl'.2 (by omega)) y0
      · rw [if_neg (nI_ge (by omega) (by omega))]
        exact ih (a + 1) F (zpI (zpI My mb 4 (nI (d a).natAbs)) mb 3 (nI a)) a (d a).natAbs (by omega) (by omega) ⟨fy.1, fun k j hk => by rw [rI_pI, if_neg (by omega), rI_pI, if_neg (by omega)]; exact fy.2 k j hk⟩ (fun c hc2 => by rw [rI_pI, if_neg (by omega), rI_pI, if_neg (by omega), rI_pI, if_neg (by omega), rI_pI, if_neg (by omega)]; exact cy c hc2) (by rw [rI_pI, if_pos ⟨rfl, rfl⟩]) (by rw [rI_pI, if_neg (by omega), rI_pI, if_pos ⟨rfl, rfl⟩]) (hl'.1 (by omega)) (by rw [rI_pI, if_neg (by omega), rI_pI, if_neg (by omega)]; exact y0)
    by_cases c : a < nA
    · rw [if_neg (nI_ge c (by omega)), rgd (in_a ha (by omega)), rgd (in_a ha (by omega))]
      exact key _ (hto2 c)
    · rw [if_pos (nI_le (by omega) (by omega))]
      exact key _ (hd0 c)
theorem goes_loop {M N : zMem} {bb sb it nA nB : Nat} {x y z : Int32} {d : Nat → Int} (hB : Bx M N bb sb it nA nB) (hd : ∀ a, a < 3 → (if a < nA then on3 x y z a - zI N 1 (48 + 6 * a) else 0) = iI (d a)) : ∀ (r a F : Nat) (Nx : zMem), a + r = 3 → r < F → onlyQ N Nx → zI Nx 0 38 = 0 → (∀ c, c < a → zI Nx 15 c = iI (d c)) → ∃ Ny, zlX12_plans_8 shM 0 x y z F (nI a) Nx = zlX12_plans_59 shM 0 x y z zF 1 Ny ∧ onlyQ N Ny ∧ zI Ny 0 38 = 0 ∧ (∀ c, c < 3 → zI Ny 15 c = iI (d c)) := by
  have hn3 : nA ≤ 3 := hB.2.2.2.1.1
  intro r
  induction r with
  | zero =>
    intro a F Nx h1 hF ho e38 hc
    obtain ⟨F, rfl⟩ : ∃ x, F = x + 1 := ⟨F - 1, by omega⟩
    obtain rfl : a = 3 := by omega
    simp only [zlX12_plans_8]
    unfold zbX12_plans_8
    rw [if_pos (show (3 : Int32) ≤ nI 3 by decide)]
    exact ⟨Nx, rfl, ho, e38, hc⟩
  | succ r ih =>
    intro a F Nx h1 hF ho e38 hc
    obtain ⟨F, rfl⟩ : ∃ x, F = x + 1 := ⟨F - 1, by omega⟩
    have ha : a < 3 := by omega
    have hN := hB.2.2.1.sm ho.1
    have e37 : zR Nx 0 37 = 15 := by simp only [hN.o]
    have n22 : zI Nx 0 22 = nI nA := by rw [ho.2 0 22 (by omega) (by omega) (by omega)]; exact hB.2.2.2.1.2.2.2.1
    simp only [zlX12_plans_8]
    unfold zbX12_plans_8 zjX12_plans_49
    rw [if_neg (show ¬ (3 : Int32) ≤ nI a from nI_ge (b := 3) (by omega) (by omega)), n22, e37, show zlen shM 15 = 3 from rfl, rgd (in_a ha (by omega)), nI_clamp (by omega), oneM ha, rob, axisAt_0 hN.o.1 ha, rob, rgd (in_a ha (by omega)), nI_1]
    simp only [rbd]
    have hda := hd a ha
    have fin : ∀ s : Int32, s = iI (d a) → ∃ Ny, zlX12_plans_8 shM 0 x y z F (nI (a + 1)) (zpI Nx 15 a s) = zlX12_plans_59 shM 0 x y z zF 1 Ny ∧ onlyQ N Ny ∧ zI Ny 0 38 = 0 ∧ (∀ c, c < 3 → zI Ny 15 c = iI (d c)) := by
      intro s hs
      refine ih (a + 1) F _ (by omega) (by omega) ⟨ho.1, fun k j h1 h2 h3 => by rw [rI_pI, if_neg (by omega)]; exact ho.2 k j h1 h2 h3⟩ (by rw [rI_pI, if_neg (by omega)]; exact e38) (fun c hc2 => ?_)
      rw [rI_pI]
      by_cases g : c = a
      · rw [if_pos ⟨rfl, g⟩, hs, g]
      · rw [if_neg (fun e => g e.2)]; exact hc c (by omega)
    by_cases c : a < nA
    · rw [if_neg (nI_ge c (by omega))]
      refine fin _ ?_
      rw [if_pos c] at hda
      rw [Nat.add_zero, ho.2 1 _ (by omega) (by omega) (by omega)]
      exact hda
    · rw [if_pos (nI_le (by omega) (by omega))]
      rw [if_neg c] at hda
      exact fin _ hda
theorem lead_loop {N : zMem} {x y z : Int32} {d : Nat → Int} (hN : rfN N) (hdb : ∀ a, (d a).natAbs ≤ 60000) : ∀ (r a F : Nat) (Nx : zMem) (l : Nat), a + r = 3 → r < F → onlyQ N Nx → zI Nx 0 38 = nI l → l < 3 → isLd d a l (d l).natAbs → (∀ c, c < 3 → zI Nx 15 c = iI (d c)) → ∃ (l : Nat) (Ny : zMem), zlX12_plans_59 shM 0 x y z F (nI a) Nx = zlX12_plans_59 shM 0 x y z 1 3 Ny ∧ onlyQ N Ny ∧ zI Ny 0 38 = nI l ∧ l < 3 ∧ isLd d 3 l (d l).natAbs ∧ (∀ c, c < 3 → zI Ny 15 c = iI (d c)) := by
  intro r
  induction r with
  | zero =>
    intro a F Nx l h1 hF ho e38 hl3 hl hc
    obtain ⟨F, rfl⟩ : ∃ x, F = x + 1 := ⟨F - 1, by omega⟩
    obtain rfl : a = 3 := by omega
    refine ⟨l, Nx, ?_, ho, e38, hl3, hl, hc⟩
    rw [show zlX12_plans_59 shM 0 x y z (F + 1) (nI 3) Nx = zbX12_plans_59 shM 0 x y z (zlX12_plans_59 shM 0 x y z F) (nI 3) Nx from rfl, show zlX12_plans_59 shM 0 x y z 1 3 Nx = zbX12_plans_59 shM 0 x y z (zlX12_plans_59 shM 0 x y z 0) 3 Nx from rfl]
    unfold zbX12_plans_59
    rw [if_pos (show (3 : Int32) ≤ nI 3 by decide), if_pos (show (3 : Int32) ≤ 3 by decide)]
  | succ r ih =>
    intro a F Nx l h1 hF ho e38 hl3 hl hc
    obtain ⟨F, rfl⟩ : ∃ x, F = x + 1 := ⟨F - 1, by omega⟩
    have ha : a < 3 := by omega
    have hN1 := hN.sm ho.1
    have e37 : zR Nx 0 37 = 15 := by simp only [hN1.o]
    have d1 := hdb a
    have d2 := hdb l
    have hl' := isLd_s hl
    rw [show zlX12_plans_59 shM 0 x y z (F + 1) (nI a) Nx = zbX12_plans_59 shM 0 x y z (zlX12_plans_59 shM 0 x y z F) (nI a) Nx from rfl]
    unfold zbX12_plans_59 zjX12_plans_96
    rw [if_neg (show ¬ (3 : Int32) ≤ nI a from nI_ge (b := 3) (by omega) (by omega)), e37, show zlen shM 15 = 3 from rfl, rgd (in_a ha (by omega)), nI_clamp (by omega), hc a ha, size_eq, rob, e38, rgd (in_a hl3 (by omega)), nI_clamp (by omega), hc l hl3, size_eq, rob, iI_abs (by omega) (by omega), iI_abs (by omega) (by omega), ← iI_n, ← iI_n, nI_1]
    simp only [rbd]
    by_cases g : (d a).natAbs ≤ (d l).natAbs
    · rw [if_pos (nI_le g (by omega))]
      exact ih (a + 1) F Nx l (by omega) (by omega) ho e38 hl3 (hl'.2 (by omega)) hc
    · rw [if_neg (nI_ge (by omega) (by omega))]
      exact ih (a + 1) F (zpI Nx 0 38 (nI a)) a (by omega) (by omega) ⟨ho.1, fun k j q1 q2 q3 => by rw [rI_pI, if_neg (by omega)]; exact ho.2 k j q1 q2 q3⟩ (by rw [rI_pI, if_pos ⟨rfl, rfl⟩]) ha (hl'.1 (by omega)) (fun c hc2 => by rw [rI_pI, if_neg (by omega)]; exact hc c hc2)
theorem plan_eq {M N : zMem} {bb sb it nA nB mb rb tb : Nat} {rk : Nat → Nat} {x y z : Int32} (hB : Bx M N bb sb it nA nB) (hm : mvB M mb) (hmb : 25 ≤ mb) (hl1 : zlen shC (mb + 1) = 3) (hl2 : zlen shC (mb + 2) = 3) (hl4 : zlen shC (mb + 4) = 61) (hlr : zlen shC rb = 3) (hlt : zlen shC tb = 3) (hrk : ∀ a, a < 3 → zR M rb a = rk a ∧ ¬ (mb ≤ rk a ∧ rk a ≤ mb + 4)) (htb : ¬ (mb ≤ tb ∧ tb ≤ mb + 4)) (hto : ∀ a, a < nA → zI M tb a = on3 x y z a) (h0 : zI M (mb + 4) 0 = 0) (hat : ∀ a, a < nA → zI M (rk a) 0 = zI N 1 (48 + 6 * a) ∧ btw (zI N 1 (48 + 6 * a)) (-30000) 30000 ∧ btw (on3 x y z a) (-30000) 30000) : ∃ (r : Int32) (M1 N1 : zMem) (d : Nat → Int), zX4_plan shC mb rb tb bb M = some (r, M1) ∧ zX12_plans shM 0 x y z N = some (r, N1) ∧ frm mb M M1 ∧ onlyQ N N1 ∧ zI M1 (mb + 4) 0 = 0 ∧ ((r = 1 ∧ PL M1 N1 mb nA (fun a => zI M (rk a) 0) d) ∨ (r = 0 ∧ ∀ a, a < 3 → d a = 0)) ∧ (∀ a, a < 3 → d a = if a < nA then (on3 x y z a).toInt - (zI N 1 (48 + 6 * a)).toInt else 0) := by
  have hn3 : nA ≤ 3 := hB.2.2.2.1.1
  have hb : bb = 1 ∨ bb = 13 := hB.1
  obtain ⟨d, hd⟩ : ∃ d : Nat → Int, ∀ a, d a = if a < nA then (on3 x y z a).toInt - (zI N 1 (48 + 6 * a)).toInt else 0 := ⟨_, fun _ => rfl⟩
  have hdb : ∀ a, (d a).natAbs ≤ 60000 := fun a => by
    rw [hd]
    by_cases c : a < nA
    · rw [if_pos c]
      have := hat a c
      unfold btw at this
      omega
    · rw [if_neg c]; decide
  have hdM : ∀ a, a < 3 → (if a < nA then on3 x y z a - zI N 1 (48 + 6 * a) else 0) = iI (d a) := fun a ha => by
    rw [hd]
    by_cases c : a < nA
    · rw [if_pos c, if_pos c, ← iI_sub, iI_t, iI_t]
    · rw [if_neg c, if_neg c]; rfl
  have hdC : ∀ a, a < 3 → (if a < nA then on3 x y z a - zI M (rk a) 0 else 0) = iI (d a) := fun a ha => by
    rw [← hdM a ha]
    by_cases c : a < nA
    · rw [if_pos c, if_pos c, (hat a c).1]
    · rw [if_neg c, if_neg c]
  obtain ⟨l, w, My, p1, p2, p3, p4, p5, p6, p7⟩ := planC_loop (to := on3 x y z) hB hm hmb hl1 hl2 hlr hlt hrk htb hto hdC hdb 3 0 zF (zpI (zpI M mb 3 0) mb 4 0) 0 0 (by omega) (by unfold zF; omega) ⟨rfl, fun k j hk => by rw [rI_pI, if_neg (by omega), rI_pI, if_neg (by omega)]⟩ (fun c hc => by omega) (by rw [rI_pI, if_neg (by omega), rI_pI, if_pos ⟨rfl, rfl⟩]; rfl) (by rw [rI_pI, if_pos ⟨rfl, rfl⟩]; rfl) (Or.inl ⟨rfl, rfl, rfl⟩) (by rw [rI_pI, if_neg (by omega), rI_pI, if_neg (by omega)]; exact h0)
  have o0 : onlyQ N (zpI N 0 38 0) := ⟨rfl, fun k j a b c => by rw [rI_pI, if_neg (by omega)]⟩
  obtain ⟨Nq, q1, q2, q3, q4⟩ := goes_loop (x := x) (y := y) (z := z) hB hdM 3 0 zF (zpI N 0 38 0) (by omega) (by unfold zF; omega) o0 rfl (fun c hc => by omega)
  have hld1 : isLd d 1 0 (d 0).natAbs := by
    refine Or.inr ⟨by omega, rfl, fun c hc => ?_⟩
    obtain rfl : c = 0 := by omega
    exact ⟨Nat.le_refl _, fun k => by omega⟩
  obtain ⟨l', Ny, s1, s2, s3, s4, s5, s6⟩ := lead_loop (x := x) (y := y) (z := z) hB.2.2.1 hdb 2 1 zF Nq 0 (by omega) (by unfold zF; omega) q2 q3 (by omega) hld1 q4
  obtain ⟨rfl, hw⟩ := isLd_u p6 s5
  have hW6 : w ≤ 60000 := by have := hdb l; omega
  have hdl := hdb l
  have hNy := hB.2.2.1.sm s2.1
  have e37 : zR Ny 0 37 = 15 := by simp only [hNy.o]
  have hC1 : zX4_plan shC mb rb tb bb M = (if nI w = 0 then some (0, My) else zob (zX4_findLimits shC mb bb My) fun M_18 => zlX4_plan_120 shC mb rb tb bb zF (zI M_18 mb 5) M_18) := by
    unfold zX4_plan
    simp only [rbd]
    exact p1
  have hN1 : zX12_plans shM 0 x y z N = zlX12_plans_59 shM 0 x y z 1 3 Ny := by
    unfold zX12_plans
    simp only [rbd]
    exact q1.trans s1
  rw [hC1, hN1, show zlX12_plans_59 shM 0 x y z 1 3 Ny = zbX12_plans_59 shM 0 x y z (zlX12_plans_59 shM 0 x y z 0) 3 Ny from rfl]
  unfold zbX12_plans_59
  rw [if_pos (show (3 : Int32) ≤ 3 by decide), e37, show zlen shM 15 = 3 from rfl, s3, rgd (in_a s4 (by omega)), nI_clamp (by omega), s6 l s4, size_eq, rob, iI_abs (by omega) (by omega), ← iI_n, ← hw]
  simp only [rbd]
  clear hC1 hN1 q1 s1 p1 e37
  generalize hN6 : zpI Ny 0 39 (nI w) = N6
  have r6 : N6.2.2 = N.2.2 := by rw [← hN6]; exact s2.1
  have k39 : zI N6 0 39 = nI w := by rw [← hN6, rI_pI, if_pos ⟨rfl, rfl⟩]
  have k6 : ∀ k j, ¬ (k = 0 ∧ j = 39) → zI N6 k j = zI Ny k j := fun k j h => by rw [← hN6, rI_pI, if_neg h]
  have o6 : onlyQ N N6 := ⟨r6, fun k j a b c => by rw [k6 k j (by omega)]; exact s2.2 k j a b c⟩
  rw [k39]
  by_cases hz : w = 0
  · subst hz
    rw [if_pos (show nI 0 = 0 from rfl), if_pos (show nI 0 = 0 from rfl)]
    refine ⟨0, My, N6, d, rfl, rfl, p2, o6, p7, Or.inr ⟨rfl, fun a ha => ?_⟩, fun a _ => hd a⟩
    rcases p6 with ⟨k, -, -⟩ | ⟨-, k2, k3⟩
    · omega
    · have := (k3 a ha).1; omega
  · rw [if_neg (nI_ne0 (by omega) (by omega)), if_neg (nI_ne0 (by omega) (by omega))]
    have hlA : l < nA := by
      by_cases c : l < nA
      · exact c
      · have := hd l
        rw [if_neg c] at this
        rw [this] at hw
        exact absurd hw hz
    have hdW : ∀ c, c < nA → (d c).natAbs ≤ w := fun c hc => by
      rcases p6 with ⟨k, -, -⟩ | ⟨-, k2, k3⟩
      · omega
      · have := (k3 c (by omega)).1; omega
    have hBy : Bx My N bb sb it nA nB := hB.sm p2.1 rfl (fun k j hk => p2.2 k j (by omega)) (fun _ _ _ => rfl)
    have hmy : mvB My mb := by unfold mvB zR; rw [p2.1]; exact hm
    have hax := fun c hc => hB.2.2.2.1.2.2.2.2.2.2.2.2.2.2.2.1 c hc
    have L0 := lim_eq (N := N) (d := d) (W := w) (cap := 60) (j := 0) (by omega) hdW hlA (by omega) (fun c hc => by have := (hax c hc).2.1; unfold btw at this; exact this.1) (by have := (hax l hlA).2.1; unfold btw at this; exact this.2)
    have L1 := lim_eq (N := N) (d := d) (W := w) (cap := 30) (j := 1) (by omega) hdW hlA (by omega) (fun c hc => by have := (hax c hc).2.2.1; unfold btw at this; exact this.1) (by have := (hax l hlA).2.2.1; unfold btw at this; exact this.2)
    have L2 := lim_eq (N := N) (d := d) (W := w) (cap := 10) (j := 2) (by omega) hdW hlA (by omega) (fun c hc => by have := (hax c hc).2.2.2.1; unfold btw at this; exact this.1) (by have := (hax l hlA).2.2.2.1; unfold btw at this; exact this.2)
    -- the class
    have gM : ∀ k j, k ≠ mb → zI (zpI (zpI (zpI My mb 5 60) mb 6 30) mb 7 10) k j = zI My k j := fun k j h => by rw [rI_pI, if_neg (by omega), rI_pI, if_neg (by omega), rI_pI, if_neg (by omega)]
    have gMb : ∀ j, ¬ (j = 5 ∨ j = 6 ∨ j = 7) → zI (zpI (zpI (zpI My mb 5 60) mb 6 30) mb 7 10) mb j = zI My mb j := fun j h => by rw [rI_pI, if_neg (by omega), rI_pI, if_neg (by omega), rI_pI, if_neg (by omega)]
    obtain ⟨Mz, z1, z2, z3, z4, z5, z6⟩ := limits_eq (N := N) (bb := bb) (sb := sb) (it := it) (nA := nA) (nB := nB) (W := w) (d := d) hmb hl2 hW6 hdb nA 0 zF (zpI (zpI (zpI My mb 5 60) mb 6 30) mb 7 10) (by omega) (by unfold zF; omega) (hBy.sm rfl rfl (fun k j hk => gM k j (by omega)) (fun _ _ _ => rfl)) hmy (fun c hc => by rw [gM _ _ (by omega)]; exact (p3 c hc).2) (by rw [gMb 4 (by omega)]; exact p5) (by rw [rI_pI, if_neg (by omega), rI_pI, if_neg (by omega), rI_pI, if_pos ⟨rfl, rfl⟩]; rfl) (by rw [rI_pI, if_neg (by omega), rI_pI, if_pos ⟨rfl, rfl⟩]; rfl) (by rw [rI_pI, if_pos ⟨rfl, rfl⟩]; rfl)
    have hfl : zX4_findLimits shC mb bb My = some Mz := by
      unfold zX4_findLimits
      simp only [rbd]
      exact z1
    rw [L0.1] at z2
    rw [L1.1] at z3
    rw [L2.1] at z4
    generalize hS : leF N d w 0 nA = S at *
    generalize hA : leF N d w 1 nA = A at *
    generalize hJ : leF N d w 2 nA = J at *
    have zk : ∀ k j, ¬ (k = mb ∧ (j = 5 ∨ j = 6 ∨ j = 7)) → zI Mz k j = zI My k j := fun k j h => by
      rw [z6 k j h]
      by_cases g : k = mb
      · subst g; exact gMb j (by omega)
      · exact gM k j g
    have rz : Mz.2.2 = M.2.2 := z5.trans p2.1
    have hBz : Bx Mz N bb sb it nA nB := hB.sm rz rfl (fun k j hk => by rw [zk k j (by omega)]; exact p2.2 k j (by omega)) (fun _ _ _ => rfl)
    have hbk : ∀ b, b < nB → 1 ≤ (zI N 6 (3 * b + 1)).toInt := fun b hb2 => (hB.2.2.2.1.2.2.2.2.2.2.2.2.2.2.2.2.1 b hb2).2.2.2
    obtain ⟨v, M1, t1, t2, t3, t4, t5, t6, t7, t8⟩ := planTop_eq (N := N) (bb := bb) (sb := sb) (it := it) (nA := nA) (nB := nB) (k1 := rb) (k2 := tb) (ld := nI l) (W := w) (A := A) (J := J) (s := S) hmb hl4 hW6 (by omega) (by omega) (by omega) (by omega) hbk S zF Mz (Nat.le_refl _) (by unfold zF; omega) hBz (by unfold mvB zR; rw [rz]; exact hm) (by rw [zk _ _ (by omega)]; exact p7) (by rw [zk mb 3 (by omega)]; exact p4) (by rw [zk mb 4 (by omega)]; exact p5) z3 z4 (fun u h1 h2 => by omega)
    -- the reference
    have hB6 : Bx M N6 bb sb it nA nB := hB.sm rfl r6 (fun _ _ _ => rfl) (fun k j hk => o6.2 k j (by omega) (by omega) (by omega))
    have leN : ∀ (X : zMem) (j : Nat), onlyQ N X → leF X d w j nA = leF N d w j nA := fun X j ho => by
      have : ∀ a, leF X d w j a = leF N d w j a := by
        intro a
        induction a with
        | zero => rfl
        | succ a ih =>
          unfold leF its
          rw [ih, ho.2 4 _ (by omega) (by omega) (by omega)]
      exact this nA
    have v0 := least_eq (N := N6) (M := M) (c := 0) (W := w) (d := d) (j := 0) hB6 (by omega) rfl hW6 k39 (fun a ha => by rw [k6 _ _ (by omega)]; exact s6 a ha) hdb
    rw [leN N6 0 o6, hS] at v0
    rw [v0, rob]
    have o10 : onlyQ N (zpI N6 0 40 (nI S)) := ⟨r6, fun k j a b c => by rw [rI_pI, if_neg (by omega)]; exact o6.2 k j a b c⟩
    have v1 := least_eq (N := zpI N6 0 40 (nI S)) (M := M) (c := 1) (W := w) (d := d) (j := 1) (hB.sm rfl o10.1 (fun _ _ _ => rfl) (fun k j hk => o10.2 k j (by omega) (by omega) (by omega))) (by omega) rfl hW6 (by rw [rI_pI, if_neg (by omega)]; exact k39) (fun a ha => by rw [rI_pI, if_neg (by omega), k6 _ _ (by omega)]; exact s6 a ha) hdb
    rw [leN _ 1 o10, hA] at v1
    rw [v1, rob]
    have o13 : onlyQ N (zpI (zpI N6 0 40 (nI S)) 0 41 (nI A)) := ⟨r6, fun k j a b c => by rw [rI_pI, if_neg (by omega)]; exact o10.2 k j a b c⟩
    have v2 := least_eq (N := zpI (zpI N6 0 40 (nI S)) 0 41 (nI A)) (M := M) (c := 2) (W := w) (d := d) (j := 2) (hB.sm rfl o13.1 (fun _ _ _ => rfl) (fun k j hk => o13.2 k j (by omega) (by omega) (by omega))) (by omega) rfl hW6 (by rw [rI_pI, if_neg (by omega), rI_pI, if_neg (by omega)]; exact k39) (fun a ha => by rw [rI_pI, if_neg (by omega), rI_pI, if_neg (by omega), k6 _ _ (by omega)]; exact s6 a ha) hdb
    rw [leN _ 2 o13, hJ] at v2
    rw [v2, rob]
    generalize hN16 : zpI (zpI (zpI N6 0 40 (nI S)) 0 41 (nI A)) 0 42 (nI J) = N16
    have o16 : onlyQ N N16 := ⟨by rw [← hN16]; exact r6, fun k j a b c => by rw [← hN16, rI_pI, if_neg (by omega)]; exact o13.2 k j a b c⟩
    have w38 : zI N16 0 38 = nI l := by rw [← hN16, rI_pI, if_neg (by omega), rI_pI, if_neg (by omega), rI_pI, if_neg (by omega), k6 _ _ (by omega)]; exact s3
    have w39 : zI N16 0 39 = nI w := by rw [← hN16, rI_pI, if_neg (by omega), rI_pI, if_neg (by omega), rI_pI, if_neg (by omega)]; exact k39
    have w40 : zI N16 0 40 = nI S := by rw [← hN16, rI_pI, if_neg (by omega), rI_pI, if_neg (by omega), rI_pI, if_pos ⟨rfl, rfl⟩]
    have w41 : zI N16 0 41 = nI A := by rw [← hN16, rI_pI, if_neg (by omega), rI_pI, if_pos ⟨rfl, rfl⟩]
    have w42 : zI N16 0 42 = nI J := by rw [← hN16, rI_pI, if_pos ⟨rfl, rfl⟩]
    have w15 : ∀ a, a < 3 → zI N16 15 a = iI (d a) := fun a ha => by rw [← hN16, rI_pI, if_neg (by omega), rI_pI, if_neg (by omega), rI_pI, if_neg (by omega), k6 _ _ (by omega)]; exact s6 a ha
    have hB16 : Bx M N16 bb sb it nA nB := hB.sm rfl o16.1 (fun _ _ _ => rfl) (fun k j hk => o16.2 k j (by omega) (by omega) (by omega))
    obtain ⟨v', N18, u1, u2, u3, u4⟩ := layTop_eq (ld := nI l) (W := w) (A := A) (J := J) (s := S) hB16 hW6 (by omega) (by omega) (by omega) (by omega)
    have hfe : ∀ u, okT N16 nB (nI l) w A J u ↔ okT N nB (nI l) w A J u := fun u => by
      have : ∀ sp b, fBn N16 (nI l) sp b = fBn N (nI l) sp b := by
        intro sp b
        induction b with
        | zero => rfl
        | succ b ih2 =>
          unfold fBn
          rw [ih2, o16.2 6 _ (by omega) (by omega) (by omega), o16.2 6 _ (by omega) (by omega) (by omega), o16.2 6 _ (by omega) (by omega) (by omega)]
      unfold okT
      rw [this]
    have hvv : v = v' := isTop_u t2 ⟨u2.1, (hfe _).mp u2.2.1, fun u h1 h2 => fun g => u2.2.2 u h1 h2 ((hfe u).mpr g)⟩
    subst hvv
    have hL := (fL_ok (V := v) (A := A) (J := J) (by have := t2.1; omega) (by omega) (by omega)).1
    have hps := psum_b hL (fL v A J).length
    have hokv := t2.2.1.1
    have h60 := hL.1
    generalize hLL : fL v A J = L at *
    rw [w38, w39, w40, w41, w42, u1, rob]
    have hN18 := hB16.2.2.1.sm u4.1
    have e35 : zR N18 0 35 = 14 := by simp only [hN18.o]
    have x39 : zI N18 0 39 = nI w := by rw [u4.2 0 39 (by omega) (by omega)]; exact w39
    rw [sumM hL e35 u3, rob, x39, show (2 : Int32) = iI 2 from rfl, iI_mul, iI_n w, iI_sub]
    have hrest0 : 0 ≤ (w : Int) - 2 * psum L L.length := by omega
    have hrp : rpM (zpI N18 0 43 (iI (w - 2 * psum L L.length))) L := ⟨by rw [rI_pI, if_neg (by omega)]; exact u3.1, fun i hi => by rw [rI_pI, if_neg (by omega)]; exact u3.2 i hi⟩
    rw [show zI (zpI N18 0 43 (iI (w - 2 * psum L L.length))) 0 43 = iI (w - 2 * psum L L.length) by rw [rI_pI, if_pos ⟨rfl, rfl⟩], evM hL (by exact e35) hrp hrest0 (by omega), rob]
    rw [hfl, rob, z2, t1]
    clear e35
    refine ⟨1, M1, _, d, rfl, rfl, ⟨t6.trans rz, fun k j hk => ?_⟩, ⟨u4.1.trans o16.1, fun k j a b c => ?_⟩, t7, Or.inl ⟨rfl, ?_⟩, fun a _ => hd a⟩
    · rw [t8 k j (by omega) (by omega) (by omega), zk k j (by omega)]; exact p2.2 k j hk
    · rw [rI_pI, if_neg (by omega), rI_pI, if_neg (by omega), u4.2 k j a (by omega)]; exact o16.2 k j a b c
    · refine ⟨l, w, S, A, J, L, w - 2 * psum L L.length, fEv (w - 2 * psum L L.length) L, hlA, by omega, hW6, fun a ha => ?_, by omega, by omega, by omega, by omega, by omega, by omega, hL, by omega, fEv_ok hrest0 hL, ⟨?_, ?_, ?_, ?_, ?_, t3, t4, t5, fun a ha => ⟨?_, ?_⟩⟩, ⟨?_, ?_, ?_, ?_, ?_, ?_, ?_, ⟨?_, fun i hi => ?_⟩, fun a ha => ?_⟩⟩
      · by_cases c : a < nA
        · exact hdW a c
        · rw [hd a, if_neg c]; omega
      · rw [t8 mb 3 (by omega) (by omega) (by omega), zk mb 3 (by omega)]; exact p4
      · rw [t8 mb 4 (by omega) (by omega) (by omega), zk mb 4 (by omega)]; exact p5
      · rw [t8 mb 5 (by omega) (by omega) (by omega)]; exact z2
      · rw [t8 mb 6 (by omega) (by omega) (by omega)]; exact z3
      · rw [t8 mb 7 (by omega) (by omega) (by omega)]; exact z4
      · rw [t8 _ _ (by omega) (by omega) (by omega), zk _ _ (by omega)]; exact (p3 a ha).1
      · rw [t8 _ _ (by omega) (by omega) (by omega), zk _ _ (by omega)]; exact (p3 a ha).2
      · rw [rI_pI, if_neg (by omega), rI_pI, if_neg (by omega), u4.2 0 38 (by omega) (by omega)]; exact w38
      · rw [rI_pI, if_neg (by omega), rI_pI, if_neg (by omega)]; exact x39
      · rw [rI_pI, if_neg (by omega), rI_pI, if_neg (by omega), u4.2 0 40 (by omega) (by omega)]; exact w40
      · rw [rI_pI, if_neg (by omega), rI_pI, if_neg (by omega), u4.2 0 41 (by omega) (by omega)]; exact w41
      · rw [rI_pI, if_neg (by omega), rI_pI, if_neg (by omega), u4.2 0 42 (by omega) (by omega)]; exact w42
      · rw [rI_pI, if_neg (by omega), rI_pI, if_pos ⟨rfl, rfl⟩]
      · rw [rI_pI, if_pos ⟨rfl, rfl⟩]
      · rw [rI_pI, if_neg (by omega), rI_pI, if_neg (by omega)]; exact u3.1
      · rw [rI_pI, if_neg (by omega), rI_pI, if_neg (by omega)]; exact u3.2 i hi
      · rw [rI_pI, if_neg (by omega), rI_pI, if_neg (by omega), u4.2 15 a (by omega) (by omega)]; exact w15 a ha
