/-! Phase B: a move begins -/
/-- a state but for its ticks -/
def rSx (V : Nat → Nat → Int32) (f : Nat → Int32) (nA : Nat) : Prop :=
  V 0 6 = f 21 ∧ V 0 7 = f 22 ∧ V 0 4 = f 23 ∧ btw (f 23) 0 8 ∧
  (∀ i : Nat, i < 24 → (i : Int) < 3 * (f 23).toInt → V 7 i = f (24 + i)) ∧
  (∀ i a : Nat, (i : Int) < (f 23).toInt → a < nA → btw (f (24 + 3 * i + a)) (-30000) 30000) ∧
  (∀ a, a < nA → (∀ j, j < 6 → V (9 + a) j = f (48 + 6 * a + j)) ∧ btw (f (48 + 6 * a)) (-30000) 30000 ∧ btw (f (48 + 6 * a + 3)) (-2000) 2000 ∧ btw (f (48 + 6 * a + 4)) 0 2048 ∧ 0 ≤ (f (48 + 6 * a + 5)).toInt) ∧
  V 0 8 = f 1 ∧ (V 0 9 = 0 ∨ V 0 9 = 1) ∧ ((f 1 = 0 ∧ V 0 10 = 0) ∨ (f 1 = 1 ∧ rMv V f nA))
theorem rSt_x {V : Nat → Nat → Int32} {f : Nat → Int32} {nA : Nat} {T : Int} : rSt V f nA T ↔ V 0 5 = f 0 ∧ btw (f 0) 0 T ∧ rSx V f nA := Iff.rfl
theorem zl_b29 (F : Nat) (x : Int32) (N : zMem) : zlX12_begins_29 shM 0 (F + 1) x N = zbX12_begins_29 shM 0 (zlX12_begins_29 shM 0 F) x N := rfl
theorem begins_ramp {N : zMem} {n : Nat} (hN : rfN N) (hn : n ≤ 60) (h36 : zI N 0 36 = nI n) : ∀ (r k F : Nat) (Nx : zMem), k + r = n → r < F → Nx.2.2 = N.2.2 → (∀ c j, ¬ (c = 1 ∧ 66 ≤ j ∧ j < 130) → zI Nx c j = zI N c j) → (∀ i, i < k → zI Nx 1 (66 + i) = zI N 14 i) → ∃ N1, zlX12_begins_158 shM 0 F (nI k) Nx = some N1 ∧ N1.2.2 = N.2.2 ∧ (∀ c j, ¬ (c = 1 ∧ 66 ≤ j ∧ j < 130) → zI N1 c j = zI N c j) ∧ (∀ i, i < n → zI N1 1 (66 + i) = zI N 14 i) := by
  intro r
  induction r with
  | zero =>
    intro k F Nx h1 hF hR hk hi
    obtain ⟨F, rfl⟩ : ∃ x, F = x + 1 := ⟨F - 1, by omega⟩
    simp only [zlX12_begins_158]
    unfold zbX12_begins_158
    rw [hk 0 36 (by omega), h36, if_pos (nI_le (by omega) (by omega))]
    exact ⟨Nx, rfl, hR, hk, fun i hi2 => hi i (by omega)⟩
  | succ r ih =>
    intro k F Nx h1 hF hR hk hi
    obtain ⟨F, rfl⟩ : ∃ x, F = x + 1 := ⟨F - 1, by omega⟩
    have hN1 := hN.sm hR
    have e35 : zR Nx 0 35 = 14 := by simp only [hN1.o]
    have e0 : zR Nx 0 0 = 1 := hN1.o.1
    have ek : (66 : Int32) + nI k = nI (66 + k) := by rw [show (66 : Int32) = nI 66 from rfl, nI_add]
    simp only [zlX12_begins_158]
    unfold zbX12_begins_158
    rw [hk 0 36 (by omega), h36, if_neg (nI_ge (by omega) (by omega)), e35, e0, show zlen shM 14 = 64 from rfl, show zlen shM 1 = 194 from rfl, rgd (in_a (by omega) (by omega)), ek, rgd (in_a (by omega) (by omega)), nI_clamp (by omega), nI_clamp (by omega), rbd, nI_1]
    clear e35 e0 ek
    refine ih (k + 1) F _ (by omega) (by omega) hR (fun c j h => ?_) (fun i hi2 => ?_)
    · rw [rI_pI, if_neg (by omega)]; exact hk c j h
    · rw [rI_pI]
      by_cases g : i = k
      · rw [if_pos ⟨rfl, by omega⟩, hk 14 k (by omega), g]
      · rw [if_neg (by omega)]; exact hi i (by omega)
theorem begins_eq {N : zMem} {n : Nat} (hN : rfN N) (hn : n ≤ 60) (h36 : zI N 0 36 = nI n) : ∃ N1, zX12_begins shM 0 N = some N1 ∧ N1.2.2 = N.2.2 ∧ (∀ c j, c ≠ 1 → zI N1 c j = zI N c j) ∧ (zI N1 1 1 = 1 ∧ zI N1 1 3 = zI N 0 39 ∧ zI N1 1 10 = zI N 0 41 ∧ zI N1 1 11 = zI N 0 42 ∧ zI N1 1 12 = zI N 0 36 ∧ zI N1 1 13 = zI N 0 43 ∧ zI N1 1 14 = zI N 0 44 ∧ zI N1 1 15 = 0 ∧ zI N1 1 16 = 0 ∧ zI N1 1 17 = 0 ∧ zI N1 1 20 = 0) ∧ (∀ a, a < 3 → zI N1 1 (4 + a) = zI N 1 (48 + 6 * a) ∧ zI N1 1 (7 + a) = zI N 15 a) ∧ (∀ k, k < n → zI N1 1 (66 + k) = zI N 14 k) ∧ (∀ j, j = 0 ∨ (21 ≤ j ∧ j < 66) → zI N1 1 j = zI N 1 j) := by
  have e0 : zR N 0 0 = 1 := hN.o.1
  have e37 : zR N 0 37 = 15 := by simp only [hN.o]
  have l1 : zlen shM 1 = 194 := rfl
  have l15 : zlen shM 15 = 3 := rfl
  -- one axis
  have ax : ∀ (a F : Nat) (Nx : zMem), a < 3 → Nx.2.2 = N.2.2 → zI Nx 1 (48 + 6 * a) = zI N 1 (48 + 6 * a) → zI Nx 15 a = zI N 15 a → zlX12_begins_29 shM 0 (F + 1) (nI a) Nx = zlX12_begins_29 shM 0 F (nI (a + 1)) (zpI (zpI Nx 1 (4 + a) (zI N 1 (48 + 6 * a))) 1 (7 + a) (zI N 15 a)) := by
    intro a F Nx ha hR h48 h15
    have hN1 := hN.sm hR
    have g0 : zR Nx 0 0 = 1 := hN1.o.1
    have f0 : zR (zpI Nx 1 (4 + a) (zI N 1 (48 + 6 * a))) 0 0 = 1 := g0
    have f37 : zR (zpI Nx 1 (4 + a) (zI N 1 (48 + 6 * a))) 0 37 = 15 := by show Nx.2.2 0 37 = 15; rw [hR]; exact e37
    have e4 : (4 : Int32) + nI a = nI (4 + a) := by rw [show (4 : Int32) = nI 4 from rfl, nI_add]
    have e7 : (7 : Int32) + nI a = nI (7 + a) := by rw [show (7 : Int32) = nI 7 from rfl, nI_add]
    have h15' : zI (zpI Nx 1 (4 + a) (zI N 1 (48 + 6 * a))) 15 a = zI N 15 a := by rw [rI_pI, if_neg (by omega)]; exact h15
    rw [zl_b29]
    unfold zbX12_begins_29
    rw [if_neg (show ¬ (3 : Int32) ≤ nI a from nI_ge (b := 3) (by omega) (by omega)), axisAt_0 g0 ha, rob, g0, l1, e4, rgd (in_a (by omega) (by omega)), nI_clamp (by omega), show zI Nx 1 (48 + 6 * a + 0) = zI N 1 (48 + 6 * a) from h48]
    simp only [rbd]
    rw [f37, l15, rgd (in_a ha (by omega)), f0, l1, e7, rgd (in_a (by omega) (by omega)), nI_clamp (by omega), nI_clamp (by omega), h15', nI_1]
  unfold zX12_begins
  rw [e0, l1, rgd (by decide), show (1 : Int32).toNatClampNeg = 1 from rfl]
  simp only [rbd]
  rw [show zR (zpI N 1 1 1) 0 0 = 1 from e0, l1, rgd (by decide), show (2 : Int32).toNatClampNeg = 2 from rfl, show zI (zpI N 1 1 1) 0 38 = zI N 0 38 from rfl]
  rw [show zR (zpI (zpI N 1 1 1) 1 2 (zI N 0 38)) 0 0 = 1 from e0, l1, rgd (by decide), show (3 : Int32).toNatClampNeg = 3 from rfl, show zI (zpI (zpI N 1 1 1) 1 2 (zI N 0 38)) 0 39 = zI N 0 39 from rfl]
  rw [show zlX12_begins_29 shM 0 zF 0 (zpI (zpI (zpI N 1 1 1) 1 2 (zI N 0 38)) 1 3 (zI N 0 39)) = zlX12_begins_29 shM 0 (999996 + 1 + 1 + 1 + 1) (nI 0) (zpI (zpI (zpI N 1 1 1) 1 2 (zI N 0 38)) 1 3 (zI N 0 39)) from rfl, ax 0 (999996 + 1 + 1 + 1) (zpI (zpI (zpI N 1 1 1) 1 2 (zI N 0 38)) 1 3 (zI N 0 39)) (by omega) rfl rfl rfl, ax 1 (999996 + 1 + 1) (zpI (zpI (zpI (zpI (zpI N 1 1 1) 1 2 (zI N 0 38)) 1 3 (zI N 0 39)) 1 (4 + 0) (zI N 1 (48 + 6 * 0))) 1 (7 + 0) (zI N 15 0)) (by omega) rfl rfl rfl, ax 2 (999996 + 1) (zpI (zpI (zpI (zpI (zpI (zpI (zpI N 1 1 1) 1 2 (zI N 0 38)) 1 3 (zI N 0 39)) 1 (4 + 0) (zI N 1 (48 + 6 * 0))) 1 (7 + 0) (zI N 15 0)) 1 (4 + 1) (zI N 1 (48 + 6 * 1))) 1 (7 + 1) (zI N 15 1)) (by omega) rfl rfl rfl, zl_b29]
  generalize hNx : zpI (zpI (zpI (zpI (zpI (zpI (zpI (zpI (zpI N 1 1 1) 1 2 (zI N 0 38)) 1 3 (zI N 0 39)) 1 (4 + 0) (zI N 1 (48 + 6 * 0))) 1 (7 + 0) (zI N 15 0)) 1 (4 + 1) (zI N 1 (48 + 6 * 1))) 1 (7 + 1) (zI N 15 1)) 1 (4 + 2) (zI N 1 (48 + 6 * 2))) 1 (7 + 2) (zI N 15 2) = Nx
  have rx : Nx.2.2 = N.2.2 := by rw [← hNx]; rfl
  have kx : ∀ c j, ¬ (c = 1 ∧ 1 ≤ j ∧ j < 10) → zI Nx c j = zI N c j := fun c j h => by
    rw [← hNx]
    simp only [rI_pI]
    rw [if_neg (by omega), if_neg (by omega), if_neg (by omega), if_neg (by omega), if_neg (by omega), if_neg (by omega), if_neg (by omega), if_neg (by omega), if_neg (by omega)]
  have x1 : zI Nx 1 1 = 1 := by rw [← hNx]; rfl
  have x3 : zI Nx 1 3 = zI N 0 39 := by rw [← hNx]; rfl
  have x4 : ∀ a, a < 3 → zI Nx 1 (4 + a) = zI N 1 (48 + 6 * a) ∧ zI Nx 1 (7 + a) = zI N 15 a := fun a ha => by
    rw [← hNx]
    rcases (show a = 0 ∨ a = 1 ∨ a = 2 by omega) with rfl | rfl | rfl <;> exact ⟨rfl, rfl⟩
  have gx : zR Nx 0 0 = 1 := by unfold zR; rw [rx]; exact e0
  unfold zbX12_begins_29
  rw [if_pos (show (3 : Int32) ≤ nI (2 + 1) by decide)]
  have g2 : ∀ (X : zMem) (j : Nat) (v : Int32) (q : Nat), zI (zpI X 1 j v) 0 q = zI X 0 q := fun X j v q => by rw [rI_pI, if_neg (by omega)]
  simp only [rbd, clL, rR_pI, gx, l1, g2, rgd (show zin (10 : Int32) 194 = true by decide), rgd (show zin (11 : Int32) 194 = true by decide), rgd (show zin (12 : Int32) 194 = true by decide), rgd (show zin (13 : Int32) 194 = true by decide), rgd (show zin (14 : Int32) 194 = true by decide), rgd (show zin (15 : Int32) 194 = true by decide), rgd (show zin (16 : Int32) 194 = true by decide), rgd (show zin (17 : Int32) 194 = true by decide), rgd (show zin (20 : Int32) 194 = true by decide)]
  generalize hNy : zpI (zpI (zpI (zpI (zpI (zpI (zpI (zpI (zpI Nx 1 10 (zI Nx 0 41)) 1 11 (zI Nx 0 42)) 1 12 (zI Nx 0 36)) 1 13 (zI Nx 0 43)) 1 14 (zI Nx 0 44)) 1 15 0) 1 16 0) 1 17 0) 1 20 0 = Ny
  have ry : Ny.2.2 = N.2.2 := by rw [← hNy]; exact rx
  have ky : ∀ c j, ¬ (c = 1 ∧ 10 ≤ j ∧ j < 21) → zI Ny c j = zI Nx c j := fun c j h => by
    rw [← hNy]
    simp only [rI_pI]
    rw [if_neg (by omega), if_neg (by omega), if_neg (by omega), if_neg (by omega), if_neg (by omega), if_neg (by omega), if_neg (by omega), if_neg (by omega), if_neg (by omega)]
  have y10 : zI Ny 1 10 = zI Nx 0 41 := by rw [← hNy]; rfl
  have y11 : zI Ny 1 11 = zI Nx 0 42 := by rw [← hNy]; rfl
  have y12 : zI Ny 1 12 = zI Nx 0 36 := by rw [← hNy]; rfl
  have y13 : zI Ny 1 13 = zI Nx 0 43 := by rw [← hNy]; rfl
  have y14 : zI Ny 1 14 = zI Nx 0 44 := by rw [← hNy]; rfl
  have y15 : zI Ny 1 15 = 0 := by rw [← hNy]; rfl
  have y16 : zI Ny 1 16 = 0 := by rw [← hNy]; rfl
  have y17 : zI Ny 1 17 = 0 := by rw [← hNy]; rfl
  have y20 : zI Ny 1 20 = 0 := by rw [← hNy]; rfl
  obtain ⟨N1, t1, t2, t3, t4⟩ := begins_ramp (N := Ny) (n := n) (hN.sm ry) hn (by rw [ky _ _ (by omega), kx _ _ (by omega)]; exact h36) n 0 zF Ny (by omega) (by unfold zF; omega) rfl (fun _ _ _ => rfl) (fun i hi => by omega)
  clear gx e0 e37 l1 l15
  refine ⟨N1, t1, t2.trans ry, fun c j h => by rw [t3 _ _ (by omega), ky _ _ (by omega), kx _ _ (by omega)], ⟨?_, ?_, ?_, ?_, ?_, ?_, ?_, ?_, ?_, ?_, ?_⟩, fun a ha => ⟨?_, ?_⟩, fun k hk => ?_, fun j hj => ?_⟩
  · rw [t3 _ _ (by omega), ky _ _ (by omega)]; exact x1
  · rw [t3 _ _ (by omega), ky _ _ (by omega)]; exact x3
  · rw [t3 _ _ (by omega), y10, kx _ _ (by omega)]
  · rw [t3 _ _ (by omega), y11, kx _ _ (by omega)]
  · rw [t3 _ _ (by omega), y12, kx _ _ (by omega)]
  · rw [t3 _ _ (by omega), y13, kx _ _ (by omega)]
  · rw [t3 _ _ (by omega), y14, kx _ _ (by omega)]
  · rw [t3 _ _ (by omega)]; exact y15
  · rw [t3 _ _ (by omega)]; exact y16
  · rw [t3 _ _ (by omega)]; exact y17
  · rw [t3 _ _ (by omega)]; exact y20
  · rw [t3 _ _ (by omega), ky _ _ (by omega)]; exact (x4 a ha).1
  · rw [t3 _ _ (by omega), ky _ _ (by omega)]; exact (x4 a ha).2
  · rw [t4 k hk, ky _ _ (by omega), kx _ _ (by omega)]
  · rw [t3 _ _ (by omega), ky _ _ (by omega), kx _ _ (by omega)]
