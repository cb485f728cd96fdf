/-! Phase B: ramps as both lay them -/
/-- the ramp L in the class: its object k, its row kg -/
def rpC (M : zMem) (k kg : Nat) (L : List Int) : Prop := zI M k 1 = nI L.length ∧ ∀ i, i ≤ L.length → zI M kg i = iI (psum L i)
/-- the ramp L in the reference -/
def rpM (N : zMem) (L : List Int) : Prop := zI N 0 36 = nI L.length ∧ ∀ i, i < L.length → zI N 14 i = iI (L.getD i 0)
theorem build_loop {k kg V A J : Nat} (hk : k ≠ kg) (hlen : zlen shC kg = 61) (hV : V ≤ 60) (hA : A ≤ 30) (hJ : 1 ≤ J) (hJ2 : J ≤ 10) : ∀ (f v g F : Nat) (M : zMem) (P : List Int), P.length + f = 60 → f < F → v ≤ V → g ≤ 30 → zR M k 0 = kg → rpC M k kg P → ∃ M1, zlX5_build_11 shC k (nI V) (nI A) (nI J) F (nI v) (nI g) M = some M1 ∧ rpC M1 k kg (P ++ fRamp V A J f v g) ∧ M1.2.2 = M.2.2 ∧ ∀ k' j, k' ≠ kg → ¬ (k' = k ∧ j = 1) → zI M1 k' j = zI M k' j := by
  intro f
  induction f with
  | zero =>
    intro v g F M P h1 h2 h3 h4 hR hP
    obtain ⟨F, rfl⟩ : ∃ x, F = x + 1 := ⟨F - 1, by omega⟩
    refine ⟨M, ?_, by unfold fRamp; rw [List.append_nil]; exact hP, rfl, fun _ _ _ _ => rfl⟩
    simp only [zlX5_build_11]
    unfold zbX5_build_11
    rw [hP.1, if_pos (show (60 : Int32) ≤ nI P.length from nI_le (a := 60) (by omega) (by omega))]
  | succ f ih =>
    intro v g F M P h1 h2 h3 h4 hR hP
    obtain ⟨F, rfl⟩ : ∃ x, F = x + 1 := ⟨F - 1, by omega⟩
    have hn := fNx_le (room := V - v) (A := A) h4 hJ2
    have hl : zlX5_build_11 shC k (nI V) (nI A) (nI J) (F + 1) (nI v) (nI g) M = zbX5_build_11 shC k (nI V) (nI A) (nI J) (zlX5_build_11 shC k (nI V) (nI A) (nI J) F) (nI v) (nI g) M := rfl
    have hsub : nI V - nI v = nI (V - v) := pk_sub h3
    rw [hl]
    unfold zbX5_build_11 fRamp
    rw [hP.1, if_neg (show ¬ (60 : Int32) ≤ nI P.length from nI_ge (b := 60) (by omega) (by omega)), hsub, nextG (by omega) h4 hA hJ hJ2, rob]
    by_cases c : fNx (V - v) g A J = 0
    · rw [if_pos (by rw [c]; rfl), if_pos c, List.append_nil]
      exact ⟨M, rfl, hP, rfl, fun _ _ _ _ => rfl⟩
    · rw [if_neg (nI_ne0 (by omega) (by omega)), if_neg c, hR, hlen, rgd (in_a (by omega) (by omega)), nI_1, rgd (in_a (by omega) (by omega)), nI_clamp (by omega), nI_clamp (by omega), hP.2 P.length (Nat.le_refl _), nI_add]
      simp only [rbd]
      generalize hnn : fNx (V - v) g A J = n at *
      have e1 : iI (psum P P.length) + nI (v + n) = iI (psum P P.length + ((v + n : Nat) : Int)) := by rw [iI_n, iI_add]
      have e2 : zI (zpI M kg (P.length + 1) (iI (psum P P.length) + nI (v + n))) k 1 = nI P.length := by rw [rI_pI, if_neg (fun e => hk e.1)]; exact hP.1
      rw [e2, e1, nI_1]
      obtain ⟨M1, t1, t2, t3, t4⟩ := ih (v + n) n F (zpI (zpI M kg (P.length + 1) (iI (psum P P.length + ((v + n : Nat) : Int)))) k 1 (nI (P.length + 1))) (P ++ [((v + n : Nat) : Int)]) (by rw [List.length_append, List.length_singleton]; omega) (by omega) (by omega) (by omega) hR ⟨by rw [List.length_append, List.length_singleton, rI_pI, if_pos ⟨rfl, rfl⟩], fun i hi => by
        rw [List.length_append, List.length_singleton] at hi
        rw [rI_pI, if_neg (fun e => hk e.1.symm), rI_pI]
        by_cases hi2 : i = P.length + 1
        · subst hi2
          rw [if_pos ⟨rfl, rfl⟩, psum_s, psum_app (Nat.le_refl _)]
          congr 2
          simp
        · rw [if_neg (fun e => hi2 e.2), psum_app (by omega)]
          exact hP.2 i (by omega)⟩
      rw [List.append_assoc, List.singleton_append] at t2
      refine ⟨M1, t1, t2, t3, fun k' j g1 g2 => ?_⟩
      rw [t4 k' j g1 g2, rI_pI, if_neg g2, rI_pI, if_neg (fun e => g1 e.1)]
theorem build_eq {M : zMem} {k kg V A J : Nat} (hk : k ≠ kg) (hlen : zlen shC kg = 61) (hV : V ≤ 60) (hA : A ≤ 30) (hJ : 1 ≤ J) (hJ2 : J ≤ 10) (hR : zR M k 0 = kg) (h0 : zI M kg 0 = 0) : ∃ M1, zX5_build shC k (nI V) (nI A) (nI J) M = some M1 ∧ rpC M1 k kg (fL V A J) ∧ M1.2.2 = M.2.2 ∧ (∀ k' j, k' ≠ kg → ¬ (k' = k ∧ j = 1) → zI M1 k' j = zI M k' j) ∧ zI M1 kg 0 = 0 := by
  unfold zX5_build
  rw [rbd]
  obtain ⟨M1, t1, t2, t3, t4⟩ := build_loop hk hlen hV hA hJ hJ2 60 0 0 zF (zpI M k 1 0) [] rfl (by unfold zF; omega) (by omega) (by omega) hR ⟨by rw [rI_pI, if_pos ⟨rfl, rfl⟩]; rfl, fun i hi => by
    have : i = 0 := by simpa using hi
    subst this
    rw [rI_pI, if_neg (fun e => hk e.1.symm), h0]
    rfl⟩
  rw [List.nil_append] at t2
  refine ⟨M1, t1, t2, t3, fun k' j g1 g2 => ?_, ?_⟩
  · rw [t4 k' j g1 g2, rI_pI, if_neg g2]
  · rw [t2.2 0 (Nat.zero_le _)]; rfl
/-- what laying a ramp changes in the reference -/
def onlyR (N N1 : zMem) : Prop := N1.2.2 = N.2.2 ∧ ∀ k j, k ≠ 14 → ¬ (k = 0 ∧ j = 36) → zI N1 k j = zI N k j
theorem lays_loop {V A J : Nat} (hV : V ≤ 60) (hA : A ≤ 30) (hJ : 1 ≤ J) (hJ2 : J ≤ 10) : ∀ (f v g F : Nat) (N : zMem) (P : List Int), P.length + f = 60 → f + 1 < F → v ≤ V → V ≤ v + f → g ≤ 30 → zR N 0 35 = 14 → rpM N P → ∃ N1, zlX12_laysRamp_14 shM 0 (nI V) (nI A) (nI J) F (nI v) (nI g) 1 N = some N1 ∧ rpM N1 (P ++ fRamp V A J f v g) ∧ onlyR N N1 := by
  intro f
  induction f with
  | zero =>
    intro v g F N P h1 h2 h3 hvf h4 hR hP
    obtain ⟨F, rfl⟩ : ∃ x, F = x + 1 + 1 := ⟨F - 2, by omega⟩
    have hn := fNx_le (room := V - v) (A := A) h4 hJ2
    have hl : zlX12_laysRamp_14 shM 0 (nI V) (nI A) (nI J) (F + 1 + 1) (nI v) (nI g) 1 N = zbX12_laysRamp_14 shM 0 (nI V) (nI A) (nI J) (zlX12_laysRamp_14 shM 0 (nI V) (nI A) (nI J) (F + 1)) (nI v) (nI g) 1 N := rfl
    have hl2 : ∀ a b c, zlX12_laysRamp_14 shM 0 (nI V) (nI A) (nI J) (F + 1) a b c N = zbX12_laysRamp_14 shM 0 (nI V) (nI A) (nI J) (zlX12_laysRamp_14 shM 0 (nI V) (nI A) (nI J) F) a b c N := fun _ _ _ => rfl
    have hz : fNx (V - v) g A J = 0 := by omega
    refine ⟨N, ?_, by unfold fRamp; rw [List.append_nil]; exact hP, rfl, fun _ _ _ _ => rfl⟩
    rw [hl]
    unfold zbX12_laysRamp_14
    rw [if_neg (by decide), lr_next hV h3 hA h4 hJ hJ2, if_pos hz]
    unfold zjX12_laysRamp_84
    rw [if_pos rfl, hl2]
    unfold zbX12_laysRamp_14
    rw [if_pos rfl]
  | succ f ih =>
    intro v g F N P h1 h2 h3 hvf h4 hR hP
    obtain ⟨F, rfl⟩ : ∃ x, F = x + 1 + 1 := ⟨F - 2, by omega⟩
    have hn := fNx_le (room := V - v) (A := A) h4 hJ2
    have hl : zlX12_laysRamp_14 shM 0 (nI V) (nI A) (nI J) (F + 1 + 1) (nI v) (nI g) 1 N = zbX12_laysRamp_14 shM 0 (nI V) (nI A) (nI J) (zlX12_laysRamp_14 shM 0 (nI V) (nI A) (nI J) (F + 1)) (nI v) (nI g) 1 N := rfl
    have hl2 : ∀ a b c, zlX12_laysRamp_14 shM 0 (nI V) (nI A) (nI J) (F + 1) a b c N = zbX12_laysRamp_14 shM 0 (nI V) (nI A) (nI J) (zlX12_laysRamp_14 shM 0 (nI V) (nI A) (nI J) F) a b c N := fun _ _ _ => rfl
    rw [hl]
    unfold zbX12_laysRamp_14 fRamp
    rw [if_neg (by decide), lr_next hV h3 hA h4 hJ hJ2]
    unfold zjX12_laysRamp_84
    by_cases c : fNx (V - v) g A J = 0
    · rw [if_pos c, if_pos rfl, if_pos c, hl2]
      unfold zbX12_laysRamp_14
      rw [if_pos rfl, List.append_nil]
      exact ⟨N, rfl, hP, rfl, fun _ _ _ _ => rfl⟩
    · rw [if_neg c, if_neg (by decide), if_neg c, hR, hP.1]
      have hin : zin (nI P.length) (zlen shM 14) = true := by rw [show zlen shM 14 = 64 from rfl]; exact in_a (by omega) (by omega)
      rw [rgd hin, nI_clamp (by omega), nI_add]
      simp only [rbd]
      generalize hnn : fNx (V - v) g A J = n at *
      have e2 : zI (zpI N 14 P.length (nI (v + n))) 0 36 = nI P.length := by rw [rI_pI, if_neg (by omega)]; exact hP.1
      rw [e2, nI_1]
      obtain ⟨N1, t1, t2, t3⟩ := ih (v + n) n (F + 1) (zpI (zpI N 14 P.length (nI (v + n))) 0 36 (nI (P.length + 1))) (P ++ [((v + n : Nat) : Int)]) (by rw [List.length_append, List.length_singleton]; omega) (by omega) (by omega) (by omega) (by omega) hR ⟨by rw [List.length_append, List.length_singleton, rI_pI, if_pos ⟨rfl, rfl⟩], fun i hi => by
        rw [List.length_append, List.length_singleton] at hi
        rw [rI_pI, if_neg (by omega), rI_pI]
        by_cases hi2 : i = P.length
        · subst hi2
          rw [if_pos ⟨rfl, rfl⟩, iI_n]
          congr 1
          simp
        · rw [if_neg (fun e => hi2 e.2), hP.2 i (by omega)]
          congr 1
          rw [List.getD_eq_getElem?_getD, List.getD_eq_getElem?_getD, List.getElem?_append_left (by omega)]⟩
      rw [List.append_assoc, List.singleton_append] at t2
      refine ⟨N1, t1, t2, t3.1, fun k' j g1 g2 => ?_⟩
      rw [t3.2 k' j g1 g2, rI_pI, if_neg g2, rI_pI, if_neg (fun e => g1 e.1)]
theorem lays_eq {N : zMem} {V A J : Nat} (hV : V ≤ 60) (hA : A ≤ 30) (hJ : 1 ≤ J) (hJ2 : J ≤ 10) (hR : zR N 0 35 = 14) : ∃ N1, zX12_laysRamp shM 0 (nI V) (nI A) (nI J) N = some N1 ∧ rpM N1 (fL V A J) ∧ onlyR N N1 := by
  unfold zX12_laysRamp
  rw [rbd]
  obtain ⟨N1, t1, t2, t3⟩ := lays_loop hV hA hJ hJ2 60 0 0 zF (zpI N 0 36 0) [] rfl (by unfold zF; omega) (by omega) (by omega) (by omega) hR ⟨by rw [rI_pI, if_pos ⟨rfl, rfl⟩]; rfl, fun i hi => by simp at hi⟩
  rw [List.nil_append] at t2
  refine ⟨N1, t1, t2, t3.1, fun k' j g1 g2 => ?_⟩
  rw [t3.2 k' j g1 g2, rI_pI, if_neg g2]
/-- the speed that a ramp reaches -/
def fRe (L : List Int) : Int := L.getD (L.length - 1) 0
theorem fRe_b {L : List Int} (h : rmL L) : 0 ≤ fRe L ∧ fRe L ≤ 60 := by
  unfold fRe
  by_cases hk : L.length - 1 < L.length
  · have := getD_b h hk; omega
  · rw [getD_o (by omega)]; omega
theorem speedC {M : zMem} {k kg : Nat} {L : List Int} (hL : rmL L) (hR : zR M k 0 = kg) (hlen : zlen shC kg = 61) (h : rpC M k kg L) {i : Nat} (hi : i ≤ L.length) : zX5_speedIn shC k (nI i) M = some (iI (if i = 0 then 0 else L.getD (i - 1) 0)) := by
  have h60 := hL.1
  unfold zX5_speedIn zjX5_speedIn_32 zjX5_speedIn_33
  rw [hR, hlen]
  by_cases c : i = 0
  · subst c
    rw [if_pos (show nI 0 < (1 : Int32) from nI_lt (b := 1) (by omega) (by omega)), if_pos rfl]
    rfl
  · obtain ⟨j, rfl⟩ : ∃ j, i = j + 1 := ⟨i - 1, by omega⟩
    rw [if_neg (show ¬ nI (j + 1) < (1 : Int32) from nI_nlt (b := 1) (by omega) (by omega)), if_neg (show ¬ Int32.ofNat 61 ≤ nI (j + 1) from nI_ge (b := 61) (by omega) (by omega)), rgd (in_a (by omega) (by omega)), nI_pred, rgd (in_a (by omega) (by omega)), nI_clamp (by omega), nI_clamp (by omega), h.2 _ hi, h.2 j (by omega), iI_sub, psum_s, if_neg (by omega), Nat.add_sub_cancel]
    congr 2
    omega
theorem reachC {M : zMem} {k kg : Nat} {L : List Int} (hL : rmL L) (hR : zR M k 0 = kg) (hlen : zlen shC kg = 61) (h : rpC M k kg L) : zX5_reached shC k M = some (iI (fRe L)) := by
  unfold zX5_reached
  rw [h.1, speedC hL hR hlen h (Nat.le_refl _), rob]
  unfold fRe
  by_cases c : L.length = 0
  · rw [if_pos c, getD_o (by omega)]
  · rw [if_neg c]
theorem microC {M : zMem} {k kg : Nat} {L : List Int} (hL : rmL L) (hR : zR M k 0 = kg) (hlen : zlen shC kg = 61) (h : rpC M k kg L) : zX5_micros shC k M = some (iI (psum L L.length)) := by
  have h60 := hL.1
  unfold zX5_micros
  rw [h.1, hR, hlen, rgd (in_a (by omega) (by omega)), nI_clamp (by omega), h.2 _ (Nat.le_refl _)]
theorem reachM {N : zMem} {L : List Int} (hL : rmL L) (hR : zR N 0 35 = 14) (h : rpM N L) : zX12_reached shM 0 N = some (iI (fRe L)) := by
  have h60 := hL.1
  unfold zX12_reached zjX12_reached_22
  rw [h.1, hR]
  unfold fRe
  by_cases c : L.length = 0
  · rw [if_pos (by rw [c]; rfl), getD_o (by omega)]; rfl
  · rw [if_neg (nI_ne0 (by omega) (by omega))]
    obtain ⟨j, hj⟩ : ∃ j, L.length = j + 1 := ⟨L.length - 1, by omega⟩
    rw [hj, nI_pred]
    have hin : zin (nI j) (zlen shM 14) = true := by rw [show zlen shM 14 = 64 from rfl]; exact in_a (by omega) (by omega)
    rw [rgd hin, nI_clamp (by omega), h.2 j (by omega), Nat.add_sub_cancel]
theorem sumM {N : zMem} {L : List Int} (hL : rmL L) (hR : zR N 0 35 = 14) (h : rpM N L) : zX12_rampSum shM 0 N = some (iI (psum L L.length)) := by
  have h60 := hL.1
  have loop : ∀ (r i F : Nat), i + r = L.length → r < F → zlX12_rampSum_4 shM 0 N F (iI (psum L i)) (nI i) = some (iI (psum L L.length)) := by
    intro r
    induction r with
    | zero =>
      intro i F h1 hF
      obtain ⟨F, rfl⟩ : ∃ x, F = x + 1 := ⟨F - 1, by omega⟩
      obtain rfl : i = L.length := by omega
      simp only [zlX12_rampSum_4]
      unfold zbX12_rampSum_4
      rw [h.1, if_pos (nI_le (by omega) (by omega))]
    | succ r ih =>
      intro i F h1 hF
      obtain ⟨F, rfl⟩ : ∃ x, F = x + 1 := ⟨F - 1, by omega⟩
      have := ih (i + 1) F (by omega) (by omega)
      simp only [zlX12_rampSum_4]
      unfold zbX12_rampSum_4
      have hin : zin (nI i) (zlen shM 14) = true := by rw [show zlen shM 14 = 64 from rfl]; exact in_a (by omega) (by omega)
      rw [h.1, if_neg (nI_ge (by omega) (by omega)), hR, rgd hin, rbd, nI_clamp (by omega), h.2 i (by omega), iI_add, nI_1]
      rw [psum_s] at this
      exact this
  exact loop L.length 0 zF (by omega) (by unfold zF; omega)
theorem onlyR.N {N N1 : zMem} (h : onlyR N N1) : sameN N N1 := ⟨h.1, fun k j hk => h.2 k j (by unfold keepN at hk; omega) (by unfold keepN at hk; omega)⟩
theorem isRampM {N : zMem} (a b c : Int32) : zX12_isRamp shM a b c N = some (bI (((0 : Int32) ≤ a ∧ a ≤ 60) ∧ ((1 : Int32) ≤ b ∧ b ≤ 30) ∧ ((1 : Int32) ≤ c ∧ c ≤ 10))) := by
  unfold zX12_isRamp zjX12_isRamp_40 zjX12_isRamp_41
  rw [isIn_l a 0 60 _ _ rfl rfl, rob, isIn_l b 1 30 _ _ rfl rfl, rob, isIn_l c 1 10 _ _ rfl rfl, rob]
  simp only [bI_0]
  by_cases h1 : (0 : Int32) ≤ a ∧ a ≤ 60
  · rw [if_neg (nn h1)]
    by_cases h2 : (1 : Int32) ≤ b ∧ b ≤ 30
    · rw [if_neg (nn h2)]
      by_cases h3 : (1 : Int32) ≤ c ∧ c ≤ 10
      · rw [if_neg (nn h3), bI_t ⟨h1, h2, h3⟩]; rfl
      · rw [if_pos h3, bI_f (fun g => h3 g.2.2)]; rfl
    · rw [if_pos h2, bI_f (fun g => h2 g.2.1)]; rfl
  · rw [if_pos h1, bI_f (fun g => h1 g.1)]; rfl
theorem askRamp_eq {M : zMem} {bb sb it : Nat} (hC : rfC M bb sb it) (h0 : zI M 180 0 = 0) (a b c : Int32) : ∃ M1, zX11_askRamp shC 0 a b c M = some (bI (((0 : Int32) ≤ a ∧ a ≤ 60) ∧ ((1 : Int32) ≤ b ∧ b ≤ 30) ∧ ((1 : Int32) ≤ c ∧ c ≤ 10)), M1) ∧ sameC M M1 ∧ (((0 : Int32) ≤ a ∧ a ≤ 60) ∧ ((1 : Int32) ≤ b ∧ b ≤ 30) ∧ ((1 : Int32) ≤ c ∧ c ≤ 10) → ∃ V A J : Nat, V ≤ 60 ∧ A ≤ 30 ∧ 1 ≤ J ∧ J ≤ 10 ∧ a = nI V ∧ b = nI A ∧ c = nI J ∧ rpC M1 179 180 (fL V A J)) := by
  have e6 : zR M 0 6 = 179 := by simp only [hC.o]
  have e180 : zR M 179 0 = 180 := by simp only [hC.o]
  unfold zX11_askRamp zjX11_askRamp_30
  rw [within_eq, rob, within_eq, rob, within_eq, rob]
  simp only [bI_0]
  by_cases h1 : (0 : Int32) ≤ a ∧ a ≤ 60
  · rw [if_neg (nn h1)]
    by_cases h2 : (1 : Int32) ≤ b ∧ b ≤ 30
    · rw [if_neg (nn h2)]
      by_cases h3 : (1 : Int32) ≤ c ∧ c ≤ 10
      · rw [if_neg (nn h3), bI_t ⟨h1, h2, h3⟩, e6]
        have a1 : 0 ≤ a.toInt := r_le.mp h1.1
        have a2 : a.toInt ≤ 60 := r_le.mp h1.2
        have b1 : 1 ≤ b.toInt := r_le.mp h2.1
        have b2 : b.toInt ≤ 30 := r_le.mp h2.2
        have c1 : 1 ≤ c.toInt := r_le.mp h3.1
        have c2 : c.toInt ≤ 10 := r_le.mp h3.2
        obtain ⟨V, hV, rfl⟩ := ax_ex (nA := 61) (x := a) ⟨by omega, by omega⟩
        obtain ⟨A, hA, rfl⟩ := ax_ex (nA := 31) (x := b) ⟨by omega, by omega⟩
        obtain ⟨J, hJ, rfl⟩ := ax_ex (nA := 11) (x := c) ⟨by omega, by omega⟩
        have hJ1 : 1 ≤ J := by rw [nI_toInt (by omega)] at c1; omega
        obtain ⟨M1, t1, t2, t3, t4, t5⟩ := build_eq (M := M) (k := 179) (kg := 180) (V := V) (A := A) (J := J) (by omega) rfl (by omega) (by omega) hJ1 (by omega) e180 h0
        rw [t1, rob]
        refine ⟨M1, rfl, ⟨t3, fun k j hk => ?_⟩, fun _ => ⟨V, A, J, by omega, by omega, hJ1, by omega, rfl, rfl, rfl, t2⟩⟩
        by_cases hk2 : k = 180
        · subst hk2
          have : j = 0 := by omega
          subst this
          rw [t5, h0]
        · exact t4 k j hk2 (by omega)
      · rw [if_pos h3, bI_f (fun g => h3 g.2.2)]
        exact ⟨M, rfl, sameC.rf M, fun g => absurd g.2.2 h3⟩
    · rw [if_pos h2, bI_f (fun g => h2 g.2.1)]
      exact ⟨M, rfl, sameC.rf M, fun g => absurd g.2.1 h2⟩
  · rw [if_pos h1, bI_f (fun g => h1 g.1)]
    exact ⟨M, rfl, sameC.rf M, fun g => absurd g.1 h1⟩
theorem B_ramp_ok : B_ramp Inv := by
  intro n M N v1 v2 v3 v4 hn hI
  have hI' := hI
  obtain ⟨bb, sb, it, nA, nB, h1, h2, h3, h4, h5, h6, h7, h8, h9⟩ := hI
  obtain ⟨M1, t1, t2, t3⟩ := askRamp_eq h2 h5.2.2.2.1 v1 v2 v3
  have h2' := h2.sm t2.1
  have e6 : zR M1 0 6 = 179 := by simp only [h2'.o]
  have e180 : zR M1 179 0 = 180 := by simp only [h2'.o]
  have e35 : zR N 0 35 = 14 := by simp only [h3.o]
  unfold zX11_ramp zX12_ramp zjX12_ramp_57
  rw [t1, rob2, isRampM, rob]
  simp only [bI_0]
  by_cases c : ((0 : Int32) ≤ v1 ∧ v1 ≤ 60) ∧ ((1 : Int32) ≤ v2 ∧ v2 ≤ 30) ∧ ((1 : Int32) ≤ v3 ∧ v3 ≤ 10)
  · obtain ⟨V, A, J, hV, hA, hJ, hJ2, rfl, rfl, rfl, hL⟩ := t3 c
    obtain ⟨N1, s1, s2, s3⟩ := lays_eq (N := N) hV hA hJ hJ2 e35
    have hok := (fL_ok hV hA hJ2).1
    have e35' : zR N1 0 35 = 14 := by unfold zR; rw [s3.1]; exact e35
    rw [if_neg (nn c), if_neg (nn c), s1, rob, e6, reachC hok e180 rfl hL, microC hok e180 rfl hL, reachM hok e35' s2, sumM hok e35' s2, hL.1, s2.1]
    simp only [rob]
    have hfin := Inv_same hI' t2 s3.N
    by_cases c0 : v4 = 0
    · exact ⟨_, M1, N1, if_pos c0, if_pos c0, hfin⟩
    · by_cases c1 : v4 = 1
      · exact ⟨_, M1, N1, by rw [if_neg c0, if_pos c1], by rw [if_neg c0, if_pos c1], hfin⟩
      · by_cases c2 : v4 = 2
        · exact ⟨_, M1, N1, by rw [if_neg c0, if_neg c1, if_pos c2], by rw [if_neg c0, if_neg c1, if_pos c2], hfin⟩
        · exact ⟨_, M1, N1, by rw [if_neg c0, if_neg c1, if_neg c2], by rw [if_neg c0, if_neg c1, if_neg c2], hfin⟩
  · exact ⟨_, M1, N, if_pos c, if_pos c, Inv_same hI' t2 (sameN.rf N)⟩
theorem B_rampAt_ok : B_rampAt Inv := by
  intro n M N v1 v2 v3 v4 hn hI
  have hI' := hI
  obtain ⟨bb, sb, it, nA, nB, h1, h2, h3, h4, h5, h6, h7, h8, h9⟩ := hI
  obtain ⟨M1, t1, t2, t3⟩ := askRamp_eq h2 h5.2.2.2.1 v1 v2 v3
  have h2' := h2.sm t2.1
  have e6 : zR M1 0 6 = 179 := by simp only [h2'.o]
  have e180 : zR M1 179 0 = 180 := by simp only [h2'.o]
  have e35 : zR N 0 35 = 14 := by simp only [h3.o]
  unfold zX11_rampAt zX12_rampAt zjX11_rampAt_26 zjX12_rampAt_46
  rw [t1, rob2, isRampM, rob]
  simp only [bI_0]
  by_cases c : ((0 : Int32) ≤ v1 ∧ v1 ≤ 60) ∧ ((1 : Int32) ≤ v2 ∧ v2 ≤ 30) ∧ ((1 : Int32) ≤ v3 ∧ v3 ≤ 10)
  · obtain ⟨V, A, J, hV, hA, hJ, hJ2, rfl, rfl, rfl, hL⟩ := t3 c
    obtain ⟨N1, s1, s2, s3⟩ := lays_eq (N := N) hV hA hJ hJ2 e35
    have hok := (fL_ok hV hA hJ2).1
    have h60 := hok.1
    have e35' : zR N1 0 35 = 14 := by unfold zR; rw [s3.1]; exact e35
    have hfin := Inv_same hI' t2 s3.N
    rw [if_neg (nn c), if_neg (nn c), s1, rob, e6, hL.1, s2.1, within_eq, rob, show (1 : Int64) = (1 : Int32).toInt64 from rfl, isIn_i, rob]
    simp only [bI_0]
    by_cases c2 : (1 : Int32) ≤ v4 ∧ v4 ≤ nI (fL V A J).length
    · have g1 : 1 ≤ v4.toInt := r_le.mp c2.1
      have g2 := r_le.mp c2.2
      rw [nI_toInt (by omega)] at g2
      obtain ⟨k, hk, rfl⟩ := ax_ex (nA := 61) (x := v4) ⟨by omega, by omega⟩
      rw [nI_toInt (by omega)] at g1 g2
      obtain ⟨j, rfl⟩ : ∃ j, k = j + 1 := ⟨k - 1, by omega⟩
      rw [if_neg (nn c2), if_neg (nn c2), speedC hok e180 rfl hL (by omega), rob, e35', nI_pred]
      have hin : zin (nI j) (zlen shM 14) = true := by rw [show zlen shM 14 = 64 from rfl]; exact in_a (by omega) (by omega)
      rw [rgd hin, nI_clamp (by omega), s2.2 j (by omega), if_neg (by omega), Nat.add_sub_cancel]
      exact ⟨_, M1, N1, rfl, rfl, hfin⟩
    · exact ⟨_, M1, N1, if_pos c2, if_pos c2, hfin⟩
  · exact ⟨_, M1, N, if_pos c, if_pos c, Inv_same hI' t2 (sameN.rf N)⟩
