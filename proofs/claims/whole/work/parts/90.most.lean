/-! Phase B: most, peak, drives -/
theorem sub_z (z a b : Int32) : (z + a) - (z + b) = a - b := by
  rw [← iI_t z, ← iI_t a, ← iI_t b, iI_add, iI_add, iI_sub, iI_sub]
  congr 1
  omega
theorem placeK {M1 N1 N : zMem} {nA a W : Nat} {L : List Int} {rest E : Int} {d : Nat → Int} (a4 : mvP M1 174 L W rest E) (a2 : 1 ≤ W) (ha : a < nA) (ha3 : a < 3) (hd : (d a).natAbs ≤ W) (a7 : ∀ a, a < 3 → zI M1 176 a = iI (d a)) (a8 : ∀ a, a < nA → zI M1 175 a = zI N 1 (48 + 6 * a)) {K : Nat} (hK : (K : Int) ≤ 2 * L.length + E) : (zob (zX4_goneBehind shC 174 (nI K) M1) fun r => zX4_placeOf shC 174 (nI a) r M1) = some (zI N 1 (48 + 6 * a) + iI (fPa (fG L E rest K) (d a) W)) := by
  have a4' := a4
  obtain ⟨hm, hr, h4, h8, h9, hL, hW, hWe, he⟩ := a4'
  have he' := he
  obtain ⟨ee1, ee2, ee3⟩ := he'
  have h60 := hL.1
  have hps := psum_b hL L.length
  have hgb := fG_b hL he K hK
  rw [iI_n K, goneC a4 rfl (by omega) (by omega), rob]
  exact placeC (a := a) (s := fG L E rest K) (d := d a) hm rfl rfl ha3 h4 (a8 a ha) (a7 a ha3) a2 hW (by omega) (by omega) (by omega)
theorem speedK {N1 : zMem} {L : List Int} {rest E : Int} (hL : rmL L) (hR : zR N1 0 35 = 14) (cL : rpM N1 L) (c43 : zI N1 0 43 = iI rest) (c44 : zI N1 0 44 = iI E) (he : evOK rest E) (hr : rest ≤ 60000) {k : Nat} (h : (k : Int) < 2 * L.length + E) : zX12_speedOf shM 0 (nI k) N1 = some (iI (fS L E rest k)) := by
  rw [iI_n k]
  exact speedOfM hL hR cL c43 c44 he hr (by omega) h
theorem ob_ob {α β γ : Type} {x : Option α} {f : α → Option β} {g : β → Option γ} : (zob x fun a => zob (f a) g) = zob (zob x f) g := by
  cases x <;> rfl
theorem Inv_of' {m bb sb it nA nB : Nat} {M N M1 : zMem} (h1 : (bb = 1 ∧ sb = 13) ∨ (bb = 13 ∧ sb = 1)) (h2 : rfC M bb sb it) (h3 : rfN N) (h4 : IvT M N) (h5 : IvF M N) (h6 : IvB M N bb nA nB) (h7 : IvP M N) (h8 : rSt (vSt M 28) (zI N 1) nA (500 * m)) (h9 : IvH M N nA (500 * m)) (hM : sameC M M1) : Inv m M1 N := by
  refine ⟨bb, sb, it, nA, nB, h1, h2.sm hM.1, h3, h4.sm (fun k j g => hM.2 k j (by omega)) (fun _ _ _ => rfl), ?_, h6.sm (fun k j g1 g2 => hM.2 k j (by omega)) (fun _ _ _ => rfl), h7.sm (fun k j g => hM.2 k j (by omega)) (fun _ => rfl), ?_, h9.sm (fun k j g1 g2 => hM.2 k j (by omega)) (fun _ _ _ => rfl)⟩
  · unfold IvF
    rw [hM.2 27 7 (by omega), hM.2 27 8 (by omega)]
    exact ⟨h5.1, h5.2.1, by rw [hM.2 178 0 (by omega)]; exact h5.2.2.1, by rw [hM.2 180 0 (by omega)]; exact h5.2.2.2.1, fun b hb => by rw [hM.2 (b + 6) 0 (by unfold stB at hb; omega)]; exact h5.2.2.2.2 b hb⟩
  · rw [vSt_same (M := M) (M1 := M1) (fun k j g1 g2 g3 => hM.2 k j (by omega))]
    exact h8
theorem B_most_ok : B_most Inv := by
  intro n M N v1 v2 v3 v4 hn hI
  have hU := Inv_up n M N hI
  obtain ⟨bb, sb, it, nA, nB, r, M1, N1, d, hB, t1, t2, hI1, hB1, hQ, t3, hS1⟩ := ask_inv hI v1 v2 v3
  obtain ⟨hb, hC, hN, h6, h7⟩ := hB
  have hn3 : nA ≤ 3 := h6.1
  have h11 : zR M 0 11 = bb := by simp only [hC.o]
  have f5 : zR M1 0 5 = 174 := by simp only [hB1.2.1.o]
  have f174 : zR M1 174 0 = 175 := by simp only [hB1.2.1.o]
  have e37 : zR N1 0 37 = 15 := by simp only [hB1.2.2.1.o]
  have e35 : zR N1 0 35 = 14 := by simp only [hB1.2.2.1.o]
  unfold zX11_most zX12_most zjX11_most_19 zjX12_most_19
  rw [axisC h11 h6.2.2.1 h6.1, axisM h6.2.2.2.1 h6.1, rob, rob, t1, rob2, t2, rob2]
  simp only [bI_0]
  by_cases c1 : 0 ≤ v4.toInt ∧ v4.toInt < nA
  · rw [if_neg (nn c1), if_neg (nn c1)]
    obtain ⟨a, ha, rfl⟩ := ax_ex c1
    have ha3 : a < 3 := by omega
    rcases t3 with ⟨rfl, ld, W, S, L, rest, E, a1, a2, a3, a4, a5, a6, a7, a8, c38, c39, c40, c43, c44, cL, c15⟩ | rfl
    · have a4' := a4
      obtain ⟨hm, hr, h4, h8, h9, hL, hW, hWe, he⟩ := a4'
      have he' := he
      obtain ⟨ee1, ee2, ee3⟩ := he'
      have h60 := hL.1
      have hps := psum_b hL L.length
      have n10 : ¬ (1 : Int32) = 0 := by decide
      have hda := a3 a ha3
      rw [if_neg n10, if_neg n10, f5, f174, show zlen shC 175 = 3 from rfl, rgd (in_a ha3 (by omega)), nI_clamp (by omega), rbd, ticksC a4, rob, a8 a ha]
      obtain ⟨T, hT⟩ : ∃ T : Nat, (T : Int) = 2 * L.length + E := ⟨(2 * (L.length : Int) + E).toNat, by omega⟩
      have loop : ∀ (r k F F' : Nat) (g : Int32), k + r = T → r < F → r < F' → ∃ v, zlX11_most_48 shC 0 v1 v2 v3 (nI a) F g (zI N 1 (48 + 6 * a) + iI (fPa (fG L E rest k) (d a) W)) (nI T) (nI (k + 1)) M1 = some (v, M1) ∧ zlX12_most_30 shM 0 v1 v2 v3 (nI a) F' g (iI (fG L E rest k)) (nI k) N1 = some (v, N1) := by
        intro r
        induction r with
        | zero =>
          intro k F F' g h1 hF hF'
          obtain ⟨F, rfl⟩ : ∃ x, F = x + 1 := ⟨F - 1, by omega⟩
          obtain ⟨F', rfl⟩ : ∃ x, F' = x + 1 := ⟨F' - 1, by omega⟩
          simp only [zlX11_most_48, zlX12_most_30]
          unfold zbX11_most_48 zbX12_most_30
          rw [planTicksM cL.1 c44, rob, ← hT, ← iI_n, if_pos (nI_lt (by omega) (by omega)), if_pos (nI_le (by omega) (by omega))]
          exact ⟨g, rfl, rfl⟩
        | succ r ih =>
          intro k F F' g h1 hF hF'
          obtain ⟨F, rfl⟩ : ∃ x, F = x + 1 := ⟨F - 1, by omega⟩
          obtain ⟨F', rfl⟩ : ∃ x, F' = x + 1 := ⟨F' - 1, by omega⟩
          have hgb := fG_b hL he k (by omega)
          have hgb1 := fG_b hL he (k + 1) (by omega)
          have pk := placeK (N1 := N1) a4 a2 ha ha3 hda a7 a8 (K := k + 1) (by omega)
          simp only [zlX11_most_48, zlX12_most_30]
          unfold zbX11_most_48 zbX12_most_30
          rw [planTicksM cL.1 c44, rob, ← hT, ← iI_n, if_neg (nI_nlt (by omega) (by omega)), if_neg (nI_ge (by omega) (by omega)), f5, ob_ob, pk, rob, rbd, sub_z, nI_1, e37, show zlen shM 15 = 3 from rfl, rgd (in_a ha3 (by omega)), nI_clamp (by omega), c15 a ha3, c39, goneByM a2 hW (by omega) (by omega) (by omega), rob, speedK hL e35 cL c43 c44 he (by omega) (by omega), rob, sum_speeds he (by omega), rgd (in_a ha3 (by omega)), goneByM a2 hW (by omega) (by omega) (by omega), rob, size_eq, rob, greater_eq, rob, nI_1]
          exact ih (k + 1) F F' _ (by omega) (by omega) (by omega)
      obtain ⟨v, u1, u2⟩ := loop T 0 zF zF 0 (by omega) (by unfold zF; omega) (by unfold zF; omega)
      refine ⟨v, M1, N1, ?_, ?_, hI1⟩
      · rw [← hT, ← iI_n]
        rw [show fG L E rest ((0 : Nat) : Int) = 0 from fG_0] at u1
        rw [show fPa 0 (d a) W = 0 by
          unfold fPa
          rw [show 2 * (0 : Int) * ((d a).natAbs : Int) + W = W by rw [Int.mul_zero, Int.zero_mul, Int.zero_add], Int.ediv_eq_zero_of_lt (by omega) (by omega)]
          split <;> rfl, show iI 0 = (0 : Int32) from rfl, Int32.add_zero] at u1
        exact u1
      · rw [show fG L E rest ((0 : Nat) : Int) = 0 from fG_0] at u2
        exact u2
    · exact ⟨_, M1, N1, if_pos rfl, if_pos rfl, hI1⟩
  · exact ⟨_, M, N, if_pos c1, if_pos c1, hU⟩
theorem B_peak_ok : B_peak Inv := by
  intro n M N v1 v2 v3 v4 hn hI
  have hU := Inv_up n M N hI
  obtain ⟨bb, sb, it, nA, nB, r, M1, N1, d, hB, t1, t2, hI1, hB1, hQ, t3, hS1⟩ := ask_inv hI v1 v2 v3
  obtain ⟨hb, hC, hN, h6, h7⟩ := hB
  have f5 : zR M1 0 5 = 174 := by simp only [hB1.2.1.o]
  have e35 : zR N1 0 35 = 14 := by simp only [hB1.2.2.1.o]
  have hUN : Inv (n + 1) M N1 := Inv_same hI (sameC.rf M) hQ.N
  unfold zX11_peak zX12_peak zjX11_peak_20 zjX12_peak_21 zjX11_peak_37
  rw [within_eq, rob, t1, rob2, t2, rob2, isIn_l v4 0 1 _ _ rfl rfl, rob, f5]
  simp only [bI_0]
  by_cases c1 : (0 : Int32) ≤ v4 ∧ v4 ≤ 1
  · rw [if_neg (nn c1), if_neg (nn c1)]
    rcases t3 with ⟨rfl, ld, W, S, L, rest, E, a1, a2, a3, a4, a5, a6, a7, a8, c38, c39, c40, c43, c44, cL, c15⟩ | rfl
    · have a4' := a4
      obtain ⟨hm, hr, h4, h8, h9, hL, hW, hWe, he⟩ := a4'
      have he' := he
      obtain ⟨ee1, ee2, ee3⟩ := he'
      have h60 := hL.1
      have hps := psum_b hL L.length
      have n10 : ¬ (1 : Int32) = 0 := by decide
      obtain ⟨T, hT⟩ : ∃ T : Nat, (T : Int) = 2 * L.length + E := ⟨(2 * (L.length : Int) + E).toNat, by omega⟩
      rw [if_neg n10, if_neg n10]
      have sp : ∀ k : Nat, k ≤ T → iI (fG L E rest (k + 1 : Nat)) - iI (fG L E rest k) = (if k < T then iI (fS L E rest k) else 0) := fun k hk => by
        by_cases c : k < T
        · rw [if_pos c, ← sum_speeds he (by omega), Int32.add_comm, Int32.add_sub_cancel]
        · rw [if_neg c, fG_end he (by omega) (by omega), fG_end he (by omega) (by omega), Int32.sub_self]
      have loop : ∀ (fl : Int32), (fl = 0 ∨ fl = 1) → ∀ (r k F F' : Nat) (x2 mo ju was had : Int32), k + r = T + 1 → r < F → r < F' → x2 = (if fl = 0 then mo else ju) → ∃ v w, zlX4_greatestChange_19 shC 174 fl M1 F x2 (iI (fG L E rest k)) was had (nI T) (nI (k + 1)) = some (if fl = 0 then v else w) ∧ zlX12_peak_38 shM 0 v1 v2 v3 v4 F' mo ju was had (nI k) N1 = (if v4 = 0 then some (v, N1) else some (w, N1)) := by
        intro fl hfl r
        induction r with
        | zero =>
          intro k F F' x2 mo ju was had h1 hF hF' hx
          obtain ⟨F, rfl⟩ : ∃ x, F = x + 1 := ⟨F - 1, by omega⟩
          obtain ⟨F', rfl⟩ : ∃ x, F' = x + 1 := ⟨F' - 1, by omega⟩
          simp only [zlX4_greatestChange_19, zlX12_peak_38]
          unfold zbX4_greatestChange_19 zbX12_peak_38 zjX12_peak_128
          rw [planTicksM cL.1 c44, rob, ← hT, ← iI_n, nI_1, if_pos (nI_lt (by omega) (by omega)), if_pos (nI_lt (by omega) (by omega)), hx]
          exact ⟨mo, ju, rfl, rfl⟩
        | succ r ih =>
          intro k F F' x2 mo ju was had h1 hF hF' hx
          obtain ⟨F, rfl⟩ : ∃ x, F = x + 1 := ⟨F - 1, by omega⟩
          obtain ⟨F', rfl⟩ : ∃ x, F' = x + 1 := ⟨F' - 1, by omega⟩
          have hs := sp k (by omega)
          generalize hits : (if k < T then iI (fS L E rest k) else 0) = its at hs
          obtain ⟨v, w, u1, u2⟩ := ih (k + 1) F F' (if fl = 0 then zmax mo (zabs (its - was)) else zmax ju (zabs (its - was - had))) (zmax mo (zabs (its - was))) (zmax ju (zabs (its - was - had))) its (its - was) (by omega) (by omega) (by omega) rfl
          refine ⟨v, w, ?_, ?_⟩
          · simp only [zlX4_greatestChange_19]
            unfold zbX4_greatestChange_19 zjX4_greatestChange_60
            rw [nI_1, if_neg (nI_nlt (by omega) (by omega)), iI_n (k + 1), goneC a4 rfl (by omega) (by omega), rob, hs, ← iI_n (k + 1), nI_1, hx]
            rcases hfl with rfl | rfl
            · simp only [if_true] at u1 ⊢
              exact u1
            · simp only [if_neg n10] at u1 ⊢
              exact u1
          · simp only [zlX12_peak_38]
            unfold zbX12_peak_38 zjX12_peak_66
            rw [planTicksM cL.1 c44, rob, rob, ← hT, ← iI_n, if_neg (nI_nlt (by omega) (by omega))]
            by_cases c : k < T
            · rw [if_pos c] at hits
              rw [if_neg (nI_ge c (by omega)), speedK hL e35 cL c43 c44 he (by omega) (by omega), rob, hits, size_eq, rob, greater_eq, rob, size_eq, rob, greater_eq, rob, nI_1]
              exact u2
            · rw [if_neg c] at hits
              subst hits
              rw [if_pos (nI_le (by omega) (by omega)), size_eq, rob, greater_eq, rob, size_eq, rob, greater_eq, rob, nI_1]
              exact u2
      have start : ∀ fl : Int32, (fl = 0 ∨ fl = 1) → ∃ v w, zX4_greatestChange shC 174 fl M1 = some (if fl = 0 then v else w) ∧ zlX12_peak_38 shM 0 v1 v2 v3 v4 zF 0 0 0 0 0 N1 = (if v4 = 0 then some (v, N1) else some (w, N1)) := fun fl hfl => by
        obtain ⟨v, w, u1, u2⟩ := loop fl hfl (T + 1) 0 zF zF 0 0 0 0 0 (by omega) (by unfold zF; omega) (by unfold zF; omega) (by split <;> rfl)
        refine ⟨v, w, ?_, u2⟩
        unfold zX4_greatestChange
        rw [ticksC a4, rob, ← hT, ← iI_n]
        rw [show fG L E rest ((0 : Nat) : Int) = 0 from fG_0] at u1
        exact u1
      by_cases c2 : v4 = 1
      · obtain ⟨v, w, u1, u2⟩ := start 1 (Or.inr rfl)
        rw [if_neg n10] at u1
        rw [if_neg (by rw [c2]; decide)] at u2
        refine ⟨w, M1, N1, ?_, u2, hI1⟩
        rw [if_pos c2, u1, rob]
      · have c0 : v4 = 0 := by
          have g1 : 0 ≤ v4.toInt := r_le.mp c1.1
          have g2 : v4.toInt ≤ 1 := r_le.mp c1.2
          rcases (show v4.toInt = 0 ∨ v4.toInt = 1 by omega) with k | k
          · exact r_eq.mpr k
          · exact absurd (r_eq.mpr k) c2
        obtain ⟨v, w, u1, u2⟩ := start 0 (Or.inl rfl)
        rw [if_pos rfl] at u1
        rw [if_pos c0] at u2
        refine ⟨v, M1, N1, ?_, u2, hI1⟩
        rw [if_neg c2, u1, rob]
    · exact ⟨_, M1, N1, if_pos rfl, if_pos rfl, hI1⟩
  · rw [if_pos c1, if_pos c1]
    refine ⟨-1, M, N1, rfl, ?_, hUN⟩
    by_cases g : r = 0
    · rw [if_pos g]
    · rw [if_neg g]
theorem B_drives_ok : B_drives Inv := by
  intro n M N v1 v2 v3 v4 v5 v6 hn hI
  have hU := Inv_up n M N hI
  obtain ⟨bb, sb, it, nA, nB, r, M1, N1, d, hB, t1, t2, hI1, hB1, hQ, t3, hS1⟩ := ask_inv hI v1 v2 v3
  obtain ⟨hb, hC, hN, h6, h7⟩ := hB
  have hn3 : nA ≤ 3 := h6.1
  have h11 : zR M 0 11 = bb := by simp only [hC.o]
  have f5 : zR M1 0 5 = 174 := by simp only [hB1.2.1.o]
  have f8 : zR M1 0 8 = 182 := by simp only [hB1.2.1.o]
  have f11 : zR M1 0 11 = bb := by simp only [hB1.2.1.o]
  have e37 : zR N1 0 37 = 15 := by simp only [hB1.2.2.1.o]
  have e35 : zR N1 0 35 = 14 := by simp only [hB1.2.2.1.o]
  have e33 : zR N1 0 33 = 12 := by simp only [hB1.2.2.1.o]
  have e18 : zR N1 0 18 = 8 := by simp only [hB1.2.2.1.o]
  have e0 : zR N1 0 0 = 1 := hB1.2.2.1.o.1
  unfold zX11_drives zX12_drives zjX11_drives_37 zjX12_drives_43
  rw [axisC h11 h6.2.2.1 h6.1, axisM h6.2.2.2.1 h6.1, rob, rob, isMode_eq, rob, isIn_l v5 0 8 _ _ rfl rfl, rob, within_eq, rob, isIn_l v6 0 1 _ _ rfl rfl, rob, t1, rob2, t2, rob2]
  simp only [bI_0]
  by_cases c1 : 0 ≤ v4.toInt ∧ v4.toInt < nA
  · rw [if_neg (nn c1), if_neg (nn c1)]
    obtain ⟨a, ha, rfl⟩ := ax_ex c1
    have ha3 : a < 3 := by omega
    by_cases c2 : (0 : Int32) ≤ v5 ∧ v5 ≤ 8
    · rw [if_neg (nn c2), if_neg (nn c2)]
      by_cases c3 : (0 : Int32) ≤ v6 ∧ v6 ≤ 1
      · rw [if_neg (nn c3), if_neg (nn c3)]
        rcases t3 with ⟨rfl, ld, W, S, L, rest, E, a1, a2, a3, a4, a5, a6, a7, a8, c38, c39, c40, c43, c44, cL, c15⟩ | rfl
        · have a4' := a4
          obtain ⟨hm, hr, h4, h8, h9, hL, hW, hWe, he⟩ := a4'
          have he' := he
          obtain ⟨ee1, ee2, ee3⟩ := he'
          have h60 := hL.1
          have hps := psum_b hL L.length
          have n10 : ¬ (1 : Int32) = 0 := by decide
          have hda := a3 a ha3
          obtain ⟨-, -, -, -, -, -, -, b8, b9, b10, b11, -⟩ := hB1.2.2.2.1
          obtain ⟨M2, s1, s2, s3⟩ := start_eq (M := M1) (bb := bb) (by omega) v5
          rw [b8, b10] at s2
          rw [if_neg n10, if_neg n10, f5, ticksC a4, rob, f8, f11, s1, rob]
          obtain ⟨T, hT⟩ : ∃ T : Nat, (T : Int) = 2 * L.length + E := ⟨(2 * (L.length : Int) + E).toNat, by omega⟩
          have hrow := fRow_b hB1.2.2.2.1 hB1.2.2.2.2
          have loop : ∀ (r k F F' : Nat) (Mx : zMem) (g al i : Int32), k + r = T → r < F → r < F' → only 182 M1 Mx → cst Mx i k v5 (zI N1 0 28) (zI N1 0 29) → btw i 0 2200 → ∃ v Mz, zlX11_drives_70 shC 0 v1 v2 v3 (nI a) v5 v6 F g al (nI T) (nI (k + 1)) Mx = some (v, Mz) ∧ zlX12_drives_60 shM 0 v1 v2 v3 (nI a) v5 v6 F' g al (iI (fG L E rest k)) i (nI k) N1 = some (v, N1) ∧ only 182 M1 Mz := by
            intro r
            induction r with
            | zero =>
              intro k F F' Mx g al i h1 hF hF' ho hc hi
              obtain ⟨F, rfl⟩ : ∃ x, F = x + 1 := ⟨F - 1, by omega⟩
              obtain ⟨F', rfl⟩ : ∃ x, F' = x + 1 := ⟨F' - 1, by omega⟩
              simp only [zlX11_drives_70, zlX12_drives_60]
              unfold zbX11_drives_70 zbX12_drives_60 zjX11_drives_175 zjX12_drives_174
              rw [planTicksM cL.1 c44, rob, ← hT, ← iI_n, if_pos (nI_lt (by omega) (by omega)), if_pos (nI_le (by omega) (by omega))]
              by_cases c : v6 = 0
              · rw [if_pos c, if_pos c]; exact ⟨g, Mx, rfl, rfl, ho⟩
              · rw [if_neg c, if_neg c]; exact ⟨al, Mx, rfl, rfl, ho⟩
            | succ r ih =>
              intro k F F' Mx g al i h1 hF hF' ho hc hi
              obtain ⟨F, rfl⟩ : ∃ x, F = x + 1 := ⟨F - 1, by omega⟩
              obtain ⟨F', rfl⟩ : ∃ x, F' = x + 1 := ⟨F' - 1, by omega⟩
              have hgb1 := fG_b hL he (k + 1) (by omega)
              have hBx : Bx Mx N1 bb sb it nA nB := hB1.o ho (by omega)
              have a4x : mvP Mx 174 L W rest E := ⟨by unfold mvB zR; rw [ho.1]; exact hm, ⟨by rw [ho.2 _ _ (by omega)]; exact hr.1, fun i hi => by rw [ho.2 _ _ (by omega)]; exact hr.2 i hi⟩, by rw [ho.2 _ _ (by omega)]; exact h4, by rw [ho.2 _ _ (by omega)]; exact h8, by rw [ho.2 _ _ (by omega)]; exact h9, hL, hW, hWe, he⟩
              have pk := placeK (N1 := N1) a4x a2 ha ha3 hda (fun c hc => by rw [ho.2 _ _ (by omega)]; exact a7 c hc) (fun c hc => by rw [ho.2 _ _ (by omega)]; exact a8 c hc) (K := k + 1) (by omega)
              have g5 : zR Mx 0 5 = 174 := by simp only [hBx.2.1.o]
              have g8 : zR Mx 0 8 = 182 := by simp only [hBx.2.1.o]
              have g11 : zR Mx 0 11 = bb := by simp only [hBx.2.1.o]
              have gb4 : zR Mx bb 4 = bb + 5 := by simp only [hBx.2.1.b hb]
              have gb5 : zR Mx (bb + 5) 1 = bb + 7 := by simp only [hBx.2.1.b hb]
              generalize hpl : zI N 1 (48 + 6 * a) + iI (fPa (fG L E rest (k + 1 : Nat)) (d a) W) = pl at *
              have hfw := fW_b hrow (by omega) pl.toInt
              have hab : btw (zabs (fW (fRow N1) pl.toInt)) 0 1200 := zabs_b (by unfold btw at hfw; omega) (by unfold btw at hfw; omega) (by omega)
              obtain ⟨My, q1, q2, q3, q4⟩ := step_eq (goal := zabs (fW (fRow N1) pl.toInt)) hc hi (by unfold btw at hab; omega) b9 b11
              have g8' : zR My 0 8 = 182 := q3.R g8
              obtain ⟨v, Mz, u1, u2, u3⟩ := ih (k + 1) F F' My _ _ _ (by omega) (by omega) (by omega) (ho.tr q3) q2 q4
              refine ⟨v, Mz, ?_, ?_, u3⟩
              · simp only [zlX11_drives_70]
                unfold zbX11_drives_70
                rw [if_neg (nI_nlt (by omega) (by omega)), g5, ob_ob, pk, rob, g11, gb4, gb5, waveC hb hBx.2.2.2.1, rob, g8, q1, rob, rbd, g8', q2.1, nI_1]
                exact u1
              · simp only [zlX12_drives_60]
                unfold zbX12_drives_60
                rw [planTicksM cL.1 c44, rob, ← hT, ← iI_n, if_neg (nI_ge (by omega) (by omega)), speedK hL e35 cL c43 c44 he (by omega) (by omega), rob, sum_speeds he (by omega), axisAt_0 e0 ha3, rob, e37, show zlen shM 15 = 3 from rfl, rgd (in_a ha3 (by omega)), nI_clamp (by omega), c15 a ha3, c39, goneByM a2 hW (by omega) (by omega) (by omega), rob, show zI N1 1 (48 + 6 * a + 0) = zI N 1 (48 + 6 * a) from hQ.2 1 _ (by omega) (by omega) (by omega), hpl, currentOf_1 e33 e18, rob, size_eq, rob, pulls_eq, rob, size_eq, rob, greater_eq, rob, rob, rem8 _ (by omega), nI_1]
                exact u2
          obtain ⟨v, Mz, u1, u2, u3⟩ := loop T 0 zF zF M2 0 0 0 (by omega) (by unfold zF; omega) (by unfold zF; omega) s3 s2 ⟨by decide, by decide⟩
          rw [show fG L E rest ((0 : Nat) : Int) = 0 from fG_0] at u2
          rw [hT.symm, ← iI_n]
          obtain ⟨bb', sb', it', nA', nB', h1', h2', h3', h4', h5', h6', h7', h8', h9'⟩ := hI1
          refine ⟨v, Mz, N1, u1, u2, ?_⟩
          have hs := u3.C (by omega)
          exact Inv_of' h1' h2' h3' h4' h5' h6' h7' h8' h9' hs
        · exact ⟨_, M1, N1, if_pos rfl, if_pos rfl, hI1⟩
      · exact ⟨_, M, N, if_pos c3, if_pos c3, hU⟩
    · exact ⟨_, M, N, if_pos c2, if_pos c2, hU⟩
  · exact ⟨_, M, N, if_pos c1, if_pos c1, hU⟩
