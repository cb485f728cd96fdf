/-! Phase B: follows, mode: the outer loops -/
theorem fRow_b {M N : zMem} {bb nA nB : Nat} (h6 : IvB M N bb nA nB) (h7 : IvP M N) : ∀ q, q ≤ 64 → btw (fRow N q) (-1200) 1200 := fun q hq => by
  have h1 := (h6.2.2.2.2.2.2.2.2.2.2.2.2.2 q hq).2
  have h2 := (h7 q hq).2.2
  exact (add_b h2 h1 (by omega) (by omega)).w (by omega) (by omega)
theorem IvB.row {M N : zMem} {bb nA nB : Nat} (h6 : IvB M N bb nA nB) : ∀ q, q ≤ 64 → zI M (bb + 7) q = fRow N q := fun q hq => (h6.2.2.2.2.2.2.2.2.2.2.2.2.2 q hq).1
/-- the class's wave over the bench in use -/
theorem waveC {M N : zMem} {bb nA nB : Nat} (hb : bb = 1 ∨ bb = 13) (h6 : IvB M N bb nA nB) (x : Int32) : zX9_wave shC (bb + 7) x M = some (fW (fRow N) x.toInt) := by
  rw [wave_eq _ (by rw [(lnB hb).2.2.2.2.2.1]; exact Nat.le_refl _), fW_ext h6.row]
theorem IvB.o {M M1 N N1 : zMem} {bb nA nB b : Nat} (h : IvB M N bb nA nB) (hb : bb = 1 ∨ bb = 13) (hM : only b M M1) (hN : sameN N N1) (hb' : 174 ≤ b) : IvB M1 N1 bb nA nB := h.sm (fun k j g1 g2 => hM.2 k j (by omega)) (fun k j g => hN.2 k j (by unfold keepN; omega))
theorem IvP.o {M M1 N N1 : zMem} {b : Nat} (h : IvP M N) (hM : only b M M1) (hN : sameN N N1) (hb' : 174 ≤ b) : IvP M1 N1 := h.sm (fun k j g => hM.2 k j (by omega)) (fun j => hN.2 12 j (by unfold keepN; omega))
theorem follow_out {bb sb it nA nB : Nat} (hb : bb = 1 ∨ bb = 13) {m p3 : Int32} {P : Nat} (hP : P ≤ 50) : ∀ (r K F F' : Nat) (M N : zMem) (i a b c : Int32), K + r = 129 → r < F → r < F' → rfC M bb sb it → rfN N → IvB M N bb nA nB → IvP M N → cst M i (K * P) m (zI N 0 28) (zI N 0 29) → btw i 0 2200 → zI N 0 48 = a → zI N 0 49 = b → zI N 0 50 = c → btw c 0 (3400 * (K * P : Nat)) → ∃ (M1 N1 : zMem) (a1 b1 c1 : Int32), zlX11_offWhileFollowing_24 shC 0 (nI P) m p3 F a b c (nI K) M = (if p3 = 0 then some (a1, M1) else if p3 = 1 then some (b1, M1) else some (c1, M1)) ∧ zlX12_laysFollow_23 shM 0 (nI P) m F' i (nI (K * P)) (nI K) N = some N1 ∧ zI N1 0 48 = a1 ∧ zI N1 0 49 = b1 ∧ zI N1 0 50 = c1 ∧ btw c1 0 30000000 ∧ only 182 M M1 ∧ onlyF N N1 := by
  intro r
  induction r with
  | zero =>
    intro K F F' M N i a b c h1 h2 h3 hC hN h6 h7 hc hi ha hb' hc' hcb
    obtain ⟨F, rfl⟩ : ∃ x, F = x + 1 := ⟨F - 1, by omega⟩
    obtain ⟨F', rfl⟩ : ∃ x, F' = x + 1 := ⟨F' - 1, by omega⟩
    obtain rfl : K = 129 := by omega
    refine ⟨M, N, a, b, c, ?_, ?_, ha, hb', hc', hcb.w (by omega) (by omega), only.rf _ _, onlyF.rf _⟩
    · simp only [zlX11_offWhileFollowing_24]
      unfold zbX11_offWhileFollowing_24
      rw [if_pos (show (128 : Int32) < nI 129 from nI_lt (a := 128) (b := 129) (by omega) (by omega))]
    · simp only [zlX12_laysFollow_23]
      unfold zbX12_laysFollow_23
      rw [if_pos (show (128 : Int32) < nI 129 from nI_lt (a := 128) (b := 129) (by omega) (by omega))]
  | succ r ih =>
    intro K F F' M N i a b c h1 h2 h3 hC hN h6 h7 hc hi ha hb' hc' hcb
    obtain ⟨F, rfl⟩ : ∃ x, F = x + 1 := ⟨F - 1, by omega⟩
    obtain ⟨F', rfl⟩ : ∃ x, F' = x + 1 := ⟨F' - 1, by omega⟩
    have hcl : zlX11_offWhileFollowing_24 shC 0 (nI P) m p3 (F + 1) a b c (nI K) M = zbX11_offWhileFollowing_24 shC 0 (nI P) m p3 (zlX11_offWhileFollowing_24 shC 0 (nI P) m p3 F) a b c (nI K) M := rfl
    have hml : zlX12_laysFollow_23 shM 0 (nI P) m (F' + 1) i (nI (K * P)) (nI K) N = zbX12_laysFollow_23 shM 0 (nI P) m (zlX12_laysFollow_23 shM 0 (nI P) m F') i (nI (K * P)) (nI K) N := rfl
    have h33 : zR N 0 33 = 12 := by simp only [hN.o]
    have h18 : zR N 0 18 = 8 := by simp only [hN.o]
    have hKP : (K + 1) * P = K * P + P := by rw [Nat.add_mul, Nat.one_mul]
    have hKP2 : K * P ≤ 128 * 50 := Nat.mul_le_mul (by omega) hP
    have main : ∀ s : Int32, ∃ (M1 N1 : zMem) (a1 b1 c1 : Int32), zlX11_offWhileFollowing_72 shC 0 (nI P) m p3 (zlX11_offWhileFollowing_24 shC 0 (nI P) m p3 F) zF a b c (nI K) (fW (fRow N) s.toInt) 0 M = (if p3 = 0 then some (a1, M1) else if p3 = 1 then some (b1, M1) else some (c1, M1)) ∧ zlX12_laysFollow_59 shM 0 (nI P) m (zlX12_laysFollow_23 shM 0 (nI P) m F') zF i (nI (K * P)) (nI K) (fW (fRow N) s.toInt) 0 N = some N1 ∧ zI N1 0 48 = a1 ∧ zI N1 0 49 = b1 ∧ zI N1 0 50 = c1 ∧ btw c1 0 30000000 ∧ only 182 M M1 ∧ onlyF N N1 := by
      intro s
      have h6' := h6
      obtain ⟨-, -, -, -, -, -, -, b8, b9, b10, b11, -⟩ := h6'
      obtain ⟨M1, N1, i1, a1, b1, c1, s1, s2, s3, s4, s5, s6, s7, s8, s9, s10⟩ := follow_in (p3 := p3) hP b9 b11 (fW_b (fRow_b h6 h7) (by omega) s.toInt) (zlX11_offWhileFollowing_24 shC 0 (nI P) m p3 F) (zlX12_laysFollow_23 shM 0 (nI P) m F') (nI K) P 0 (K * P) zF zF M N i a b c (by omega) (by omega) (by unfold zF; omega) (by unfold zF; omega) (by simp only [hC.o]) hc hi rfl rfl ha hb' hc' hcb
      rw [← hKP] at s2 s3 s8
      have e28 : zI N1 0 28 = zI N 0 28 := s10.2 0 28 (by omega)
      have e29 : zI N1 0 29 = zI N 0 29 := s10.2 0 29 (by omega)
      obtain ⟨M2, N2, a2, b2, c2, t1, t2, t3, t4, t5, t6, t7, t8⟩ := ih (K + 1) F F' M1 N1 i1 a1 b1 c1 (by omega) (by omega) (by omega) (hC.sm s9.1) (hN.sm s10.1) (h6.o hb s9 s10.N (by omega)) (h7.o s9 s10.N (by omega)) (by rw [e28, e29]; exact s3) s4 s5 s6 s7 s8
      rw [nI_1] at s1 s2
      exact ⟨M2, N2, a2, b2, c2, s1.trans t1, s2.trans t2, t3, t4, t5, t6, s9.tr t7, s10.tr t8⟩
    rw [hcl, hml]
    unfold zbX11_offWhileFollowing_24 zbX12_laysFollow_23 zjX11_offWhileFollowing_50 zjX12_laysFollow_50
    rw [if_neg (show ¬ (128 : Int32) < nI K from nI_nlt (a := 128) (by omega) (by omega)), if_neg (show ¬ (128 : Int32) < nI K from nI_nlt (a := 128) (by omega) (by omega))]
    simp only [hC.o, hC.b hb]
    rw [waveC hb h6, waveC hb h6, currentOf_1 h33 h18, currentOf_1 h33 h18, rob, rob, rob, rob]
    by_cases g : (64 : Int32) < nI K
    · rw [if_pos g, if_pos g]; exact main _
    · rw [if_neg g, if_neg g]; exact main _
theorem follow_eq {bb sb it nA nB : Nat} {M N : zMem} (hb : bb = 1 ∨ bb = 13) (hC : rfC M bb sb it) (hN : rfN N) (h6 : IvB M N bb nA nB) (h7 : IvP M N) {m p3 : Int32} {P : Nat} (hP : P ≤ 50) : ∃ (M1 N1 : zMem) (a1 b1 c1 : Int32), zX11_offWhileFollowing shC 0 (nI P) m p3 M = (if p3 = 0 then some (a1, M1) else if p3 = 1 then some (b1, M1) else some (c1, M1)) ∧ zX12_laysFollow shM 0 (nI P) m N = some N1 ∧ zI N1 0 48 = a1 ∧ zI N1 0 49 = b1 ∧ zI N1 0 50 = c1 ∧ btw c1 0 30000000 ∧ only 182 M M1 ∧ onlyF N N1 := by
  obtain ⟨M1, s1, s2, s3⟩ := start_eq (M := M) (bb := bb) (by omega) m
  have o1 : onlyF N (zpI (zpI (zpI N 0 48 0) 0 49 0) 0 50 0) := (((onlyF.rf N).p (by omega) _).p (by omega) _).p (by omega) _
  have h6' := h6
  obtain ⟨-, -, -, -, -, -, -, b8, b9, b10, b11, -⟩ := h6'
  rw [b8, b10] at s2
  obtain ⟨M2, N2, a2, b2, c2, t1, t2, t3, t4, t5, t6, t7, t8⟩ := follow_out (p3 := p3) (m := m) (it := it) (sb := sb) hb hP 129 0 zF zF M1 (zpI (zpI (zpI N 0 48 0) 0 49 0) 0 50 0) 0 0 0 0 (by omega) (by unfold zF; omega) (by unfold zF; omega) (hC.sm s3.1) (hN.sm o1.1) (h6.o hb s3 o1.N (by omega)) (h7.o s3 o1.N (by omega)) (by rw [Nat.zero_mul]; exact s2) ⟨by decide, by decide⟩ rfl rfl rfl (by rw [Nat.zero_mul]; exact ⟨by decide, by decide⟩)
  rw [Nat.zero_mul] at t2
  refine ⟨M2, N2, a2, b2, c2, ?_, ?_, t3, t4, t5, t6, s3.tr t7, o1.tr t8⟩
  · unfold zX11_offWhileFollowing
    simp only [hC.o]
    rw [s1, rob]
    exact t1
  · unfold zX12_laysFollow
    simp only [rbd]
    exact t2
theorem B_follows_ok : B_follows Inv := by
  intro n M N v1 v2 v3 hn hI
  have hU := Inv_up n M N hI
  have hI' := hI
  obtain ⟨bb, sb, it, nA, nB, h1, h2, h3, h4, h5, h6, h7, h8, h9⟩ := hI
  have hb : bb = 1 ∨ bb = 13 := by omega
  unfold zX11_follows zX12_follows zjX11_follows_26 zjX12_follows_36 zjX12_follows_71
  rw [within_eq, rob, isMode_eq, rob, within_eq, rob, isIn_l v1 1 50 _ _ rfl rfl, rob, isIn_l v2 0 8 _ _ rfl rfl, rob, isIn_l v3 0 2 _ _ rfl rfl, rob]
  simp only [bI_0]
  by_cases c1 : (1 : Int32) ≤ v1 ∧ v1 ≤ 50
  · rw [if_neg (nn c1), if_neg (nn c1)]
    by_cases c2 : (0 : Int32) ≤ v2 ∧ v2 ≤ 8
    · rw [if_neg (nn c2), if_neg (nn c2)]
      by_cases c3 : (0 : Int32) ≤ v3 ∧ v3 ≤ 2
      · rw [if_neg (nn c3), if_neg (nn c3)]
        have g1 : 1 ≤ v1.toInt := r_le.mp c1.1
        have g2 : v1.toInt ≤ 50 := r_le.mp c1.2
        obtain ⟨P, hP, rfl⟩ := ax_ex (nA := 51) (x := v1) ⟨by omega, by omega⟩
        obtain ⟨M1, N1, a, b, c, t1, t2, t3, t4, t5, t6, t7, t8⟩ := follow_eq (m := v2) (p3 := v3) hb h2 h3 h6 h7 (show P ≤ 50 by omega)
        rw [t1, t2, rob, t3, t4, t5]
        by_cases d0 : v3 = 0
        · rw [if_pos d0, if_pos d0, rob2]
          exact ⟨a, M1, N1, rfl, rfl, Inv_same hI' (t7.C (by omega)) t8.N⟩
        · rw [if_neg d0, if_neg d0]
          by_cases d1 : v3 = 1
          · rw [if_pos d1, if_pos d1, rob2]
            exact ⟨b, M1, N1, rfl, rfl, Inv_same hI' (t7.C (by omega)) t8.N⟩
          · rw [if_neg d1, if_neg d1, rob2]
            exact ⟨c, M1, N1, rfl, rfl, Inv_same hI' (t7.C (by omega)) t8.N⟩
      · exact ⟨_, M, N, if_pos c3, if_pos c3, hU⟩
    · exact ⟨_, M, N, if_pos c2, if_pos c2, hU⟩
  · exact ⟨_, M, N, if_pos c1, if_pos c1, hU⟩
theorem mode_loop {bb sb it nA nB : Nat} (hb : bb = 1 ∨ bb = 13) {P : Nat} (hP : P ≤ 50) : ∀ (r m F F' : Nat) (M N : zMem) (best x3 y3 : Int32), m + r = 9 → r < F → r < F' → rfC M bb sb it → rfN N → IvB M N bb nA nB → IvP M N → ((x3 = 2147483647 ∧ y3 = -1) ∨ (x3 = y3 ∧ btw y3 0 30000000)) → ∃ (v : Int32) (M1 N1 : zMem), zlX11_mode_20 shC 0 (nI P) F best x3 (nI m) M = some (v, M1) ∧ zlX12_mode_21 shM 0 (nI P) F' best y3 (nI m) N = some (v, N1) ∧ only 182 M M1 ∧ onlyF N N1 := by
  intro r
  induction r with
  | zero =>
    intro m F F' M N best x3 y3 h1 h2 h3 hC hN h6 h7 hx
    obtain ⟨F, rfl⟩ : ∃ x, F = x + 1 := ⟨F - 1, by omega⟩
    obtain ⟨F', rfl⟩ : ∃ x, F' = x + 1 := ⟨F' - 1, by omega⟩
    obtain rfl : m = 9 := by omega
    exact ⟨best, M, N, by
      simp only [zlX11_mode_20]
      unfold zbX11_mode_20
      rw [if_pos (show (8 : Int32) < nI 9 from nI_lt (a := 8) (b := 9) (by omega) (by omega))], by
      simp only [zlX12_mode_21]
      unfold zbX12_mode_21
      rw [if_pos (show (8 : Int32) < nI 9 from nI_lt (a := 8) (b := 9) (by omega) (by omega))], only.rf _ _, onlyF.rf _⟩
  | succ r ih =>
    intro m F F' M N best x3 y3 h1 h2 h3 hC hN h6 h7 hx
    obtain ⟨F, rfl⟩ : ∃ x, F = x + 1 := ⟨F - 1, by omega⟩
    obtain ⟨F', rfl⟩ : ∃ x, F' = x + 1 := ⟨F' - 1, by omega⟩
    have hcl : zlX11_mode_20 shC 0 (nI P) (F + 1) best x3 (nI m) M = zbX11_mode_20 shC 0 (nI P) (zlX11_mode_20 shC 0 (nI P) F) best x3 (nI m) M := rfl
    have hml : zlX12_mode_21 shM 0 (nI P) (F' + 1) best y3 (nI m) N = zbX12_mode_21 shM 0 (nI P) (zlX12_mode_21 shM 0 (nI P) F') best y3 (nI m) N := rfl
    obtain ⟨M1, N1, a, b, c, t1, t2, t3, t4, t5, t6, t7, t8⟩ := follow_eq (m := nI m) (p3 := 2) hb hC hN h6 h7 hP
    rw [if_neg (by decide), if_neg (by decide)] at t1
    rw [hcl, hml]
    unfold zbX11_mode_20 zbX12_mode_21 zjX11_mode_49 zjX12_mode_51 zjX12_mode_59
    rw [if_neg (show ¬ (8 : Int32) < nI m from nI_nlt (a := 8) (by omega) (by omega)), if_neg (show ¬ (8 : Int32) < nI m from nI_nlt (a := 8) (by omega) (by omega)), t1, rob2, t2, rob, t5, nI_1]
    have hC1 := hC.sm t7.1
    have hN1 := hN.sm t8.1
    have h61 := h6.o hb t7 t8.N (by omega)
    have h71 := h7.o t7 t8.N (by omega)
    have t6' := t6
    unfold btw at t6'
    rcases hx with ⟨rfl, rfl⟩ | ⟨rfl, hy⟩
    · obtain ⟨v, M2, N2, u1, u2, u3, u4⟩ := ih (m + 1) F F' M1 N1 (nI m) c c (by omega) (by omega) (by omega) hC1 hN1 h61 h71 (Or.inr ⟨rfl, t6⟩)
      rw [if_neg (show ¬ (2147483647 : Int32) ≤ c from fun g => by have : (2147483647 : Int) ≤ c.toInt := r_le.mp g; omega), if_pos rfl]
      exact ⟨v, M2, N2, u1, u2, t7.tr u3, t8.tr u4⟩
    · unfold btw at hy
      rw [if_neg (ne_of _ rfl (show ¬ x3.toInt = -1 by omega))]
      by_cases g : c < x3
      · obtain ⟨v, M2, N2, u1, u2, u3, u4⟩ := ih (m + 1) F F' M1 N1 (nI m) c c (by omega) (by omega) (by omega) hC1 hN1 h61 h71 (Or.inr ⟨rfl, t6⟩)
        rw [if_neg (fun k => by have := r_le.mp k; have := r_lt.mp g; omega), if_pos g]
        exact ⟨v, M2, N2, u1, u2, t7.tr u3, t8.tr u4⟩
      · obtain ⟨v, M2, N2, u1, u2, u3, u4⟩ := ih (m + 1) F F' M1 N1 best x3 x3 (by omega) (by omega) (by omega) hC1 hN1 h61 h71 (Or.inr ⟨rfl, hy⟩)
        rw [if_pos (r_le.mpr (by have := n_lt g; omega)), if_neg g]
        exact ⟨v, M2, N2, u1, u2, t7.tr u3, t8.tr u4⟩
theorem B_mode_ok : B_mode Inv := by
  intro n M N v1 hn hI
  have hU := Inv_up n M N hI
  have hI' := hI
  obtain ⟨bb, sb, it, nA, nB, h1, h2, h3, h4, h5, h6, h7, h8, h9⟩ := hI
  have hb : bb = 1 ∨ bb = 13 := by omega
  unfold zX11_mode zX12_mode
  rw [within_eq, rob, isIn_l v1 1 50 _ _ rfl rfl, rob]
  simp only [bI_0]
  by_cases c1 : (1 : Int32) ≤ v1 ∧ v1 ≤ 50
  · rw [if_neg (nn c1), if_neg (nn c1)]
    have g1 : 1 ≤ v1.toInt := r_le.mp c1.1
    have g2 : v1.toInt ≤ 50 := r_le.mp c1.2
    obtain ⟨P, hP, rfl⟩ := ax_ex (nA := 51) (x := v1) ⟨by omega, by omega⟩
    obtain ⟨v, M1, N1, t1, t2, t7, t8⟩ := mode_loop (it := it) (sb := sb) hb (show P ≤ 50 by omega) 9 0 zF zF M N 0 2147483647 (-1) (by omega) (by unfold zF; omega) (by unfold zF; omega) h2 h3 h6 h7 (Or.inl ⟨rfl, rfl⟩)
    exact ⟨v, M1, N1, t1, t2, Inv_same hI' (t7.C (by omega)) t8.N⟩
  · exact ⟨_, M, N, if_pos c1, if_pos c1, hU⟩
