/-! Phase B: go -/
theorem B_go_ok : B_go Inv := by
  intro n M N v1 v2 v3 hn hI
  have hU := Inv_up n M N hI
  have hI' := hI
  obtain ⟨bb, sb, it, nA, nB, h1, h2, h3, h4, h5, h6, h7, h8, h9⟩ := hI
  have hb : bb = 1 ∨ bb = 13 := by omega
  have hn3 : nA ≤ 3 := h6.1
  have hB : Bx M N bb sb it nA nB := ⟨hb, h2, h3, h6, h7⟩
  have e2 : zR M 0 2 = 28 := by simp only [h2.o]
  have n0 : zR N 0 0 = 1 := h3.o.1
  have s8 : zI M 28 8 = zI N 1 1 := by have := h8.2.2.2.2.2.2.2.2.2.1; rw [vSt_at rfl] at this; exact this
  have hl1 : zin (1 : Int32) (zlen shM 1) = true := by decide
  have hon := h8.2.2.2.2.2.2.2.2.2.2.2
  have hx8 := (rSt_x.mp h8)
  unfold zX11_go zX12_go zjX11_go_20 zjX12_go_20
  rw [e2, n0, rgd hl1, show (1 : Int32).toNatClampNeg = 1 from rfl, s8]
  rcases hon with ⟨h0, -⟩ | ⟨h0, -⟩
  · rw [if_pos h0, if_neg (show ¬ zI N 1 1 = 1 by rw [h0]; decide)]
    obtain ⟨r, M1, N1, d, t1, t2, t3, t4, t5, t6, t7⟩ := ask_eq hB h8 h5.2.2.1 v1 v2 v3
    rw [t1, rob2, t2, rob2]
    have hs1 : sameC M M1 := sameC_ask t3 t4 t5 h5.2.2.1
    rcases t7 with ⟨rfl, -, hok, hpl, hgo⟩ | rfl
    · have n10 : ¬ (1 : Int32) = 0 := by decide
      rw [if_neg n10, if_neg n10]
      have h2' := h2.sm t3
      have h3' := h3.sm t6.1
      have eV1 : vSt M1 28 = vSt M 28 := vSt_same (fun k j i1 i2 i3 => t4 k j (by omega) (by omega))
      have eN1 : zI N1 1 = zI N 1 := by funext j; exact t6.2 1 j (by omega) (by omega) (by omega)
      have h8' : rSt (vSt M1 28) (zI N1 1) nA (500 * n) := by rw [eV1, eN1]; exact h8
      have h9' : IvH M1 N1 nA (500 * n) := h9.sm (fun k j i1 i2 => t4 k j (by omega) (by omega)) (fun k j g => t6.2 k j (by omega) (by omega) (by omega))
      obtain ⟨M2, N2, u1, u2, u3, u4, u5, u6, u7, u8⟩ := keep_act h2' h3' hn3 h9' h8'
      have h2'' := h2'.sm u4
      have f4 : zR M1 0 4 = 52 := by simp only [h2'.o]
      have f2 : zR M1 0 2 = 28 := by simp only [h2'.o]
      have g2 : zR M2 0 2 = 28 := by simp only [h2''.o]
      have g9 : zR M2 0 9 = 183 := by simp only [h2''.o]
      have g11 : zR M2 0 11 = bb := by simp only [h2''.o]
      have eV2 : vSt M2 28 = vSt M 28 := by rw [← eV1]; exact vSt_same (fun k j i1 i2 i3 => u6 k j (by omega))
      have hB2 : Bx M2 N bb sb it nA nB := hB.sm (u4.trans t3) rfl (fun k j hk => by rw [u6 k j (by omega), t4 k j (by omega) (by omega)]) (fun _ _ _ => rfl)
      have hG1 : G0 M1 := ⟨by rw [hs1.2 178 0 (by omega)]; exact h5.2.2.1, by rw [hs1.2 180 0 (by omega)]; exact h5.2.2.2.1, fun b hb2 => by rw [hs1.2 (b + 6) 0 (by unfold stB at hb2; omega)]; exact h5.2.2.2.2 b hb2⟩
      have hG2 := u8 hG1
      obtain ⟨r', M3, N1', p1, p2, p3, p4, p5, p6, p7⟩ := begin_eq (tb := 183) (x := v1) (y := v2) (z := v3) hB2 st28 (Or.inl rfl) (fun a ha => by rw [u6 _ _ (by omega)]; exact hgo a (by omega)) hok (fun a ha => ⟨by rw [u6 _ _ (by omega), t4 _ _ (by omega) (by omega)]; exact (h8.at0 hn3 a ha).1, (h8.at0 hn3 a ha).2⟩) (hG2.2.2 28 st28)
      rw [hpl] at p2
      have hq := Option.some.inj p2
      have hr' : r' = 1 := (congrArg Prod.fst hq).symm
      have hN' : N1' = N1 := (congrArg Prod.snd hq).symm
      subst hr' hN'
      rcases p7 with ⟨g, -⟩ | ⟨-, k1, k2⟩
      · exact absurd g n10
      · obtain ⟨N3, w1, w2, w3, w4, w5, -⟩ := k2 N2 (u5.trans t6.1) (fun k j hk => u7 k j (by omega) (by omega)) (fun a ha => by rw [u7 1 _ (by omega) (by omega), eN1]) (by
          have hr0 : rRest (vSt M 28) (zI N 1) nA := hx8.2.2.rest
          refine hr0.cg hn3 (fun k j hk => ?_) (fun j j1 j2 => by rw [u7 1 _ (by omega) (by omega), eN1])
          unfold vSt
          by_cases hr : relS k j = true
          · rw [if_pos hr, if_pos hr, p6 _ _ (by omega) (by omega), u6 _ _ (by have := relS_c hr; omega), t4 _ _ (by have := relS_c hr; omega) (by have := relS_c hr; omega)]
          · rw [if_neg hr, if_neg hr])
        have i2 : zR M3 0 2 = 28 := by unfold zR; rw [p3]; exact g2
        have pt : zX12_planTicks shM 0 N3 = some (zI M3 28 10) := by
          rw [← k1]
          unfold zX12_planTicks
          rw [w3 0 36 (by omega), w3 0 44 (by omega), u7 0 36 (by omega) (by omega), u7 0 44 (by omega) (by omega)]
        rw [f4, f2, u1, rob, u2, rob, g2, g9, g11, p1, rob, w1, rob, pt, rob, i2]
        clear f4 f2 g2 g9 g11 i2 e2 n0 hl1
        refine ⟨_, M3, N3, rfl, rfl, Inv_of h1 h2 h3 h4 h5 h6 h7 (p3.trans (u4.trans t3)) w2 (fun k j hk => ?_) (fun k j hk => ?_) ?_ ?_ ?_⟩
        · rw [p6 k j (by omega) (by omega), u6 k j (by omega), t4 k j (by omega) (by omega)]
        · rw [w3 k j (by omega), u7 k j (by omega) (by omega), t6.2 k j (by omega) (by omega) (by omega)]
        · refine ⟨by rw [p6 178 0 (by omega) (by omega)]; exact hG2.1, by rw [p6 180 0 (by omega) (by omega)]; exact hG2.2.1, fun c hc => ?_⟩
          by_cases g : c = 28
          · subst g; exact p5
          · have hd := stB_d hc st28 g
            rw [p6 _ _ (by omega) (by omega)]; exact hG2.2.2 c hc
        · refine rSt_x.mpr ⟨?_, ?_, w5⟩
          · rw [vSt_at rfl, w4, u7 1 0 (by omega) (by omega), eN1]
            have := hx8.1
            rw [vSt_at rfl] at this
            rw [← this]
            show zI M3 28 5 = zI M 28 5
            rw [p6 28 5 (by omega) (by omega), u6 28 5 (by omega), t4 28 5 (by omega) (by omega)]
          · rw [w4, u7 1 0 (by omega) (by omega), eN1]
            exact hx8.2.1.w (by omega) (by omega)
        · exact (u3.w (by omega)).sm (fun k j i1 i2 => p6 k j (by omega) (by omega)) (fun k j g => w3 k j (by omega))
    · exact ⟨-1, M1, N1, rfl, rfl, Inv_same hI' hs1 t6.N⟩
  · exact ⟨-1, M, N, if_neg (show ¬ zI N 1 1 = 0 by rw [h0]; decide), if_pos h0, hU⟩
