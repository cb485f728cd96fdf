/-! Phase B: about, now, end -/
theorem sw13 (x : Int32) : x = 0 ∨ x = 1 ∨ x = 2 ∨ x = 3 ∨ x = 4 ∨ x = 5 ∨ x = 6 ∨ x = 7 ∨ x = 8 ∨ x = 9 ∨ x = 10 ∨ x = 11 ∨ x = 12 ∨ (¬ x = 0 ∧ ¬ x = 1 ∧ ¬ x = 2 ∧ ¬ x = 3 ∧ ¬ x = 4 ∧ ¬ x = 5 ∧ ¬ x = 6 ∧ ¬ x = 7 ∧ ¬ x = 8 ∧ ¬ x = 9 ∧ ¬ x = 10 ∧ ¬ x = 11 ∧ ¬ x = 12) := by
  by_cases g0 : x = 0
  · exact Or.inl g0
  by_cases g1 : x = 1
  · exact Or.inr (Or.inl g1)
  by_cases g2 : x = 2
  · exact Or.inr (Or.inr (Or.inl g2))
  by_cases g3 : x = 3
  · exact Or.inr (Or.inr (Or.inr (Or.inl g3)))
  by_cases g4 : x = 4
  · exact Or.inr (Or.inr (Or.inr (Or.inr (Or.inl g4))))
  by_cases g5 : x = 5
  · exact Or.inr (Or.inr (Or.inr (Or.inr (Or.inr (Or.inl g5)))))
  by_cases g6 : x = 6
  · exact Or.inr (Or.inr (Or.inr (Or.inr (Or.inr (Or.inr (Or.inl g6))))))
  by_cases g7 : x = 7
  · exact Or.inr (Or.inr (Or.inr (Or.inr (Or.inr (Or.inr (Or.inr (Or.inl g7)))))))
  by_cases g8 : x = 8
  · exact Or.inr (Or.inr (Or.inr (Or.inr (Or.inr (Or.inr (Or.inr (Or.inr (Or.inl g8))))))))
  by_cases g9 : x = 9
  · exact Or.inr (Or.inr (Or.inr (Or.inr (Or.inr (Or.inr (Or.inr (Or.inr (Or.inr (Or.inl g9)))))))))
  by_cases g10 : x = 10
  · exact Or.inr (Or.inr (Or.inr (Or.inr (Or.inr (Or.inr (Or.inr (Or.inr (Or.inr (Or.inr (Or.inl g10))))))))))
  by_cases g11 : x = 11
  · exact Or.inr (Or.inr (Or.inr (Or.inr (Or.inr (Or.inr (Or.inr (Or.inr (Or.inr (Or.inr (Or.inr (Or.inl g11)))))))))))
  by_cases g12 : x = 12
  · exact Or.inr (Or.inr (Or.inr (Or.inr (Or.inr (Or.inr (Or.inr (Or.inr (Or.inr (Or.inr (Or.inr (Or.inr (Or.inl g12))))))))))))
  exact Or.inr (Or.inr (Or.inr (Or.inr (Or.inr (Or.inr (Or.inr (Or.inr (Or.inr (Or.inr (Or.inr (Or.inr (Or.inr (⟨g0, g1, g2, g3, g4, g5, g6, g7, g8, g9, g10, g11, g12⟩)))))))))))))
theorem allTicks_eq {N : zMem} (h : zR N 0 0 = 1) : zX12_allTicks shM 0 N = some (if zI N 1 17 = 1 then zI N 1 19 + zI N 1 18 else 2 * zI N 1 12 + zI N 1 14) := by
  unfold zX12_allTicks zjX12_allTicks_46
  simp only [h, lnM, clL]
  rw [rgd (by decide), rgd (by decide), rgd (by decide), rgd (by decide), rgd (by decide)]
  by_cases g : zI N 1 17 = 1
  · rw [if_pos g, if_pos g]
  · rw [if_neg g, if_neg g]
/-- the ticks that are left -/
theorem rSt.left {V : Nat → Nat → Int32} {f : Nat → Int32} {nA : Nat} {T : Int} (h : rSt V f nA T) : V 0 10 = (if f 1 = 1 then (if f 17 = 1 then f 19 + f 18 else 2 * f 12 + f 14) - f 15 else 0) := by
  obtain ⟨-, -, -, -, -, -, -, -, -, -, -, h⟩ := h
  rcases h with ⟨h0, h1⟩ | ⟨h0, h1⟩
  · rw [if_neg (by rw [h0]; decide)]; exact h1
  · rw [if_pos h0]
    obtain ⟨-, -, -, -, -, -, -, -, -, -, -, -, L, -, -, -, hL⟩ := h1
    rcases hL with ⟨e17, e12, -, E, rest, D, -, -, -, e14, e15, -, -, e10, -⟩ | ⟨e17, e18, -, H, D, e15, e19, -, -, -, -, e10, -⟩
    · rw [if_neg (by rw [e17]; decide), e12, e14, e15, e10, show (2 : Int32) = iI 2 from rfl, iI_mul, iI_add, iI_sub]
    · rw [if_pos e17, e18, e19, e15, e10, iI_add, iI_sub]
theorem B_about_ok : B_about Inv := by
  intro n M N v1 hn hI
  have hU := Inv_up n M N hI
  obtain ⟨bb, sb, it, nA, nB, h1, h2, h3, h4, h5, h6, h7, h8, h9⟩ := hI
  have hl := h8.left
  obtain ⟨s5, -, s6, s7, s4, -, -, -, -, s8, -, s1⟩ := h8
  obtain ⟨kept, next, -, -, k2, k46, -⟩ := h9
  obtain ⟨-, -, b6, b22, b7, b24, b8, b9, -, b10, -⟩ := h6
  rw [vSt_at rfl] at s5 s6 s7 s4 s8 hl
  have s1' : zI N 1 1 = 0 ∨ zI N 1 1 = 1 := by
    rcases s1 with g | g
    · exact Or.inl g.1
    · exact Or.inr g.1
  have e0 : zR N 0 0 = 1 := h3.o.1
  unfold zX11_about zX12_about zjX11_about_131 zjX12_about_133
  rw [allTicks_eq e0, rob]
  simp only [h2.o, e0, lnM, clL]
  simp only [show (28 : Nat) + 0 = 28 from rfl] at s5 s6 s7 s4 s8 hl
  simp only [rgd (show zin (0 : Int32) 194 = true by decide), rgd (show zin (1 : Int32) 194 = true by decide), rgd (show zin (15 : Int32) 194 = true by decide), rgd (show zin (23 : Int32) 194 = true by decide), rgd (show zin (21 : Int32) 194 = true by decide), rgd (show zin (22 : Int32) 194 = true by decide), b6, b22, b7, b24, b8, b9, b10, s5, s6, s7, s4, s8, k2, k46, hl, h4.1]
  rcases sw13 v1 with rfl | rfl | rfl | rfl | rfl | rfl | rfl | rfl | rfl | rfl | rfl | rfl | rfl | ⟨g0, g1, g2, g3, g4, g5, g6, g7, g8, g9, g10, g11, g12⟩
  · exact ⟨_, M, N, by rw [if_pos rfl], by rw [if_pos rfl], hU⟩
  · exact ⟨_, M, N, by rw [if_neg (by decide), if_pos rfl], by rw [if_neg (by decide), if_pos rfl], hU⟩
  · exact ⟨_, M, N, by rw [if_neg (by decide), if_neg (by decide), if_pos rfl], by rw [if_neg (by decide), if_neg (by decide), if_pos rfl], hU⟩
  · exact ⟨_, M, N, by rw [if_neg (by decide), if_neg (by decide), if_neg (by decide), if_pos rfl], by rw [if_neg (by decide), if_neg (by decide), if_neg (by decide), if_pos rfl], hU⟩
  · exact ⟨_, M, N, by rw [if_neg (by decide), if_neg (by decide), if_neg (by decide), if_neg (by decide), if_pos rfl], by rw [if_neg (by decide), if_neg (by decide), if_neg (by decide), if_neg (by decide), if_pos rfl], hU⟩
  · exact ⟨_, M, N, by rw [if_neg (by decide), if_neg (by decide), if_neg (by decide), if_neg (by decide), if_neg (by decide), if_pos rfl], by rw [if_neg (by decide), if_neg (by decide), if_neg (by decide), if_neg (by decide), if_neg (by decide), if_pos rfl], hU⟩
  · refine ⟨zI N 1 1, M, N, ?_, by rw [if_neg (by decide), if_neg (by decide), if_neg (by decide), if_neg (by decide), if_neg (by decide), if_neg (by decide), if_pos rfl], hU⟩
    rw [if_neg (by decide), if_neg (by decide), if_neg (by decide), if_neg (by decide), if_neg (by decide), if_neg (by decide), if_pos rfl]
    rcases s1' with g | g
    · rw [if_pos g, g]
    · rw [if_neg (by rw [g]; decide), g]
  · refine ⟨_, M, N, by rw [if_neg (by decide), if_neg (by decide), if_neg (by decide), if_neg (by decide), if_neg (by decide), if_neg (by decide), if_neg (by decide), if_pos rfl], ?_, hU⟩
    rw [if_neg (by decide), if_neg (by decide), if_neg (by decide), if_neg (by decide), if_neg (by decide), if_neg (by decide), if_neg (by decide), if_pos rfl]
    by_cases g : zI N 1 1 = 1
    · rw [if_pos g, if_pos g]
    · rw [if_neg g, if_neg g]
  · exact ⟨_, M, N, by rw [if_neg (by decide), if_neg (by decide), if_neg (by decide), if_neg (by decide), if_neg (by decide), if_neg (by decide), if_neg (by decide), if_neg (by decide), if_pos rfl], by rw [if_neg (by decide), if_neg (by decide), if_neg (by decide), if_neg (by decide), if_neg (by decide), if_neg (by decide), if_neg (by decide), if_neg (by decide), if_pos rfl], hU⟩
  · exact ⟨_, M, N, by rw [if_neg (by decide), if_neg (by decide), if_neg (by decide), if_neg (by decide), if_neg (by decide), if_neg (by decide), if_neg (by decide), if_neg (by decide), if_neg (by decide), if_pos rfl], by rw [if_neg (by decide), if_neg (by decide), if_neg (by decide), if_neg (by decide), if_neg (by decide), if_neg (by decide), if_neg (by decide), if_neg (by decide), if_neg (by decide), if_pos rfl], hU⟩
  · exact ⟨_, M, N, by rw [if_neg (by decide), if_neg (by decide), if_neg (by decide), if_neg (by decide), if_neg (by decide), if_neg (by decide), if_neg (by decide), if_neg (by decide), if_neg (by decide), if_neg (by decide), if_pos rfl], by rw [if_neg (by decide), if_neg (by decide), if_neg (by decide), if_neg (by decide), if_neg (by decide), if_neg (by decide), if_neg (by decide), if_neg (by decide), if_neg (by decide), if_neg (by decide), if_pos rfl], hU⟩
  · exact ⟨_, M, N, by rw [if_neg (by decide), if_neg (by decide), if_neg (by decide), if_neg (by decide), if_neg (by decide), if_neg (by decide), if_neg (by decide), if_neg (by decide), if_neg (by decide), if_neg (by decide), if_neg (by decide), if_pos rfl], by rw [if_neg (by decide), if_neg (by decide), if_neg (by decide), if_neg (by decide), if_neg (by decide), if_neg (by decide), if_neg (by decide), if_neg (by decide), if_neg (by decide), if_neg (by decide), if_neg (by decide), if_pos rfl], hU⟩
  · exact ⟨_, M, N, by rw [if_neg (by decide), if_neg (by decide), if_neg (by decide), if_neg (by decide), if_neg (by decide), if_neg (by decide), if_neg (by decide), if_neg (by decide), if_neg (by decide), if_neg (by decide), if_neg (by decide), if_neg (by decide), if_pos rfl], by rw [if_neg (by decide), if_neg (by decide), if_neg (by decide), if_neg (by decide), if_neg (by decide), if_neg (by decide), if_neg (by decide), if_neg (by decide), if_neg (by decide), if_neg (by decide), if_neg (by decide), if_neg (by decide), if_pos rfl], hU⟩
  · exact ⟨_, M, N, by rw [if_neg g0, if_neg g1, if_neg g2, if_neg g3, if_neg g4, if_neg g5, if_neg g6, if_neg g7, if_neg g8, if_neg g9, if_neg g10, if_neg g11, if_neg g12], by rw [if_neg g0, if_neg g1, if_neg g2, if_neg g3, if_neg g4, if_neg g5, if_neg g6, if_neg g7, if_neg g8, if_neg g9, if_neg g10, if_neg g11, if_neg g12], hU⟩
theorem B_now_ok : B_now Inv := by
  intro n M N v1 v2 hn hI
  have hU := Inv_up n M N hI
  obtain ⟨bb, sb, it, nA, nB, h1, h2, h3, h4, h5, h6, h7, h8, h9⟩ := hI
  have hb : bb = 1 ∨ bb = 13 := by omega
  have hN := h3.o
  have h11 : zR M 0 11 = bb := by simp only [h2.o]
  unfold zX11_now zX12_now zX7_angle
  rw [axisC h11 h6.2.2.1 h6.1, axisM h6.2.2.2.1 h6.1]
  simp only [rob, bI_0]
  by_cases h : 0 ≤ v1.toInt ∧ v1.toInt < nA
  · obtain ⟨a, ha, rfl⟩ := ax_ex h
    have ha3 : a < 3 := by have := h6.1; omega
    have hro := h8.2.2.2.2.2.2.2.2.1 a ha
    have r0 := hro.1 0 (by omega)
    have r1 := hro.1 1 (by omega)
    have r2 := hro.1 2 (by omega)
    have r5 := hro.1 5 (by omega)
    rw [vSt_ro ha3 (by omega)] at r0 r1 r2 r5
    rw [if_neg (nn h), if_neg (nn h)]
    simp only [h2.o, h2.s st28, lnS st28, nI_clamp (show a < 2 ^ 31 by omega), h2.ro st28 ha3, rgd (in_a ha3 (show 3 < 2147483648 by omega)), axisAt_0 hN.1 ha3, axisAt_1 hN.1 ha3, axisAt_2 hN.1 ha3, axisAt_5 hN.1 ha3, angleM hN.1 ha3, rob, floorC4096, floorM4096]
    rw [r0, r1, r2, r5, Nat.add_zero]
    rcases sw8 v2 with rfl | rfl | rfl | rfl | rfl | rfl | rfl | rfl | g
    · exact ⟨_, M, N, if_pos rfl, if_pos rfl, hU⟩
    · exact ⟨_, M, N, by rw [if_neg (by decide), if_pos rfl], by rw [if_neg (by decide), if_pos rfl], hU⟩
    · exact ⟨_, M, N, by rw [if_neg (by decide), if_neg (by decide), if_pos rfl], by rw [if_neg (by decide), if_neg (by decide), if_pos rfl], hU⟩
    · exact ⟨_, M, N, by rw [if_neg (by decide), if_neg (by decide), if_neg (by decide), if_pos rfl], by rw [if_neg (by decide), if_neg (by decide), if_neg (by decide), if_pos rfl], hU⟩
    · exact ⟨_, M, N, by rw [if_neg (by decide), if_neg (by decide), if_neg (by decide), if_neg (by decide), if_pos rfl], by rw [if_neg (by decide), if_neg (by decide), if_neg (by decide), if_neg (by decide), if_pos rfl], hU⟩
    · exact ⟨_, M, N, by rw [if_neg (by decide), if_neg (by decide), if_neg (by decide), if_neg (by decide), if_neg (by decide), if_pos rfl], by rw [if_neg (by decide), if_neg (by decide), if_neg (by decide), if_neg (by decide), if_neg (by decide), if_pos rfl], hU⟩
    · exact ⟨_, M, N, by rw [if_neg (by decide), if_neg (by decide), if_neg (by decide), if_neg (by decide), if_neg (by decide), if_neg (by decide)], by rw [if_neg (by decide), if_neg (by decide), if_neg (by decide), if_neg (by decide), if_neg (by decide), if_neg (by decide)], hU⟩
    · exact ⟨_, M, N, by rw [if_neg (by decide), if_neg (by decide), if_neg (by decide), if_neg (by decide), if_neg (by decide), if_neg (by decide)], by rw [if_neg (by decide), if_neg (by decide), if_neg (by decide), if_neg (by decide), if_neg (by decide), if_neg (by decide)], hU⟩
    · exact ⟨_, M, N, by rw [if_neg (ne_of _ rfl (show ¬ v2.toInt = 0 by omega)), if_neg (ne_of _ rfl (show ¬ v2.toInt = 1 by omega)), if_neg (ne_of _ rfl (show ¬ v2.toInt = 2 by omega)), if_neg (ne_of _ rfl (show ¬ v2.toInt = 3 by omega)), if_neg (ne_of _ rfl (show ¬ v2.toInt = 4 by omega)), if_neg (ne_of _ rfl (show ¬ v2.toInt = 5 by omega))], by rw [if_neg (ne_of _ rfl (show ¬ v2.toInt = 0 by omega)), if_neg (ne_of _ rfl (show ¬ v2.toInt = 1 by omega)), if_neg (ne_of _ rfl (show ¬ v2.toInt = 2 by omega)), if_neg (ne_of _ rfl (show ¬ v2.toInt = 3 by omega)), if_neg (ne_of _ rfl (show ¬ v2.toInt = 4 by omega)), if_neg (ne_of _ rfl (show ¬ v2.toInt = 5 by omega))], hU⟩
  · exact ⟨_, M, N, if_pos h, if_pos h, hU⟩
theorem B_end_ok : B_end Inv := by
  intro n M N v1 hn hI
  have hU := Inv_up n M N hI
  have e0 : (0 : Int32).toInt = 0 := rfl
  have f0 : (0 : Int64).toInt = 0 := rfl
  unfold zX11_end zX12_end zjX11_end_15
  have hU' := hU
  obtain ⟨bb, sb, it, nA, nB, h1, h2, h3, h4, h5, h6, h7, h8, h9⟩ := hU
  rw [isIn_eq, rob, Int32.toInt_toInt64, Int32.toInt_toInt64, f0]
  simp only [h2.o, bI_0, rbd, h4.1, r_lt, r_le, e0]
  by_cases c1 : v1.toInt < 0
  · exact ⟨_, M, N, if_pos c1, if_pos (by omega), hU'⟩
  · rw [if_neg c1]
    by_cases c2 : v1.toInt ≤ (zI N 0 2).toInt
    · rw [if_pos c2, if_neg (by omega)]
      refine ⟨_, _, _, rfl, rfl, bb, sb, it, nA, nB, h1, h2.sm rfl, h3.sm rfl, ?_, ⟨h5.1, h5.2.1, h5.2.2.1, h5.2.2.2.1, fun b hb => ?_⟩, h6.sm (fun k j g1 g2 => ?_) (fun k j g => ?_), h7.sm (fun k j g => ?_) (fun j => ?_), ?_, h9.sm (fun k j g1 g2 => ?_) (fun k j g => ?_)⟩
      · have hb := h4.2.1
        unfold btw at hb
        unfold IvT btw
        refine ⟨rfl, ⟨?_, ?_⟩, fun i hi => ?_⟩
        · show 0 ≤ v1.toInt
          omega
        · show v1.toInt ≤ 900
          omega
        · have hi : (i : Int) < v1.toInt := hi
          exact h4.2.2 i (by omega)
      · rw [rI_pI, if_neg (by unfold stB at hb; omega)]
        exact h5.2.2.2.2 b hb
      · rw [rI_pI, if_neg (by omega)]
      · rw [rI_pI, if_neg (by omega)]
      · rw [rI_pI, if_neg (by omega)]
      · rw [rI_pI, if_neg (by omega)]
      · rw [vSt_same (M := M) (fun k j g1 g2 g3 => by rw [rI_pI, if_neg (by omega)])]
        exact h8
      · rw [rI_pI, if_neg (by omega)]
      · rw [rI_pI, if_neg (by omega)]
    · exact ⟨_, M, N, if_neg c2, if_pos (by omega), hU'⟩
