theorem nw_0 : Cond.methodLinkNest RX1 65 yX11_isWithin RX11 ∈ lw_tbl := List.mem_append_right _ (List.mem_of_getElem? (i := 797) (by decide +kernel))
theorem nw_1 : Cond.methodLinkNest RX6 184 yX11_isWithin RX11 ∈ lw_tbl := List.mem_append_right _ (List.mem_of_getElem? (i := 632) (by decide +kernel))
theorem nw_2 : Cond.methodLinkNest RX1 45 yX0_init RX11 ∈ lw_tbl := List.mem_append_right _ (List.mem_of_getElem? (i := 61) (by decide +kernel))
theorem nw_3 : Cond.methodLinkNest RX11 23 yX10_init RX11 ∈ lw_tbl := List.mem_append_right _ (List.mem_of_getElem? (i := 176) (by decide +kernel))
theorem nw_4 : Cond.methodLinkNest RX8 19 yX4_init RX11 ∈ lw_tbl := List.mem_append_right _ (List.mem_of_getElem? (i := 236) (by decide +kernel))
theorem nw_5 : Cond.methodLinkNest RX4 20 yX5_init RX11 ∈ lw_tbl := List.mem_append_right _ (List.mem_of_getElem? (i := 242) (by decide +kernel))
theorem nw_6 : Cond.methodLinkNest RX8 35 yX7_init RX11 ∈ lw_tbl := List.mem_append_right _ (List.mem_of_getElem? (i := 299) (by decide +kernel))
theorem nw_7 : Cond.methodLinkNest RX11 56 yX4_init RX11 ∈ lw_tbl := List.mem_append_right _ (List.mem_of_getElem? (i := 404) (by decide +kernel))
theorem nw_8 : Cond.methodLinkNest RX11 63 yX5_init RX11 ∈ lw_tbl := List.mem_append_right _ (List.mem_of_getElem? (i := 406) (by decide +kernel))
theorem nw_9 : Cond.methodLinkNest RX11 70 yX7_init RX11 ∈ lw_tbl := List.mem_append_right _ (List.mem_of_getElem? (i := 408) (by decide +kernel))
theorem nw_10 : Cond.methodLinkNest RX11 77 yX2_init RX11 ∈ lw_tbl := List.mem_append_right _ (List.mem_of_getElem? (i := 411) (by decide +kernel))
theorem nw_ao0 : Cond.arrayOver (.object RX0) ∈ lw_tbl := List.mem_append_right _ (List.mem_of_getElem? (i := 36) (by decide +kernel))
theorem nw_ao7 : Cond.arrayOver (.object RX7) ∈ lw_tbl := List.mem_append_right _ (List.mem_of_getElem? (i := 233) (by decide +kernel))
theorem nw_ao8 : Cond.arrayOver (.object RX8) ∈ lw_tbl := List.mem_append_right _ (List.mem_of_getElem? (i := 390) (by decide +kernel))
theorem nw_byte : Cond.arrayClass .byte ∈ lw_tbl := List.mem_append_right _ (List.mem_of_getElem? (i := 189) (by decide +kernel))
theorem nw_int : Cond.arrayClass .int ∈ lw_tbl := List.mem_append_right _ (List.mem_of_getElem? (i := 59) (by decide +kernel))
theorem nw_long : Cond.arrayClass .long ∈ lw_tbl := List.mem_append_right _ (List.mem_of_getElem? (i := 1273) (by decide +kernel))
theorem nw_boolean : Cond.arrayClass .boolean ∈ lw_tbl := List.mem_append_right _ (List.mem_of_getElem? (i := 110) (by decide +kernel))
theorem nw_in0 : Cond.instantiable RX0 8 ∈ AW := aw_t (i := 60) (by decide +kernel) rfl
theorem nw_in1 : Cond.instantiable RX1 12 ∈ AW := aw_t (i := 30) (by decide +kernel) rfl
theorem nw_in2 : Cond.instantiable RX2 5 ∈ AW := aw_t (i := 410) (by decide +kernel) rfl
theorem nw_in3 : Cond.instantiable RX3 3 ∈ AW := aw_t (i := 384) (by decide +kernel) rfl
theorem nw_in4 : Cond.instantiable RX4 10 ∈ AW := aw_t (i := 235) (by decide +kernel) rfl
theorem nw_in5 : Cond.instantiable RX5 2 ∈ AW := aw_t (i := 241) (by decide +kernel) rfl
theorem nw_in6 : Cond.instantiable RX6 9 ∈ AW := aw_t (i := 191) (by decide +kernel) rfl
theorem nw_in7 : Cond.instantiable RX7 6 ∈ AW := aw_t (i := 298) (by decide +kernel) rfl
theorem nw_in8 : Cond.instantiable RX8 13 ∈ AW := aw_t (i := 227) (by decide +kernel) rfl
theorem nw_in9 : Cond.instantiable RX9 2 ∈ AW := aw_t (i := 38) (by decide +kernel) rfl
theorem nw_in10 : Cond.instantiable RX10 2 ∈ AW := aw_t (i := 175) (by decide +kernel) rfl
theorem nw_in11 : Cond.instantiable RX11 13 ∈ AW := aw_t (i := 22) (by decide +kernel) rfl
theorem nw_in12 : Cond.instantiable RX12 51 ∈ AW := aw_t (i := 1110) (by decide +kernel) rfl
theorem nw_it11 : Cond.initialized RX11 ∈ AW := aw_t (i := 1) (by decide +kernel) rfl
theorem nw_it12 : Cond.initialized RX12 ∈ AW := aw_t (i := 13) (by decide +kernel) rfl
theorem nw_cl7 : Cond.classLink RL 7 RX11 ∈ AW := aw_t (i := 21) (by decide +kernel) rfl
theorem nw_cl10 : Cond.classLink RL 10 RX12 ∈ AW := aw_t (i := 1109) (by decide +kernel) rfl
theorem nw_k9 : Cond.methodLink RL 9 yX11_init ∈ AW := aw_t (i := 23) (by decide +kernel) rfl
theorem zyX11_init : yMth yX11_init cX11_init 1 0 := ⟨aw_t (i := 24) (by decide +kernel) rfl, rfl, aw_t (i := 1) (by decide +kernel) rfl, aw_t (i := 25) (by decide +kernel) rfl, by decide +kernel⟩
theorem nw_k12 : Cond.methodLink RL 12 yX12_init ∈ AW := aw_t (i := 1111) (by decide +kernel) rfl
theorem zyX12_init : yMth yX12_init cX12_init 4 0 := ⟨aw_t (i := 1112) (by decide +kernel) rfl, rfl, aw_t (i := 13) (by decide +kernel) rfl, aw_t (i := 1113) (by decide +kernel) rfl, by decide +kernel⟩
theorem nw_ls1 : Cond.laysStatic "java/lang/String" "COMPACT_STRINGS" "Z" ∈ lw_tbl := List.mem_append_right _ (List.mem_of_getElem? (i := 553) (by decide +kernel))
theorem nw_ls2 : Cond.laysStatic "jdk/internal/util/Preconditions" "SIOOBE_FORMATTER" "Ljava/util/function/BiFunction;" ∈ lw_tbl := List.mem_append_right _ (List.mem_of_getElem? (i := 569) (by decide +kernel))
theorem nw_is1 : Cond.initialized "java/lang/String" ∈ lw_tbl := List.mem_append_right _ (List.mem_of_getElem? (i := 15) (by decide +kernel))
theorem nw_is2 : Cond.initialized "jdk/internal/util/Preconditions" ∈ lw_tbl := List.mem_append_right _ (List.mem_of_getElem? (i := 17) (by decide +kernel))
theorem st_nst {b : Nat} {s : State} (hts : ∀ w ∈ lw_tbl, w.before #[Value.ref b] s = true) : zNst s := ⟨va_Nw.of rfl (hts _ nw_0), va_Nw.of rfl (hts _ nw_1)⟩
theorem st_yst {b : Nat} {s : State} (hts : ∀ w ∈ lw_tbl, w.before #[Value.ref b] s = true) : yNst s := ⟨va_Nw.of rfl (hts _ nw_2), va_Nw.of rfl (hts _ nw_3), va_Nw.of rfl (hts _ nw_4), va_Nw.of rfl (hts _ nw_5), va_Nw.of rfl (hts _ nw_6), va_Nw.of rfl (hts _ nw_7), va_Nw.of rfl (hts _ nw_8), va_Nw.of rfl (hts _ nw_9), va_Nw.of rfl (hts _ nw_10), va_AO.of (hts _ nw_ao0), va_AO.of (hts _ nw_ao7), va_AO.of (hts _ nw_ao8)⟩
theorem st_prim {s : State} {args : Array Value} {ty : FieldType} (hw : (Cond.arrayClass ty).before args s = true) (hra : ∀ c, s.vm.findClass ("[" ++ ty.toString) = some c → va_RA s c ty) : ∃ c : ClassId, ArrOfT s c ty ∧ va_RA s c ty := by
  obtain ⟨c, k, comp, h1, h2, h3⟩ := Cond.arrayClass_spec hw
  exact ⟨c, fun N z => ⟨(fun k h => by cases h), k, h2, comp, h3⟩, hra c h1⟩
theorem st_obj {s : State} {args : Array Value} {C : String} (hw : (Cond.arrayOver (.object C)).before args s = true) : ∃ c : ClassId, ArrOfT s c (.object C) ∧ va_RA s c (.object C) := by
  obtain ⟨comp, c, k, g1, g2, g3, g4, g5⟩ := Cond.arrayOver_spec hw
  exact ⟨c, fun N z => ⟨(fun k h => by cases h), k, g3, comp, g4⟩, k, comp, g3, g4, g1, g5⟩
theorem st_K {b : Nat} {s : State} (hts : ∀ w ∈ lw_tbl, w.before #[Value.ref b] s = true) : ∃ (D : va_G) (cy : Nat → ClassId), va_K D vwCl (ztyl cy) s := by
  have htA : ∀ w ∈ AW, w.before #[Value.ref b] s = true := fun w h => hts w (List.mem_filter.mp h).1
  have h1 : ∀ k : Nat, ∃ p : ClassId × (Nat → Nat), ∀ q : vw_C, vwCl[k]? = some q → u_Kn s q.1 q.2.1 q.2.2 p.1 p.2 := by
    intro k
    match k with
    | 0 => obtain ⟨c, i, h⟩ := u_known (C := RX0) (T := TX0) (N := 8) (n := 8) htA zc0.2.2.1 (htA _ nw_in0); exact ⟨(c, i), fun q hq => by cases hq; exact h⟩
    | 1 => obtain ⟨c, i, h⟩ := u_known (C := RX1) (T := TX1) (N := 12) (n := 12) htA zc1.2.2.1 (htA _ nw_in1); exact ⟨(c, i), fun q hq => by cases hq; exact h⟩
    | 2 => obtain ⟨c, i, h⟩ := u_known (C := RX2) (T := TX2) (N := 5) (n := 5) htA zc2.2.2.1 (htA _ nw_in2); exact ⟨(c, i), fun q hq => by cases hq; exact h⟩
    | 3 => obtain ⟨c, i, h⟩ := u_known (C := RX3) (T := TX3) (N := 3) (n := 3) htA zc3.2.2.1 (htA _ nw_in3); exact ⟨(c, i), fun q hq => by cases hq; exact h⟩
    | 4 => obtain ⟨c, i, h⟩ := u_known (C := RX4) (T := TX4) (N := 10) (n := 10) htA zc4.2.2.1 (htA _ nw_in4); exact ⟨(c, i), fun q hq => by cases hq; exact h⟩
    | 5 => obtain ⟨c, i, h⟩ := u_known (C := RX5) (T := TX5) (N := 2) (n := 2) htA zc5.2.2.1 (htA _ nw_in5); exact ⟨(c, i), fun q hq => by cases hq; exact h⟩
    | 6 => obtain ⟨c, i, h⟩ := u_known (C := RX6) (T := TX6) (N := 9) (n := 9) htA zc6.2.2.1 (htA _ nw_in6); exact ⟨(c, i), fun q hq => by cases hq; exact h⟩
    | 7 => obtain ⟨c, i, h⟩ := u_known (C := RX7) (T := TX7) (N := 6) (n := 6) htA zc7.2.2.1 (htA _ nw_in7); exact ⟨(c, i), fun q hq => by cases hq; exact h⟩
    | 8 => obtain ⟨c, i, h⟩ := u_known (C := RX8) (T := TX8) (N := 13) (n := 13) htA zc8.2.2.1 (htA _ nw_in8); exact ⟨(c, i), fun q hq => by cases hq; exact h⟩
    | 9 => obtain ⟨c, i, h⟩ := u_known (C := RX9) (T := TX9) (N := 2) (n := 2) htA zc9.2.2.1 (htA _ nw_in9); exact ⟨(c, i), fun q hq => by cases hq; exact h⟩
    | 10 => obtain ⟨c, i, h⟩ := u_known (C := RX10) (T := TX10) (N := 2) (n := 2) htA zc10.2.2.1 (htA _ nw_in10); exact ⟨(c, i), fun q hq => by cases hq; exact h⟩
    | 11 => obtain ⟨c, i, h⟩ := u_known (C := RX11) (T := TX11) (N := 13) (n := 13) htA zc11.2.2.1 (htA _ nw_in11); exact ⟨(c, i), fun q hq => by cases hq; exact h⟩
    | 12 => obtain ⟨c, i, h⟩ := u_known (C := RX12) (T := TX12) (N := 51) (n := 51) htA zc12.2.2.1 (htA _ nw_in12); exact ⟨(c, i), fun q hq => by cases hq; exact h⟩
    | k + 13 => exact ⟨((0 : Nat), fun _ => 0), fun q hq => by simp [vwCl] at hq⟩
  obtain ⟨f, hf⟩ := Classical.axiomOfChoice h1
  obtain ⟨c13, a13⟩ := st_prim (hts _ nw_byte) (fun _ h => h)
  obtain ⟨c14, a14⟩ := st_prim (hts _ nw_int) (fun _ h => h)
  obtain ⟨c15, a15⟩ := st_prim (hts _ nw_long) (fun _ h => h)
  obtain ⟨c16, a16⟩ := st_prim (hts _ nw_boolean) (fun _ h => h)
  obtain ⟨c17, a17⟩ := st_obj (hts _ nw_ao0)
  obtain ⟨c18, a18⟩ := st_obj (hts _ nw_ao7)
  obtain ⟨c19, a19⟩ := st_obj (hts _ nw_ao8)
  refine ⟨(fun k => (f k).1, fun k => (f k).2), fun k => match k with
    | 13 => c13
    | 14 => c14
    | 15 => c15
    | 16 => c16
    | 17 => c17
    | 18 => c18
    | _ => c19, fun k q hq => hf k q hq, fun k q hq => ?_⟩
  match k, hq with
  | 0, hq => cases hq; exact a13
  | 1, hq => cases hq; exact a14
  | 2, hq => cases hq; exact a15
  | 3, hq => cases hq; exact a16
  | 4, hq => cases hq; exact a17
  | 5, hq => cases hq; exact a18
  | 6, hq => cases hq; exact a19
  | k + 7, hq => simp [ztyl] at hq
abbrev stF : List Cond := flatC (Jvm.Cond.and given_1 narrow_1)
abbrev stT (i : Nat) : Term := Term.string RX6 (zsidx.getD i 0)
theorem stm_1 : ∀ i, i < 13 → Cond.exactly (stT i) "java/lang/String" ∈ stF := by decide +kernel
theorem stm_2 : ∀ i, i < 13 → Cond.eq (.field (stT i) "java/lang/String" "coder" "B") (.int 0) ∈ stF := by decide +kernel
theorem stm_3 : ∀ i, i < 13 → Cond.arrayOf (.field (stT i) "java/lang/String" "value" "[B") .byte ∈ stF := by decide +kernel
theorem stm_4 : ∀ i, i < 13 → Cond.eq (.length (.field (stT i) "java/lang/String" "value" "[B")) (.int (Int32.ofNat (zslen.getD i 0))) ∈ stF := by decide +kernel
theorem stm_5 : ∀ i, i < 13 → ∀ j, j < zslen.getD i 0 → Cond.eq (.elem (.field (stT i) "java/lang/String" "value" "[B") (.int (Int32.ofNat j))) (.int ((zsbyt.getD i []).getD j 0)) ∈ stF := by decide +kernel
theorem stm_6_0 : ∀ j, j < 13 → 0 ≠ j → Cond.not (Cond.eq (stT 0) (stT j)) ∈ stF ∨ Cond.not (Cond.eq (stT j) (stT 0)) ∈ stF := by decide +kernel
theorem stm_6_1 : ∀ j, j < 13 → 1 ≠ j → Cond.not (Cond.eq (stT 1) (stT j)) ∈ stF ∨ Cond.not (Cond.eq (stT j) (stT 1)) ∈ stF := by decide +kernel
theorem stm_6_2 : ∀ j, j < 13 → 2 ≠ j → Cond.not (Cond.eq (stT 2) (stT j)) ∈ stF ∨ Cond.not (Cond.eq (stT j) (stT 2)) ∈ stF := by decide +kernel
theorem stm_6_3 : ∀ j, j < 13 → 3 ≠ j → Cond.not (Cond.eq (stT 3) (stT j)) ∈ stF ∨ Cond.not (Cond.eq (stT j) (stT 3)) ∈ stF := by decide +kernel
theorem stm_6_4 : ∀ j, j < 13 → 4 ≠ j → Cond.not (Cond.eq (stT 4) (stT j)) ∈ stF ∨ Cond.not (Cond.eq (stT j) (stT 4)) ∈ stF := by decide +kernel
theorem stm_6_5 : ∀ j, j < 13 → 5 ≠ j → Cond.not (Cond.eq (stT 5) (stT j)) ∈ stF ∨ Cond.not (Cond.eq (stT j) (stT 5)) ∈ stF := by decide +kernel
theorem stm_6_6 : ∀ j, j < 13 → 6 ≠ j → Cond.not (Cond.eq (stT 6) (stT j)) ∈ stF ∨ Cond.not (Cond.eq (stT j) (stT 6)) ∈ stF := by decide +kernel
theorem stm_6_7 : ∀ j, j < 13 → 7 ≠ j → Cond.not (Cond.eq (stT 7) (stT j)) ∈ stF ∨ Cond.not (Cond.eq (stT j) (stT 7)) ∈ stF := by decide +kernel
theorem stm_6_8 : ∀ j, j < 13 → 8 ≠ j → Cond.not (Cond.eq (stT 8) (stT j)) ∈ stF ∨ Cond.not (Cond.eq (stT j) (stT 8)) ∈ stF := by decide +kernel
theorem stm_6_9 : ∀ j, j < 13 → 9 ≠ j → Cond.not (Cond.eq (stT 9) (stT j)) ∈ stF ∨ Cond.not (Cond.eq (stT j) (stT 9)) ∈ stF := by decide +kernel
theorem stm_6_10 : ∀ j, j < 13 → 10 ≠ j → Cond.not (Cond.eq (stT 10) (stT j)) ∈ stF ∨ Cond.not (Cond.eq (stT j) (stT 10)) ∈ stF := by decide +kernel
theorem stm_6_11 : ∀ j, j < 13 → 11 ≠ j → Cond.not (Cond.eq (stT 11) (stT j)) ∈ stF ∨ Cond.not (Cond.eq (stT j) (stT 11)) ∈ stF := by decide +kernel
theorem stm_6_12 : ∀ j, j < 13 → 12 ≠ j → Cond.not (Cond.eq (stT 12) (stT j)) ∈ stF ∨ Cond.not (Cond.eq (stT j) (stT 12)) ∈ stF := by decide +kernel
theorem stm_6 : ∀ i, i < 13 → ∀ j, j < 13 → i ≠ j → Cond.not (Cond.eq (stT i) (stT j)) ∈ stF ∨ Cond.not (Cond.eq (stT j) (stT i)) ∈ stF := lt_s (lt_s (lt_s (lt_s (lt_s (lt_s (lt_s (lt_s (lt_s (lt_s (lt_s (lt_s (lt_s (lt_0) stm_6_0) stm_6_1) stm_6_2) stm_6_3) stm_6_4) stm_6_5) stm_6_6) stm_6_7) stm_6_8) stm_6_9) stm_6_10) stm_6_11) stm_6_12
theorem stm_7 : ∀ i, i < 13 → Cond.stringRef RX6 (zsidx.getD i 0) (zstx.getD i "") ∈ lw_tbl := by decide +kernel
theorem stm_8 : Cond.eq (.static "java/lang/String" "COMPACT_STRINGS" "Z") (.int 1) ∈ stF := by decide +kernel
theorem stm_9 : Cond.isRef (.static "jdk/internal/util/Preconditions" "SIOOBE_FORMATTER" "Ljava/util/function/BiFunction;") ∈ stF := by decide +kernel
theorem st_str {b : Nat} {s : State} (hts : ∀ w ∈ lw_tbl, w.before #[Value.ref b] s = true) (hgv : (Jvm.Cond.and given_1 narrow_1).before #[Value.ref b] s = true) : ∃ ka : zKa, lStr ka s := by
  have hs := flat_of_before _ hgv
  have hA : ∀ a : Nat, a < s.heap.size → ¬ s.heap.size ≤ a := fun a h => Nat.not_le.mpr h
  obtain ⟨adK, adV, hS, hR⟩ := vk_Sof (args := #[Value.ref b]) (s := s) (N := 13) (tm := stT) (len := zslen) (byt := zsbyt) (A := fun q => s.heap.size ≤ q) (by decide +kernel) (fun i hi => hs _ (stm_1 i hi)) (fun i hi => hs _ (stm_2 i hi)) (fun i hi => hs _ (stm_3 i hi)) (fun i hi => hs _ (stm_4 i hi)) (fun i hi j hj => hs _ (stm_5 i hi j hj)) (fun i j hi hj hne => (stm_6 i hi j hj hne).imp (fun h => hs _ h) (fun h => hs _ h)) hA
  exact ⟨(adK, adV), hS, va_Zof (hts _ nw_ls1) (hts _ nw_is1) (va_eqt (hs _ stm_8)) hA, va_Zqof (hts _ nw_ls2) (hts _ nw_is2) (hs _ stm_9) hA, fun i hi => vk_R.of (hts _ (stm_7 i hi)) (hR i hi)⟩
