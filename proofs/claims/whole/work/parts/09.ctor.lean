theorem dX9_init_0 : decode cX9_init 0 = .ok (.aload_n 0, 1) := by decide +kernel
theorem dX9_init_1 : decode cX9_init 1 = .ok (.invokespecial 3, 3) := by decide +kernel
theorem dX9_init_4 : decode cX9_init 4 = .ok (.aload_n 0, 1) := by decide +kernel
theorem dX9_init_5 : decode cX9_init 5 = .ok (.bipush 65, 2) := by decide +kernel
theorem dX9_init_7 : decode cX9_init 7 = .ok (.newarray .int, 2) := by decide +kernel
theorem dX9_init_9 : decode cX9_init 9 = .ok (.putfield 9, 3) := by decide +kernel
theorem dX9_init_12 : decode cX9_init 12 = .ok (.aload_n 0, 1) := by decide +kernel
theorem dX9_init_13 : decode cX9_init 13 = .ok (.bipush 65, 2) := by decide +kernel
theorem dX9_init_15 : decode cX9_init 15 = .ok (.newarray .int, 2) := by decide +kernel
theorem dX9_init_17 : decode cX9_init 17 = .ok (.putfield 15, 3) := by decide +kernel
theorem dX9_init_20 : decode cX9_init 20 = .ok (.iconst 0, 1) := by decide +kernel
theorem dX9_init_21 : decode cX9_init 21 = .ok (.istore_n 1, 1) := by decide +kernel
theorem dX9_init_22 : decode cX9_init 22 = .ok (.iload_n 1, 1) := by decide +kernel
theorem dX9_init_23 : decode cX9_init 23 = .ok (.bipush 64, 2) := by decide +kernel
theorem dX9_init_25 : decode cX9_init 25 = .ok (.if_icmp .gt 57, 3) := by decide +kernel
theorem dX9_init_28 : decode cX9_init 28 = .ok (.ldc2_w 18, 3) := by decide +kernel
theorem dX9_init_31 : decode cX9_init 31 = .ok (.iload_n 1, 1) := by decide +kernel
theorem dX9_init_32 : decode cX9_init 32 = .ok (.i2l, 1) := by decide +kernel
theorem dX9_init_33 : decode cX9_init 33 = .ok (.lmul, 1) := by decide +kernel
theorem dX9_init_34 : decode cX9_init 34 = .ok (.lstore_n 2, 1) := by decide +kernel
theorem dX9_init_35 : decode cX9_init 35 = .ok (.lload_n 2, 1) := by decide +kernel
theorem dX9_init_36 : decode cX9_init 36 = .ok (.ldc2_w 20, 3) := by decide +kernel
theorem dX9_init_39 : decode cX9_init 39 = .ok (.lload_n 2, 1) := by decide +kernel
theorem dX9_init_40 : decode cX9_init 40 = .ok (.lsub, 1) := by decide +kernel
theorem dX9_init_41 : decode cX9_init 41 = .ok (.lmul, 1) := by decide +kernel
theorem dX9_init_42 : decode cX9_init 42 = .ok (.lstore 4, 2) := by decide +kernel
theorem dX9_init_44 : decode cX9_init 44 = .ok (.aload_n 0, 1) := by decide +kernel
theorem dX9_init_45 : decode cX9_init 45 = .ok (.getfield 9, 3) := by decide +kernel
theorem dX9_init_48 : decode cX9_init 48 = .ok (.iload_n 1, 1) := by decide +kernel
theorem dX9_init_49 : decode cX9_init 49 = .ok (.ldc2_w 22, 3) := by decide +kernel
theorem dX9_init_52 : decode cX9_init 52 = .ok (.lload 4, 2) := by decide +kernel
theorem dX9_init_54 : decode cX9_init 54 = .ok (.lmul, 1) := by decide +kernel
theorem dX9_init_55 : decode cX9_init 55 = .ok (.ldc2_w 24, 3) := by decide +kernel
theorem dX9_init_58 : decode cX9_init 58 = .ok (.lload 4, 2) := by decide +kernel
theorem dX9_init_60 : decode cX9_init 60 = .ok (.lsub, 1) := by decide +kernel
theorem dX9_init_61 : decode cX9_init 61 = .ok (.ldiv, 1) := by decide +kernel
theorem dX9_init_62 : decode cX9_init 62 = .ok (.l2i, 1) := by decide +kernel
theorem dX9_init_63 : decode cX9_init 63 = .ok (.iastore, 1) := by decide +kernel
theorem dX9_init_64 : decode cX9_init 64 = .ok (.aload_n 0, 1) := by decide +kernel
theorem dX9_init_65 : decode cX9_init 65 = .ok (.getfield 15, 3) := by decide +kernel
theorem dX9_init_68 : decode cX9_init 68 = .ok (.iload_n 1, 1) := by decide +kernel
theorem dX9_init_69 : decode cX9_init 69 = .ok (.aload_n 0, 1) := by decide +kernel
theorem dX9_init_70 : decode cX9_init 70 = .ok (.getfield 9, 3) := by decide +kernel
theorem dX9_init_73 : decode cX9_init 73 = .ok (.iload_n 1, 1) := by decide +kernel
theorem dX9_init_74 : decode cX9_init 74 = .ok (.iaload, 1) := by decide +kernel
theorem dX9_init_75 : decode cX9_init 75 = .ok (.iastore, 1) := by decide +kernel
theorem dX9_init_76 : decode cX9_init 76 = .ok (.iinc 1 1, 3) := by decide +kernel
theorem dX9_init_79 : decode cX9_init 79 = .ok (.goto (-57), 3) := by decide +kernel
theorem dX9_init_82 : decode cX9_init 82 = .ok (.return_, 1) := by decide +kernel
abbrev ylX9_init (cy : Nat → ClassId) (h0 : Nat)  (a : Nat → Nat) : va_W := [(h0, .inr (9, [.ref (a 1), .ref (a 2)])), ((a 1), .inl (cy 14, 65, .inl (ytab 65))), ((a 2), .inl (cy 14, 65, .inl (ytab 65)))]
set_option maxHeartbeats 4000000 in
set_option maxRecDepth 100000 in
theorem ztX9_init (l : Launch) (D : va_G) (cy : Nat → ClassId) (h0 : Nat)  : yC l yX9_init cX9_init 6 { frames := 1, cells := 2, slots := 130, locals := 20 } [.ref h0] D cy [(h0, .inr (9, [.null, .null]))] (fun a => ylX9_init cy h0 a) 2 130 := by
  refine y_of (plainFor_of_name (by decide)) rfl (Nat.le_of_ble_eq_true rfl) (fun p e s m below meth c ls F hN hin hr hlk hl hP hD => ?_)
  have hx := F.1.1
  have hb := F.1.2.1
  have hl : lv_has ls 6 [(0, .ref h0)] := hl
  have hS : va_S (va_A [(h0, .inr (9, [.null, .null]))] s.heap.size) s.heap s.heap [] := va_S.rf
  have hA : ∀ q : Nat, s.heap.size ≤ q → va_A [(h0, .inr (9, [.null, .null]))] s.heap.size q := fun q h => Or.inr h
  refine lv_aload_n hx hb dX9_init_0 rfl (lv_at hl 0 rfl) ?_
  refine W.objInit hx hb F.1.2.2.2.1 (F.1.2.2.2.2 _ zoi9_3) (F.1.2.2.2.2 _ zoin) (F.1.2.2.2.2 _ zoic) rfl (by rw [F.1.2.2.1]; exact hl.1) rfl dX9_init_1 (Nat.le_of_ble_eq_true rfl) (Nat.le_of_ble_eq_true rfl) ?_
  refine W.eq (g2 := F0 m 4 ls []) rfl ?_
  refine lv_aload_n hx hb dX9_init_4 rfl (lv_at hl 0 rfl) ?_
  refine lv_bipush (v := (65 : Int32)) hx hb dX9_init_5 (by decide) ?_
  refine y_na F hP hD hS hA 1 (atype := .int) (ty := .int) rfl rfl (fun _ h => h) zac_int (a0 := (65, .inl (fun _ => 0))) (n := (65 : Int32)) (N := 65) (fun _ => rfl) (by decide) (by decide) (by decide) (Nat.le_of_ble_eq_true rfl) (Nat.le_of_ble_eq_true rfl) dX9_init_7 (fun q_1 H hP hD hS => ?_)
  have hP : va_P D vwCl ([(h0, .inr (9, [.null, .null])), (q_1, .inl (cy 14, 65, .inl (fun _ => 0)))]) H := hP
  have hD : va_D (va_A [(h0, .inr (9, [.null, .null]))] s.heap.size) ([(h0, .inr (9, [.null, .null])), (q_1, .inl (cy 14, 65, .inl (fun _ => 0)))]) := hD
  refine W.widen (k := 1) (n := 65) (Nat.le_of_ble_eq_true rfl) (Nat.le_of_ble_eq_true rfl) ?_
  refine va_putF (D := D) (ci := 9) (v := .ref q_1) hx hb F.1.2.2.2.2 zc9.2.2.1 tyX9 tyX9_ok nmX9 F.1.2.2.2.1 F.2.1 hP hD hS 0 rfl rfl 0 (by decide) (F.1.2.2.2.2 _ zf9_9) (fun _ h => h) rfl hin rfl (tyX9_ok 0 (by decide)) rfl rfl (Nat.le_of_ble_eq_true rfl) dX9_init_9 (fun H locs hP hD hS => ?_)
  have hP : va_P D vwCl ([(h0, .inr (9, [.ref q_1, .null])), (q_1, .inl (cy 14, 65, .inl (fun _ => 0)))]) H := hP
  have hD : va_D (va_A [(h0, .inr (9, [.null, .null]))] s.heap.size) ([(h0, .inr (9, [.ref q_1, .null])), (q_1, .inl (cy 14, 65, .inl (fun _ => 0)))]) := hD
  refine lv_aload_n hx hb dX9_init_12 rfl (lv_at hl 0 rfl) ?_
  refine lv_bipush (v := (65 : Int32)) hx hb dX9_init_13 (by decide) ?_
  refine y_na F hP hD hS hA 1 (atype := .int) (ty := .int) rfl rfl (fun _ h => h) zac_int (a0 := (65, .inl (fun _ => 0))) (n := (65 : Int32)) (N := 65) (fun _ => rfl) (by decide) (by decide) (by decide) (Nat.le_of_ble_eq_true rfl) (Nat.le_of_ble_eq_true rfl) dX9_init_15 (fun q_2 H hP hD hS => ?_)
  have hP : va_P D vwCl ([(h0, .inr (9, [.ref q_1, .null])), (q_1, .inl (cy 14, 65, .inl (fun _ => 0))), (q_2, .inl (cy 14, 65, .inl (fun _ => 0)))]) H := hP
  have hD : va_D (va_A [(h0, .inr (9, [.null, .null]))] s.heap.size) ([(h0, .inr (9, [.ref q_1, .null])), (q_1, .inl (cy 14, 65, .inl (fun _ => 0))), (q_2, .inl (cy 14, 65, .inl (fun _ => 0)))]) := hD
  refine W.widen (k := 2) (n := 130) (Nat.le_of_ble_eq_true rfl) (Nat.le_of_ble_eq_true rfl) ?_
  refine va_putF (D := D) (ci := 9) (v := .ref q_2) hx hb F.1.2.2.2.2 zc9.2.2.1 tyX9 tyX9_ok nmX9 F.1.2.2.2.1 F.2.1 hP hD hS 0 rfl rfl 1 (by decide) (F.1.2.2.2.2 _ zf9_15) (fun _ h => h) rfl hin rfl (tyX9_ok 1 (by decide)) rfl rfl (Nat.le_of_ble_eq_true rfl) dX9_init_17 (fun H locs hP hD hS => ?_)
  have hP : va_P D vwCl ([(h0, .inr (9, [.ref q_1, .ref q_2])), (q_1, .inl (cy 14, 65, .inl (fun _ => 0))), (q_2, .inl (cy 14, 65, .inl (fun _ => 0)))]) H := hP
  have hD : va_D (va_A [(h0, .inr (9, [.null, .null]))] s.heap.size) ([(h0, .inr (9, [.ref q_1, .ref q_2])), (q_1, .inl (cy 14, 65, .inl (fun _ => 0))), (q_2, .inl (cy 14, 65, .inl (fun _ => 0)))]) := hD
  refine lv_iconst (v := (0 : Int32)) hx hb dX9_init_20 (by decide) ?_
  refine lv_istore_n (lv' := [(1, .int 0), (0, .ref h0)]) hx hb dX9_init_21 rfl hl (by decide) rfl (fun ls hl => ?_)
  have L : ∀ (r q : Nat) (H : Heap) (locs : List Loc) (ls : Array Slot), q + r = 65 → lv_has ls 6 [(0, .ref h0), (1, .int (nI q))] → va_P D vwCl ([(h0, .inr (9, [.ref q_1, .ref q_2])), (q_1, .inl (cy 14, 65, .inl (ytab q))), (q_2, .inl (cy 14, 65, .inl (ytab q)))]) H → va_D (va_A [(h0, .inr (9, [.null, .null]))] s.heap.size) ([(h0, .inr (9, [.ref q_1, .ref q_2])), (q_1, .inl (cy 14, 65, .inl (ytab q))), (q_2, .inl (cy 14, 65, .inl (ytab q)))]) → va_S (va_A [(h0, .inr (9, [.null, .null]))] s.heap.size) s.heap H locs → W p l e { frames := 1, cells := 2, slots := 130, locals := 20 } s m ([.ref h0] : List Value).toArray below meth c H locs 2 130 (yQ below D [(h0, .inr (9, [.null, .null]))] s [.ref h0] (fun a => ylX9_init cy h0 a) 2 130) (F0 m 22 ls []) := by
    intro r
    induction r with
    | zero =>
      intro q H locs ls hq hl hP hD hS
      obtain rfl : q = 65 := by omega
      refine lv_iload_n hx hb dX9_init_22 rfl (lv_at hl 1 rfl) ?_
      refine lv_bipush (v := (64 : Int32)) hx hb dX9_init_23 (by decide) ?_
      refine lv_icmp_gt (tgt := 82) hx hb dX9_init_25 (by decide) (fun _ => ?_) (fun c1 => absurd (by decide) c1)
      exact y_ret (post := (fun a => ylX9_init cy h0 a)) F hr hlk (fun i => ([h0, q_1, q_2] : List Nat).getD i 0) hP hD hS dX9_init_82
    | succ r ih =>
      intro q H locs ls hq hl hP hD hS
      have h1 : q < 65 := by omega
      refine lv_iload_n hx hb dX9_init_22 rfl (lv_at hl 1 rfl) ?_
      refine lv_bipush (v := (64 : Int32)) hx hb dX9_init_23 (by decide) ?_
      refine lv_icmp_gt (tgt := 82) hx hb dX9_init_25 (by decide) (fun c1 => absurd c1 (y64 q h1)) (fun _ => ?_)
      refine lv_ldc2 (v := (90 : Int64)) hx hb F.1.2.2.2.1 (F.1.2.2.2.2 _ zi9_18) dX9_init_28 ?_
      refine lv_iload_n hx hb dX9_init_31 rfl (lv_at hl 1 rfl) ?_
      refine lv_i2l (v := (nI q).toInt64) hx hb dX9_init_32 rfl ?_
      refine lv_lmul hx hb dX9_init_33 ?_
      refine lv_lstore_n (lv' := [(2, .long (90 * (nI q).toInt64)), (0, .ref h0), (1, .int (nI q))]) hx hb dX9_init_34 rfl hl (by decide) rfl (fun ls hl => ?_)
      refine lv_lload_n hx hb dX9_init_35 rfl (lv_at hl 0 rfl) ?_
      refine lv_ldc2 (v := (11520 : Int64)) hx hb F.1.2.2.2.1 (F.1.2.2.2.2 _ zi9_20) dX9_init_36 ?_
      refine lv_lload_n hx hb dX9_init_39 rfl (lv_at hl 0 rfl) ?_
      refine lv_lsub hx hb dX9_init_40 ?_
      refine lv_lmul hx hb dX9_init_41 ?_
      refine lv_lstore (lv' := [(4, .long (yprod q)), (2, .long (90 * (nI q).toInt64)), (0, .ref h0), (1, .int (nI q))]) hx hb dX9_init_42 hl (by decide) rfl (fun ls hl => ?_)
      refine lv_aload_n hx hb dX9_init_44 rfl (lv_at hl 2 rfl) ?_
      refine va_get (D := D) (ci := 9) (v := .ref q_1) hx hb F.1.2.2.2.2 zc9.2.2.1 F.1.2.2.2.1 F.2.1 hP 0 rfl rfl 0 (by decide) (F.1.2.2.2.2 _ zf9_9) (fun _ h => h) rfl dX9_init_45 ?_
      refine lv_iload_n hx hb dX9_init_48 rfl (lv_at hl 3 rfl) ?_
      refine lv_ldc2 (v := (4000 : Int64)) hx hb F.1.2.2.2.1 (F.1.2.2.2.2 _ zi9_22) dX9_init_49 ?_
      refine lv_lload hx hb dX9_init_52 (lv_at hl 0 rfl) ?_
      refine lv_lmul hx hb dX9_init_54 ?_
      refine lv_ldc2 (v := (165888000 : Int64)) hx hb F.1.2.2.2.1 (F.1.2.2.2.2 _ zi9_24) dX9_init_55 ?_
      refine lv_lload hx hb dX9_init_58 (lv_at hl 0 rfl) ?_
      refine lv_lsub hx hb dX9_init_60 ?_
      refine lv_ldiv hx hb dX9_init_61 (yprod_ne q h1) ?_
      refine lv_l2i (v := yval q) hx hb dX9_init_62 rfl ?_
      refine va_iast (D := D) hx hb F.2.1 hP hD hS 1 1 rfl rfl (i := nI q) (x := yval q) (vp_in_nI h1 (by omega)) dX9_init_63 (fun H locs hP hD hS => ?_)
      rw [nI_clamp (by omega), ytab_s] at hP hD
      have hP : va_P D vwCl ([(h0, .inr (9, [.ref q_1, .ref q_2])), (q_1, .inl (cy 14, 65, .inl (ytab (q + 1)))), (q_2, .inl (cy 14, 65, .inl (ytab q)))]) H := hP
      have hD : va_D (va_A [(h0, .inr (9, [.null, .null]))] s.heap.size) ([(h0, .inr (9, [.ref q_1, .ref q_2])), (q_1, .inl (cy 14, 65, .inl (ytab (q + 1)))), (q_2, .inl (cy 14, 65, .inl (ytab q)))]) := hD
      refine lv_aload_n hx hb dX9_init_64 rfl (lv_at hl 2 rfl) ?_
      refine va_get (D := D) (ci := 9) (v := .ref q_2) hx hb F.1.2.2.2.2 zc9.2.2.1 F.1.2.2.2.1 F.2.1 hP 0 rfl rfl 1 (by decide) (F.1.2.2.2.2 _ zf9_15) (fun _ h => h) rfl dX9_init_65 ?_
      refine lv_iload_n hx hb dX9_init_68 rfl (lv_at hl 3 rfl) ?_
      refine lv_aload_n hx hb dX9_init_69 rfl (lv_at hl 2 rfl) ?_
      refine va_get (D := D) (ci := 9) (v := .ref q_1) hx hb F.1.2.2.2.2 zc9.2.2.1 F.1.2.2.2.1 F.2.1 hP 0 rfl rfl 0 (by decide) (F.1.2.2.2.2 _ zf9_9) (fun _ h => h) rfl dX9_init_70 ?_
      refine lv_iload_n hx hb dX9_init_73 rfl (lv_at hl 3 rfl) ?_
      refine va_iald (D := D) hx hb F.2.1 hP 1 1 rfl rfl (i := nI q) (vp_in_nI h1 (by omega)) dX9_init_74 ?_
      rw [nI_clamp (by omega), ytab_at]
      refine va_iast (D := D) hx hb F.2.1 hP hD hS 2 1 rfl rfl (i := nI q) (x := yval q) (vp_in_nI h1 (by omega)) dX9_init_75 (fun H locs hP hD hS => ?_)
      rw [nI_clamp (by omega), ytab_s] at hP hD
      have hP : va_P D vwCl ([(h0, .inr (9, [.ref q_1, .ref q_2])), (q_1, .inl (cy 14, 65, .inl (ytab (q + 1)))), (q_2, .inl (cy 14, 65, .inl (ytab (q + 1))))]) H := hP
      have hD : va_D (va_A [(h0, .inr (9, [.null, .null]))] s.heap.size) ([(h0, .inr (9, [.ref q_1, .ref q_2])), (q_1, .inl (cy 14, 65, .inl (ytab (q + 1)))), (q_2, .inl (cy 14, 65, .inl (ytab (q + 1))))]) := hD
      refine lv_iinc (v := nI (q + 1)) (lv' := [(1, .int (nI (q + 1))), (4, .long (yprod q)), (2, .long (90 * (nI q).toInt64)), (0, .ref h0)]) hx hb dX9_init_76 hl (k := 3) rfl (nI_1 q) (by decide) rfl (fun ls hl => ?_)
      refine lv_goto (tgt := 22) hx hb dX9_init_79 (by decide) ?_
      exact ih (q + 1) _ _ _ (by omega) (lv_sub hl [3, 0] rfl) hP hD hS
  have hP : va_P D vwCl ([(h0, .inr (9, [.ref q_1, .ref q_2])), (q_1, .inl (cy 14, 65, .inl (ytab 0))), (q_2, .inl (cy 14, 65, .inl (ytab 0)))]) H := by rw [ytab_0]; exact hP
  have hD : va_D (va_A [(h0, .inr (9, [.null, .null]))] s.heap.size) ([(h0, .inr (9, [.ref q_1, .ref q_2])), (q_1, .inl (cy 14, 65, .inl (ytab 0))), (q_2, .inl (cy 14, 65, .inl (ytab 0)))]) := by rw [ytab_0]; exact hD
  exact L 65 0 _ _ _ rfl (lv_sub hl [1, 0] rfl) hP hD hS
