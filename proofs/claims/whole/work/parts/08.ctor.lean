def yprod (j : Nat) : Int64 := (90 * (nI j).toInt64) * (11520 - 90 * (nI j).toInt64)
def yval (j : Nat) : Int32 := (4000 * yprod j / (165888000 - yprod j)).toInt32
def ytab (q : Nat) : Nat → Int32 := fun j => if j < q then yval j else 0
theorem ytab_0 : ytab 0 = fun _ => 0 := by funext j; simp [ytab]
theorem ytab_s (q : Nat) : upd (ytab q) q (yval q) = ytab (q + 1) := by
  funext j
  unfold upd ytab
  by_cases h : j = q
  · subst h
    rw [if_pos rfl, if_pos (by omega)]
  · rw [if_neg h]
    by_cases h2 : j < q
    · rw [if_pos h2, if_pos (by omega)]
    · rw [if_neg h2, if_neg (by omega)]
theorem ytab_at (q : Nat) : ytab (q + 1) q = yval q := by simp [ytab]
theorem yprod_ne : ∀ j, j < 65 → ¬ (165888000 - yprod j) = 0 := by decide +kernel
theorem y64 : ∀ j, j < 65 → ¬ (64 : Int32) < nI j := by decide +kernel
theorem zf0_7 : Cond.fieldLink RX0 7 "MicroSteps$Axis" "speed" "I" ∈ AW := aw_t (i := 67) (by decide +kernel) rfl
theorem zf0_13 : Cond.fieldLink RX0 13 "MicroSteps$Axis" "gain" "I" ∈ AW := aw_t (i := 71) (by decide +kernel) rfl
theorem zf0_16 : Cond.fieldLink RX0 16 "MicroSteps$Axis" "jerk" "I" ∈ AW := aw_t (i := 75) (by decide +kernel) rfl
theorem zoi0_1 : Cond.methodLink RX0 1 objectInit ∈ AW := aw_t (i := 64) (by decide +kernel) rfl
theorem zoin : Cond.instanceMethod objectInit ∈ AW := aw_t (i := 27) (by decide +kernel) rfl
theorem zoic : Cond.code objectInit ⟨#[0xb1]⟩ 1 none ∈ AW := aw_t (i := 28) (by decide +kernel) rfl
theorem zoi2_1 : Cond.methodLink RX2 1 objectInit ∈ AW := aw_t (i := 414) (by decide +kernel) rfl
theorem zoi5_3 : Cond.methodLink RX5 3 objectInit ∈ AW := aw_t (i := 245) (by decide +kernel) rfl
theorem zac_int : Cond.arrayClass .int ∈ AW := aw_t (i := 59) (by decide +kernel) rfl
theorem zoi7_3 : Cond.methodLink RX7 3 objectInit ∈ AW := aw_t (i := 302) (by decide +kernel) rfl
theorem zoi10_3 : Cond.methodLink RX10 3 objectInit ∈ AW := aw_t (i := 179) (by decide +kernel) rfl
theorem zac_byte : Cond.arrayClass .byte ∈ AW := aw_t (i := 189) (by decide +kernel) rfl
theorem zoi4_3 : Cond.methodLink RX4 3 objectInit ∈ AW := aw_t (i := 239) (by decide +kernel) rfl
theorem zcl4_18 : Cond.classLink RX4 18 RX5 ∈ AW := aw_t (i := 240) (by decide +kernel) rfl
theorem zin_5 : Cond.instantiable RX5 2 ∈ AW := aw_t (i := 241) (by decide +kernel) rfl
theorem zit_5 : Cond.initialized RX5 ∈ AW := aw_t (i := 9) (by decide +kernel) rfl
theorem zyX5_init : yMth yX5_init cX5_init 1 0 := ⟨aw_t (i := 243) (by decide +kernel) rfl, rfl, aw_t (i := 9) (by decide +kernel) rfl, aw_t (i := 244) (by decide +kernel) rfl, by decide +kernel⟩
theorem zoi8_3 : Cond.methodLink RX8 3 objectInit ∈ AW := aw_t (i := 231) (by decide +kernel) rfl
theorem zcl8_9 : Cond.classLink RX8 9 RX7 ∈ AW := aw_t (i := 232) (by decide +kernel) rfl
theorem zcl8_17 : Cond.classLink RX8 17 RX4 ∈ AW := aw_t (i := 234) (by decide +kernel) rfl
theorem zin_4 : Cond.instantiable RX4 10 ∈ AW := aw_t (i := 235) (by decide +kernel) rfl
theorem zit_4 : Cond.initialized RX4 ∈ AW := aw_t (i := 8) (by decide +kernel) rfl
theorem zyX4_init : yMth yX4_init cX4_init 1 0 := ⟨aw_t (i := 237) (by decide +kernel) rfl, rfl, aw_t (i := 8) (by decide +kernel) rfl, aw_t (i := 238) (by decide +kernel) rfl, by decide +kernel⟩
theorem zin_7 : Cond.instantiable RX7 6 ∈ AW := aw_t (i := 298) (by decide +kernel) rfl
theorem zit_7 : Cond.initialized RX7 ∈ AW := aw_t (i := 10) (by decide +kernel) rfl
theorem zyX7_init : yMth yX7_init cX7_init 1 0 := ⟨aw_t (i := 300) (by decide +kernel) rfl, rfl, aw_t (i := 10) (by decide +kernel) rfl, aw_t (i := 301) (by decide +kernel) rfl, by decide +kernel⟩
theorem zoi6_3 : Cond.methodLink RX6 3 objectInit ∈ AW := aw_t (i := 195) (by decide +kernel) rfl
theorem zoi9_3 : Cond.methodLink RX9 3 objectInit ∈ AW := aw_t (i := 42) (by decide +kernel) rfl
theorem zi9_18 : Cond.constantLong RX9 18 90 ∈ AW := aw_t (i := 43) (by decide +kernel) rfl
theorem zi9_20 : Cond.constantLong RX9 20 11520 ∈ AW := aw_t (i := 44) (by decide +kernel) rfl
theorem zi9_22 : Cond.constantLong RX9 22 4000 ∈ AW := aw_t (i := 45) (by decide +kernel) rfl
theorem zi9_24 : Cond.constantLong RX9 24 165888000 ∈ AW := aw_t (i := 46) (by decide +kernel) rfl
theorem zoi1_3 : Cond.methodLink RX1 3 objectInit ∈ AW := aw_t (i := 34) (by decide +kernel) rfl
theorem zcl1_9 : Cond.classLink RX1 9 RX0 ∈ AW := aw_t (i := 35) (by decide +kernel) rfl
theorem zcl1_27 : Cond.classLink RX1 27 RX9 ∈ AW := aw_t (i := 37) (by decide +kernel) rfl
theorem zin_9 : Cond.instantiable RX9 2 ∈ AW := aw_t (i := 38) (by decide +kernel) rfl
theorem zit_9 : Cond.initialized RX9 ∈ AW := aw_t (i := 3) (by decide +kernel) rfl
theorem zyX9_init : yMth yX9_init cX9_init 6 0 := ⟨aw_t (i := 40) (by decide +kernel) rfl, rfl, aw_t (i := 3) (by decide +kernel) rfl, aw_t (i := 41) (by decide +kernel) rfl, by decide +kernel⟩
theorem zkk1_29 : Cond.methodLink RX1 29 yX9_init ∈ AW := aw_t (i := 39) (by decide +kernel) rfl
theorem zac_boolean : Cond.arrayClass .boolean ∈ AW := aw_t (i := 110) (by decide +kernel) rfl
theorem zin_0 : Cond.instantiable RX0 8 ∈ AW := aw_t (i := 60) (by decide +kernel) rfl
theorem zit_0 : Cond.initialized RX0 ∈ AW := aw_t (i := 4) (by decide +kernel) rfl
theorem zyX0_init : yMth yX0_init cX0_init 1 0 := ⟨aw_t (i := 62) (by decide +kernel) rfl, rfl, aw_t (i := 4) (by decide +kernel) rfl, aw_t (i := 63) (by decide +kernel) rfl, by decide +kernel⟩
theorem zoi12_1 : Cond.methodLink RX12 1 objectInit ∈ AW := aw_t (i := 1114) (by decide +kernel) rfl
theorem zac_long : Cond.arrayClass .long ∈ AW := aw_t (i := 1273) (by decide +kernel) rfl
theorem zi12_76 : Cond.constantLong RX12 76 90 ∈ AW := aw_t (i := 1115) (by decide +kernel) rfl
theorem zi12_78 : Cond.constantLong RX12 78 11520 ∈ AW := aw_t (i := 1116) (by decide +kernel) rfl
theorem zi12_80 : Cond.constantLong RX12 80 4000 ∈ AW := aw_t (i := 1117) (by decide +kernel) rfl
theorem zi12_82 : Cond.constantLong RX12 82 165888000 ∈ AW := aw_t (i := 1118) (by decide +kernel) rfl
theorem zoi3_3 : Cond.methodLink RX3 3 objectInit ∈ AW := aw_t (i := 388) (by decide +kernel) rfl
theorem zcl3_9 : Cond.classLink RX3 9 RX8 ∈ AW := aw_t (i := 389) (by decide +kernel) rfl
theorem zin_8 : Cond.instantiable RX8 13 ∈ AW := aw_t (i := 227) (by decide +kernel) rfl
theorem zit_8 : Cond.initialized RX8 ∈ AW := aw_t (i := 7) (by decide +kernel) rfl
theorem zyX8_init : yMth yX8_init cX8_init 2 0 := ⟨aw_t (i := 229) (by decide +kernel) rfl, rfl, aw_t (i := 7) (by decide +kernel) rfl, aw_t (i := 230) (by decide +kernel) rfl, by decide +kernel⟩
theorem zkk3_17 : Cond.methodLink RX3 17 yX8_init ∈ AW := aw_t (i := 391) (by decide +kernel) rfl
theorem zoi11_3 : Cond.methodLink RX11 3 objectInit ∈ AW := aw_t (i := 26) (by decide +kernel) rfl
theorem zcl11_9 : Cond.classLink RX11 9 RX1 ∈ AW := aw_t (i := 29) (by decide +kernel) rfl
theorem zin_1 : Cond.instantiable RX1 12 ∈ AW := aw_t (i := 30) (by decide +kernel) rfl
theorem zit_1 : Cond.initialized RX1 ∈ AW := aw_t (i := 2) (by decide +kernel) rfl
theorem zyX1_init : yMth yX1_init cX1_init 2 0 := ⟨aw_t (i := 32) (by decide +kernel) rfl, rfl, aw_t (i := 2) (by decide +kernel) rfl, aw_t (i := 33) (by decide +kernel) rfl, by decide +kernel⟩
theorem zkk11_11 : Cond.methodLink RX11 11 yX1_init ∈ AW := aw_t (i := 31) (by decide +kernel) rfl
theorem zcl11_21 : Cond.classLink RX11 21 RX10 ∈ AW := aw_t (i := 174) (by decide +kernel) rfl
theorem zin_10 : Cond.instantiable RX10 2 ∈ AW := aw_t (i := 175) (by decide +kernel) rfl
theorem zit_10 : Cond.initialized RX10 ∈ AW := aw_t (i := 5) (by decide +kernel) rfl
theorem zyX10_init : yMth yX10_init cX10_init 1 0 := ⟨aw_t (i := 177) (by decide +kernel) rfl, rfl, aw_t (i := 5) (by decide +kernel) rfl, aw_t (i := 178) (by decide +kernel) rfl, by decide +kernel⟩
theorem zcl11_28 : Cond.classLink RX11 28 RX6 ∈ AW := aw_t (i := 190) (by decide +kernel) rfl
theorem zin_6 : Cond.instantiable RX6 9 ∈ AW := aw_t (i := 191) (by decide +kernel) rfl
theorem zit_6 : Cond.initialized RX6 ∈ AW := aw_t (i := 6) (by decide +kernel) rfl
theorem zyX6_init : yMth yX6_init cX6_init 3 2 := ⟨aw_t (i := 193) (by decide +kernel) rfl, rfl, aw_t (i := 6) (by decide +kernel) rfl, aw_t (i := 194) (by decide +kernel) rfl, by decide +kernel⟩
theorem zkk11_30 : Cond.methodLink RX11 30 yX6_init ∈ AW := aw_t (i := 192) (by decide +kernel) rfl
theorem zcl11_37 : Cond.classLink RX11 37 RX8 ∈ AW := aw_t (i := 226) (by decide +kernel) rfl
theorem zkk11_39 : Cond.methodLink RX11 39 yX8_init ∈ AW := aw_t (i := 228) (by decide +kernel) rfl
theorem zcl11_47 : Cond.classLink RX11 47 RX3 ∈ AW := aw_t (i := 383) (by decide +kernel) rfl
theorem zin_3 : Cond.instantiable RX3 3 ∈ AW := aw_t (i := 384) (by decide +kernel) rfl
theorem zit_3 : Cond.initialized RX3 ∈ AW := aw_t (i := 11) (by decide +kernel) rfl
theorem zyX3_init : yMth yX3_init cX3_init 2 0 := ⟨aw_t (i := 386) (by decide +kernel) rfl, rfl, aw_t (i := 11) (by decide +kernel) rfl, aw_t (i := 387) (by decide +kernel) rfl, by decide +kernel⟩
theorem zkk11_49 : Cond.methodLink RX11 49 yX3_init ∈ AW := aw_t (i := 385) (by decide +kernel) rfl
theorem zcl11_54 : Cond.classLink RX11 54 RX4 ∈ AW := aw_t (i := 403) (by decide +kernel) rfl
theorem zcl11_61 : Cond.classLink RX11 61 RX5 ∈ AW := aw_t (i := 405) (by decide +kernel) rfl
theorem zcl11_68 : Cond.classLink RX11 68 RX7 ∈ AW := aw_t (i := 407) (by decide +kernel) rfl
theorem zcl11_75 : Cond.classLink RX11 75 RX2 ∈ AW := aw_t (i := 409) (by decide +kernel) rfl
theorem zin_2 : Cond.instantiable RX2 5 ∈ AW := aw_t (i := 410) (by decide +kernel) rfl
theorem zit_2 : Cond.initialized RX2 ∈ AW := aw_t (i := 12) (by decide +kernel) rfl
theorem zyX2_init : yMth yX2_init cX2_init 1 0 := ⟨aw_t (i := 412) (by decide +kernel) rfl, rfl, aw_t (i := 12) (by decide +kernel) rfl, aw_t (i := 413) (by decide +kernel) rfl, by decide +kernel⟩
theorem dX0_init_0 : decode cX0_init 0 = .ok (.aload_n 0, 1) := by decide +kernel
theorem dX0_init_1 : decode cX0_init 1 = .ok (.invokespecial 1, 3) := by decide +kernel
theorem dX0_init_4 : decode cX0_init 4 = .ok (.aload_n 0, 1) := by decide +kernel
theorem dX0_init_5 : decode cX0_init 5 = .ok (.iconst 1, 1) := by decide +kernel
theorem dX0_init_6 : decode cX0_init 6 = .ok (.putfield 7, 3) := by decide +kernel
theorem dX0_init_9 : decode cX0_init 9 = .ok (.aload_n 0, 1) := by decide +kernel
theorem dX0_init_10 : decode cX0_init 10 = .ok (.iconst 1, 1) := by decide +kernel
theorem dX0_init_11 : decode cX0_init 11 = .ok (.putfield 13, 3) := by decide +kernel
theorem dX0_init_14 : decode cX0_init 14 = .ok (.aload_n 0, 1) := by decide +kernel
theorem dX0_init_15 : decode cX0_init 15 = .ok (.iconst 1, 1) := by decide +kernel
theorem dX0_init_16 : decode cX0_init 16 = .ok (.putfield 16, 3) := by decide +kernel
theorem dX0_init_19 : decode cX0_init 19 = .ok (.aload_n 0, 1) := by decide +kernel
theorem dX0_init_20 : decode cX0_init 20 = .ok (.iconst 1, 1) := by decide +kernel
theorem dX0_init_21 : decode cX0_init 21 = .ok (.putfield 19, 3) := by decide +kernel
theorem dX0_init_24 : decode cX0_init 24 = .ok (.return_, 1) := by decide +kernel
theorem dX2_init_0 : decode cX2_init 0 = .ok (.aload_n 0, 1) := by decide +kernel
theorem dX2_init_1 : decode cX2_init 1 = .ok (.invokespecial 1, 3) := by decide +kernel
theorem dX2_init_4 : decode cX2_init 4 = .ok (.return_, 1) := by decide +kernel
theorem dX5_init_0 : decode cX5_init 0 = .ok (.aload_n 0, 1) := by decide +kernel
theorem dX5_init_1 : decode cX5_init 1 = .ok (.invokespecial 3, 3) := by decide +kernel
theorem dX5_init_4 : decode cX5_init 4 = .ok (.aload_n 0, 1) := by decide +kernel
theorem dX5_init_5 : decode cX5_init 5 = .ok (.bipush 61, 2) := by decide +kernel
theorem dX5_init_7 : decode cX5_init 7 = .ok (.newarray .int, 2) := by decide +kernel
theorem dX5_init_9 : decode cX5_init 9 = .ok (.putfield 9, 3) := by decide +kernel
theorem dX5_init_12 : decode cX5_init 12 = .ok (.return_, 1) := by decide +kernel
theorem dX7_init_0 : decode cX7_init 0 = .ok (.aload_n 0, 1) := by decide +kernel
theorem dX7_init_1 : decode cX7_init 1 = .ok (.invokespecial 3, 3) := by decide +kernel
theorem dX7_init_4 : decode cX7_init 4 = .ok (.return_, 1) := by decide +kernel
theorem dX10_init_0 : decode cX10_init 0 = .ok (.aload_n 0, 1) := by decide +kernel
theorem dX10_init_1 : decode cX10_init 1 = .ok (.invokespecial 3, 3) := by decide +kernel
theorem dX10_init_4 : decode cX10_init 4 = .ok (.aload_n 0, 1) := by decide +kernel
theorem dX10_init_5 : decode cX10_init 5 = .ok (.sipush 900, 3) := by decide +kernel
theorem dX10_init_8 : decode cX10_init 8 = .ok (.newarray .byte, 2) := by decide +kernel
theorem dX10_init_10 : decode cX10_init 10 = .ok (.putfield 9, 3) := by decide +kernel
theorem dX10_init_13 : decode cX10_init 13 = .ok (.return_, 1) := by decide +kernel
theorem dX4_init_0 : decode cX4_init 0 = .ok (.aload_n 0, 1) := by decide +kernel
theorem dX4_init_1 : decode cX4_init 1 = .ok (.invokespecial 3, 3) := by decide +kernel
theorem dX4_init_4 : decode cX4_init 4 = .ok (.aload_n 0, 1) := by decide +kernel
theorem dX4_init_5 : decode cX4_init 5 = .ok (.iconst 3, 1) := by decide +kernel
theorem dX4_init_6 : decode cX4_init 6 = .ok (.newarray .int, 2) := by decide +kernel
theorem dX4_init_8 : decode cX4_init 8 = .ok (.putfield 9, 3) := by decide +kernel
theorem dX4_init_11 : decode cX4_init 11 = .ok (.aload_n 0, 1) := by decide +kernel
theorem dX4_init_12 : decode cX4_init 12 = .ok (.iconst 3, 1) := by decide +kernel
theorem dX4_init_13 : decode cX4_init 13 = .ok (.newarray .int, 2) := by decide +kernel
theorem dX4_init_15 : decode cX4_init 15 = .ok (.putfield 15, 3) := by decide +kernel
theorem dX4_init_18 : decode cX4_init 18 = .ok (.aload_n 0, 1) := by decide +kernel
theorem dX4_init_19 : decode cX4_init 19 = .ok (.new 18, 3) := by decide +kernel
theorem dX4_init_22 : decode cX4_init 22 = .ok (.dup, 1) := by decide +kernel
theorem dX4_init_23 : decode cX4_init 23 = .ok (.invokespecial 20, 3) := by decide +kernel
theorem dX4_init_26 : decode cX4_init 26 = .ok (.putfield 21, 3) := by decide +kernel
theorem dX4_init_29 : decode cX4_init 29 = .ok (.return_, 1) := by decide +kernel
theorem dX8_init_0 : decode cX8_init 0 = .ok (.aload_n 0, 1) := by decide +kernel
theorem dX8_init_1 : decode cX8_init 1 = .ok (.invokespecial 3, 3) := by decide +kernel
theorem dX8_init_4 : decode cX8_init 4 = .ok (.aload_n 0, 1) := by decide +kernel
theorem dX8_init_5 : decode cX8_init 5 = .ok (.iconst 3, 1) := by decide +kernel
theorem dX8_init_6 : decode cX8_init 6 = .ok (.anewarray 9, 3) := by decide +kernel
theorem dX8_init_9 : decode cX8_init 9 = .ok (.putfield 11, 3) := by decide +kernel
theorem dX8_init_12 : decode cX8_init 12 = .ok (.aload_n 0, 1) := by decide +kernel
theorem dX8_init_13 : decode cX8_init 13 = .ok (.new 17, 3) := by decide +kernel
theorem dX8_init_16 : decode cX8_init 16 = .ok (.dup, 1) := by decide +kernel
theorem dX8_init_17 : decode cX8_init 17 = .ok (.invokespecial 19, 3) := by decide +kernel
theorem dX8_init_20 : decode cX8_init 20 = .ok (.putfield 20, 3) := by decide +kernel
theorem dX8_init_23 : decode cX8_init 23 = .ok (.aload_n 0, 1) := by decide +kernel
theorem dX8_init_24 : decode cX8_init 24 = .ok (.bipush 24, 2) := by decide +kernel
theorem dX8_init_26 : decode cX8_init 26 = .ok (.newarray .int, 2) := by decide +kernel
theorem dX8_init_28 : decode cX8_init 28 = .ok (.putfield 24, 3) := by decide +kernel
theorem dX8_init_31 : decode cX8_init 31 = .ok (.aload_n 0, 1) := by decide +kernel
theorem dX8_init_32 : decode cX8_init 32 = .ok (.iconst 3, 1) := by decide +kernel
theorem dX8_init_33 : decode cX8_init 33 = .ok (.newarray .int, 2) := by decide +kernel
theorem dX8_init_35 : decode cX8_init 35 = .ok (.putfield 28, 3) := by decide +kernel
theorem dX8_init_38 : decode cX8_init 38 = .ok (.aload_n 0, 1) := by decide +kernel
theorem dX8_init_39 : decode cX8_init 39 = .ok (.iconst (-1), 1) := by decide +kernel
theorem dX8_init_40 : decode cX8_init 40 = .ok (.putfield 31, 3) := by decide +kernel
theorem dX8_init_43 : decode cX8_init 43 = .ok (.iconst 0, 1) := by decide +kernel
theorem dX8_init_44 : decode cX8_init 44 = .ok (.istore_n 1, 1) := by decide +kernel
theorem dX8_init_45 : decode cX8_init 45 = .ok (.iload_n 1, 1) := by decide +kernel
theorem dX8_init_46 : decode cX8_init 46 = .ok (.aload_n 0, 1) := by decide +kernel
theorem dX8_init_47 : decode cX8_init 47 = .ok (.getfield 11, 3) := by decide +kernel
theorem dX8_init_50 : decode cX8_init 50 = .ok (.arraylength, 1) := by decide +kernel
theorem dX8_init_51 : decode cX8_init 51 = .ok (.if_icmp .ge 22, 3) := by decide +kernel
theorem dX8_init_54 : decode cX8_init 54 = .ok (.aload_n 0, 1) := by decide +kernel
theorem dX8_init_55 : decode cX8_init 55 = .ok (.getfield 11, 3) := by decide +kernel
theorem dX8_init_58 : decode cX8_init 58 = .ok (.iload_n 1, 1) := by decide +kernel
theorem dX8_init_59 : decode cX8_init 59 = .ok (.new 9, 3) := by decide +kernel
theorem dX8_init_62 : decode cX8_init 62 = .ok (.dup, 1) := by decide +kernel
theorem dX8_init_63 : decode cX8_init 63 = .ok (.invokespecial 35, 3) := by decide +kernel
theorem dX8_init_66 : decode cX8_init 66 = .ok (.aastore, 1) := by decide +kernel
theorem dX8_init_67 : decode cX8_init 67 = .ok (.iinc 1 1, 3) := by decide +kernel
theorem dX8_init_70 : decode cX8_init 70 = .ok (.goto (-25), 3) := by decide +kernel
theorem dX8_init_73 : decode cX8_init 73 = .ok (.return_, 1) := by decide +kernel
theorem dX6_init_0 : decode cX6_init 0 = .ok (.aload_n 0, 1) := by decide +kernel
theorem dX6_init_1 : decode cX6_init 1 = .ok (.invokespecial 3, 3) := by decide +kernel
theorem dX6_init_4 : decode cX6_init 4 = .ok (.aload_n 0, 1) := by decide +kernel
theorem dX6_init_5 : decode cX6_init 5 = .ok (.iconst (-1), 1) := by decide +kernel
theorem dX6_init_6 : decode cX6_init 6 = .ok (.putfield 9, 3) := by decide +kernel
theorem dX6_init_9 : decode cX6_init 9 = .ok (.aload_n 0, 1) := by decide +kernel
theorem dX6_init_10 : decode cX6_init 10 = .ok (.aload_n 1, 1) := by decide +kernel
theorem dX6_init_11 : decode cX6_init 11 = .ok (.putfield 15, 3) := by decide +kernel
theorem dX6_init_14 : decode cX6_init 14 = .ok (.aload_n 0, 1) := by decide +kernel
theorem dX6_init_15 : decode cX6_init 15 = .ok (.aload_n 2, 1) := by decide +kernel
theorem dX6_init_16 : decode cX6_init 16 = .ok (.putfield 19, 3) := by decide +kernel
theorem dX6_init_19 : decode cX6_init 19 = .ok (.return_, 1) := by decide +kernel
abbrev ylX0_init (cy : Nat → ClassId) (h0 : Nat)  (a : Nat → Nat) : va_W := [(h0, .inr (0, [.int 0, .int 1, .int 1, .int 1, .int 0, .int 1, .int 0, .int 0]))]
set_option maxHeartbeats 4000000 in
set_option maxRecDepth 100000 in
theorem ztX0_init (l : Launch) (D : va_G) (cy : Nat → ClassId) (h0 : Nat)  : yC l yX0_init cX0_init 1 { frames := 1, cells := 0, slots := 0, locals := 20 } [.ref h0] D cy [(h0, .inr (0, [.int 0, .int 0, .int 0, .int 0, .int 0, .int 0, .int 0, .int 0]))] (fun a => ylX0_init cy h0 a) 0 0 := by
  refine y_of (plainFor_of_name (by decide)) rfl (Nat.le_of_ble_eq_true rfl) (fun p e s m below meth c ls F hN hin hr hlk hl hP hD => ?_)
  have hx := F.1.1
  have hb := F.1.2.1
  have hl : lv_has ls 1 [(0, .ref h0)] := hl
  have hS : va_S (va_A [(h0, .inr (0, [.int 0, .int 0, .int 0, .int 0, .int 0, .int 0, .int 0, .int 0]))] s.heap.size) s.heap s.heap [] := va_S.rf
  have hA : ∀ q : Nat, s.heap.size ≤ q → va_A [(h0, .inr (0, [.int 0, .int 0, .int 0, .int 0, .int 0, .int 0, .int 0, .int 0]))] s.heap.size q := fun q h => Or.inr h
  refine lv_aload_n hx hb dX0_init_0 rfl (lv_at hl 0 rfl) ?_
  refine W.objInit hx hb F.1.2.2.2.1 (F.1.2.2.2.2 _ zoi0_1) (F.1.2.2.2.2 _ zoin) (F.1.2.2.2.2 _ zoic) rfl (by rw [F.1.2.2.1]; exact hl.1) rfl dX0_init_1 (Nat.le_of_ble_eq_true rfl) (Nat.le_of_ble_eq_true rfl) ?_
  refine W.eq (g2 := F0 m 4 ls []) rfl ?_
  refine lv_aload_n hx hb dX0_init_4 rfl (lv_at hl 0 rfl) ?_
  refine lv_iconst (v := (1 : Int32)) hx hb dX0_init_5 (by decide) ?_
  refine va_put (D := D) (ci := 0) (v := .int 1) hx hb F.1.2.2.2.2 zc0.2.2.1 tyX0 tyX0_ok nmX0 F.1.2.2.2.1 F.2.1 hP hD hS 0 rfl rfl 1 (by decide) (F.1.2.2.2.2 _ zf0_7) (fun _ h => h) rfl (tyX0_ok 1 (by decide)) rfl rfl (Nat.le_of_ble_eq_true rfl) dX0_init_6 (fun H locs hP hD hS => ?_)
  have hP : va_P D vwCl ([(h0, .inr (0, [.int 0, .int 1, .int 0, .int 0, .int 0, .int 0, .int 0, .int 0]))]) H := hP
  have hD : va_D (va_A [(h0, .inr (0, [.int 0, .int 0, .int 0, .int 0, .int 0, .int 0, .int 0, .int 0]))] s.heap.size) ([(h0, .inr (0, [.int 0, .int 1, .int 0, .int 0, .int 0, .int 0, .int 0, .int 0]))]) := hD
  refine lv_aload_n hx hb dX0_init_9 rfl (lv_at hl 0 rfl) ?_
  refine lv_iconst (v := (1 : Int32)) hx hb dX0_init_10 (by decide) ?_
  refine va_put (D := D) (ci := 0) (v := .int 1) hx hb F.1.2.2.2.2 zc0.2.2.1 tyX0 tyX0_ok nmX0 F.1.2.2.2.1 F.2.1 hP hD hS 0 rfl rfl 2 (by decide) (F.1.2.2.2.2 _ zf0_13) (fun _ h => h) rfl (tyX0_ok 2 (by decide)) rfl rfl (Nat.le_of_ble_eq_true rfl) dX0_init_11 (fun H locs hP hD hS => ?_)
  have hP : va_P D vwCl ([(h0, .inr (0, [.int 0, .int 1, .int 1, .int 0, .int 0, .int 0, .int 0, .int 0]))]) H := hP
  have hD : va_D (va_A [(h0, .inr (0, [.int 0, .int 0, .int 0, .int 0, .int 0, .int 0, .int 0, .int 0]))] s.heap.size) ([(h0, .inr (0, [.int 0, .int 1, .int 1, .int 0, .int 0, .int 0, .int 0, .int 0]))]) := hD
  refine lv_aload_n hx hb dX0_init_14 rfl (lv_at hl 0 rfl) ?_
  refine lv_iconst (v := (1 : Int32)) hx hb dX0_init_15 (by decide) ?_
  refine va_put (D := D) (ci := 0) (v := .int 1) hx hb F.1.2.2.2.2 zc0.2.2.1 tyX0 tyX0_ok nmX0 F.1.2.2.2.1 F.2.1 hP hD hS 0 rfl rfl 3 (by decide) (F.1.2.2.2.2 _ zf0_16) (fun _ h => h) rfl (tyX0_ok 3 (by decide)) rfl rfl (Nat.le_of_ble_eq_true rfl) dX0_init_16 (fun H locs hP hD hS => ?_)
  have hP : va_P D vwCl ([(h0, .inr (0, [.int 0, .int 1, .int 1, .int 1, .int 0, .int 0, .int 0, .int 0]))]) H := hP
  have hD : va_D (va_A [(h0, .inr (0, [.int 0, .int 0, .int 0, .int 0, .int 0, .int 0, .int 0, .int 0]))] s.heap.size) ([(h0, .inr (0, [.int 0, .int 1, .int 1, .int 1, .int 0, .int 0, .int 0, .int 0]))]) := hD
  refine lv_aload_n hx hb dX0_init_19 rfl (lv_at hl 0 rfl) ?_
  refine lv_iconst (v := (1 : Int32)) hx hb dX0_init_20 (by decide) ?_
  refine va_put (D := D) (ci := 0) (v := .int 1) hx hb F.1.2.2.2.2 zc0.2.2.1 tyX0 tyX0_ok nmX0 F.1.2.2.2.1 F.2.1 hP hD hS 0 rfl rfl 5 (by decide) (F.1.2.2.2.2 _ zf0_19) (fun _ h => h) rfl (tyX0_ok 5 (by decide)) rfl rfl (Nat.le_of_ble_eq_true rfl) dX0_init_21 (fun H locs hP hD hS => ?_)
  have hP : va_P D vwCl ([(h0, .inr (0, [.int 0, .int 1, .int 1, .int 1, .int 0, .int 1, .int 0, .int 0]))]) H := hP
  have hD : va_D (va_A [(h0, .inr (0, [.int 0, .int 0, .int 0, .int 0, .int 0, .int 0, .int 0, .int 0]))] s.heap.size) ([(h0, .inr (0, [.int 0, .int 1, .int 1, .int 1, .int 0, .int 1, .int 0, .int 0]))]) := hD
  exact y_ret (post := (fun a => ylX0_init cy h0 a)) F hr hlk (fun i => ([h0] : List Nat).getD i 0) hP hD hS dX0_init_24

abbrev ylX2_init (cy : Nat → ClassId) (h0 : Nat)  (a : Nat → Nat) : va_W := [(h0, .inr (2, [.int 0, .int 0, .int 0, .int 0, .int 0]))]
set_option maxHeartbeats 4000000 in
set_option maxRecDepth 100000 in
theorem ztX2_init (l : Launch) (D : va_G) (cy : Nat → ClassId) (h0 : Nat)  : yC l yX2_init cX2_init 1 { frames := 1, cells := 0, slots := 0, locals := 20 } [.ref h0] D cy [(h0, .inr (2, [.int 0, .int 0, .int 0, .int 0, .int 0]))] (fun a => ylX2_init cy h0 a) 0 0 := by
  refine y_of (plainFor_of_name (by decide)) rfl (Nat.le_of_ble_eq_true rfl) (fun p e s m below meth c ls F hN hin hr hlk hl hP hD => ?_)
  have hx := F.1.1
  have hb := F.1.2.1
  have hl : lv_has ls 1 [(0, .ref h0)] := hl
  have hS : va_S (va_A [(h0, .inr (2, [.int 0, .int 0, .int 0, .int 0, .int 0]))] s.heap.size) s.heap s.heap [] := va_S.rf
  have hA : ∀ q : Nat, s.heap.size ≤ q → va_A [(h0, .inr (2, [.int 0, .int 0, .int 0, .int 0, .int 0]))] s.heap.size q := fun q h => Or.inr h
  refine lv_aload_n hx hb dX2_init_0 rfl (lv_at hl 0 rfl) ?_
  refine W.objInit hx hb F.1.2.2.2.1 (F.1.2.2.2.2 _ zoi2_1) (F.1.2.2.2.2 _ zoin) (F.1.2.2.2.2 _ zoic) rfl (by rw [F.1.2.2.1]; exact hl.1) rfl dX2_init_1 (Nat.le_of_ble_eq_true rfl) (Nat.le_of_ble_eq_true rfl) ?_
  refine W.eq (g2 := F0 m 4 ls []) rfl ?_
  exact y_ret (post := (fun a => ylX2_init cy h0 a)) F hr hlk (fun i => ([h0] : List Nat).getD i 0) hP hD hS dX2_init_4

abbrev ylX5_init (cy : Nat → ClassId) (h0 : Nat)  (a : Nat → Nat) : va_W := [(h0, .inr (5, [.ref (a 1), .int 0])), ((a 1), .inl (cy 14, 61, .inl (fun _ => 0)))]
set_option maxHeartbeats 4000000 in
set_option maxRecDepth 100000 in
theorem ztX5_init (l : Launch) (D : va_G) (cy : Nat → ClassId) (h0 : Nat)  : yC l yX5_init cX5_init 1 { frames := 1, cells := 1, slots := 61, locals := 20 } [.ref h0] D cy [(h0, .inr (5, [.null, .int 0]))] (fun a => ylX5_init cy h0 a) 1 61 := by
  refine y_of (plainFor_of_name (by decide)) rfl (Nat.le_of_ble_eq_true rfl) (fun p e s m below meth c ls F hN hin hr hlk hl hP hD => ?_)
  have hx := F.1.1
  have hb := F.1.2.1
  have hl : lv_has ls 1 [(0, .ref h0)] := hl
  have hS : va_S (va_A [(h0, .inr (5, [.null, .int 0]))] s.heap.size) s.heap s.heap [] := va_S.rf
  have hA : ∀ q : Nat, s.heap.size ≤ q → va_A [(h0, .inr (5, [.null, .int 0]))] s.heap.size q := fun q h => Or.inr h
  refine lv_aload_n hx hb dX5_init_0 rfl (lv_at hl 0 rfl) ?_
  refine W.objInit hx hb F.1.2.2.2.1 (F.1.2.2.2.2 _ zoi5_3) (F.1.2.2.2.2 _ zoin) (F.1.2.2.2.2 _ zoic) rfl (by rw [F.1.2.2.1]; exact hl.1) rfl dX5_init_1 (Nat.le_of_ble_eq_true rfl) (Nat.le_of_ble_eq_true rfl) ?_
  refine W.eq (g2 := F0 m 4 ls []) rfl ?_
  refine lv_aload_n hx hb dX5_init_4 rfl (lv_at hl 0 rfl) ?_
  refine lv_bipush (v := (61 : Int32)) hx hb dX5_init_5 (by decide) ?_
  refine y_na F hP hD hS hA 1 (atype := .int) (ty := .int) rfl rfl (fun _ h => h) zac_int (a0 := (61, .inl (fun _ => 0))) (n := (61 : Int32)) (N := 61) (fun _ => rfl) (by decide) (by decide) (by decide) (Nat.le_of_ble_eq_true rfl) (Nat.le_of_ble_eq_true rfl) dX5_init_7 (fun q_1 H hP hD hS => ?_)
  have hP : va_P D vwCl ([(h0, .inr (5, [.null, .int 0])), (q_1, .inl (cy 14, 61, .inl (fun _ => 0)))]) H := hP
  have hD : va_D (va_A [(h0, .inr (5, [.null, .int 0]))] s.heap.size) ([(h0, .inr (5, [.null, .int 0])), (q_1, .inl (cy 14, 61, .inl (fun _ => 0)))]) := hD
  refine W.widen (k := 1) (n := 61) (Nat.le_of_ble_eq_true rfl) (Nat.le_of_ble_eq_true rfl) ?_
  refine va_putF (D := D) (ci := 5) (v := .ref q_1) hx hb F.1.2.2.2.2 zc5.2.2.1 tyX5 tyX5_ok nmX5 F.1.2.2.2.1 F.2.1 hP hD hS 0 rfl rfl 0 (by decide) (F.1.2.2.2.2 _ zf5_9) (fun _ h => h) rfl hin rfl (tyX5_ok 0 (by decide)) rfl rfl (Nat.le_of_ble_eq_true rfl) dX5_init_9 (fun H locs hP hD hS => ?_)
  have hP : va_P D vwCl ([(h0, .inr (5, [.ref q_1, .int 0])), (q_1, .inl (cy 14, 61, .inl (fun _ => 0)))]) H := hP
  have hD : va_D (va_A [(h0, .inr (5, [.null, .int 0]))] s.heap.size) ([(h0, .inr (5, [.ref q_1, .int 0])), (q_1, .inl (cy 14, 61, .inl (fun _ => 0)))]) := hD
  exact y_ret (post := (fun a => ylX5_init cy h0 a)) F hr hlk (fun i => ([h0, q_1] : List Nat).getD i 0) hP hD hS dX5_init_12

abbrev ylX7_init (cy : Nat → ClassId) (h0 : Nat)  (a : Nat → Nat) : va_W := [(h0, .inr (7, [.int 0, .int 0, .int 0, .int 0, .int 0, .int 0]))]
set_option maxHeartbeats 4000000 in
set_option maxRecDepth 100000 in
theorem ztX7_init (l : Launch) (D : va_G) (cy : Nat → ClassId) (h0 : Nat)  : yC l yX7_init cX7_init 1 { frames := 1, cells := 0, slots := 0, locals := 20 } [.ref h0] D cy [(h0, .inr (7, [.int 0, .int 0, .int 0, .int 0, .int 0, .int 0]))] (fun a => ylX7_init cy h0 a) 0 0 := by
  refine y_of (plainFor_of_name (by decide)) rfl (Nat.le_of_ble_eq_true rfl) (fun p e s m below meth c ls F hN hin hr hlk hl hP hD => ?_)
  have hx := F.1.1
  have hb := F.1.2.1
  have hl : lv_has ls 1 [(0, .ref h0)] := hl
  have hS : va_S (va_A [(h0, .inr (7, [.int 0, .int 0, .int 0, .int 0, .int 0, .int 0]))] s.heap.size) s.heap s.heap [] := va_S.rf
  have hA : ∀ q : Nat, s.heap.size ≤ q → va_A [(h0, .inr (7, [.int 0, .int 0, .int 0, .int 0, .int 0, .int 0]))] s.heap.size q := fun q h => Or.inr h
  refine lv_aload_n hx hb dX7_init_0 rfl (lv_at hl 0 rfl) ?_
  refine W.objInit hx hb F.1.2.2.2.1 (F.1.2.2.2.2 _ zoi7_3) (F.1.2.2.2.2 _ zoin) (F.1.2.2.2.2 _ zoic) rfl (by rw [F.1.2.2.1]; exact hl.1) rfl dX7_init_1 (Nat.le_of_ble_eq_true rfl) (Nat.le_of_ble_eq_true rfl) ?_
  refine W.eq (g2 := F0 m 4 ls []) rfl ?_
  exact y_ret (post := (fun a => ylX7_init cy h0 a)) F hr hlk (fun i => ([h0] : List Nat).getD i 0) hP hD hS dX7_init_4

abbrev ylX10_init (cy : Nat → ClassId) (h0 : Nat)  (a : Nat → Nat) : va_W := [(h0, .inr (10, [.ref (a 1), .int 0])), ((a 1), .inl (cy 13, 900, .inl (fun _ => 0)))]
set_option maxHeartbeats 4000000 in
set_option maxRecDepth 100000 in
theorem ztX10_init (l : Launch) (D : va_G) (cy : Nat → ClassId) (h0 : Nat)  : yC l yX10_init cX10_init 1 { frames := 1, cells := 1, slots := 900, locals := 20 } [.ref h0] D cy [(h0, .inr (10, [.null, .int 0]))] (fun a => ylX10_init cy h0 a) 1 900 := by
  refine y_of (plainFor_of_name (by decide)) rfl (Nat.le_of_ble_eq_true rfl) (fun p e s m below meth c ls F hN hin hr hlk hl hP hD => ?_)
  have hx := F.1.1
  have hb := F.1.2.1
  have hl : lv_has ls 1 [(0, .ref h0)] := hl
  have hS : va_S (va_A [(h0, .inr (10, [.null, .int 0]))] s.heap.size) s.heap s.heap [] := va_S.rf
  have hA : ∀ q : Nat, s.heap.size ≤ q → va_A [(h0, .inr (10, [.null, .int 0]))] s.heap.size q := fun q h => Or.inr h
  refine lv_aload_n hx hb dX10_init_0 rfl (lv_at hl 0 rfl) ?_
  refine W.objInit hx hb F.1.2.2.2.1 (F.1.2.2.2.2 _ zoi10_3) (F.1.2.2.2.2 _ zoin) (F.1.2.2.2.2 _ zoic) rfl (by rw [F.1.2.2.1]; exact hl.1) rfl dX10_init_1 (Nat.le_of_ble_eq_true rfl) (Nat.le_of_ble_eq_true rfl) ?_
  refine W.eq (g2 := F0 m 4 ls []) rfl ?_
  refine lv_aload_n hx hb dX10_init_4 rfl (lv_at hl 0 rfl) ?_
  refine lv_sipush (v := (900 : Int32)) hx hb dX10_init_5 (by decide) ?_
  refine y_na F hP hD hS hA 0 (atype := .byte) (ty := .byte) rfl rfl (fun _ h => h) zac_byte (a0 := (900, .inl (fun _ => 0))) (n := (900 : Int32)) (N := 900) (fun _ => rfl) (by decide) (by decide) (by decide) (Nat.le_of_ble_eq_true rfl) (Nat.le_of_ble_eq_true rfl) dX10_init_8 (fun q_1 H hP hD hS => ?_)
  have hP : va_P D vwCl ([(h0, .inr (10, [.null, .int 0])), (q_1, .inl (cy 13, 900, .inl (fun _ => 0)))]) H := hP
  have hD : va_D (va_A [(h0, .inr (10, [.null, .int 0]))] s.heap.size) ([(h0, .inr (10, [.null, .int 0])), (q_1, .inl (cy 13, 900, .inl (fun _ => 0)))]) := hD
  refine W.widen (k := 1) (n := 900) (Nat.le_of_ble_eq_true rfl) (Nat.le_of_ble_eq_true rfl) ?_
  refine va_putF (D := D) (ci := 10) (v := .ref q_1) hx hb F.1.2.2.2.2 zc10.2.2.1 tyX10 tyX10_ok nmX10 F.1.2.2.2.1 F.2.1 hP hD hS 0 rfl rfl 0 (by decide) (F.1.2.2.2.2 _ zf10_9) (fun _ h => h) rfl hin rfl (tyX10_ok 0 (by decide)) rfl rfl (Nat.le_of_ble_eq_true rfl) dX10_init_10 (fun H locs hP hD hS => ?_)
  have hP : va_P D vwCl ([(h0, .inr (10, [.ref q_1, .int 0])), (q_1, .inl (cy 13, 900, .inl (fun _ => 0)))]) H := hP
  have hD : va_D (va_A [(h0, .inr (10, [.null, .int 0]))] s.heap.size) ([(h0, .inr (10, [.ref q_1, .int 0])), (q_1, .inl (cy 13, 900, .inl (fun _ => 0)))]) := hD
  exact y_ret (post := (fun a => ylX10_init cy h0 a)) F hr hlk (fun i => ([h0, q_1] : List Nat).getD i 0) hP hD hS dX10_init_13

abbrev ylX4_init (cy : Nat → ClassId) (h0 : Nat)  (a : Nat → Nat) : va_W := [(h0, .inr (4, [.ref (a 1), .ref (a 2), .ref (a 3), .int 0, .int 0, .int 0, .int 0, .int 0, .int 0, .int 0])), ((a 1), .inl (cy 14, 3, .inl (fun _ => 0))), ((a 2), .inl (cy 14, 3, .inl (fun _ => 0))), ((a 3), .inr (5, [.ref (a 4), .int 0])), ((a 4), .inl (cy 14, 61, .inl (fun _ => 0)))]
set_option maxHeartbeats 4000000 in
set_option maxRecDepth 100000 in
theorem ztX4_init (l : Launch) (D : va_G) (cy : Nat → ClassId) (h0 : Nat)  : yC l yX4_init cX4_init 1 { frames := 2, cells := 4, slots := 69, locals := 40 } [.ref h0] D cy [(h0, .inr (4, [.null, .null, .null, .int 0, .int 0, .int 0, .int 0, .int 0, .int 0, .int 0]))] (fun a => ylX4_init cy h0 a) 4 69 := by
  refine y_of (plainFor_of_name (by decide)) rfl (Nat.le_of_ble_eq_true rfl) (fun p e s m below meth c ls F hN hin hr hlk hl hP hD => ?_)
  have hx := F.1.1
  have hb := F.1.2.1
  have hl : lv_has ls 1 [(0, .ref h0)] := hl
  have hS : va_S (va_A [(h0, .inr (4, [.null, .null, .null, .int 0, .int 0, .int 0, .int 0, .int 0, .int 0, .int 0]))] s.heap.size) s.heap s.heap [] := va_S.rf
  have hA : ∀ q : Nat, s.heap.size ≤ q → va_A [(h0, .inr (4, [.null, .null, .null, .int 0, .int 0, .int 0, .int 0, .int 0, .int 0, .int 0]))] s.heap.size q := fun q h => Or.inr h
  refine lv_aload_n hx hb dX4_init_0 rfl (lv_at hl 0 rfl) ?_
  refine W.objInit hx hb F.1.2.2.2.1 (F.1.2.2.2.2 _ zoi4_3) (F.1.2.2.2.2 _ zoin) (F.1.2.2.2.2 _ zoic) rfl (by rw [F.1.2.2.1]; exact hl.1) rfl dX4_init_1 (Nat.le_of_ble_eq_true rfl) (Nat.le_of_ble_eq_true rfl) ?_
  refine W.eq (g2 := F0 m 4 ls []) rfl ?_
  refine lv_aload_n hx hb dX4_init_4 rfl (lv_at hl 0 rfl) ?_
  refine lv_iconst (v := (3 : Int32)) hx hb dX4_init_5 (by decide) ?_
  refine y_na F hP hD hS hA 1 (atype := .int) (ty := .int) rfl rfl (fun _ h => h) zac_int (a0 := (3, .inl (fun _ => 0))) (n := (3 : Int32)) (N := 3) (fun _ => rfl) (by decide) (by decide) (by decide) (Nat.le_of_ble_eq_true rfl) (Nat.le_of_ble_eq_true rfl) dX4_init_6 (fun q_1 H hP hD hS => ?_)
  have hP : va_P D vwCl ([(h0, .inr (4, [.null, .null, .null, .int 0, .int 0, .int 0, .int 0, .int 0, .int 0, .int 0])), (q_1, .inl (cy 14, 3, .inl (fun _ => 0)))]) H := hP
  have hD : va_D (va_A [(h0, .inr (4, [.null, .null, .null, .int 0, .int 0, .int 0, .int 0, .int 0, .int 0, .int 0]))] s.heap.size) ([(h0, .inr (4, [.null, .null, .null, .int 0, .int 0, .int 0, .int 0, .int 0, .int 0, .int 0])), (q_1, .inl (cy 14, 3, .inl (fun _ => 0)))]) := hD
  refine W.widen (k := 1) (n := 3) (Nat.le_of_ble_eq_true rfl) (Nat.le_of_ble_eq_true rfl) ?_
  refine va_putF (D := D) (ci := 4) (v := .ref q_1) hx hb F.1.2.2.2.2 zc4.2.2.1 tyX4 tyX4_ok nmX4 F.1.2.2.2.1 F.2.1 hP hD hS 0 rfl rfl 0 (by decide) (F.1.2.2.2.2 _ zf4_9) (fun _ h => h) rfl hin rfl (tyX4_ok 0 (by decide)) rfl rfl (Nat.le_of_ble_eq_true rfl) dX4_init_8 (fun H locs hP hD hS => ?_)
  have hP : va_P D vwCl ([(h0, .inr (4, [.ref q_1, .null, .null, .int 0, .int 0, .int 0, .int 0, .int 0, .int 0, .int 0])), (q_1, .inl (cy 14, 3, .inl (fun _ => 0)))]) H := hP
  have hD : va_D (va_A [(h0, .inr (4, [.null, .null, .null, .int 0, .int 0, .int 0, .int 0, .int 0, .int 0, .int 0]))] s.heap.size) ([(h0, .inr (4, [.ref q_1, .null, .null, .int 0, .int 0, .int 0, .int 0, .int 0, .int 0, .int 0])), (q_1, .inl (cy 14, 3, .inl (fun _ => 0)))]) := hD
  refine lv_aload_n hx hb dX4_init_11 rfl (lv_at hl 0 rfl) ?_
  refine lv_iconst (v := (3 : Int32)) hx hb dX4_init_12 (by decide) ?_
  refine y_na F hP hD hS hA 1 (atype := .int) (ty := .int) rfl rfl (fun _ h => h) zac_int (a0 := (3, .inl (fun _ => 0))) (n := (3 : Int32)) (N := 3) (fun _ => rfl) (by decide) (by decide) (by decide) (Nat.le_of_ble_eq_true rfl) (Nat.le_of_ble_eq_true rfl) dX4_init_13 (fun q_2 H hP hD hS => ?_)
  have hP : va_P D vwCl ([(h0, .inr (4, [.ref q_1, .null, .null, .int 0, .int 0, .int 0, .int 0, .int 0, .int 0, .int 0])), (q_1, .inl (cy 14, 3, .inl (fun _ => 0))), (q_2, .inl (cy 14, 3, .inl (fun _ => 0)))]) H := hP
  have hD : va_D (va_A [(h0, .inr (4, [.null, .null, .null, .int 0, .int 0, .int 0, .int 0, .int 0, .int 0, .int 0]))] s.heap.size) ([(h0, .inr (4, [.ref q_1, .null, .null, .int 0, .int 0, .int 0, .int 0, .int 0, .int 0, .int 0])), (q_1, .inl (cy 14, 3, .inl (fun _ => 0))), (q_2, .inl (cy 14, 3, .inl (fun _ => 0)))]) := hD
  refine W.widen (k := 2) (n := 6) (Nat.le_of_ble_eq_true rfl) (Nat.le_of_ble_eq_true rfl) ?_
  refine va_putF (D := D) (ci := 4) (v := .ref q_2) hx hb F.1.2.2.2.2 zc4.2.2.1 tyX4 tyX4_ok nmX4 F.1.2.2.2.1 F.2.1 hP hD hS 0 rfl rfl 1 (by decide) (F.1.2.2.2.2 _ zf4_15) (fun _ h => h) rfl hin rfl (tyX4_ok 1 (by decide)) rfl rfl (Nat.le_of_ble_eq_true rfl) dX4_init_15 (fun H locs hP hD hS => ?_)
  have hP : va_P D vwCl ([(h0, .inr (4, [.ref q_1, .ref q_2, .null, .int 0, .int 0, .int 0, .int 0, .int 0, .int 0, .int 0])), (q_1, .inl (cy 14, 3, .inl (fun _ => 0))), (q_2, .inl (cy 14, 3, .inl (fun _ => 0)))]) H := hP
  have hD : va_D (va_A [(h0, .inr (4, [.null, .null, .null, .int 0, .int 0, .int 0, .int 0, .int 0, .int 0, .int 0]))] s.heap.size) ([(h0, .inr (4, [.ref q_1, .ref q_2, .null, .int 0, .int 0, .int 0, .int 0, .int 0, .int 0, .int 0])), (q_1, .inl (cy 14, 3, .inl (fun _ => 0))), (q_2, .inl (cy 14, 3, .inl (fun _ => 0)))]) := hD
  refine lv_aload_n hx hb dX4_init_18 rfl (lv_at hl 0 rfl) ?_
  refine va_new (D := D) (ci := 5) (fs := [.null, .int 0]) hx hb F.1.2.2.2.2 zc5.2.2.1 tyX5 tyX5_ok F.1.2.2.2.1 (F.1.2.2.2.2 _ zcl4_18) (F.1.2.2.2.2 _ zin_5) (F.1.2.2.2.2 _ zit_5) F.2.1 hP hD hS hA rfl (by decide +kernel) (Nat.le_of_ble_eq_true rfl) (Nat.le_of_ble_eq_true rfl) dX4_init_19 (fun q_3 H hP hD hS => ?_)
  have hP : va_P D vwCl ([(h0, .inr (4, [.ref q_1, .ref q_2, .null, .int 0, .int 0, .int 0, .int 0, .int 0, .int 0, .int 0])), (q_1, .inl (cy 14, 3, .inl (fun _ => 0))), (q_2, .inl (cy 14, 3, .inl (fun _ => 0))), (q_3, .inr (5, [.null, .int 0]))]) H := hP
  have hD : va_D (va_A [(h0, .inr (4, [.null, .null, .null, .int 0, .int 0, .int 0, .int 0, .int 0, .int 0, .int 0]))] s.heap.size) ([(h0, .inr (4, [.ref q_1, .ref q_2, .null, .int 0, .int 0, .int 0, .int 0, .int 0, .int 0, .int 0])), (q_1, .inl (cy 14, 3, .inl (fun _ => 0))), (q_2, .inl (cy 14, 3, .inl (fun _ => 0))), (q_3, .inr (5, [.null, .int 0]))]) := hD
  refine W.widen (k := 3) (n := 8) (Nat.le_of_ble_eq_true rfl) (Nat.le_of_ble_eq_true rfl) ?_
  refine lv_dup hx hb dX4_init_22 rfl ?_
  refine y_cN F hN hl.1 (wr := [(h0, .inr (4, [.ref q_1, .ref q_2, .null, .int 0, .int 0, .int 0, .int 0, .int 0, .int 0, .int 0])), (q_1, .inl (cy 14, 3, .inl (fun _ => 0))), (q_2, .inl (cy 14, 3, .inl (fun _ => 0)))]) (As := []) (rest := [.ref q_3, .ref h0]) hP hD hS hA (ztX5_init l D cy q_3) zyX5_init hN.2.2.2.1 ⟨rfl, rfl⟩ ⟨by decide, by decide⟩ rfl rfl (Nat.le_of_ble_eq_true rfl) dX4_init_23 ⟨Nat.le_of_ble_eq_true rfl, Nat.le_of_ble_eq_true rfl⟩ (fun a_4 H locs hP hD hS => ?_)
  have hP : va_P D vwCl ([(h0, .inr (4, [.ref q_1, .ref q_2, .null, .int 0, .int 0, .int 0, .int 0, .int 0, .int 0, .int 0])), (q_1, .inl (cy 14, 3, .inl (fun _ => 0))), (q_2, .inl (cy 14, 3, .inl (fun _ => 0))), (q_3, .inr (5, [.ref (a_4 1), .int 0])), ((a_4 1), .inl (cy 14, 61, .inl (fun _ => 0)))]) H := hP
  have hD : va_D (va_A [(h0, .inr (4, [.null, .null, .null, .int 0, .int 0, .int 0, .int 0, .int 0, .int 0, .int 0]))] s.heap.size) ([(h0, .inr (4, [.ref q_1, .ref q_2, .null, .int 0, .int 0, .int 0, .int 0, .int 0, .int 0, .int 0])), (q_1, .inl (cy 14, 3, .inl (fun _ => 0))), (q_2, .inl (cy 14, 3, .inl (fun _ => 0))), (q_3, .inr (5, [.ref (a_4 1), .int 0])), ((a_4 1), .inl (cy 14, 61, .inl (fun _ => 0)))]) := hD
  refine W.widen (k := 4) (n := 69) (Nat.le_of_ble_eq_true rfl) (Nat.le_of_ble_eq_true rfl) ?_
  refine va_putF (D := D) (ci := 4) (v := .ref q_3) hx hb F.1.2.2.2.2 zc4.2.2.1 tyX4 tyX4_ok nmX4 F.1.2.2.2.1 F.2.1 hP hD hS 0 rfl rfl 2 (by decide) (F.1.2.2.2.2 _ zf4_21) (fun _ h => h) rfl hin rfl (tyX4_ok 2 (by decide)) rfl rfl (Nat.le_of_ble_eq_true rfl) dX4_init_26 (fun H locs hP hD hS => ?_)
  have hP : va_P D vwCl ([(h0, .inr (4, [.ref q_1, .ref q_2, .ref q_3, .int 0, .int 0, .int 0, .int 0, .int 0, .int 0, .int 0])), (q_1, .inl (cy 14, 3, .inl (fun _ => 0))), (q_2, .inl (cy 14, 3, .inl (fun _ => 0))), (q_3, .inr (5, [.ref (a_4 1), .int 0])), ((a_4 1), .inl (cy 14, 61, .inl (fun _ => 0)))]) H := hP
  have hD : va_D (va_A [(h0, .inr (4, [.null, .null, .null, .int 0, .int 0, .int 0, .int 0, .int 0, .int 0, .int 0]))] s.heap.size) ([(h0, .inr (4, [.ref q_1, .ref q_2, .ref q_3, .int 0, .int 0, .int 0, .int 0, .int 0, .int 0, .int 0])), (q_1, .inl (cy 14, 3, .inl (fun _ => 0))), (q_2, .inl (cy 14, 3, .inl (fun _ => 0))), (q_3, .inr (5, [.ref (a_4 1), .int 0])), ((a_4 1), .inl (cy 14, 61, .inl (fun _ => 0)))]) := hD
  exact y_ret (post := (fun a => ylX4_init cy h0 a)) F hr hlk (fun i => ([h0, q_1, q_2, q_3, (a_4 1)] : List Nat).getD i 0) hP hD hS dX4_init_29

abbrev ylX8_init (cy : Nat → ClassId) (h0 : Nat)  (a : Nat → Nat) : va_W := [(h0, .inr (8, [.ref (a 1), .ref (a 2), .ref (a 7), .ref (a 8), .int 0, .int 0, .int 0, .int (-1), .int 0, .int 0, .int 0, .int 0, .int 0])), ((a 1), .inl (cy 18, 3, .inr (.inr (.inr (.inr (va_up (va_up (va_up (fun _ => none) 0 (some (a 9))) 1 (some (a 10))) 2 (some (a 11)))))))), ((a 2), .inr (4, [.ref (a 3), .ref (a 4), .ref (a 5), .int 0, .int 0, .int 0, .int 0, .int 0, .int 0, .int 0])), ((a 3), .inl (cy 14, 3, .inl (fun _ => 0))), ((a 4), .inl (cy 14, 3, .inl (fun _ => 0))), ((a 5), .inr (5, [.ref (a 6), .int 0])), ((a 6), .inl (cy 14, 61, .inl (fun _ => 0))), ((a 7), .inl (cy 14, 24, .inl (fun _ => 0))), ((a 8), .inl (cy 14, 3, .inl (fun _ => 0))), ((a 9), .inr (7, [.int 0, .int 0, .int 0, .int 0, .int 0, .int 0])), ((a 10), .inr (7, [.int 0, .int 0, .int 0, .int 0, .int 0, .int 0])), ((a 11), .inr (7, [.int 0, .int 0, .int 0, .int 0, .int 0, .int 0]))]
set_option maxHeartbeats 4000000 in
set_option maxRecDepth 100000 in
theorem ztX8_init (l : Launch) (D : va_G) (cy : Nat → ClassId) (h0 : Nat)  : yC l yX8_init cX8_init 2 { frames := 3, cells := 11, slots := 127, locals := 60 } [.ref h0] D cy [(h0, .inr (8, [.null, .null, .null, .null, .int 0, .int 0, .int 0, .int 0, .int 0, .int 0, .int 0, .int 0, .int 0]))] (fun a => ylX8_init cy h0 a) 11 127 := by
  refine y_of (plainFor_of_name (by decide)) rfl (Nat.le_of_ble_eq_true rfl) (fun p e s m below meth c ls F hN hin hr hlk hl hP hD => ?_)
  have hx := F.1.1
  have hb := F.1.2.1
  have hl : lv_has ls 2 [(0, .ref h0)] := hl
  have hS : va_S (va_A [(h0, .inr (8, [.null, .null, .null, .null, .int 0, .int 0, .int 0, .int 0, .int 0, .int 0, .int 0, .int 0, .int 0]))] s.heap.size) s.heap s.heap [] := va_S.rf
  have hA : ∀ q : Nat, s.heap.size ≤ q → va_A [(h0, .inr (8, [.null, .null, .null, .null, .int 0, .int 0, .int 0, .int 0, .int 0, .int 0, .int 0, .int 0, .int 0]))] s.heap.size q := fun q h => Or.inr h
  refine lv_aload_n hx hb dX8_init_0 rfl (lv_at hl 0 rfl) ?_
  refine W.objInit hx hb F.1.2.2.2.1 (F.1.2.2.2.2 _ zoi8_3) (F.1.2.2.2.2 _ zoin) (F.1.2.2.2.2 _ zoic) rfl (by rw [F.1.2.2.1]; exact hl.1) rfl dX8_init_1 (Nat.le_of_ble_eq_true rfl) (Nat.le_of_ble_eq_true rfl) ?_
  refine W.eq (g2 := F0 m 4 ls []) rfl ?_
  refine lv_aload_n hx hb dX8_init_4 rfl (lv_at hl 0 rfl) ?_
  refine lv_iconst (v := (3 : Int32)) hx hb dX8_init_5 (by decide) ?_
  refine y_nq F hP hD hS hA 5 (C := RX7) rfl zcl8_9 hN.2.2.2.2.2.2.2.2.2.2.1 (n := (3 : Int32)) (N := 3) (by decide) (by decide) (by decide) (Nat.le_of_ble_eq_true rfl) (Nat.le_of_ble_eq_true rfl) dX8_init_6 (fun q_1 H hP hD hS => ?_)
  have hP : va_P D vwCl ([(h0, .inr (8, [.null, .null, .null, .null, .int 0, .int 0, .int 0, .int 0, .int 0, .int 0, .int 0, .int 0, .int 0])), (q_1, .inl (cy 18, 3, .inr (.inr (.inr (.inr (fun _ => none))))))]) H := hP
  have hD : va_D (va_A [(h0, .inr (8, [.null, .null, .null, .null, .int 0, .int 0, .int 0, .int 0, .int 0, .int 0, .int 0, .int 0, .int 0]))] s.heap.size) ([(h0, .inr (8, [.null, .null, .null, .null, .int 0, .int 0, .int 0, .int 0, .int 0, .int 0, .int 0, .int 0, .int 0])), (q_1, .inl (cy 18, 3, .inr (.inr (.inr (.inr (fun _ => none))))))]) := hD
  refine W.widen (k := 1) (n := 3) (Nat.le_of_ble_eq_true rfl) (Nat.le_of_ble_eq_true rfl) ?_
  refine va_putF (D := D) (ci := 8) (v := .ref q_1) hx hb F.1.2.2.2.2 zc8.2.2.1 tyX8 tyX8_ok nmX8 F.1.2.2.2.1 F.2.1 hP hD hS 0 rfl rfl 0 (by decide) (F.1.2.2.2.2 _ zf8_11) (fun _ h => h) rfl hin rfl (tyX8_ok 0 (by decide)) rfl rfl (Nat.le_of_ble_eq_true rfl) dX8_init_9 (fun H locs hP hD hS => ?_)
  have hP : va_P D vwCl ([(h0, .inr (8, [.ref q_1, .null, .null, .null, .int 0, .int 0, .int 0, .int 0, .int 0, .int 0, .int 0, .int 0, .int 0])), (q_1, .inl (cy 18, 3, .inr (.inr (.inr (.inr (fun _ => none))))))]) H := hP
  have hD : va_D (va_A [(h0, .inr (8, [.null, .null, .null, .null, .int 0, .int 0, .int 0, .int 0, .int 0, .int 0, .int 0, .int 0, .int 0]))] s.heap.size) ([(h0, .inr (8, [.ref q_1, .null, .null, .null, .int 0, .int 0, .int 0, .int 0, .int 0, .int 0, .int 0, .int 0, .int 0])), (q_1, .inl (cy 18, 3, .inr (.inr (.inr (.inr (fun _ => none))))))]) := hD
  refine lv_aload_n hx hb dX8_init_12 rfl (lv_at hl 0 rfl) ?_
  refine va_new (D := D) (ci := 4) (fs := [.null, .null, .null, .int 0, .int 0, .int 0, .int 0, .int 0, .int 0, .int 0]) hx hb F.1.2.2.2.2 zc4.2.2.1 tyX4 tyX4_ok F.1.2.2.2.1 (F.1.2.2.2.2 _ zcl8_17) (F.1.2.2.2.2 _ zin_4) (F.1.2.2.2.2 _ zit_4) F.2.1 hP hD hS hA rfl (by decide +kernel) (Nat.le_of_ble_eq_true rfl) (Nat.le_of_ble_eq_true rfl) dX8_init_13 (fun q_2 H hP hD hS => ?_)
  have hP : va_P D vwCl ([(h0, .inr (8, [.ref q_1, .null, .null, .null, .int 0, .int 0, .int 0, .int 0, .int 0, .int 0, .int 0, .int 0, .int 0])), (q_1, .inl (cy 18, 3, .inr (.inr (.inr (.inr (fun _ => none)))))), (q_2, .inr (4, [.null, .null, .null, .int 0, .int 0, .int 0, .int 0, .int 0, .int 0, .int 0]))]) H := hP
  have hD : va_D (va_A [(h0, .inr (8, [.null, .null, .null, .null, .int 0, .int 0, .int 0, .int 0, .int 0, .int 0, .int 0, .int 0, .int 0]))] s.heap.size) ([(h0, .inr (8, [.ref q_1, .null, .null, .null, .int 0, .int 0, .int 0, .int 0, .int 0, .int 0, .int 0, .int 0, .int 0])), (q_1, .inl (cy 18, 3, .inr (.inr (.inr (.inr (fun _ => none)))))), (q_2, .inr (4, [.null, .null, .null, .int 0, .int 0, .int 0, .int 0, .int 0, .int 0, .int 0]))]) := hD
  refine W.widen (k := 2) (n := 13) (Nat.le_of_ble_eq_true rfl) (Nat.le_of_ble_eq_true rfl) ?_
  refine lv_dup hx hb dX8_init_16 rfl ?_
  refine y_cN F hN hl.1 (wr := [(h0, .inr (8, [.ref q_1, .null, .null, .null, .int 0, .int 0, .int 0, .int 0, .int 0, .int 0, .int 0, .int 0, .int 0])), (q_1, .inl (cy 18, 3, .inr (.inr (.inr (.inr (fun _ => none))))))]) (As := []) (rest := [.ref q_2, .ref h0]) hP hD hS hA (ztX4_init l D cy q_2) zyX4_init hN.2.2.1 ⟨rfl, rfl⟩ ⟨by decide, by decide⟩ rfl rfl (Nat.le_of_ble_eq_true rfl) dX8_init_17 ⟨Nat.le_of_ble_eq_true rfl, Nat.le_of_ble_eq_true rfl⟩ (fun a_3 H locs hP hD hS => ?_)
  have hP : va_P D vwCl ([(h0, .inr (8, [.ref q_1, .null, .null, .null, .int 0, .int 0, .int 0, .int 0, .int 0, .int 0, .int 0, .int 0, .int 0])), (q_1, .inl (cy 18, 3, .inr (.inr (.inr (.inr (fun _ => none)))))), (q_2, .inr (4, [.ref (a_3 1), .ref (a_3 2), .ref (a_3 3), .int 0, .int 0, .int 0, .int 0, .int 0, .int 0, .int 0])), ((a_3 1), .inl (cy 14, 3, .inl (fun _ => 0))), ((a_3 2), .inl (cy 14, 3, .inl (fun _ => 0))), ((a_3 3), .inr (5, [.ref (a_3 4), .int 0])), ((a_3 4), .inl (cy 14, 61, .inl (fun _ => 0)))]) H := hP
  have hD : va_D (va_A [(h0, .inr (8, [.null, .null, .null, .null, .int 0, .int 0, .int 0, .int 0, .int 0, .int 0, .int 0, .int 0, .int 0]))] s.heap.size) ([(h0, .inr (8, [.ref q_1, .null, .null, .null, .int 0, .int 0, .int 0, .int 0, .int 0, .int 0, .int 0, .int 0, .int 0])), (q_1, .inl (cy 18, 3, .inr (.inr (.inr (.inr (fun _ => none)))))), (q_2, .inr (4, [.ref (a_3 1), .ref (a_3 2), .ref (a_3 3), .int 0, .int 0, .int 0, .int 0, .int 0, .int 0, .int 0])), ((a_3 1), .inl (cy 14, 3, .inl (fun _ => 0))), ((a_3 2), .inl (cy 14, 3, .inl (fun _ => 0))), ((a_3 3), .inr (5, [.ref (a_3 4), .int 0])), ((a_3 4), .inl (cy 14, 61, .inl (fun _ => 0)))]) := hD
  refine W.widen (k := 6) (n := 82) (Nat.le_of_ble_eq_true rfl) (Nat.le_of_ble_eq_true rfl) ?_
  refine va_putF (D := D) (ci := 8) (v := .ref q_2) hx hb F.1.2.2.2.2 zc8.2.2.1 tyX8 tyX8_ok nmX8 F.1.2.2.2.1 F.2.1 hP hD hS 0 rfl rfl 1 (by decide) (F.1.2.2.2.2 _ zf8_20) (fun _ h => h) rfl hin rfl (tyX8_ok 1 (by decide)) rfl rfl (Nat.le_of_ble_eq_true rfl) dX8_init_20 (fun H locs hP hD hS => ?_)
  have hP : va_P D vwCl ([(h0, .inr (8, [.ref q_1, .ref q_2, .null, .null, .int 0, .int 0, .int 0, .int 0, .int 0, .int 0, .int 0, .int 0, .int 0])), (q_1, .inl (cy 18, 3, .inr (.inr (.inr (.inr (fun _ => none)))))), (q_2, .inr (4, [.ref (a_3 1), .ref (a_3 2), .ref (a_3 3), .int 0, .int 0, .int 0, .int 0, .int 0, .int 0, .int 0])), ((a_3 1), .inl (cy 14, 3, .inl (fun _ => 0))), ((a_3 2), .inl (cy 14, 3, .inl (fun _ => 0))), ((a_3 3), .inr (5, [.ref (a_3 4), .int 0])), ((a_3 4), .inl (cy 14, 61, .inl (fun _ => 0)))]) H := hP
  have hD : va_D (va_A [(h0, .inr (8, [.null, .null, .null, .null, .int 0, .int 0, .int 0, .int 0, .int 0, .int 0, .int 0, .int 0, .int 0]))] s.heap.size) ([(h0, .inr (8, [.ref q_1, .ref q_2, .null, .null, .int 0, .int 0, .int 0, .int 0, .int 0, .int 0, .int 0, .int 0, .int 0])), (q_1, .inl (cy 18, 3, .inr (.inr (.inr (.inr (fun _ => none)))))), (q_2, .inr (4, [.ref (a_3 1), .ref (a_3 2), .ref (a_3 3), .int 0, .int 0, .int 0, .int 0, .int 0, .int 0, .int 0])), ((a_3 1), .inl (cy 14, 3, .inl (fun _ => 0))), ((a_3 2), .inl (cy 14, 3, .inl (fun _ => 0))), ((a_3 3), .inr (5, [.ref (a_3 4), .int 0])), ((a_3 4), .inl (cy 14, 61, .inl (fun _ => 0)))]) := hD
  refine lv_aload_n hx hb dX8_init_23 rfl (lv_at hl 0 rfl) ?_
  refine lv_bipush (v := (24 : Int32)) hx hb dX8_init_24 (by decide) ?_
  refine y_na F hP hD hS hA 1 (atype := .int) (ty := .int) rfl rfl (fun _ h => h) zac_int (a0 := (24, .inl (fun _ => 0))) (n := (24 : Int32)) (N := 24) (fun _ => rfl) (by decide) (by decide) (by decide) (Nat.le_of_ble_eq_true rfl) (Nat.le_of_ble_eq_true rfl) dX8_init_26 (fun q_4 H hP hD hS => ?_)
  have hP : va_P D vwCl ([(h0, .inr (8, [.ref q_1, .ref q_2, .null, .null, .int 0, .int 0, .int 0, .int 0, .int 0, .int 0, .int 0, .int 0, .int 0])), (q_1, .inl (cy 18, 3, .inr (.inr (.inr (.inr (fun _ => none)))))), (q_2, .inr (4, [.ref (a_3 1), .ref (a_3 2), .ref (a_3 3), .int 0, .int 0, .int 0, .int 0, .int 0, .int 0, .int 0])), ((a_3 1), .inl (cy 14, 3, .inl (fun _ => 0))), ((a_3 2), .inl (cy 14, 3, .inl (fun _ => 0))), ((a_3 3), .inr (5, [.ref (a_3 4), .int 0])), ((a_3 4), .inl (cy 14, 61, .inl (fun _ => 0))), (q_4, .inl (cy 14, 24, .inl (fun _ => 0)))]) H := hP
  have hD : va_D (va_A [(h0, .inr (8, [.null, .null, .null, .null, .int 0, .int 0, .int 0, .int 0, .int 0, .int 0, .int 0, .int 0, .int 0]))] s.heap.size) ([(h0, .inr (8, [.ref q_1, .ref q_2, .null, .null, .int 0, .int 0, .int 0, .int 0, .int 0, .int 0, .int 0, .int 0, .int 0])), (q_1, .inl (cy 18, 3, .inr (.inr (.inr (.inr (fun _ => none)))))), (q_2, .inr (4, [.ref (a_3 1), .ref (a_3 2), .ref (a_3 3), .int 0, .int 0, .int 0, .int 0, .int 0, .int 0, .int 0])), ((a_3 1), .inl (cy 14, 3, .inl (fun _ => 0))), ((a_3 2), .inl (cy 14, 3, .inl (fun _ => 0))), ((a_3 3), .inr (5, [.ref (a_3 4), .int 0])), ((a_3 4), .inl (cy 14, 61, .inl (fun _ => 0))), (q_4, .inl (cy 14, 24, .inl (fun _ => 0)))]) := hD
  refine W.widen (k := 7) (n := 106) (Nat.le_of_ble_eq_true rfl) (Nat.le_of_ble_eq_true rfl) ?_
  refine va_putF (D := D) (ci := 8) (v := .ref q_4) hx hb F.1.2.2.2.2 zc8.2.2.1 tyX8 tyX8_ok nmX8 F.1.2.2.2.1 F.2.1 hP hD hS 0 rfl rfl 2 (by decide) (F.1.2.2.2.2 _ zf8_24) (fun _ h => h) rfl hin rfl (tyX8_ok 2 (by decide)) rfl rfl (Nat.le_of_ble_eq_true rfl) dX8_init_28 (fun H locs hP hD hS => ?_)
  have hP : va_P D vwCl ([(h0, .inr (8, [.ref q_1, .ref q_2, .ref q_4, .null, .int 0, .int 0, .int 0, .int 0, .int 0, .int 0, .int 0, .int 0, .int 0])), (q_1, .inl (cy 18, 3, .inr (.inr (.inr (.inr (fun _ => none)))))), (q_2, .inr (4, [.ref (a_3 1), .ref (a_3 2), .ref (a_3 3), .int 0, .int 0, .int 0, .int 0, .int 0, .int 0, .int 0])), ((a_3 1), .inl (cy 14, 3, .inl (fun _ => 0))), ((a_3 2), .inl (cy 14, 3, .inl (fun _ => 0))), ((a_3 3), .inr (5, [.ref (a_3 4), .int 0])), ((a_3 4), .inl (cy 14, 61, .inl (fun _ => 0))), (q_4, .inl (cy 14, 24, .inl (fun _ => 0)))]) H := hP
  have hD : va_D (va_A [(h0, .inr (8, [.null, .null, .null, .null, .int 0, .int 0, .int 0, .int 0, .int 0, .int 0, .int 0, .int 0, .int 0]))] s.heap.size) ([(h0, .inr (8, [.ref q_1, .ref q_2, .ref q_4, .null, .int 0, .int 0, .int 0, .int 0, .int 0, .int 0, .int 0, .int 0, .int 0])), (q_1, .inl (cy 18, 3, .inr (.inr (.inr (.inr (fun _ => none)))))), (q_2, .inr (4, [.ref (a_3 1), .ref (a_3 2), .ref (a_3 3), .int 0, .int 0, .int 0, .int 0, .int 0, .int 0, .int 0])), ((a_3 1), .inl (cy 14, 3, .inl (fun _ => 0))), ((a_3 2), .inl (cy 14, 3, .inl (fun _ => 0))), ((a_3 3), .inr (5, [.ref (a_3 4), .int 0])), ((a_3 4), .inl (cy 14, 61, .inl (fun _ => 0))), (q_4, .inl (cy 14, 24, .inl (fun _ => 0)))]) := hD
  refine lv_aload_n hx hb dX8_init_31 rfl (lv_at hl 0 rfl) ?_
  refine lv_iconst (v := (3 : Int32)) hx hb dX8_init_32 (by decide) ?_
  refine y_na F hP hD hS hA 1 (atype := .int) (ty := .int) rfl rfl (fun _ h => h) zac_int (a0 := (3, .inl (fun _ => 0))) (n := (3 : Int32)) (N := 3) (fun _ => rfl) (by decide) (by decide) (by decide) (Nat.le_of_ble_eq_true rfl) (Nat.le_of_ble_eq_true rfl) dX8_init_33 (fun q_5 H hP hD hS => ?_)
  have hP : va_P D vwCl ([(h0, .inr (8, [.ref q_1, .ref q_2, .ref q_4, .null, .int 0, .int 0, .int 0, .int 0, .int 0, .int 0, .int 0, .int 0, .int 0])), (q_1, .inl (cy 18, 3, .inr (.inr (.inr (.inr (fun _ => none)))))), (q_2, .inr (4, [.ref (a_3 1), .ref (a_3 2), .ref (a_3 3), .int 0, .int 0, .int 0, .int 0, .int 0, .int 0, .int 0])), ((a_3 1), .inl (cy 14, 3, .inl (fun _ => 0))), ((a_3 2), .inl (cy 14, 3, .inl (fun _ => 0))), ((a_3 3), .inr (5, [.ref (a_3 4), .int 0])), ((a_3 4), .inl (cy 14, 61, .inl (fun _ => 0))), (q_4, .inl (cy 14, 24, .inl (fun _ => 0))), (q_5, .inl (cy 14, 3, .inl (fun _ => 0)))]) H := hP
  have hD : va_D (va_A [(h0, .inr (8, [.null, .null, .null, .null, .int 0, .int 0, .int 0, .int 0, .int 0, .int 0, .int 0, .int 0, .int 0]))] s.heap.size) ([(h0, .inr (8, [.ref q_1, .ref q_2, .ref q_4, .null, .int 0, .int 0, .int 0, .int 0, .int 0, .int 0, .int 0, .int 0, .int 0])), (q_1, .inl (cy 18, 3, .inr (.inr (.inr (.inr (fun _ => none)))))), (q_2, .inr (4, [.ref (a_3 1), .ref (a_3 2), .ref (a_3 3), .int 0, .int 0, .int 0, .int 0, .int 0, .int 0, .int 0])), ((a_3 1), .inl (cy 14, 3, .inl (fun _ => 0))), ((a_3 2), .inl (cy 14, 3, .inl (fun _ => 0))), ((a_3 3), .inr (5, [.ref (a_3 4), .int 0])), ((a_3 4), .inl (cy 14, 61, .inl (fun _ => 0))), (q_4, .inl (cy 14, 24, .inl (fun _ => 0))), (q_5, .inl (cy 14, 3, .inl (fun _ => 0)))]) := hD
  refine W.widen (k := 8) (n := 109) (Nat.le_of_ble_eq_true rfl) (Nat.le_of_ble_eq_true rfl) ?_
  refine va_putF (D := D) (ci := 8) (v := .ref q_5) hx hb F.1.2.2.2.2 zc8.2.2.1 tyX8 tyX8_ok nmX8 F.1.2.2.2.1 F.2.1 hP hD hS 0 rfl rfl 3 (by decide) (F.1.2.2.2.2 _ zf8_28) (fun _ h => h) rfl hin rfl (tyX8_ok 3 (by decide)) rfl rfl (Nat.le_of_ble_eq_true rfl) dX8_init_35 (fun H locs hP hD hS => ?_)
  have hP : va_P D vwCl ([(h0, .inr (8, [.ref q_1, .ref q_2, .ref q_4, .ref q_5, .int 0, .int 0, .int 0, .int 0, .int 0, .int 0, .int 0, .int 0, .int 0])), (q_1, .inl (cy 18, 3, .inr (.inr (.inr (.inr (fun _ => none)))))), (q_2, .inr (4, [.ref (a_3 1), .ref (a_3 2), .ref (a_3 3), .int 0, .int 0, .int 0, .int 0, .int 0, .int 0, .int 0])), ((a_3 1), .inl (cy 14, 3, .inl (fun _ => 0))), ((a_3 2), .inl (cy 14, 3, .inl (fun _ => 0))), ((a_3 3), .inr (5, [.ref (a_3 4), .int 0])), ((a_3 4), .inl (cy 14, 61, .inl (fun _ => 0))), (q_4, .inl (cy 14, 24, .inl (fun _ => 0))), (q_5, .inl (cy 14, 3, .inl (fun _ => 0)))]) H := hP
  have hD : va_D (va_A [(h0, .inr (8, [.null, .null, .null, .null, .int 0, .int 0, .int 0, .int 0, .int 0, .int 0, .int 0, .int 0, .int 0]))] s.heap.size) ([(h0, .inr (8, [.ref q_1, .ref q_2, .ref q_4, .ref q_5, .int 0, .int 0, .int 0, .int 0, .int 0, .int 0, .int 0, .int 0, .int 0])), (q_1, .inl (cy 18, 3, .inr (.inr (.inr (.inr (fun _ => none)))))), (q_2, .inr (4, [.ref (a_3 1), .ref (a_3 2), .ref (a_3 3), .int 0, .int 0, .int 0, .int 0, .int 0, .int 0, .int 0])), ((a_3 1), .inl (cy 14, 3, .inl (fun _ => 0))), ((a_3 2), .inl (cy 14, 3, .inl (fun _ => 0))), ((a_3 3), .inr (5, [.ref (a_3 4), .int 0])), ((a_3 4), .inl (cy 14, 61, .inl (fun _ => 0))), (q_4, .inl (cy 14, 24, .inl (fun _ => 0))), (q_5, .inl (cy 14, 3, .inl (fun _ => 0)))]) := hD
  refine lv_aload_n hx hb dX8_init_38 rfl (lv_at hl 0 rfl) ?_
  refine lv_iconst (v := (-1 : Int32)) hx hb dX8_init_39 (by decide) ?_
  refine va_put (D := D) (ci := 8) (v := .int (-1)) hx hb F.1.2.2.2.2 zc8.2.2.1 tyX8 tyX8_ok nmX8 F.1.2.2.2.1 F.2.1 hP hD hS 0 rfl rfl 7 (by decide) (F.1.2.2.2.2 _ zf8_31) (fun _ h => h) rfl (tyX8_ok 7 (by decide)) rfl rfl (Nat.le_of_ble_eq_true rfl) dX8_init_40 (fun H locs hP hD hS => ?_)
  have hP : va_P D vwCl ([(h0, .inr (8, [.ref q_1, .ref q_2, .ref q_4, .ref q_5, .int 0, .int 0, .int 0, .int (-1), .int 0, .int 0, .int 0, .int 0, .int 0])), (q_1, .inl (cy 18, 3, .inr (.inr (.inr (.inr (fun _ => none)))))), (q_2, .inr (4, [.ref (a_3 1), .ref (a_3 2), .ref (a_3 3), .int 0, .int 0, .int 0, .int 0, .int 0, .int 0, .int 0])), ((a_3 1), .inl (cy 14, 3, .inl (fun _ => 0))), ((a_3 2), .inl (cy 14, 3, .inl (fun _ => 0))), ((a_3 3), .inr (5, [.ref (a_3 4), .int 0])), ((a_3 4), .inl (cy 14, 61, .inl (fun _ => 0))), (q_4, .inl (cy 14, 24, .inl (fun _ => 0))), (q_5, .inl (cy 14, 3, .inl (fun _ => 0)))]) H := hP
  have hD : va_D (va_A [(h0, .inr (8, [.null, .null, .null, .null, .int 0, .int 0, .int 0, .int 0, .int 0, .int 0, .int 0, .int 0, .int 0]))] s.heap.size) ([(h0, .inr (8, [.ref q_1, .ref q_2, .ref q_4, .ref q_5, .int 0, .int 0, .int 0, .int (-1), .int 0, .int 0, .int 0, .int 0, .int 0])), (q_1, .inl (cy 18, 3, .inr (.inr (.inr (.inr (fun _ => none)))))), (q_2, .inr (4, [.ref (a_3 1), .ref (a_3 2), .ref (a_3 3), .int 0, .int 0, .int 0, .int 0, .int 0, .int 0, .int 0])), ((a_3 1), .inl (cy 14, 3, .inl (fun _ => 0))), ((a_3 2), .inl (cy 14, 3, .inl (fun _ => 0))), ((a_3 3), .inr (5, [.ref (a_3 4), .int 0])), ((a_3 4), .inl (cy 14, 61, .inl (fun _ => 0))), (q_4, .inl (cy 14, 24, .inl (fun _ => 0))), (q_5, .inl (cy 14, 3, .inl (fun _ => 0)))]) := hD
  refine lv_iconst (v := (0 : Int32)) hx hb dX8_init_43 (by decide) ?_
  refine lv_istore_n (lv' := [(1, .int 0), (0, .ref h0)]) hx hb dX8_init_44 rfl hl (by decide) rfl (fun ls hl => ?_)
  refine lv_iload_n hx hb dX8_init_45 rfl (lv_at hl 0 rfl) ?_
  refine lv_aload_n hx hb dX8_init_46 rfl (lv_at hl 1 rfl) ?_
  refine va_get (D := D) (ci := 8) (v := .ref q_1) hx hb F.1.2.2.2.2 zc8.2.2.1 F.1.2.2.2.1 F.2.1 hP 0 rfl rfl 0 (by decide) (F.1.2.2.2.2 _ zf8_11) (fun _ h => h) rfl dX8_init_47 ?_
  refine va_alen (D := D) (v := (3 : Int32)) hx hb F.2.1 hP 1 5 rfl rfl rfl dX8_init_50 ?_
  refine lv_icmp_ge (tgt := 73) hx hb dX8_init_51 (by decide) (fun c1 => absurd c1 (by decide)) (fun _ => ?_)
  refine lv_aload_n hx hb dX8_init_54 rfl (lv_at hl 1 rfl) ?_
  refine va_get (D := D) (ci := 8) (v := .ref q_1) hx hb F.1.2.2.2.2 zc8.2.2.1 F.1.2.2.2.1 F.2.1 hP 0 rfl rfl 0 (by decide) (F.1.2.2.2.2 _ zf8_11) (fun _ h => h) rfl dX8_init_55 ?_
  refine lv_iload_n hx hb dX8_init_58 rfl (lv_at hl 0 rfl) ?_
  refine va_new (D := D) (ci := 7) (fs := [.int 0, .int 0, .int 0, .int 0, .int 0, .int 0]) hx hb F.1.2.2.2.2 zc7.2.2.1 tyX7 tyX7_ok F.1.2.2.2.1 (F.1.2.2.2.2 _ zcl8_9) (F.1.2.2.2.2 _ zin_7) (F.1.2.2.2.2 _ zit_7) F.2.1 hP hD hS hA rfl (by decide +kernel) (Nat.le_of_ble_eq_true rfl) (Nat.le_of_ble_eq_true rfl) dX8_init_59 (fun q_6 H hP hD hS => ?_)
  have hP : va_P D vwCl ([(h0, .inr (8, [.ref q_1, .ref q_2, .ref q_4, .ref q_5, .int 0, .int 0, .int 0, .int (-1), .int 0, .int 0, .int 0, .int 0, .int 0])), (q_1, .inl (cy 18, 3, .inr (.inr (.inr (.inr (fun _ => none)))))), (q_2, .inr (4, [.ref (a_3 1), .ref (a_3 2), .ref (a_3 3), .int 0, .int 0, .int 0, .int 0, .int 0, .int 0, .int 0])), ((a_3 1), .inl (cy 14, 3, .inl (fun _ => 0))), ((a_3 2), .inl (cy 14, 3, .inl (fun _ => 0))), ((a_3 3), .inr (5, [.ref (a_3 4), .int 0])), ((a_3 4), .inl (cy 14, 61, .inl (fun _ => 0))), (q_4, .inl (cy 14, 24, .inl (fun _ => 0))), (q_5, .inl (cy 14, 3, .inl (fun _ => 0))), (q_6, .inr (7, [.int 0, .int 0, .int 0, .int 0, .int 0, .int 0]))]) H := hP
  have hD : va_D (va_A [(h0, .inr (8, [.null, .null, .null, .null, .int 0, .int 0, .int 0, .int 0, .int 0, .int 0, .int 0, .int 0, .int 0]))] s.heap.size) ([(h0, .inr (8, [.ref q_1, .ref q_2, .ref q_4, .ref q_5, .int 0, .int 0, .int 0, .int (-1), .int 0, .int 0, .int 0, .int 0, .int 0])), (q_1, .inl (cy 18, 3, .inr (.inr (.inr (.inr (fun _ => none)))))), (q_2, .inr (4, [.ref (a_3 1), .ref (a_3 2), .ref (a_3 3), .int 0, .int 0, .int 0, .int 0, .int 0, .int 0, .int 0])), ((a_3 1), .inl (cy 14, 3, .inl (fun _ => 0))), ((a_3 2), .inl (cy 14, 3, .inl (fun _ => 0))), ((a_3 3), .inr (5, [.ref (a_3 4), .int 0])), ((a_3 4), .inl (cy 14, 61, .inl (fun _ => 0))), (q_4, .inl (cy 14, 24, .inl (fun _ => 0))), (q_5, .inl (cy 14, 3, .inl (fun _ => 0))), (q_6, .inr (7, [.int 0, .int 0, .int 0, .int 0, .int 0, .int 0]))]) := hD
  refine W.widen (k := 9) (n := 115) (Nat.le_of_ble_eq_true rfl) (Nat.le_of_ble_eq_true rfl) ?_
  refine lv_dup hx hb dX8_init_62 rfl ?_
  refine y_cN F hN hl.1 (wr := [(h0, .inr (8, [.ref q_1, .ref q_2, .ref q_4, .ref q_5, .int 0, .int 0, .int 0, .int (-1), .int 0, .int 0, .int 0, .int 0, .int 0])), (q_1, .inl (cy 18, 3, .inr (.inr (.inr (.inr (fun _ => none)))))), (q_2, .inr (4, [.ref (a_3 1), .ref (a_3 2), .ref (a_3 3), .int 0, .int 0, .int 0, .int 0, .int 0, .int 0, .int 0])), ((a_3 1), .inl (cy 14, 3, .inl (fun _ => 0))), ((a_3 2), .inl (cy 14, 3, .inl (fun _ => 0))), ((a_3 3), .inr (5, [.ref (a_3 4), .int 0])), ((a_3 4), .inl (cy 14, 61, .inl (fun _ => 0))), (q_4, .inl (cy 14, 24, .inl (fun _ => 0))), (q_5, .inl (cy 14, 3, .inl (fun _ => 0)))]) (As := []) (rest := [.ref q_6, .int 0, .ref q_1]) hP hD hS hA (ztX7_init l D cy q_6) zyX7_init hN.2.2.2.2.1 ⟨rfl, rfl⟩ ⟨by decide, by decide⟩ rfl rfl (Nat.le_of_ble_eq_true rfl) dX8_init_63 ⟨Nat.le_of_ble_eq_true rfl, Nat.le_of_ble_eq_true rfl⟩ (fun a_7 H locs hP hD hS => ?_)
  have hP : va_P D vwCl ([(h0, .inr (8, [.ref q_1, .ref q_2, .ref q_4, .ref q_5, .int 0, .int 0, .int 0, .int (-1), .int 0, .int 0, .int 0, .int 0, .int 0])), (q_1, .inl (cy 18, 3, .inr (.inr (.inr (.inr (fun _ => none)))))), (q_2, .inr (4, [.ref (a_3 1), .ref (a_3 2), .ref (a_3 3), .int 0, .int 0, .int 0, .int 0, .int 0, .int 0, .int 0])), ((a_3 1), .inl (cy 14, 3, .inl (fun _ => 0))), ((a_3 2), .inl (cy 14, 3, .inl (fun _ => 0))), ((a_3 3), .inr (5, [.ref (a_3 4), .int 0])), ((a_3 4), .inl (cy 14, 61, .inl (fun _ => 0))), (q_4, .inl (cy 14, 24, .inl (fun _ => 0))), (q_5, .inl (cy 14, 3, .inl (fun _ => 0))), (q_6, .inr (7, [.int 0, .int 0, .int 0, .int 0, .int 0, .int 0]))]) H := hP
  have hD : va_D (va_A [(h0, .inr (8, [.null, .null, .null, .null, .int 0, .int 0, .int 0, .int 0, .int 0, .int 0, .int 0, .int 0, .int 0]))] s.heap.size) ([(h0, .inr (8, [.ref q_1, .ref q_2, .ref q_4, .ref q_5, .int 0, .int 0, .int 0, .int (-1), .int 0, .int 0, .int 0, .int 0, .int 0])), (q_1, .inl (cy 18, 3, .inr (.inr (.inr (.inr (fun _ => none)))))), (q_2, .inr (4, [.ref (a_3 1), .ref (a_3 2), .ref (a_3 3), .int 0, .int 0, .int 0, .int 0, .int 0, .int 0, .int 0])), ((a_3 1), .inl (cy 14, 3, .inl (fun _ => 0))), ((a_3 2), .inl (cy 14, 3, .inl (fun _ => 0))), ((a_3 3), .inr (5, [.ref (a_3 4), .int 0])), ((a_3 4), .inl (cy 14, 61, .inl (fun _ => 0))), (q_4, .inl (cy 14, 24, .inl (fun _ => 0))), (q_5, .inl (cy 14, 3, .inl (fun _ => 0))), (q_6, .inr (7, [.int 0, .int 0, .int 0, .int 0, .int 0, .int 0]))]) := hD
  refine W.widen (k := 9) (n := 115) (Nat.le_of_ble_eq_true rfl) (Nat.le_of_ble_eq_true rfl) ?_
  refine va_astq (D := D) hx hb F.2.1 hP hD hS 1 5 9 7 rfl rfl rfl rfl (i := (0 : Int32)) (zin_in (by decide)) dX8_init_66 (fun H locs hP hD hS => ?_)
  have hP : va_P D vwCl ([(h0, .inr (8, [.ref q_1, .ref q_2, .ref q_4, .ref q_5, .int 0, .int 0, .int 0, .int (-1), .int 0, .int 0, .int 0, .int 0, .int 0])), (q_1, .inl (cy 18, 3, .inr (.inr (.inr (.inr (va_up (fun _ => none) 0 (some q_6))))))), (q_2, .inr (4, [.ref (a_3 1), .ref (a_3 2), .ref (a_3 3), .int 0, .int 0, .int 0, .int 0, .int 0, .int 0, .int 0])), ((a_3 1), .inl (cy 14, 3, .inl (fun _ => 0))), ((a_3 2), .inl (cy 14, 3, .inl (fun _ => 0))), ((a_3 3), .inr (5, [.ref (a_3 4), .int 0])), ((a_3 4), .inl (cy 14, 61, .inl (fun _ => 0))), (q_4, .inl (cy 14, 24, .inl (fun _ => 0))), (q_5, .inl (cy 14, 3, .inl (fun _ => 0))), (q_6, .inr (7, [.int 0, .int 0, .int 0, .int 0, .int 0, .int 0]))]) H := hP
  have hD : va_D (va_A [(h0, .inr (8, [.null, .null, .null, .null, .int 0, .int 0, .int 0, .int 0, .int 0, .int 0, .int 0, .int 0, .int 0]))] s.heap.size) ([(h0, .inr (8, [.ref q_1, .ref q_2, .ref q_4, .ref q_5, .int 0, .int 0, .int 0, .int (-1), .int 0, .int 0, .int 0, .int 0, .int 0])), (q_1, .inl (cy 18, 3, .inr (.inr (.inr (.inr (va_up (fun _ => none) 0 (some q_6))))))), (q_2, .inr (4, [.ref (a_3 1), .ref (a_3 2), .ref (a_3 3), .int 0, .int 0, .int 0, .int 0, .int 0, .int 0, .int 0])), ((a_3 1), .inl (cy 14, 3, .inl (fun _ => 0))), ((a_3 2), .inl (cy 14, 3, .inl (fun _ => 0))), ((a_3 3), .inr (5, [.ref (a_3 4), .int 0])), ((a_3 4), .inl (cy 14, 61, .inl (fun _ => 0))), (q_4, .inl (cy 14, 24, .inl (fun _ => 0))), (q_5, .inl (cy 14, 3, .inl (fun _ => 0))), (q_6, .inr (7, [.int 0, .int 0, .int 0, .int 0, .int 0, .int 0]))]) := hD
  refine lv_iinc (v := (1 : Int32)) (lv' := [(1, .int 1), (0, .ref h0)]) hx hb dX8_init_67 hl (k := 0) rfl (by decide) (by decide) rfl (fun ls hl => ?_)
  refine lv_goto (tgt := 45) hx hb dX8_init_70 (by decide) ?_
  refine lv_iload_n hx hb dX8_init_45 rfl (lv_at hl 0 rfl) ?_
  refine lv_aload_n hx hb dX8_init_46 rfl (lv_at hl 1 rfl) ?_
  refine va_get (D := D) (ci := 8) (v := .ref q_1) hx hb F.1.2.2.2.2 zc8.2.2.1 F.1.2.2.2.1 F.2.1 hP 0 rfl rfl 0 (by decide) (F.1.2.2.2.2 _ zf8_11) (fun _ h => h) rfl dX8_init_47 ?_
  refine va_alen (D := D) (v := (3 : Int32)) hx hb F.2.1 hP 1 5 rfl rfl rfl dX8_init_50 ?_
  refine lv_icmp_ge (tgt := 73) hx hb dX8_init_51 (by decide) (fun c1 => absurd c1 (by decide)) (fun _ => ?_)
  refine lv_aload_n hx hb dX8_init_54 rfl (lv_at hl 1 rfl) ?_
  refine va_get (D := D) (ci := 8) (v := .ref q_1) hx hb F.1.2.2.2.2 zc8.2.2.1 F.1.2.2.2.1 F.2.1 hP 0 rfl rfl 0 (by decide) (F.1.2.2.2.2 _ zf8_11) (fun _ h => h) rfl dX8_init_55 ?_
  refine lv_iload_n hx hb dX8_init_58 rfl (lv_at hl 0 rfl) ?_
  refine va_new (D := D) (ci := 7) (fs := [.int 0, .int 0, .int 0, .int 0, .int 0, .int 0]) hx hb F.1.2.2.2.2 zc7.2.2.1 tyX7 tyX7_ok F.1.2.2.2.1 (F.1.2.2.2.2 _ zcl8_9) (F.1.2.2.2.2 _ zin_7) (F.1.2.2.2.2 _ zit_7) F.2.1 hP hD hS hA rfl (by decide +kernel) (Nat.le_of_ble_eq_true rfl) (Nat.le_of_ble_eq_true rfl) dX8_init_59 (fun q_8 H hP hD hS => ?_)
  have hP : va_P D vwCl ([(h0, .inr (8, [.ref q_1, .ref q_2, .ref q_4, .ref q_5, .int 0, .int 0, .int 0, .int (-1), .int 0, .int 0, .int 0, .int 0, .int 0])), (q_1, .inl (cy 18, 3, .inr (.inr (.inr (.inr (va_up (fun _ => none) 0 (some q_6))))))), (q_2, .inr (4, [.ref (a_3 1), .ref (a_3 2), .ref (a_3 3), .int 0, .int 0, .int 0, .int 0, .int 0, .int 0, .int 0])), ((a_3 1), .inl (cy 14, 3, .inl (fun _ => 0))), ((a_3 2), .inl (cy 14, 3, .inl (fun _ => 0))), ((a_3 3), .inr (5, [.ref (a_3 4), .int 0])), ((a_3 4), .inl (cy 14, 61, .inl (fun _ => 0))), (q_4, .inl (cy 14, 24, .inl (fun _ => 0))), (q_5, .inl (cy 14, 3, .inl (fun _ => 0))), (q_6, .inr (7, [.int 0, .int 0, .int 0, .int 0, .int 0, .int 0])), (q_8, .inr (7, [.int 0, .int 0, .int 0, .int 0, .int 0, .int 0]))]) H := hP
  have hD : va_D (va_A [(h0, .inr (8, [.null, .null, .null, .null, .int 0, .int 0, .int 0, .int 0, .int 0, .int 0, .int 0, .int 0, .int 0]))] s.heap.size) ([(h0, .inr (8, [.ref q_1, .ref q_2, .ref q_4, .ref q_5, .int 0, .int 0, .int 0, .int (-1), .int 0, .int 0, .int 0, .int 0, .int 0])), (q_1, .inl (cy 18, 3, .inr (.inr (.inr (.inr (va_up (fun _ => none) 0 (some q_6))))))), (q_2, .inr (4, [.ref (a_3 1), .ref (a_3 2), .ref (a_3 3), .int 0, .int 0, .int 0, .int 0, .int 0, .int 0, .int 0])), ((a_3 1), .inl (cy 14, 3, .inl (fun _ => 0))), ((a_3 2), .inl (cy 14, 3, .inl (fun _ => 0))), ((a_3 3), .inr (5, [.ref (a_3 4), .int 0])), ((a_3 4), .inl (cy 14, 61, .inl (fun _ => 0))), (q_4, .inl (cy 14, 24, .inl (fun _ => 0))), (q_5, .inl (cy 14, 3, .inl (fun _ => 0))), (q_6, .inr (7, [.int 0, .int 0, .int 0, .int 0, .int 0, .int 0])), (q_8, .inr (7, [.int 0, .int 0, .int 0, .int 0, .int 0, .int 0]))]) := hD
  refine W.widen (k := 10) (n := 121) (Nat.le_of_ble_eq_true rfl) (Nat.le_of_ble_eq_true rfl) ?_
  refine lv_dup hx hb dX8_init_62 rfl ?_
  refine y_cN F hN hl.1 (wr := [(h0, .inr (8, [.ref q_1, .ref q_2, .ref q_4, .ref q_5, .int 0, .int 0, .int 0, .int (-1), .int 0, .int 0, .int 0, .int 0, .int 0])), (q_1, .inl (cy 18, 3, .inr (.inr (.inr (.inr (va_up (fun _ => none) 0 (some q_6))))))), (q_2, .inr (4, [.ref (a_3 1), .ref (a_3 2), .ref (a_3 3), .int 0, .int 0, .int 0, .int 0, .int 0, .int 0, .int 0])), ((a_3 1), .inl (cy 14, 3, .inl (fun _ => 0))), ((a_3 2), .inl (cy 14, 3, .inl (fun _ => 0))), ((a_3 3), .inr (5, [.ref (a_3 4), .int 0])), ((a_3 4), .inl (cy 14, 61, .inl (fun _ => 0))), (q_4, .inl (cy 14, 24, .inl (fun _ => 0))), (q_5, .inl (cy 14, 3, .inl (fun _ => 0))), (q_6, .inr (7, [.int 0, .int 0, .int 0, .int 0, .int 0, .int 0]))]) (As := []) (rest := [.ref q_8, .int 1, .ref q_1]) hP hD hS hA (ztX7_init l D cy q_8) zyX7_init hN.2.2.2.2.1 ⟨rfl, rfl⟩ ⟨by decide, by decide⟩ rfl rfl (Nat.le_of_ble_eq_true rfl) dX8_init_63 ⟨Nat.le_of_ble_eq_true rfl, Nat.le_of_ble_eq_true rfl⟩ (fun a_9 H locs hP hD hS => ?_)
  have hP : va_P D vwCl ([(h0, .inr (8, [.ref q_1, .ref q_2, .ref q_4, .ref q_5, .int 0, .int 0, .int 0, .int (-1), .int 0, .int 0, .int 0, .int 0, .int 0])), (q_1, .inl (cy 18, 3, .inr (.inr (.inr (.inr (va_up (fun _ => none) 0 (some q_6))))))), (q_2, .inr (4, [.ref (a_3 1), .ref (a_3 2), .ref (a_3 3), .int 0, .int 0, .int 0, .int 0, .int 0, .int 0, .int 0])), ((a_3 1), .inl (cy 14, 3, .inl (fun _ => 0))), ((a_3 2), .inl (cy 14, 3, .inl (fun _ => 0))), ((a_3 3), .inr (5, [.ref (a_3 4), .int 0])), ((a_3 4), .inl (cy 14, 61, .inl (fun _ => 0))), (q_4, .inl (cy 14, 24, .inl (fun _ => 0))), (q_5, .inl (cy 14, 3, .inl (fun _ => 0))), (q_6, .inr (7, [.int 0, .int 0, .int 0, .int 0, .int 0, .int 0])), (q_8, .inr (7, [.int 0, .int 0, .int 0, .int 0, .int 0, .int 0]))]) H := hP
  have hD : va_D (va_A [(h0, .inr (8, [.null, .null, .null, .null, .int 0, .int 0, .int 0, .int 0, .int 0, .int 0, .int 0, .int 0, .int 0]))] s.heap.size) ([(h0, .inr (8, [.ref q_1, .ref q_2, .ref q_4, .ref q_5, .int 0, .int 0, .int 0, .int (-1), .int 0, .int 0, .int 0, .int 0, .int 0])), (q_1, .inl (cy 18, 3, .inr (.inr (.inr (.inr (va_up (fun _ => none) 0 (some q_6))))))), (q_2, .inr (4, [.ref (a_3 1), .ref (a_3 2), .ref (a_3 3), .int 0, .int 0, .int 0, .int 0, .int 0, .int 0, .int 0])), ((a_3 1), .inl (cy 14, 3, .inl (fun _ => 0))), ((a_3 2), .inl (cy 14, 3, .inl (fun _ => 0))), ((a_3 3), .inr (5, [.ref (a_3 4), .int 0])), ((a_3 4), .inl (cy 14, 61, .inl (fun _ => 0))), (q_4, .inl (cy 14, 24, .inl (fun _ => 0))), (q_5, .inl (cy 14, 3, .inl (fun _ => 0))), (q_6, .inr (7, [.int 0, .int 0, .int 0, .int 0, .int 0, .int 0])), (q_8, .inr (7, [.int 0, .int 0, .int 0, .int 0, .int 0, .int 0]))]) := hD
  refine W.widen (k := 10) (n := 121) (Nat.le_of_ble_eq_true rfl) (Nat.le_of_ble_eq_true rfl) ?_
  refine va_astq (D := D) hx hb F.2.1 hP hD hS 1 5 10 7 rfl rfl rfl rfl (i := (1 : Int32)) (zin_in (by decide)) dX8_init_66 (fun H locs hP hD hS => ?_)
  have hP : va_P D vwCl ([(h0, .inr (8, [.ref q_1, .ref q_2, .ref q_4, .ref q_5, .int 0, .int 0, .int 0, .int (-1), .int 0, .int 0, .int 0, .int 0, .int 0])), (q_1, .inl (cy 18, 3, .inr (.inr (.inr (.inr (va_up (va_up (fun _ => none) 0 (some q_6)) 1 (some q_8))))))), (q_2, .inr (4, [.ref (a_3 1), .ref (a_3 2), .ref (a_3 3), .int 0, .int 0, .int 0, .int 0, .int 0, .int 0, .int 0])), ((a_3 1), .inl (cy 14, 3, .inl (fun _ => 0))), ((a_3 2), .inl (cy 14, 3, .inl (fun _ => 0))), ((a_3 3), .inr (5, [.ref (a_3 4), .int 0])), ((a_3 4), .inl (cy 14, 61, .inl (fun _ => 0))), (q_4, .inl (cy 14, 24, .inl (fun _ => 0))), (q_5, .inl (cy 14, 3, .inl (fun _ => 0))), (q_6, .inr (7, [.int 0, .int 0, .int 0, .int 0, .int 0, .int 0])), (q_8, .inr (7, [.int 0, .int 0, .int 0, .int 0, .int 0, .int 0]))]) H := hP
  have hD : va_D (va_A [(h0, .inr (8, [.null, .null, .null, .null, .int 0, .int 0, .int 0, .int 0, .int 0, .int 0, .int 0, .int 0, .int 0]))] s.heap.size) ([(h0, .inr (8, [.ref q_1, .ref q_2, .ref q_4, .ref q_5, .int 0, .int 0, .int 0, .int (-1), .int 0, .int 0, .int 0, .int 0, .int 0])), (q_1, .inl (cy 18, 3, .inr (.inr (.inr (.inr (va_up (va_up (fun _ => none) 0 (some q_6)) 1 (some q_8))))))), (q_2, .inr (4, [.ref (a_3 1), .ref (a_3 2), .ref (a_3 3), .int 0, .int 0, .int 0, .int 0, .int 0, .int 0, .int 0])), ((a_3 1), .inl (cy 14, 3, .inl (fun _ => 0))), ((a_3 2), .inl (cy 14, 3, .inl (fun _ => 0))), ((a_3 3), .inr (5, [.ref (a_3 4), .int 0])), ((a_3 4), .inl (cy 14, 61, .inl (fun _ => 0))), (q_4, .inl (cy 14, 24, .inl (fun _ => 0))), (q_5, .inl (cy 14, 3, .inl (fun _ => 0))), (q_6, .inr (7, [.int 0, .int 0, .int 0, .int 0, .int 0, .int 0])), (q_8, .inr (7, [.int 0, .int 0, .int 0, .int 0, .int 0, .int 0]))]) := hD
  refine lv_iinc (v := (2 : Int32)) (lv' := [(1, .int 2), (0, .ref h0)]) hx hb dX8_init_67 hl (k := 0) rfl (by decide) (by decide) rfl (fun ls hl => ?_)
  refine lv_goto (tgt := 45) hx hb dX8_init_70 (by decide) ?_
  refine lv_iload_n hx hb dX8_init_45 rfl (lv_at hl 0 rfl) ?_
  refine lv_aload_n hx hb dX8_init_46 rfl (lv_at hl 1 rfl) ?_
  refine va_get (D := D) (ci := 8) (v := .ref q_1) hx hb F.1.2.2.2.2 zc8.2.2.1 F.1.2.2.2.1 F.2.1 hP 0 rfl rfl 0 (by decide) (F.1.2.2.2.2 _ zf8_11) (fun _ h => h) rfl dX8_init_47 ?_
  refine va_alen (D := D) (v := (3 : Int32)) hx hb F.2.1 hP 1 5 rfl rfl rfl dX8_init_50 ?_
  refine lv_icmp_ge (tgt := 73) hx hb dX8_init_51 (by decide) (fun c1 => absurd c1 (by decide)) (fun _ => ?_)
  refine lv_aload_n hx hb dX8_init_54 rfl (lv_at hl 1 rfl) ?_
  refine va_get (D := D) (ci := 8) (v := .ref q_1) hx hb F.1.2.2.2.2 zc8.2.2.1 F.1.2.2.2.1 F.2.1 hP 0 rfl rfl 0 (by decide) (F.1.2.2.2.2 _ zf8_11) (fun _ h => h) rfl dX8_init_55 ?_
  refine lv_iload_n hx hb dX8_init_58 rfl (lv_at hl 0 rfl) ?_
  refine va_new (D := D) (ci := 7) (fs := [.int 0, .int 0, .int 0, .int 0, .int 0, .int 0]) hx hb F.1.2.2.2.2 zc7.2.2.1 tyX7 tyX7_ok F.1.2.2.2.1 (F.1.2.2.2.2 _ zcl8_9) (F.1.2.2.2.2 _ zin_7) (F.1.2.2.2.2 _ zit_7) F.2.1 hP hD hS hA rfl (by decide +kernel) (Nat.le_of_ble_eq_true rfl) (Nat.le_of_ble_eq_true rfl) dX8_init_59 (fun q_10 H hP hD hS => ?_)
  have hP : va_P D vwCl ([(h0, .inr (8, [.ref q_1, .ref q_2, .ref q_4, .ref q_5, .int 0, .int 0, .int 0, .int (-1), .int 0, .int 0, .int 0, .int 0, .int 0])), (q_1, .inl (cy 18, 3, .inr (.inr (.inr (.inr (va_up (va_up (fun _ => none) 0 (some q_6)) 1 (some q_8))))))), (q_2, .inr (4, [.ref (a_3 1), .ref (a_3 2), .ref (a_3 3), .int 0, .int 0, .int 0, .int 0, .int 0, .int 0, .int 0])), ((a_3 1), .inl (cy 14, 3, .inl (fun _ => 0))), ((a_3 2), .inl (cy 14, 3, .inl (fun _ => 0))), ((a_3 3), .inr (5, [.ref (a_3 4), .int 0])), ((a_3 4), .inl (cy 14, 61, .inl (fun _ => 0))), (q_4, .inl (cy 14, 24, .inl (fun _ => 0))), (q_5, .inl (cy 14, 3, .inl (fun _ => 0))), (q_6, .inr (7, [.int 0, .int 0, .int 0, .int 0, .int 0, .int 0])), (q_8, .inr (7, [.int 0, .int 0, .int 0, .int 0, .int 0, .int 0])), (q_10, .inr (7, [.int 0, .int 0, .int 0, .int 0, .int 0, .int 0]))]) H := hP
  have hD : va_D (va_A [(h0, .inr (8, [.null, .null, .null, .null, .int 0, .int 0, .int 0, .int 0, .int 0, .int 0, .int 0, .int 0, .int 0]))] s.heap.size) ([(h0, .inr (8, [.ref q_1, .ref q_2, .ref q_4, .ref q_5, .int 0, .int 0, .int 0, .int (-1), .int 0, .int 0, .int 0, .int 0, .int 0])), (q_1, .inl (cy 18, 3, .inr (.inr (.inr (.inr (va_up (va_up (fun _ => none) 0 (some q_6)) 1 (some q_8))))))), (q_2, .inr (4, [.ref (a_3 1), .ref (a_3 2), .ref (a_3 3), .int 0, .int 0, .int 0, .int 0, .int 0, .int 0, .int 0])), ((a_3 1), .inl (cy 14, 3, .inl (fun _ => 0))), ((a_3 2), .inl (cy 14, 3, .inl (fun _ => 0))), ((a_3 3), .inr (5, [.ref (a_3 4), .int 0])), ((a_3 4), .inl (cy 14, 61, .inl (fun _ => 0))), (q_4, .inl (cy 14, 24, .inl (fun _ => 0))), (q_5, .inl (cy 14, 3, .inl (fun _ => 0))), (q_6, .inr (7, [.int 0, .int 0, .int 0, .int 0, .int 0, .int 0])), (q_8, .inr (7, [.int 0, .int 0, .int 0, .int 0, .int 0, .int 0])), (q_10, .inr (7, [.int 0, .int 0, .int 0, .int 0, .int 0, .int 0]))]) := hD
  refine W.widen (k := 11) (n := 127) (Nat.le_of_ble_eq_true rfl) (Nat.le_of_ble_eq_true rfl) ?_
  refine lv_dup hx hb dX8_init_62 rfl ?_
  refine y_cN F hN hl.1 (wr := [(h0, .inr (8, [.ref q_1, .ref q_2, .ref q_4, .ref q_5, .int 0, .int 0, .int 0, .int (-1), .int 0, .int 0, .int 0, .int 0, .int 0])), (q_1, .inl (cy 18, 3, .inr (.inr (.inr (.inr (va_up (va_up (fun _ => none) 0 (some q_6)) 1 (some q_8))))))), (q_2, .inr (4, [.ref (a_3 1), .ref (a_3 2), .ref (a_3 3), .int 0, .int 0, .int 0, .int 0, .int 0, .int 0, .int 0])), ((a_3 1), .inl (cy 14, 3, .inl (fun _ => 0))), ((a_3 2), .inl (cy 14, 3, .inl (fun _ => 0))), ((a_3 3), .inr (5, [.ref (a_3 4), .int 0])), ((a_3 4), .inl (cy 14, 61, .inl (fun _ => 0))), (q_4, .inl (cy 14, 24, .inl (fun _ => 0))), (q_5, .inl (cy 14, 3, .inl (fun _ => 0))), (q_6, .inr (7, [.int 0, .int 0, .int 0, .int 0, .int 0, .int 0])), (q_8, .inr (7, [.int 0, .int 0, .int 0, .int 0, .int 0, .int 0]))]) (As := []) (rest := [.ref q_10, .int 2, .ref q_1]) hP hD hS hA (ztX7_init l D cy q_10) zyX7_init hN.2.2.2.2.1 ⟨rfl, rfl⟩ ⟨by decide, by decide⟩ rfl rfl (Nat.le_of_ble_eq_true rfl) dX8_init_63 ⟨Nat.le_of_ble_eq_true rfl, Nat.le_of_ble_eq_true rfl⟩ (fun a_11 H locs hP hD hS => ?_)
  have hP : va_P D vwCl ([(h0, .inr (8, [.ref q_1, .ref q_2, .ref q_4, .ref q_5, .int 0, .int 0, .int 0, .int (-1), .int 0, .int 0, .int 0, .int 0, .int 0])), (q_1, .inl (cy 18, 3, .inr (.inr (.inr (.inr (va_up (va_up (fun _ => none) 0 (some q_6)) 1 (some q_8))))))), (q_2, .inr (4, [.ref (a_3 1), .ref (a_3 2), .ref (a_3 3), .int 0, .int 0, .int 0, .int 0, .int 0, .int 0, .int 0])), ((a_3 1), .inl (cy 14, 3, .inl (fun _ => 0))), ((a_3 2), .inl (cy 14, 3, .inl (fun _ => 0))), ((a_3 3), .inr (5, [.ref (a_3 4), .int 0])), ((a_3 4), .inl (cy 14, 61, .inl (fun _ => 0))), (q_4, .inl (cy 14, 24, .inl (fun _ => 0))), (q_5, .inl (cy 14, 3, .inl (fun _ => 0))), (q_6, .inr (7, [.int 0, .int 0, .int 0, .int 0, .int 0, .int 0])), (q_8, .inr (7, [.int 0, .int 0, .int 0, .int 0, .int 0, .int 0])), (q_10, .inr (7, [.int 0, .int 0, .int 0, .int 0, .int 0, .int 0]))]) H := hP
  have hD : va_D (va_A [(h0, .inr (8, [.null, .null, .null, .null, .int 0, .int 0, .int 0, .int 0, .int 0, .int 0, .int 0, .int 0, .int 0]))] s.heap.size) ([(h0, .inr (8, [.ref q_1, .ref q_2, .ref q_4, .ref q_5, .int 0, .int 0, .int 0, .int (-1), .int 0, .int 0, .int 0, .int 0, .int 0])), (q_1, .inl (cy 18, 3, .inr (.inr (.inr (.inr (va_up (va_up (fun _ => none) 0 (some q_6)) 1 (some q_8))))))), (q_2, .inr (4, [.ref (a_3 1), .ref (a_3 2), .ref (a_3 3), .int 0, .int 0, .int 0, .int 0, .int 0, .int 0, .int 0])), ((a_3 1), .inl (cy 14, 3, .inl (fun _ => 0))), ((a_3 2), .inl (cy 14, 3, .inl (fun _ => 0))), ((a_3 3), .inr (5, [.ref (a_3 4), .int 0])), ((a_3 4), .inl (cy 14, 61, .inl (fun _ => 0))), (q_4, .inl (cy 14, 24, .inl (fun _ => 0))), (q_5, .inl (cy 14, 3, .inl (fun _ => 0))), (q_6, .inr (7, [.int 0, .int 0, .int 0, .int 0, .int 0, .int 0])), (q_8, .inr (7, [.int 0, .int 0, .int 0, .int 0, .int 0, .int 0])), (q_10, .inr (7, [.int 0, .int 0, .int 0, .int 0, .int 0, .int 0]))]) := hD
  refine W.widen (k := 11) (n := 127) (Nat.le_of_ble_eq_true rfl) (Nat.le_of_ble_eq_true rfl) ?_
  refine va_astq (D := D) hx hb F.2.1 hP hD hS 1 5 11 7 rfl rfl rfl rfl (i := (2 : Int32)) (zin_in (by decide)) dX8_init_66 (fun H locs hP hD hS => ?_)
  have hP : va_P D vwCl ([(h0, .inr (8, [.ref q_1, .ref q_2, .ref q_4, .ref q_5, .int 0, .int 0, .int 0, .int (-1), .int 0, .int 0, .int 0, .int 0, .int 0])), (q_1, .inl (cy 18, 3, .inr (.inr (.inr (.inr (va_up (va_up (va_up (fun _ => none) 0 (some q_6)) 1 (some q_8)) 2 (some q_10))))))), (q_2, .inr (4, [.ref (a_3 1), .ref (a_3 2), .ref (a_3 3), .int 0, .int 0, .int 0, .int 0, .int 0, .int 0, .int 0])), ((a_3 1), .inl (cy 14, 3, .inl (fun _ => 0))), ((a_3 2), .inl (cy 14, 3, .inl (fun _ => 0))), ((a_3 3), .inr (5, [.ref (a_3 4), .int 0])), ((a_3 4), .inl (cy 14, 61, .inl (fun _ => 0))), (q_4, .inl (cy 14, 24, .inl (fun _ => 0))), (q_5, .inl (cy 14, 3, .inl (fun _ => 0))), (q_6, .inr (7, [.int 0, .int 0, .int 0, .int 0, .int 0, .int 0])), (q_8, .inr (7, [.int 0, .int 0, .int 0, .int 0, .int 0, .int 0])), (q_10, .inr (7, [.int 0, .int 0, .int 0, .int 0, .int 0, .int 0]))]) H := hP
  have hD : va_D (va_A [(h0, .inr (8, [.null, .null, .null, .null, .int 0, .int 0, .int 0, .int 0, .int 0, .int 0, .int 0, .int 0, .int 0]))] s.heap.size) ([(h0, .inr (8, [.ref q_1, .ref q_2, .ref q_4, .ref q_5, .int 0, .int 0, .int 0, .int (-1), .int 0, .int 0, .int 0, .int 0, .int 0])), (q_1, .inl (cy 18, 3, .inr (.inr (.inr (.inr (va_up (va_up (va_up (fun _ => none) 0 (some q_6)) 1 (some q_8)) 2 (some q_10))))))), (q_2, .inr (4, [.ref (a_3 1), .ref (a_3 2), .ref (a_3 3), .int 0, .int 0, .int 0, .int 0, .int 0, .int 0, .int 0])), ((a_3 1), .inl (cy 14, 3, .inl (fun _ => 0))), ((a_3 2), .inl (cy 14, 3, .inl (fun _ => 0))), ((a_3 3), .inr (5, [.ref (a_3 4), .int 0])), ((a_3 4), .inl (cy 14, 61, .inl (fun _ => 0))), (q_4, .inl (cy 14, 24, .inl (fun _ => 0))), (q_5, .inl (cy 14, 3, .inl (fun _ => 0))), (q_6, .inr (7, [.int 0, .int 0, .int 0, .int 0, .int 0, .int 0])), (q_8, .inr (7, [.int 0, .int 0, .int 0, .int 0, .int 0, .int 0])), (q_10, .inr (7, [.int 0, .int 0, .int 0, .int 0, .int 0, .int 0]))]) := hD
  refine lv_iinc (v := (3 : Int32)) (lv' := [(1, .int 3), (0, .ref h0)]) hx hb dX8_init_67 hl (k := 0) rfl (by decide) (by decide) rfl (fun ls hl => ?_)
  refine lv_goto (tgt := 45) hx hb dX8_init_70 (by decide) ?_
  refine lv_iload_n hx hb dX8_init_45 rfl (lv_at hl 0 rfl) ?_
  refine lv_aload_n hx hb dX8_init_46 rfl (lv_at hl 1 rfl) ?_
  refine va_get (D := D) (ci := 8) (v := .ref q_1) hx hb F.1.2.2.2.2 zc8.2.2.1 F.1.2.2.2.1 F.2.1 hP 0 rfl rfl 0 (by decide) (F.1.2.2.2.2 _ zf8_11) (fun _ h => h) rfl dX8_init_47 ?_
  refine va_alen (D := D) (v := (3 : Int32)) hx hb F.2.1 hP 1 5 rfl rfl rfl dX8_init_50 ?_
  refine lv_icmp_ge (tgt := 73) hx hb dX8_init_51 (by decide) (fun _ => ?_) (fun c1 => absurd c1 (by decide))
  exact y_ret (post := (fun a => ylX8_init cy h0 a)) F hr hlk (fun i => ([h0, q_1, q_2, (a_3 1), (a_3 2), (a_3 3), (a_3 4), q_4, q_5, q_6, q_8, q_10] : List Nat).getD i 0) hP hD hS dX8_init_73

abbrev ylX6_init (cy : Nat → ClassId) (h0 : Nat) (k1 : Nat) (k2 : Nat) (a : Nat → Nat) : va_W := [(h0, .inr (6, [.ref k1, .ref k2, .int 0, .int 0, .int 0, .int 0, .int 0, .int 0, .int (-1)]))]
set_option maxHeartbeats 4000000 in
set_option maxRecDepth 100000 in
theorem ztX6_init (l : Launch) (D : va_G) (cy : Nat → ClassId) (h0 : Nat) (k1 : Nat) (k2 : Nat) : yC l yX6_init cX6_init 3 { frames := 1, cells := 0, slots := 0, locals := 20 } [.ref h0, .ref k1, .ref k2] D cy [(h0, .inr (6, [.null, .null, .int 0, .int 0, .int 0, .int 0, .int 0, .int 0, .int 0]))] (fun a => ylX6_init cy h0 k1 k2 a) 0 0 := by
  refine y_of (plainFor_of_name (by decide)) rfl (Nat.le_of_ble_eq_true rfl) (fun p e s m below meth c ls F hN hin hr hlk hl hP hD => ?_)
  have hx := F.1.1
  have hb := F.1.2.1
  have hl : lv_has ls 3 [(0, .ref h0), (1, .ref k1), (2, .ref k2)] := hl
  have hS : va_S (va_A [(h0, .inr (6, [.null, .null, .int 0, .int 0, .int 0, .int 0, .int 0, .int 0, .int 0]))] s.heap.size) s.heap s.heap [] := va_S.rf
  have hA : ∀ q : Nat, s.heap.size ≤ q → va_A [(h0, .inr (6, [.null, .null, .int 0, .int 0, .int 0, .int 0, .int 0, .int 0, .int 0]))] s.heap.size q := fun q h => Or.inr h
  refine lv_aload_n hx hb dX6_init_0 rfl (lv_at hl 0 rfl) ?_
  refine W.objInit hx hb F.1.2.2.2.1 (F.1.2.2.2.2 _ zoi6_3) (F.1.2.2.2.2 _ zoin) (F.1.2.2.2.2 _ zoic) rfl (by rw [F.1.2.2.1]; exact hl.1) rfl dX6_init_1 (Nat.le_of_ble_eq_true rfl) (Nat.le_of_ble_eq_true rfl) ?_
  refine W.eq (g2 := F0 m 4 ls []) rfl ?_
  refine lv_aload_n hx hb dX6_init_4 rfl (lv_at hl 0 rfl) ?_
  refine lv_iconst (v := (-1 : Int32)) hx hb dX6_init_5 (by decide) ?_
  refine va_put (D := D) (ci := 6) (v := .int (-1)) hx hb F.1.2.2.2.2 zc6.2.2.1 tyX6 tyX6_ok nmX6 F.1.2.2.2.1 F.2.1 hP hD hS 0 rfl rfl 8 (by decide) (F.1.2.2.2.2 _ zf6_9) (fun _ h => h) rfl (tyX6_ok 8 (by decide)) rfl rfl (Nat.le_of_ble_eq_true rfl) dX6_init_6 (fun H locs hP hD hS => ?_)
  have hP : va_P D vwCl ([(h0, .inr (6, [.null, .null, .int 0, .int 0, .int 0, .int 0, .int 0, .int 0, .int (-1)]))]) H := hP
  have hD : va_D (va_A [(h0, .inr (6, [.null, .null, .int 0, .int 0, .int 0, .int 0, .int 0, .int 0, .int 0]))] s.heap.size) ([(h0, .inr (6, [.null, .null, .int 0, .int 0, .int 0, .int 0, .int 0, .int 0, .int (-1)]))]) := hD
  refine lv_aload_n hx hb dX6_init_9 rfl (lv_at hl 0 rfl) ?_
  refine lv_aload_n hx hb dX6_init_10 rfl (lv_at hl 1 rfl) ?_
  refine va_putF (D := D) (ci := 6) (v := .ref k1) hx hb F.1.2.2.2.2 zc6.2.2.1 tyX6 tyX6_ok nmX6 F.1.2.2.2.1 F.2.1 hP hD hS 0 rfl rfl 0 (by decide) (F.1.2.2.2.2 _ zf6_15) (fun _ h => h) rfl hin rfl (tyX6_ok 0 (by decide)) rfl rfl (Nat.le_of_ble_eq_true rfl) dX6_init_11 (fun H locs hP hD hS => ?_)
  have hP : va_P D vwCl ([(h0, .inr (6, [.ref k1, .null, .int 0, .int 0, .int 0, .int 0, .int 0, .int 0, .int (-1)]))]) H := hP
  have hD : va_D (va_A [(h0, .inr (6, [.null, .null, .int 0, .int 0, .int 0, .int 0, .int 0, .int 0, .int 0]))] s.heap.size) ([(h0, .inr (6, [.ref k1, .null, .int 0, .int 0, .int 0, .int 0, .int 0, .int 0, .int (-1)]))]) := hD
  refine lv_aload_n hx hb dX6_init_14 rfl (lv_at hl 0 rfl) ?_
  refine lv_aload_n hx hb dX6_init_15 rfl (lv_at hl 2 rfl) ?_
  refine va_put (D := D) (ci := 6) (v := .ref k2) hx hb F.1.2.2.2.2 zc6.2.2.1 tyX6 tyX6_ok nmX6 F.1.2.2.2.1 F.2.1 hP hD hS 0 rfl rfl 1 (by decide) (F.1.2.2.2.2 _ zf6_19) (fun _ h => h) rfl (tyX6_ok 1 (by decide)) rfl rfl (Nat.le_of_ble_eq_true rfl) dX6_init_16 (fun H locs hP hD hS => ?_)
  have hP : va_P D vwCl ([(h0, .inr (6, [.ref k1, .ref k2, .int 0, .int 0, .int 0, .int 0, .int 0, .int 0, .int (-1)]))]) H := hP
  have hD : va_D (va_A [(h0, .inr (6, [.null, .null, .int 0, .int 0, .int 0, .int 0, .int 0, .int 0, .int 0]))] s.heap.size) ([(h0, .inr (6, [.ref k1, .ref k2, .int 0, .int 0, .int 0, .int 0, .int 0, .int 0, .int (-1)]))]) := hD
  exact y_ret (post := (fun a => ylX6_init cy h0 k1 k2 a)) F hr hlk (fun i => ([h0] : List Nat).getD i 0) hP hD hS dX6_init_19
