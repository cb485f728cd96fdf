theorem dX7_letGo_0 : decode cX7_letGo 0 = .ok (.aload_n 0, 1) := by decide +kernel
theorem dX7_letGo_1 : decode cX7_letGo 1 = .ok (.iconst 0, 1) := by decide +kernel
theorem dX7_letGo_2 : decode cX7_letGo 2 = .ok (.putfield 22, 3) := by decide +kernel
theorem dX7_letGo_5 : decode cX7_letGo 5 = .ok (.aload_n 0, 1) := by decide +kernel
theorem dX7_letGo_6 : decode cX7_letGo 6 = .ok (.iload_n 2, 1) := by decide +kernel
theorem dX7_letGo_7 : decode cX7_letGo 7 = .ok (.ineg, 1) := by decide +kernel
theorem dX7_letGo_8 : decode cX7_letGo 8 = .ok (.putfield 25, 3) := by decide +kernel
theorem dX7_letGo_11 : decode cX7_letGo 11 = .ok (.aload_n 0, 1) := by decide +kernel
theorem dX7_letGo_12 : decode cX7_letGo 12 = .ok (.iconst 0, 1) := by decide +kernel
theorem dX7_letGo_13 : decode cX7_letGo 13 = .ok (.putfield 28, 3) := by decide +kernel
theorem dX7_letGo_16 : decode cX7_letGo 16 = .ok (.aload_n 0, 1) := by decide +kernel
theorem dX7_letGo_17 : decode cX7_letGo 17 = .ok (.iload_n 1, 1) := by decide +kernel
theorem dX7_letGo_18 : decode cX7_letGo 18 = .ok (.putfield 31, 3) := by decide +kernel
theorem dX7_letGo_21 : decode cX7_letGo 21 = .ok (.return_, 1) := by decide +kernel
theorem dX7_clear_0 : decode cX7_clear 0 = .ok (.aload_n 0, 1) := by decide +kernel
theorem dX7_clear_1 : decode cX7_clear 1 = .ok (.iconst 0, 1) := by decide +kernel
theorem dX7_clear_2 : decode cX7_clear 2 = .ok (.iconst 0, 1) := by decide +kernel
theorem dX7_clear_3 : decode cX7_clear 3 = .ok (.invokevirtual 9, 3) := by decide +kernel
theorem dX7_clear_6 : decode cX7_clear 6 = .ok (.aload_n 0, 1) := by decide +kernel
theorem dX7_clear_7 : decode cX7_clear 7 = .ok (.iconst 0, 1) := by decide +kernel
theorem dX7_clear_8 : decode cX7_clear 8 = .ok (.putfield 15, 3) := by decide +kernel
theorem dX7_clear_11 : decode cX7_clear 11 = .ok (.aload_n 0, 1) := by decide +kernel
theorem dX7_clear_12 : decode cX7_clear 12 = .ok (.iconst 0, 1) := by decide +kernel
theorem dX7_clear_13 : decode cX7_clear 13 = .ok (.putfield 19, 3) := by decide +kernel
theorem dX7_clear_16 : decode cX7_clear 16 = .ok (.return_, 1) := by decide +kernel
theorem dX7_angle_0 : decode cX7_angle 0 = .ok (.bipush 16, 2) := by decide +kernel
theorem dX7_angle_2 : decode cX7_angle 2 = .ok (.aload_n 0, 1) := by decide +kernel
theorem dX7_angle_3 : decode cX7_angle 3 = .ok (.getfield 22, 3) := by decide +kernel
theorem dX7_angle_6 : decode cX7_angle 6 = .ok (.imul, 1) := by decide +kernel
theorem dX7_angle_7 : decode cX7_angle 7 = .ok (.aload_n 0, 1) := by decide +kernel
theorem dX7_angle_8 : decode cX7_angle 8 = .ok (.getfield 25, 3) := by decide +kernel
theorem dX7_angle_11 : decode cX7_angle 11 = .ok (.isub, 1) := by decide +kernel
theorem dX7_angle_12 : decode cX7_angle 12 = .ok (.ireturn, 1) := by decide +kernel
theorem dJ9_floorDiv_7cf53_0 : decode cJ9_floorDiv_7cf53 0 = .ok (.iload_n 0, 1) := by decide +kernel
theorem dJ9_floorDiv_7cf53_1 : decode cJ9_floorDiv_7cf53 1 = .ok (.iload_n 1, 1) := by decide +kernel
theorem dJ9_floorDiv_7cf53_2 : decode cJ9_floorDiv_7cf53 2 = .ok (.idiv, 1) := by decide +kernel
theorem dJ9_floorDiv_7cf53_3 : decode cJ9_floorDiv_7cf53 3 = .ok (.istore_n 2, 1) := by decide +kernel
theorem dJ9_floorDiv_7cf53_4 : decode cJ9_floorDiv_7cf53 4 = .ok (.iload_n 0, 1) := by decide +kernel
theorem dJ9_floorDiv_7cf53_5 : decode cJ9_floorDiv_7cf53 5 = .ok (.iload_n 1, 1) := by decide +kernel
theorem dJ9_floorDiv_7cf53_6 : decode cJ9_floorDiv_7cf53 6 = .ok (.ixor, 1) := by decide +kernel
theorem dJ9_floorDiv_7cf53_7 : decode cJ9_floorDiv_7cf53 7 = .ok (.ifCond .ge 14, 3) := by decide +kernel
theorem dJ9_floorDiv_7cf53_10 : decode cJ9_floorDiv_7cf53 10 = .ok (.iload_n 2, 1) := by decide +kernel
theorem dJ9_floorDiv_7cf53_11 : decode cJ9_floorDiv_7cf53 11 = .ok (.iload_n 1, 1) := by decide +kernel
theorem dJ9_floorDiv_7cf53_12 : decode cJ9_floorDiv_7cf53 12 = .ok (.imul, 1) := by decide +kernel
theorem dJ9_floorDiv_7cf53_13 : decode cJ9_floorDiv_7cf53 13 = .ok (.iload_n 0, 1) := by decide +kernel
theorem dJ9_floorDiv_7cf53_14 : decode cJ9_floorDiv_7cf53 14 = .ok (.if_icmp .eq 7, 3) := by decide +kernel
theorem dJ9_floorDiv_7cf53_17 : decode cJ9_floorDiv_7cf53 17 = .ok (.iload_n 2, 1) := by decide +kernel
theorem dJ9_floorDiv_7cf53_18 : decode cJ9_floorDiv_7cf53 18 = .ok (.iconst 1, 1) := by decide +kernel
theorem dJ9_floorDiv_7cf53_19 : decode cJ9_floorDiv_7cf53 19 = .ok (.isub, 1) := by decide +kernel
theorem dJ9_floorDiv_7cf53_20 : decode cJ9_floorDiv_7cf53 20 = .ok (.ireturn, 1) := by decide +kernel
theorem dJ9_floorDiv_7cf53_21 : decode cJ9_floorDiv_7cf53 21 = .ok (.iload_n 2, 1) := by decide +kernel
theorem dJ9_floorDiv_7cf53_22 : decode cJ9_floorDiv_7cf53 22 = .ok (.ireturn, 1) := by decide +kernel
theorem dX7_truePlace_0 : decode cX7_truePlace 0 = .ok (.aload_n 0, 1) := by decide +kernel
theorem dX7_truePlace_1 : decode cX7_truePlace 1 = .ok (.getfield 25, 3) := by decide +kernel
theorem dX7_truePlace_4 : decode cX7_truePlace 4 = .ok (.bipush 16, 2) := by decide +kernel
theorem dX7_truePlace_6 : decode cX7_truePlace 6 = .ok (.invokestatic 34, 3) := by decide +kernel
theorem dX7_truePlace_9 : decode cX7_truePlace 9 = .ok (.ireturn, 1) := by decide +kernel
theorem dX9_wave_0 : decode cX9_wave 0 = .ok (.iload_n 1, 1) := by decide +kernel
theorem dX9_wave_1 : decode cX9_wave 1 = .ok (.bipush 63, 2) := by decide +kernel
theorem dX9_wave_3 : decode cX9_wave 3 = .ok (.iand, 1) := by decide +kernel
theorem dX9_wave_4 : decode cX9_wave 4 = .ok (.istore_n 2, 1) := by decide +kernel
theorem dX9_wave_5 : decode cX9_wave 5 = .ok (.iload_n 1, 1) := by decide +kernel
theorem dX9_wave_6 : decode cX9_wave 6 = .ok (.bipush 6, 2) := by decide +kernel
theorem dX9_wave_8 : decode cX9_wave 8 = .ok (.ishr, 1) := by decide +kernel
theorem dX9_wave_9 : decode cX9_wave 9 = .ok (.iconst 3, 1) := by decide +kernel
theorem dX9_wave_10 : decode cX9_wave 10 = .ok (.iand, 1) := by decide +kernel
theorem dX9_wave_11 : decode cX9_wave 11 = .ok (.tableswitch 41 0 2 #[25, 29, 36], 25) := by decide +kernel
theorem dX9_wave_36 : decode cX9_wave 36 = .ok (.aload_n 0, 1) := by decide +kernel
theorem dX9_wave_37 : decode cX9_wave 37 = .ok (.iload_n 2, 1) := by decide +kernel
theorem dX9_wave_38 : decode cX9_wave 38 = .ok (.iaload, 1) := by decide +kernel
theorem dX9_wave_39 : decode cX9_wave 39 = .ok (.ireturn, 1) := by decide +kernel
theorem dX9_wave_40 : decode cX9_wave 40 = .ok (.aload_n 0, 1) := by decide +kernel
theorem dX9_wave_41 : decode cX9_wave 41 = .ok (.bipush 64, 2) := by decide +kernel
theorem dX9_wave_43 : decode cX9_wave 43 = .ok (.iload_n 2, 1) := by decide +kernel
theorem dX9_wave_44 : decode cX9_wave 44 = .ok (.isub, 1) := by decide +kernel
theorem dX9_wave_45 : decode cX9_wave 45 = .ok (.iaload, 1) := by decide +kernel
theorem dX9_wave_46 : decode cX9_wave 46 = .ok (.ireturn, 1) := by decide +kernel
theorem dX9_wave_47 : decode cX9_wave 47 = .ok (.aload_n 0, 1) := by decide +kernel
theorem dX9_wave_48 : decode cX9_wave 48 = .ok (.iload_n 2, 1) := by decide +kernel
theorem dX9_wave_49 : decode cX9_wave 49 = .ok (.iaload, 1) := by decide +kernel
theorem dX9_wave_50 : decode cX9_wave 50 = .ok (.ineg, 1) := by decide +kernel
theorem dX9_wave_51 : decode cX9_wave 51 = .ok (.ireturn, 1) := by decide +kernel
theorem dX9_wave_52 : decode cX9_wave 52 = .ok (.aload_n 0, 1) := by decide +kernel
theorem dX9_wave_53 : decode cX9_wave 53 = .ok (.bipush 64, 2) := by decide +kernel
theorem dX9_wave_55 : decode cX9_wave 55 = .ok (.iload_n 2, 1) := by decide +kernel
theorem dX9_wave_56 : decode cX9_wave 56 = .ok (.isub, 1) := by decide +kernel
theorem dX9_wave_57 : decode cX9_wave 57 = .ok (.iaload, 1) := by decide +kernel
theorem dX9_wave_58 : decode cX9_wave 58 = .ok (.ineg, 1) := by decide +kernel
theorem dX9_wave_59 : decode cX9_wave 59 = .ok (.ireturn, 1) := by decide +kernel
theorem dX7_push_0 : decode cX7_push 0 = .ok (.aload_n 1, 1) := by decide +kernel
theorem dX7_push_1 : decode cX7_push 1 = .ok (.getfield 40, 3) := by decide +kernel
theorem dX7_push_4 : decode cX7_push 4 = .ok (.aload_n 2, 1) := by decide +kernel
theorem dX7_push_5 : decode cX7_push 5 = .ok (.getfield 45, 3) := by decide +kernel
theorem dX7_push_8 : decode cX7_push 8 = .ok (.aload_n 0, 1) := by decide +kernel
theorem dX7_push_9 : decode cX7_push 9 = .ok (.invokevirtual 51, 3) := by decide +kernel
theorem dX7_push_12 : decode cX7_push 12 = .ok (.bipush 16, 2) := by decide +kernel
theorem dX7_push_14 : decode cX7_push 14 = .ok (.idiv, 1) := by decide +kernel
theorem dX7_push_15 : decode cX7_push 15 = .ok (.invokestatic 55, 3) := by decide +kernel
theorem dX7_push_18 : decode cX7_push 18 = .ok (.imul, 1) := by decide +kernel
theorem dX7_push_19 : decode cX7_push 19 = .ok (.sipush 1000, 3) := by decide +kernel
theorem dX7_push_22 : decode cX7_push 22 = .ok (.idiv, 1) := by decide +kernel
theorem dX7_push_23 : decode cX7_push 23 = .ok (.istore_n 3, 1) := by decide +kernel
theorem dX7_push_24 : decode cX7_push 24 = .ok (.aload_n 1, 1) := by decide +kernel
theorem dX7_push_25 : decode cX7_push 25 = .ok (.getfield 59, 3) := by decide +kernel
theorem dX7_push_28 : decode cX7_push 28 = .ok (.iconst 1, 1) := by decide +kernel
theorem dX7_push_29 : decode cX7_push 29 = .ok (.if_icmp .ge 7, 3) := by decide +kernel
theorem dX7_push_32 : decode cX7_push 32 = .ok (.iconst 0, 1) := by decide +kernel
theorem dX7_push_33 : decode cX7_push 33 = .ok (.goto 14, 3) := by decide +kernel
theorem dX7_push_36 : decode cX7_push 36 = .ok (.iload_n 3, 1) := by decide +kernel
theorem dX7_push_37 : decode cX7_push 37 = .ok (.aload_n 0, 1) := by decide +kernel
theorem dX7_push_38 : decode cX7_push 38 = .ok (.getfield 31, 3) := by decide +kernel
theorem dX7_push_41 : decode cX7_push 41 = .ok (.isub, 1) := by decide +kernel
theorem dX7_push_42 : decode cX7_push 42 = .ok (.aload_n 1, 1) := by decide +kernel
theorem dX7_push_43 : decode cX7_push 43 = .ok (.getfield 59, 3) := by decide +kernel
theorem dX7_push_46 : decode cX7_push 46 = .ok (.idiv, 1) := by decide +kernel
theorem dX7_push_47 : decode cX7_push 47 = .ok (.ireturn, 1) := by decide +kernel
theorem dX7_turn_0 : decode cX7_turn 0 = .ok (.aload_n 0, 1) := by decide +kernel
theorem dX7_turn_1 : decode cX7_turn 1 = .ok (.getfield 28, 3) := by decide +kernel
theorem dX7_turn_4 : decode cX7_turn 4 = .ok (.aload_n 0, 1) := by decide +kernel
theorem dX7_turn_5 : decode cX7_turn 5 = .ok (.aload_n 1, 1) := by decide +kernel
theorem dX7_turn_6 : decode cX7_turn 6 = .ok (.aload_n 2, 1) := by decide +kernel
theorem dX7_turn_7 : decode cX7_turn 7 = .ok (.invokevirtual 62, 3) := by decide +kernel
theorem dX7_turn_10 : decode cX7_turn 10 = .ok (.iadd, 1) := by decide +kernel
theorem dX7_turn_11 : decode cX7_turn 11 = .ok (.istore_n 3, 1) := by decide +kernel
theorem dX7_turn_12 : decode cX7_turn 12 = .ok (.iload_n 3, 1) := by decide +kernel
theorem dX7_turn_13 : decode cX7_turn 13 = .ok (.iload_n 3, 1) := by decide +kernel
theorem dX7_turn_14 : decode cX7_turn 14 = .ok (.aload_n 1, 1) := by decide +kernel
theorem dX7_turn_15 : decode cX7_turn 15 = .ok (.getfield 66, 3) := by decide +kernel
theorem dX7_turn_18 : decode cX7_turn 18 = .ok (.imul, 1) := by decide +kernel
theorem dX7_turn_19 : decode cX7_turn 19 = .ok (.bipush 100, 2) := by decide +kernel
theorem dX7_turn_21 : decode cX7_turn 21 = .ok (.idiv, 1) := by decide +kernel
theorem dX7_turn_22 : decode cX7_turn 22 = .ok (.isub, 1) := by decide +kernel
theorem dX7_turn_23 : decode cX7_turn 23 = .ok (.istore_n 3, 1) := by decide +kernel
theorem dX7_turn_24 : decode cX7_turn 24 = .ok (.aload_n 0, 1) := by decide +kernel
theorem dX7_turn_25 : decode cX7_turn 25 = .ok (.sipush (-2000), 3) := by decide +kernel
theorem dX7_turn_28 : decode cX7_turn 28 = .ok (.sipush 2000, 3) := by decide +kernel
theorem dX7_turn_31 : decode cX7_turn 31 = .ok (.iload_n 3, 1) := by decide +kernel
theorem dX7_turn_32 : decode cX7_turn 32 = .ok (.invokestatic 69, 3) := by decide +kernel
theorem dX7_turn_35 : decode cX7_turn 35 = .ok (.invokestatic 72, 3) := by decide +kernel
theorem dX7_turn_38 : decode cX7_turn 38 = .ok (.putfield 28, 3) := by decide +kernel
theorem dX7_turn_41 : decode cX7_turn 41 = .ok (.aload_n 0, 1) := by decide +kernel
theorem dX7_turn_42 : decode cX7_turn 42 = .ok (.dup, 1) := by decide +kernel
theorem dX7_turn_43 : decode cX7_turn 43 = .ok (.getfield 25, 3) := by decide +kernel
theorem dX7_turn_46 : decode cX7_turn 46 = .ok (.aload_n 0, 1) := by decide +kernel
theorem dX7_turn_47 : decode cX7_turn 47 = .ok (.getfield 28, 3) := by decide +kernel
theorem dX7_turn_50 : decode cX7_turn 50 = .ok (.iadd, 1) := by decide +kernel
theorem dX7_turn_51 : decode cX7_turn 51 = .ok (.putfield 25, 3) := by decide +kernel
theorem dX7_turn_54 : decode cX7_turn 54 = .ok (.return_, 1) := by decide +kernel
theorem dX7_isCalm_0 : decode cX7_isCalm 0 = .ok (.aload_n 0, 1) := by decide +kernel
theorem dX7_isCalm_1 : decode cX7_isCalm 1 = .ok (.getfield 28, 3) := by decide +kernel
theorem dX7_isCalm_4 : decode cX7_isCalm 4 = .ok (.ifCond .ne 16, 3) := by decide +kernel
theorem dX7_isCalm_7 : decode cX7_isCalm 7 = .ok (.aload_n 0, 1) := by decide +kernel
theorem dX7_isCalm_8 : decode cX7_isCalm 8 = .ok (.aload_n 1, 1) := by decide +kernel
theorem dX7_isCalm_9 : decode cX7_isCalm 9 = .ok (.aload_n 2, 1) := by decide +kernel
theorem dX7_isCalm_10 : decode cX7_isCalm 10 = .ok (.invokevirtual 62, 3) := by decide +kernel
theorem dX7_isCalm_13 : decode cX7_isCalm 13 = .ok (.ifCond .ne 7, 3) := by decide +kernel
theorem dX7_isCalm_16 : decode cX7_isCalm 16 = .ok (.iconst 1, 1) := by decide +kernel
theorem dX7_isCalm_17 : decode cX7_isCalm 17 = .ok (.goto 4, 3) := by decide +kernel
theorem dX7_isCalm_20 : decode cX7_isCalm 20 = .ok (.iconst 0, 1) := by decide +kernel
theorem dX7_isCalm_21 : decode cX7_isCalm 21 = .ok (.ireturn, 1) := by decide +kernel
theorem dX7_isOffBy_0 : decode cX7_isOffBy 0 = .ok (.aload_n 0, 1) := by decide +kernel
theorem dX7_isOffBy_1 : decode cX7_isOffBy 1 = .ok (.invokevirtual 51, 3) := by decide +kernel
theorem dX7_isOffBy_4 : decode cX7_isOffBy 4 = .ok (.invokestatic 75, 3) := by decide +kernel
theorem dX7_isOffBy_7 : decode cX7_isOffBy 7 = .ok (.iload_n 1, 1) := by decide +kernel
theorem dX7_isOffBy_8 : decode cX7_isOffBy 8 = .ok (.if_icmp .lt 7, 3) := by decide +kernel
theorem dX7_isOffBy_11 : decode cX7_isOffBy 11 = .ok (.iconst 1, 1) := by decide +kernel
theorem dX7_isOffBy_12 : decode cX7_isOffBy 12 = .ok (.goto 4, 3) := by decide +kernel
theorem dX7_isOffBy_15 : decode cX7_isOffBy 15 = .ok (.iconst 0, 1) := by decide +kernel
theorem dX7_isOffBy_16 : decode cX7_isOffBy 16 = .ok (.ireturn, 1) := by decide +kernel
theorem dX8_stop_0 : decode cX8_stop 0 = .ok (.aload_n 0, 1) := by decide +kernel
theorem dX8_stop_1 : decode cX8_stop 1 = .ok (.iconst 0, 1) := by decide +kernel
theorem dX8_stop_2 : decode cX8_stop 2 = .ok (.putfield 48, 3) := by decide +kernel
theorem dX8_stop_5 : decode cX8_stop 5 = .ok (.aload_n 0, 1) := by decide +kernel
theorem dX8_stop_6 : decode cX8_stop 6 = .ok (.iconst 0, 1) := by decide +kernel
theorem dX8_stop_7 : decode cX8_stop 7 = .ok (.putfield 52, 3) := by decide +kernel
theorem dX8_stop_10 : decode cX8_stop 10 = .ok (.aload_n 0, 1) := by decide +kernel
theorem dX8_stop_11 : decode cX8_stop 11 = .ok (.iconst 0, 1) := by decide +kernel
theorem dX8_stop_12 : decode cX8_stop 12 = .ok (.putfield 55, 3) := by decide +kernel
theorem dX8_stop_15 : decode cX8_stop 15 = .ok (.aload_n 0, 1) := by decide +kernel
theorem dX8_stop_16 : decode cX8_stop 16 = .ok (.iconst 0, 1) := by decide +kernel
theorem dX8_stop_17 : decode cX8_stop 17 = .ok (.putfield 58, 3) := by decide +kernel
theorem dX8_stop_20 : decode cX8_stop 20 = .ok (.return_, 1) := by decide +kernel
theorem dX8_clear_0 : decode cX8_clear 0 = .ok (.iconst 0, 1) := by decide +kernel
theorem dX8_clear_1 : decode cX8_clear 1 = .ok (.istore_n 1, 1) := by decide +kernel
theorem dX8_clear_2 : decode cX8_clear 2 = .ok (.iload_n 1, 1) := by decide +kernel
theorem dX8_clear_3 : decode cX8_clear 3 = .ok (.aload_n 0, 1) := by decide +kernel
theorem dX8_clear_4 : decode cX8_clear 4 = .ok (.getfield 11, 3) := by decide +kernel
theorem dX8_clear_7 : decode cX8_clear 7 = .ok (.arraylength, 1) := by decide +kernel
theorem dX8_clear_8 : decode cX8_clear 8 = .ok (.if_icmp .ge 18, 3) := by decide +kernel
theorem dX8_clear_11 : decode cX8_clear 11 = .ok (.aload_n 0, 1) := by decide +kernel
theorem dX8_clear_12 : decode cX8_clear 12 = .ok (.getfield 11, 3) := by decide +kernel
theorem dX8_clear_15 : decode cX8_clear 15 = .ok (.iload_n 1, 1) := by decide +kernel
theorem dX8_clear_16 : decode cX8_clear 16 = .ok (.aaload, 1) := by decide +kernel
theorem dX8_clear_17 : decode cX8_clear 17 = .ok (.invokevirtual 36, 3) := by decide +kernel
theorem dX8_clear_20 : decode cX8_clear 20 = .ok (.iinc 1 1, 3) := by decide +kernel
theorem dX8_clear_23 : decode cX8_clear 23 = .ok (.goto (-21), 3) := by decide +kernel
theorem dX8_clear_26 : decode cX8_clear 26 = .ok (.aload_n 0, 1) := by decide +kernel
theorem dX8_clear_27 : decode cX8_clear 27 = .ok (.iconst 0, 1) := by decide +kernel
theorem dX8_clear_28 : decode cX8_clear 28 = .ok (.putfield 39, 3) := by decide +kernel
theorem dX8_clear_31 : decode cX8_clear 31 = .ok (.aload_n 0, 1) := by decide +kernel
theorem dX8_clear_32 : decode cX8_clear 32 = .ok (.iconst 0, 1) := by decide +kernel
theorem dX8_clear_33 : decode cX8_clear 33 = .ok (.putfield 42, 3) := by decide +kernel
theorem dX8_clear_36 : decode cX8_clear 36 = .ok (.aload_n 0, 1) := by decide +kernel
theorem dX8_clear_37 : decode cX8_clear 37 = .ok (.iconst (-1), 1) := by decide +kernel
theorem dX8_clear_38 : decode cX8_clear 38 = .ok (.putfield 31, 3) := by decide +kernel
theorem dX8_clear_41 : decode cX8_clear 41 = .ok (.aload_n 0, 1) := by decide +kernel
theorem dX8_clear_42 : decode cX8_clear 42 = .ok (.invokevirtual 45, 3) := by decide +kernel
theorem dX8_clear_45 : decode cX8_clear 45 = .ok (.return_, 1) := by decide +kernel
theorem dX8_begin_0 : decode cX8_begin 0 = .ok (.aload_n 0, 1) := by decide +kernel
theorem dX8_begin_1 : decode cX8_begin 1 = .ok (.getfield 20, 3) := by decide +kernel
theorem dX8_begin_4 : decode cX8_begin 4 = .ok (.aload_n 0, 1) := by decide +kernel
theorem dX8_begin_5 : decode cX8_begin 5 = .ok (.getfield 11, 3) := by decide +kernel
theorem dX8_begin_8 : decode cX8_begin 8 = .ok (.aload_n 1, 1) := by decide +kernel
theorem dX8_begin_9 : decode cX8_begin 9 = .ok (.aload_n 2, 1) := by decide +kernel
theorem dX8_begin_10 : decode cX8_begin 10 = .ok (.invokevirtual 61, 3) := by decide +kernel
theorem dX8_begin_13 : decode cX8_begin 13 = .ok (.ifCond .eq 34, 3) := by decide +kernel
theorem dX8_begin_16 : decode cX8_begin 16 = .ok (.aload_n 0, 1) := by decide +kernel
theorem dX8_begin_17 : decode cX8_begin 17 = .ok (.iconst 1, 1) := by decide +kernel
theorem dX8_begin_18 : decode cX8_begin 18 = .ok (.putfield 48, 3) := by decide +kernel
theorem dX8_begin_21 : decode cX8_begin 21 = .ok (.aload_n 0, 1) := by decide +kernel
theorem dX8_begin_22 : decode cX8_begin 22 = .ok (.iconst 0, 1) := by decide +kernel
theorem dX8_begin_23 : decode cX8_begin 23 = .ok (.putfield 52, 3) := by decide +kernel
theorem dX8_begin_26 : decode cX8_begin 26 = .ok (.aload_n 0, 1) := by decide +kernel
theorem dX8_begin_27 : decode cX8_begin 27 = .ok (.aload_n 0, 1) := by decide +kernel
theorem dX8_begin_28 : decode cX8_begin 28 = .ok (.getfield 20, 3) := by decide +kernel
theorem dX8_begin_31 : decode cX8_begin 31 = .ok (.invokevirtual 65, 3) := by decide +kernel
theorem dX8_begin_34 : decode cX8_begin 34 = .ok (.putfield 55, 3) := by decide +kernel
theorem dX8_begin_37 : decode cX8_begin 37 = .ok (.aload_n 0, 1) := by decide +kernel
theorem dX8_begin_38 : decode cX8_begin 38 = .ok (.iconst 0, 1) := by decide +kernel
theorem dX8_begin_39 : decode cX8_begin 39 = .ok (.putfield 68, 3) := by decide +kernel
theorem dX8_begin_42 : decode cX8_begin 42 = .ok (.aload_n 0, 1) := by decide +kernel
theorem dX8_begin_43 : decode cX8_begin 43 = .ok (.iconst 0, 1) := by decide +kernel
theorem dX8_begin_44 : decode cX8_begin 44 = .ok (.putfield 71, 3) := by decide +kernel
theorem dX8_begin_47 : decode cX8_begin 47 = .ok (.return_, 1) := by decide +kernel
theorem dX8_haltBy_0 : decode cX8_haltBy 0 = .ok (.aload_n 1, 1) := by decide +kernel
theorem dX8_haltBy_1 : decode cX8_haltBy 1 = .ok (.getfield 74, 3) := by decide +kernel
theorem dX8_haltBy_4 : decode cX8_haltBy 4 = .ok (.ifCond .ne 8, 3) := by decide +kernel
theorem dX8_haltBy_7 : decode cX8_haltBy 7 = .ok (.aload_n 0, 1) := by decide +kernel
theorem dX8_haltBy_8 : decode cX8_haltBy 8 = .ok (.invokevirtual 45, 3) := by decide +kernel
theorem dX8_haltBy_11 : decode cX8_haltBy 11 = .ok (.return_, 1) := by decide +kernel
theorem dX8_haltBy_12 : decode cX8_haltBy 12 = .ok (.aload_n 0, 1) := by decide +kernel
theorem dX8_haltBy_13 : decode cX8_haltBy 13 = .ok (.getfield 20, 3) := by decide +kernel
theorem dX8_haltBy_16 : decode cX8_haltBy 16 = .ok (.getfield 77, 3) := by decide +kernel
theorem dX8_haltBy_19 : decode cX8_haltBy 19 = .ok (.aload_n 1, 1) := by decide +kernel
theorem dX8_haltBy_20 : decode cX8_haltBy 20 = .ok (.invokevirtual 81, 3) := by decide +kernel
theorem dX8_haltBy_23 : decode cX8_haltBy 23 = .ok (.aload_n 0, 1) := by decide +kernel
theorem dX8_haltBy_24 : decode cX8_haltBy 24 = .ok (.iconst 1, 1) := by decide +kernel
theorem dX8_haltBy_25 : decode cX8_haltBy 25 = .ok (.putfield 52, 3) := by decide +kernel
theorem dX8_haltBy_28 : decode cX8_haltBy 28 = .ok (.aload_n 0, 1) := by decide +kernel
theorem dX8_haltBy_29 : decode cX8_haltBy 29 = .ok (.aload_n 1, 1) := by decide +kernel
theorem dX8_haltBy_30 : decode cX8_haltBy 30 = .ok (.getfield 74, 3) := by decide +kernel
theorem dX8_haltBy_33 : decode cX8_haltBy 33 = .ok (.putfield 55, 3) := by decide +kernel
theorem dX8_haltBy_36 : decode cX8_haltBy 36 = .ok (.aload_n 0, 1) := by decide +kernel
theorem dX8_haltBy_37 : decode cX8_haltBy 37 = .ok (.iconst 0, 1) := by decide +kernel
theorem dX8_haltBy_38 : decode cX8_haltBy 38 = .ok (.putfield 58, 3) := by decide +kernel
theorem dX8_haltBy_41 : decode cX8_haltBy 41 = .ok (.return_, 1) := by decide +kernel
theorem dX8_addWaiting_0 : decode cX8_addWaiting 0 = .ok (.aload_n 0, 1) := by decide +kernel
theorem dX8_addWaiting_1 : decode cX8_addWaiting 1 = .ok (.getfield 58, 3) := by decide +kernel
theorem dX8_addWaiting_4 : decode cX8_addWaiting 4 = .ok (.bipush 8, 2) := by decide +kernel
theorem dX8_addWaiting_6 : decode cX8_addWaiting 6 = .ok (.if_icmp .ge 29, 3) := by decide +kernel
theorem dX8_addWaiting_9 : decode cX8_addWaiting 9 = .ok (.aload_n 1, 1) := by decide +kernel
theorem dX8_addWaiting_10 : decode cX8_addWaiting 10 = .ok (.iconst 0, 1) := by decide +kernel
theorem dX8_addWaiting_11 : decode cX8_addWaiting 11 = .ok (.aload_n 0, 1) := by decide +kernel
theorem dX8_addWaiting_12 : decode cX8_addWaiting 12 = .ok (.getfield 24, 3) := by decide +kernel
theorem dX8_addWaiting_15 : decode cX8_addWaiting 15 = .ok (.aload_n 0, 1) := by decide +kernel
theorem dX8_addWaiting_16 : decode cX8_addWaiting 16 = .ok (.getfield 58, 3) := by decide +kernel
theorem dX8_addWaiting_19 : decode cX8_addWaiting 19 = .ok (.iconst 3, 1) := by decide +kernel
theorem dX8_addWaiting_20 : decode cX8_addWaiting 20 = .ok (.imul, 1) := by decide +kernel
theorem dX8_addWaiting_21 : decode cX8_addWaiting 21 = .ok (.iconst 3, 1) := by decide +kernel
theorem dX8_addWaiting_22 : decode cX8_addWaiting 22 = .ok (.invokestatic 85, 3) := by decide +kernel
theorem dX8_addWaiting_25 : decode cX8_addWaiting 25 = .ok (.aload_n 0, 1) := by decide +kernel
theorem dX8_addWaiting_26 : decode cX8_addWaiting 26 = .ok (.dup, 1) := by decide +kernel
theorem dX8_addWaiting_27 : decode cX8_addWaiting 27 = .ok (.getfield 58, 3) := by decide +kernel
theorem dX8_addWaiting_30 : decode cX8_addWaiting 30 = .ok (.iconst 1, 1) := by decide +kernel
theorem dX8_addWaiting_31 : decode cX8_addWaiting 31 = .ok (.iadd, 1) := by decide +kernel
theorem dX8_addWaiting_32 : decode cX8_addWaiting 32 = .ok (.putfield 58, 3) := by decide +kernel
theorem dX8_addWaiting_35 : decode cX8_addWaiting 35 = .ok (.return_, 1) := by decide +kernel
theorem dX8_takeWaiting_0 : decode cX8_takeWaiting 0 = .ok (.aload_n 0, 1) := by decide +kernel
theorem dX8_takeWaiting_1 : decode cX8_takeWaiting 1 = .ok (.getfield 58, 3) := by decide +kernel
theorem dX8_takeWaiting_4 : decode cX8_takeWaiting 4 = .ok (.ifCond .le 47, 3) := by decide +kernel
theorem dX8_takeWaiting_7 : decode cX8_takeWaiting 7 = .ok (.aload_n 0, 1) := by decide +kernel
theorem dX8_takeWaiting_8 : decode cX8_takeWaiting 8 = .ok (.getfield 24, 3) := by decide +kernel
theorem dX8_takeWaiting_11 : decode cX8_takeWaiting 11 = .ok (.iconst 0, 1) := by decide +kernel
theorem dX8_takeWaiting_12 : decode cX8_takeWaiting 12 = .ok (.aload_n 0, 1) := by decide +kernel
theorem dX8_takeWaiting_13 : decode cX8_takeWaiting 13 = .ok (.getfield 28, 3) := by decide +kernel
theorem dX8_takeWaiting_16 : decode cX8_takeWaiting 16 = .ok (.iconst 0, 1) := by decide +kernel
theorem dX8_takeWaiting_17 : decode cX8_takeWaiting 17 = .ok (.iconst 3, 1) := by decide +kernel
theorem dX8_takeWaiting_18 : decode cX8_takeWaiting 18 = .ok (.invokestatic 85, 3) := by decide +kernel
theorem dX8_takeWaiting_21 : decode cX8_takeWaiting 21 = .ok (.aload_n 0, 1) := by decide +kernel
theorem dX8_takeWaiting_22 : decode cX8_takeWaiting 22 = .ok (.getfield 24, 3) := by decide +kernel
theorem dX8_takeWaiting_25 : decode cX8_takeWaiting 25 = .ok (.iconst 3, 1) := by decide +kernel
theorem dX8_takeWaiting_26 : decode cX8_takeWaiting 26 = .ok (.aload_n 0, 1) := by decide +kernel
theorem dX8_takeWaiting_27 : decode cX8_takeWaiting 27 = .ok (.getfield 24, 3) := by decide +kernel
theorem dX8_takeWaiting_30 : decode cX8_takeWaiting 30 = .ok (.iconst 0, 1) := by decide +kernel
theorem dX8_takeWaiting_31 : decode cX8_takeWaiting 31 = .ok (.aload_n 0, 1) := by decide +kernel
theorem dX8_takeWaiting_32 : decode cX8_takeWaiting 32 = .ok (.getfield 24, 3) := by decide +kernel
theorem dX8_takeWaiting_35 : decode cX8_takeWaiting 35 = .ok (.arraylength, 1) := by decide +kernel
theorem dX8_takeWaiting_36 : decode cX8_takeWaiting 36 = .ok (.iconst 3, 1) := by decide +kernel
theorem dX8_takeWaiting_37 : decode cX8_takeWaiting 37 = .ok (.isub, 1) := by decide +kernel
theorem dX8_takeWaiting_38 : decode cX8_takeWaiting 38 = .ok (.invokestatic 85, 3) := by decide +kernel
theorem dX8_takeWaiting_41 : decode cX8_takeWaiting 41 = .ok (.aload_n 0, 1) := by decide +kernel
theorem dX8_takeWaiting_42 : decode cX8_takeWaiting 42 = .ok (.dup, 1) := by decide +kernel
theorem dX8_takeWaiting_43 : decode cX8_takeWaiting 43 = .ok (.getfield 58, 3) := by decide +kernel
theorem dX8_takeWaiting_46 : decode cX8_takeWaiting 46 = .ok (.iconst 1, 1) := by decide +kernel
theorem dX8_takeWaiting_47 : decode cX8_takeWaiting 47 = .ok (.isub, 1) := by decide +kernel
theorem dX8_takeWaiting_48 : decode cX8_takeWaiting 48 = .ok (.putfield 58, 3) := by decide +kernel
theorem dX8_takeWaiting_51 : decode cX8_takeWaiting 51 = .ok (.return_, 1) := by decide +kernel
theorem dX8_advance_0 : decode cX8_advance 0 = .ok (.aload_n 0, 1) := by decide +kernel
theorem dX8_advance_1 : decode cX8_advance 1 = .ok (.aload_n 0, 1) := by decide +kernel
theorem dX8_advance_2 : decode cX8_advance 2 = .ok (.getfield 52, 3) := by decide +kernel
theorem dX8_advance_5 : decode cX8_advance 5 = .ok (.ifCond .eq 20, 3) := by decide +kernel
theorem dX8_advance_8 : decode cX8_advance 8 = .ok (.aload_n 0, 1) := by decide +kernel
theorem dX8_advance_9 : decode cX8_advance 9 = .ok (.getfield 20, 3) := by decide +kernel
theorem dX8_advance_12 : decode cX8_advance 12 = .ok (.getfield 77, 3) := by decide +kernel
theorem dX8_advance_15 : decode cX8_advance 15 = .ok (.aload_n 0, 1) := by decide +kernel
theorem dX8_advance_16 : decode cX8_advance 16 = .ok (.getfield 55, 3) := by decide +kernel
theorem dX8_advance_19 : decode cX8_advance 19 = .ok (.invokevirtual 129, 3) := by decide +kernel
theorem dX8_advance_22 : decode cX8_advance 22 = .ok (.goto 29, 3) := by decide +kernel
theorem dX8_advance_25 : decode cX8_advance 25 = .ok (.aload_n 0, 1) := by decide +kernel
theorem dX8_advance_26 : decode cX8_advance 26 = .ok (.getfield 20, 3) := by decide +kernel
theorem dX8_advance_29 : decode cX8_advance 29 = .ok (.aload_n 0, 1) := by decide +kernel
theorem dX8_advance_30 : decode cX8_advance 30 = .ok (.getfield 20, 3) := by decide +kernel
theorem dX8_advance_33 : decode cX8_advance 33 = .ok (.invokevirtual 65, 3) := by decide +kernel
theorem dX8_advance_36 : decode cX8_advance 36 = .ok (.aload_n 0, 1) := by decide +kernel
theorem dX8_advance_37 : decode cX8_advance 37 = .ok (.getfield 55, 3) := by decide +kernel
theorem dX8_advance_40 : decode cX8_advance 40 = .ok (.isub, 1) := by decide +kernel
theorem dX8_advance_41 : decode cX8_advance 41 = .ok (.iconst 1, 1) := by decide +kernel
theorem dX8_advance_42 : decode cX8_advance 42 = .ok (.iadd, 1) := by decide +kernel
theorem dX8_advance_43 : decode cX8_advance 43 = .ok (.invokevirtual 133, 3) := by decide +kernel
theorem dX8_advance_46 : decode cX8_advance 46 = .ok (.aload_n 0, 1) := by decide +kernel
theorem dX8_advance_47 : decode cX8_advance 47 = .ok (.getfield 68, 3) := by decide +kernel
theorem dX8_advance_50 : decode cX8_advance 50 = .ok (.isub, 1) := by decide +kernel
theorem dX8_advance_51 : decode cX8_advance 51 = .ok (.putfield 71, 3) := by decide +kernel
theorem dX8_advance_54 : decode cX8_advance 54 = .ok (.aload_n 0, 1) := by decide +kernel
theorem dX8_advance_55 : decode cX8_advance 55 = .ok (.dup, 1) := by decide +kernel
theorem dX8_advance_56 : decode cX8_advance 56 = .ok (.getfield 68, 3) := by decide +kernel
theorem dX8_advance_59 : decode cX8_advance 59 = .ok (.aload_n 0, 1) := by decide +kernel
theorem dX8_advance_60 : decode cX8_advance 60 = .ok (.getfield 71, 3) := by decide +kernel
theorem dX8_advance_63 : decode cX8_advance 63 = .ok (.iadd, 1) := by decide +kernel
theorem dX8_advance_64 : decode cX8_advance 64 = .ok (.putfield 68, 3) := by decide +kernel
theorem dX8_advance_67 : decode cX8_advance 67 = .ok (.aload_n 0, 1) := by decide +kernel
theorem dX8_advance_68 : decode cX8_advance 68 = .ok (.dup, 1) := by decide +kernel
theorem dX8_advance_69 : decode cX8_advance 69 = .ok (.getfield 55, 3) := by decide +kernel
theorem dX8_advance_72 : decode cX8_advance 72 = .ok (.iconst 1, 1) := by decide +kernel
theorem dX8_advance_73 : decode cX8_advance 73 = .ok (.isub, 1) := by decide +kernel
theorem dX8_advance_74 : decode cX8_advance 74 = .ok (.putfield 55, 3) := by decide +kernel
theorem dX8_advance_77 : decode cX8_advance 77 = .ok (.iconst 0, 1) := by decide +kernel
theorem dX8_advance_78 : decode cX8_advance 78 = .ok (.istore_n 1, 1) := by decide +kernel
theorem dX8_advance_79 : decode cX8_advance 79 = .ok (.iload_n 1, 1) := by decide +kernel
theorem dX8_advance_80 : decode cX8_advance 80 = .ok (.iconst 3, 1) := by decide +kernel
theorem dX8_advance_81 : decode cX8_advance 81 = .ok (.if_icmp .ge 30, 3) := by decide +kernel
theorem dX8_advance_84 : decode cX8_advance 84 = .ok (.aload_n 0, 1) := by decide +kernel
theorem dX8_advance_85 : decode cX8_advance 85 = .ok (.getfield 11, 3) := by decide +kernel
theorem dX8_advance_88 : decode cX8_advance 88 = .ok (.iload_n 1, 1) := by decide +kernel
theorem dX8_advance_89 : decode cX8_advance 89 = .ok (.aaload, 1) := by decide +kernel
theorem dX8_advance_90 : decode cX8_advance 90 = .ok (.aload_n 0, 1) := by decide +kernel
theorem dX8_advance_91 : decode cX8_advance 91 = .ok (.getfield 20, 3) := by decide +kernel
theorem dX8_advance_94 : decode cX8_advance 94 = .ok (.iload_n 1, 1) := by decide +kernel
theorem dX8_advance_95 : decode cX8_advance 95 = .ok (.aload_n 0, 1) := by decide +kernel
theorem dX8_advance_96 : decode cX8_advance 96 = .ok (.getfield 68, 3) := by decide +kernel
theorem dX8_advance_99 : decode cX8_advance 99 = .ok (.invokevirtual 136, 3) := by decide +kernel
theorem dX8_advance_102 : decode cX8_advance 102 = .ok (.putfield 140, 3) := by decide +kernel
theorem dX8_advance_105 : decode cX8_advance 105 = .ok (.iinc 1 1, 3) := by decide +kernel
theorem dX8_advance_108 : decode cX8_advance 108 = .ok (.goto (-29), 3) := by decide +kernel
theorem dX8_advance_111 : decode cX8_advance 111 = .ok (.aload_n 0, 1) := by decide +kernel
theorem dX8_advance_112 : decode cX8_advance 112 = .ok (.getfield 55, 3) := by decide +kernel
theorem dX8_advance_115 : decode cX8_advance 115 = .ok (.ifCond .gt 13, 3) := by decide +kernel
theorem dX8_advance_118 : decode cX8_advance 118 = .ok (.aload_n 0, 1) := by decide +kernel
theorem dX8_advance_119 : decode cX8_advance 119 = .ok (.iconst 0, 1) := by decide +kernel
theorem dX8_advance_120 : decode cX8_advance 120 = .ok (.putfield 48, 3) := by decide +kernel
theorem dX8_advance_123 : decode cX8_advance 123 = .ok (.aload_n 0, 1) := by decide +kernel
theorem dX8_advance_124 : decode cX8_advance 124 = .ok (.iconst 0, 1) := by decide +kernel
theorem dX8_advance_125 : decode cX8_advance 125 = .ok (.putfield 52, 3) := by decide +kernel
theorem dX8_advance_128 : decode cX8_advance 128 = .ok (.return_, 1) := by decide +kernel
theorem dX8_tripIfOver_0 : decode cX8_tripIfOver 0 = .ok (.iconst 0, 1) := by decide +kernel
theorem dX8_tripIfOver_1 : decode cX8_tripIfOver 1 = .ok (.istore_n 2, 1) := by decide +kernel
theorem dX8_tripIfOver_2 : decode cX8_tripIfOver 2 = .ok (.iload_n 2, 1) := by decide +kernel
theorem dX8_tripIfOver_3 : decode cX8_tripIfOver 3 = .ok (.iload_n 1, 1) := by decide +kernel
theorem dX8_tripIfOver_4 : decode cX8_tripIfOver 4 = .ok (.if_icmp .ge 60, 3) := by decide +kernel
theorem dX8_tripIfOver_7 : decode cX8_tripIfOver 7 = .ok (.aload_n 0, 1) := by decide +kernel
theorem dX8_tripIfOver_8 : decode cX8_tripIfOver 8 = .ok (.getfield 11, 3) := by decide +kernel
theorem dX8_tripIfOver_11 : decode cX8_tripIfOver 11 = .ok (.iload_n 2, 1) := by decide +kernel
theorem dX8_tripIfOver_12 : decode cX8_tripIfOver 12 = .ok (.aaload, 1) := by decide +kernel
theorem dX8_tripIfOver_13 : decode cX8_tripIfOver 13 = .ok (.getfield 143, 3) := by decide +kernel
theorem dX8_tripIfOver_16 : decode cX8_tripIfOver 16 = .ok (.ifCond .le 42, 3) := by decide +kernel
theorem dX8_tripIfOver_19 : decode cX8_tripIfOver 19 = .ok (.aload_n 0, 1) := by decide +kernel
theorem dX8_tripIfOver_20 : decode cX8_tripIfOver 20 = .ok (.getfield 11, 3) := by decide +kernel
theorem dX8_tripIfOver_23 : decode cX8_tripIfOver 23 = .ok (.iload_n 2, 1) := by decide +kernel
theorem dX8_tripIfOver_24 : decode cX8_tripIfOver 24 = .ok (.aaload, 1) := by decide +kernel
theorem dX8_tripIfOver_25 : decode cX8_tripIfOver 25 = .ok (.aload_n 0, 1) := by decide +kernel
theorem dX8_tripIfOver_26 : decode cX8_tripIfOver 26 = .ok (.getfield 11, 3) := by decide +kernel
theorem dX8_tripIfOver_29 : decode cX8_tripIfOver 29 = .ok (.iload_n 2, 1) := by decide +kernel
theorem dX8_tripIfOver_30 : decode cX8_tripIfOver 30 = .ok (.aaload, 1) := by decide +kernel
theorem dX8_tripIfOver_31 : decode cX8_tripIfOver 31 = .ok (.getfield 143, 3) := by decide +kernel
theorem dX8_tripIfOver_34 : decode cX8_tripIfOver 34 = .ok (.invokevirtual 121, 3) := by decide +kernel
theorem dX8_tripIfOver_37 : decode cX8_tripIfOver 37 = .ok (.ifCond .eq 21, 3) := by decide +kernel
theorem dX8_tripIfOver_40 : decode cX8_tripIfOver 40 = .ok (.aload_n 0, 1) := by decide +kernel
theorem dX8_tripIfOver_41 : decode cX8_tripIfOver 41 = .ok (.aload_n 0, 1) := by decide +kernel
theorem dX8_tripIfOver_42 : decode cX8_tripIfOver 42 = .ok (.getfield 39, 3) := by decide +kernel
theorem dX8_tripIfOver_45 : decode cX8_tripIfOver 45 = .ok (.putfield 42, 3) := by decide +kernel
theorem dX8_tripIfOver_48 : decode cX8_tripIfOver 48 = .ok (.aload_n 0, 1) := by decide +kernel
theorem dX8_tripIfOver_49 : decode cX8_tripIfOver 49 = .ok (.iload_n 2, 1) := by decide +kernel
theorem dX8_tripIfOver_50 : decode cX8_tripIfOver 50 = .ok (.putfield 31, 3) := by decide +kernel
theorem dX8_tripIfOver_53 : decode cX8_tripIfOver 53 = .ok (.aload_n 0, 1) := by decide +kernel
theorem dX8_tripIfOver_54 : decode cX8_tripIfOver 54 = .ok (.invokevirtual 45, 3) := by decide +kernel
theorem dX8_tripIfOver_57 : decode cX8_tripIfOver 57 = .ok (.return_, 1) := by decide +kernel
theorem dX8_tripIfOver_58 : decode cX8_tripIfOver 58 = .ok (.iinc 2 1, 3) := by decide +kernel
theorem dX8_tripIfOver_61 : decode cX8_tripIfOver 61 = .ok (.goto (-59), 3) := by decide +kernel
theorem dX8_tripIfOver_64 : decode cX8_tripIfOver 64 = .ok (.return_, 1) := by decide +kernel
theorem dX8_tick_0 : decode cX8_tick 0 = .ok (.aload_n 0, 1) := by decide +kernel
theorem dX8_tick_1 : decode cX8_tick 1 = .ok (.dup, 1) := by decide +kernel
theorem dX8_tick_2 : decode cX8_tick 2 = .ok (.getfield 39, 3) := by decide +kernel
theorem dX8_tick_5 : decode cX8_tick 5 = .ok (.iconst 1, 1) := by decide +kernel
theorem dX8_tick_6 : decode cX8_tick 6 = .ok (.iadd, 1) := by decide +kernel
theorem dX8_tick_7 : decode cX8_tick 7 = .ok (.putfield 39, 3) := by decide +kernel
theorem dX8_tick_10 : decode cX8_tick 10 = .ok (.iconst 0, 1) := by decide +kernel
theorem dX8_tick_11 : decode cX8_tick 11 = .ok (.istore_n 2, 1) := by decide +kernel
theorem dX8_tick_12 : decode cX8_tick 12 = .ok (.iload_n 2, 1) := by decide +kernel
theorem dX8_tick_13 : decode cX8_tick 13 = .ok (.bipush 8, 2) := by decide +kernel
theorem dX8_tick_15 : decode cX8_tick 15 = .ok (.if_icmp .ge 36, 3) := by decide +kernel
theorem dX8_tick_18 : decode cX8_tick 18 = .ok (.aload_n 0, 1) := by decide +kernel
theorem dX8_tick_19 : decode cX8_tick 19 = .ok (.getfield 48, 3) := by decide +kernel
theorem dX8_tick_22 : decode cX8_tick 22 = .ok (.ifCond .ne 29, 3) := by decide +kernel
theorem dX8_tick_25 : decode cX8_tick 25 = .ok (.aload_n 0, 1) := by decide +kernel
theorem dX8_tick_26 : decode cX8_tick 26 = .ok (.getfield 58, 3) := by decide +kernel
theorem dX8_tick_29 : decode cX8_tick 29 = .ok (.ifCond .le 22, 3) := by decide +kernel
theorem dX8_tick_32 : decode cX8_tick 32 = .ok (.aload_n 0, 1) := by decide +kernel
theorem dX8_tick_33 : decode cX8_tick 33 = .ok (.invokevirtual 91, 3) := by decide +kernel
theorem dX8_tick_36 : decode cX8_tick 36 = .ok (.aload_n 0, 1) := by decide +kernel
theorem dX8_tick_37 : decode cX8_tick 37 = .ok (.aload_n 0, 1) := by decide +kernel
theorem dX8_tick_38 : decode cX8_tick 38 = .ok (.getfield 28, 3) := by decide +kernel
theorem dX8_tick_41 : decode cX8_tick 41 = .ok (.aload_n 1, 1) := by decide +kernel
theorem dX8_tick_42 : decode cX8_tick 42 = .ok (.invokevirtual 94, 3) := by decide +kernel
theorem dX8_tick_45 : decode cX8_tick 45 = .ok (.iinc 2 1, 3) := by decide +kernel
theorem dX8_tick_48 : decode cX8_tick 48 = .ok (.goto (-36), 3) := by decide +kernel
theorem dX8_tick_51 : decode cX8_tick 51 = .ok (.aload_n 0, 1) := by decide +kernel
theorem dX8_tick_52 : decode cX8_tick 52 = .ok (.getfield 48, 3) := by decide +kernel
theorem dX8_tick_55 : decode cX8_tick 55 = .ok (.ifCond .eq 7, 3) := by decide +kernel
theorem dX8_tick_58 : decode cX8_tick 58 = .ok (.aload_n 0, 1) := by decide +kernel
theorem dX8_tick_59 : decode cX8_tick 59 = .ok (.invokevirtual 98, 3) := by decide +kernel
theorem dX8_tick_62 : decode cX8_tick 62 = .ok (.iconst 0, 1) := by decide +kernel
theorem dX8_tick_63 : decode cX8_tick 63 = .ok (.istore_n 2, 1) := by decide +kernel
theorem dX8_tick_64 : decode cX8_tick 64 = .ok (.iload_n 2, 1) := by decide +kernel
theorem dX8_tick_65 : decode cX8_tick 65 = .ok (.aload_n 1, 1) := by decide +kernel
theorem dX8_tick_66 : decode cX8_tick 66 = .ok (.getfield 101, 3) := by decide +kernel
theorem dX8_tick_69 : decode cX8_tick 69 = .ok (.if_icmp .ge 68, 3) := by decide +kernel
theorem dX8_tick_72 : decode cX8_tick 72 = .ok (.aload_n 0, 1) := by decide +kernel
theorem dX8_tick_73 : decode cX8_tick 73 = .ok (.getfield 11, 3) := by decide +kernel
theorem dX8_tick_76 : decode cX8_tick 76 = .ok (.iload_n 2, 1) := by decide +kernel
theorem dX8_tick_77 : decode cX8_tick 77 = .ok (.aaload, 1) := by decide +kernel
theorem dX8_tick_78 : decode cX8_tick 78 = .ok (.aload_n 1, 1) := by decide +kernel
theorem dX8_tick_79 : decode cX8_tick 79 = .ok (.getfield 106, 3) := by decide +kernel
theorem dX8_tick_82 : decode cX8_tick 82 = .ok (.iload_n 2, 1) := by decide +kernel
theorem dX8_tick_83 : decode cX8_tick 83 = .ok (.aaload, 1) := by decide +kernel
theorem dX8_tick_84 : decode cX8_tick 84 = .ok (.aload_n 1, 1) := by decide +kernel
theorem dX8_tick_85 : decode cX8_tick 85 = .ok (.getfield 110, 3) := by decide +kernel
theorem dX8_tick_88 : decode cX8_tick 88 = .ok (.invokevirtual 114, 3) := by decide +kernel
theorem dX8_tick_91 : decode cX8_tick 91 = .ok (.aload_n 0, 1) := by decide +kernel
theorem dX8_tick_92 : decode cX8_tick 92 = .ok (.getfield 11, 3) := by decide +kernel
theorem dX8_tick_95 : decode cX8_tick 95 = .ok (.iload_n 2, 1) := by decide +kernel
theorem dX8_tick_96 : decode cX8_tick 96 = .ok (.aaload, 1) := by decide +kernel
theorem dX8_tick_97 : decode cX8_tick 97 = .ok (.getfield 118, 3) := by decide +kernel
theorem dX8_tick_100 : decode cX8_tick 100 = .ok (.ifCond .ne 31, 3) := by decide +kernel
theorem dX8_tick_103 : decode cX8_tick 103 = .ok (.aload_n 0, 1) := by decide +kernel
theorem dX8_tick_104 : decode cX8_tick 104 = .ok (.getfield 11, 3) := by decide +kernel
theorem dX8_tick_107 : decode cX8_tick 107 = .ok (.iload_n 2, 1) := by decide +kernel
theorem dX8_tick_108 : decode cX8_tick 108 = .ok (.aaload, 1) := by decide +kernel
theorem dX8_tick_109 : decode cX8_tick 109 = .ok (.sipush 1024, 3) := by decide +kernel
theorem dX8_tick_112 : decode cX8_tick 112 = .ok (.invokevirtual 121, 3) := by decide +kernel
theorem dX8_tick_115 : decode cX8_tick 115 = .ok (.ifCond .eq 16, 3) := by decide +kernel
theorem dX8_tick_118 : decode cX8_tick 118 = .ok (.aload_n 0, 1) := by decide +kernel
theorem dX8_tick_119 : decode cX8_tick 119 = .ok (.getfield 11, 3) := by decide +kernel
theorem dX8_tick_122 : decode cX8_tick 122 = .ok (.iload_n 2, 1) := by decide +kernel
theorem dX8_tick_123 : decode cX8_tick 123 = .ok (.aaload, 1) := by decide +kernel
theorem dX8_tick_124 : decode cX8_tick 124 = .ok (.aload_n 0, 1) := by decide +kernel
theorem dX8_tick_125 : decode cX8_tick 125 = .ok (.getfield 39, 3) := by decide +kernel
theorem dX8_tick_128 : decode cX8_tick 128 = .ok (.putfield 118, 3) := by decide +kernel
theorem dX8_tick_131 : decode cX8_tick 131 = .ok (.iinc 2 1, 3) := by decide +kernel
theorem dX8_tick_134 : decode cX8_tick 134 = .ok (.goto (-70), 3) := by decide +kernel
theorem dX8_tick_137 : decode cX8_tick 137 = .ok (.aload_n 0, 1) := by decide +kernel
theorem dX8_tick_138 : decode cX8_tick 138 = .ok (.getfield 48, 3) := by decide +kernel
theorem dX8_tick_141 : decode cX8_tick 141 = .ok (.ifCond .eq 11, 3) := by decide +kernel
theorem dX8_tick_144 : decode cX8_tick 144 = .ok (.aload_n 0, 1) := by decide +kernel
theorem dX8_tick_145 : decode cX8_tick 145 = .ok (.aload_n 1, 1) := by decide +kernel
theorem dX8_tick_146 : decode cX8_tick 146 = .ok (.getfield 101, 3) := by decide +kernel
theorem dX8_tick_149 : decode cX8_tick 149 = .ok (.invokevirtual 125, 3) := by decide +kernel
theorem dX8_tick_152 : decode cX8_tick 152 = .ok (.return_, 1) := by decide +kernel
theorem dX8_microsLeft_0 : decode cX8_microsLeft 0 = .ok (.aload_n 0, 1) := by decide +kernel
theorem dX8_microsLeft_1 : decode cX8_microsLeft 1 = .ok (.getfield 48, 3) := by decide +kernel
theorem dX8_microsLeft_4 : decode cX8_microsLeft 4 = .ok (.ifCond .ne 5, 3) := by decide +kernel
theorem dX8_microsLeft_7 : decode cX8_microsLeft 7 = .ok (.iconst 0, 1) := by decide +kernel
theorem dX8_microsLeft_8 : decode cX8_microsLeft 8 = .ok (.ireturn, 1) := by decide +kernel
theorem dX8_microsLeft_9 : decode cX8_microsLeft 9 = .ok (.aload_n 0, 1) := by decide +kernel
theorem dX8_microsLeft_10 : decode cX8_microsLeft 10 = .ok (.getfield 52, 3) := by decide +kernel
theorem dX8_microsLeft_13 : decode cX8_microsLeft 13 = .ok (.ifCond .eq 21, 3) := by decide +kernel
theorem dX8_microsLeft_16 : decode cX8_microsLeft 16 = .ok (.aload_n 0, 1) := by decide +kernel
theorem dX8_microsLeft_17 : decode cX8_microsLeft 17 = .ok (.getfield 20, 3) := by decide +kernel
theorem dX8_microsLeft_20 : decode cX8_microsLeft 20 = .ok (.getfield 77, 3) := by decide +kernel
theorem dX8_microsLeft_23 : decode cX8_microsLeft 23 = .ok (.getfield 146, 3) := by decide +kernel
theorem dX8_microsLeft_26 : decode cX8_microsLeft 26 = .ok (.aload_n 0, 1) := by decide +kernel
theorem dX8_microsLeft_27 : decode cX8_microsLeft 27 = .ok (.getfield 55, 3) := by decide +kernel
theorem dX8_microsLeft_30 : decode cX8_microsLeft 30 = .ok (.iaload, 1) := by decide +kernel
theorem dX8_microsLeft_31 : decode cX8_microsLeft 31 = .ok (.goto 15, 3) := by decide +kernel
theorem dX8_microsLeft_34 : decode cX8_microsLeft 34 = .ok (.aload_n 0, 1) := by decide +kernel
theorem dX8_microsLeft_35 : decode cX8_microsLeft 35 = .ok (.getfield 20, 3) := by decide +kernel
theorem dX8_microsLeft_38 : decode cX8_microsLeft 38 = .ok (.getfield 149, 3) := by decide +kernel
theorem dX8_microsLeft_41 : decode cX8_microsLeft 41 = .ok (.aload_n 0, 1) := by decide +kernel
theorem dX8_microsLeft_42 : decode cX8_microsLeft 42 = .ok (.getfield 68, 3) := by decide +kernel
theorem dX8_microsLeft_45 : decode cX8_microsLeft 45 = .ok (.isub, 1) := by decide +kernel
theorem dX8_microsLeft_46 : decode cX8_microsLeft 46 = .ok (.ireturn, 1) := by decide +kernel
theorem dX8_isSteady_0 : decode cX8_isSteady 0 = .ok (.aload_n 0, 1) := by decide +kernel
theorem dX8_isSteady_1 : decode cX8_isSteady 1 = .ok (.getfield 48, 3) := by decide +kernel
theorem dX8_isSteady_4 : decode cX8_isSteady 4 = .ok (.ifCond .ne 10, 3) := by decide +kernel
theorem dX8_isSteady_7 : decode cX8_isSteady 7 = .ok (.aload_n 0, 1) := by decide +kernel
theorem dX8_isSteady_8 : decode cX8_isSteady 8 = .ok (.getfield 58, 3) := by decide +kernel
theorem dX8_isSteady_11 : decode cX8_isSteady 11 = .ok (.ifCond .le 5, 3) := by decide +kernel
theorem dX8_isSteady_14 : decode cX8_isSteady 14 = .ok (.iconst 0, 1) := by decide +kernel
theorem dX8_isSteady_15 : decode cX8_isSteady 15 = .ok (.ireturn, 1) := by decide +kernel
theorem dX8_isSteady_16 : decode cX8_isSteady 16 = .ok (.iconst 0, 1) := by decide +kernel
theorem dX8_isSteady_17 : decode cX8_isSteady 17 = .ok (.istore_n 2, 1) := by decide +kernel
theorem dX8_isSteady_18 : decode cX8_isSteady 18 = .ok (.iload_n 2, 1) := by decide +kernel
theorem dX8_isSteady_19 : decode cX8_isSteady 19 = .ok (.aload_n 1, 1) := by decide +kernel
theorem dX8_isSteady_20 : decode cX8_isSteady 20 = .ok (.getfield 101, 3) := by decide +kernel
theorem dX8_isSteady_23 : decode cX8_isSteady 23 = .ok (.if_icmp .ge 33, 3) := by decide +kernel
theorem dX8_isSteady_26 : decode cX8_isSteady 26 = .ok (.aload_n 0, 1) := by decide +kernel
theorem dX8_isSteady_27 : decode cX8_isSteady 27 = .ok (.getfield 11, 3) := by decide +kernel
theorem dX8_isSteady_30 : decode cX8_isSteady 30 = .ok (.iload_n 2, 1) := by decide +kernel
theorem dX8_isSteady_31 : decode cX8_isSteady 31 = .ok (.aaload, 1) := by decide +kernel
theorem dX8_isSteady_32 : decode cX8_isSteady 32 = .ok (.aload_n 1, 1) := by decide +kernel
theorem dX8_isSteady_33 : decode cX8_isSteady 33 = .ok (.getfield 106, 3) := by decide +kernel
theorem dX8_isSteady_36 : decode cX8_isSteady 36 = .ok (.iload_n 2, 1) := by decide +kernel
theorem dX8_isSteady_37 : decode cX8_isSteady 37 = .ok (.aaload, 1) := by decide +kernel
theorem dX8_isSteady_38 : decode cX8_isSteady 38 = .ok (.aload_n 1, 1) := by decide +kernel
theorem dX8_isSteady_39 : decode cX8_isSteady 39 = .ok (.getfield 110, 3) := by decide +kernel
theorem dX8_isSteady_42 : decode cX8_isSteady 42 = .ok (.invokevirtual 152, 3) := by decide +kernel
theorem dX8_isSteady_45 : decode cX8_isSteady 45 = .ok (.ifCond .ne 5, 3) := by decide +kernel
theorem dX8_isSteady_48 : decode cX8_isSteady 48 = .ok (.iconst 0, 1) := by decide +kernel
theorem dX8_isSteady_49 : decode cX8_isSteady 49 = .ok (.ireturn, 1) := by decide +kernel
theorem dX8_isSteady_50 : decode cX8_isSteady 50 = .ok (.iinc 2 1, 3) := by decide +kernel
theorem dX8_isSteady_53 : decode cX8_isSteady 53 = .ok (.goto (-35), 3) := by decide +kernel
theorem dX8_isSteady_56 : decode cX8_isSteady 56 = .ok (.iconst 1, 1) := by decide +kernel
theorem dX8_isSteady_57 : decode cX8_isSteady 57 = .ok (.ireturn, 1) := by decide +kernel
theorem dX9_squareRoot_0 : decode cX9_squareRoot 0 = .ok (.iconst 0, 1) := by decide +kernel
theorem dX9_squareRoot_1 : decode cX9_squareRoot 1 = .ok (.istore_n 1, 1) := by decide +kernel
theorem dX9_squareRoot_2 : decode cX9_squareRoot 2 = .ok (.sipush 1024, 3) := by decide +kernel
theorem dX9_squareRoot_5 : decode cX9_squareRoot 5 = .ok (.istore_n 2, 1) := by decide +kernel
theorem dX9_squareRoot_6 : decode cX9_squareRoot 6 = .ok (.iload_n 2, 1) := by decide +kernel
theorem dX9_squareRoot_7 : decode cX9_squareRoot 7 = .ok (.ifCond .le 23, 3) := by decide +kernel
theorem dX9_squareRoot_10 : decode cX9_squareRoot 10 = .ok (.iload_n 1, 1) := by decide +kernel
theorem dX9_squareRoot_11 : decode cX9_squareRoot 11 = .ok (.iload_n 2, 1) := by decide +kernel
theorem dX9_squareRoot_12 : decode cX9_squareRoot 12 = .ok (.iadd, 1) := by decide +kernel
theorem dX9_squareRoot_13 : decode cX9_squareRoot 13 = .ok (.istore_n 3, 1) := by decide +kernel
theorem dX9_squareRoot_14 : decode cX9_squareRoot 14 = .ok (.iload_n 3, 1) := by decide +kernel
theorem dX9_squareRoot_15 : decode cX9_squareRoot 15 = .ok (.iload_n 3, 1) := by decide +kernel
theorem dX9_squareRoot_16 : decode cX9_squareRoot 16 = .ok (.imul, 1) := by decide +kernel
theorem dX9_squareRoot_17 : decode cX9_squareRoot 17 = .ok (.iload_n 0, 1) := by decide +kernel
theorem dX9_squareRoot_18 : decode cX9_squareRoot 18 = .ok (.if_icmp .gt 5, 3) := by decide +kernel
theorem dX9_squareRoot_21 : decode cX9_squareRoot 21 = .ok (.iload_n 3, 1) := by decide +kernel
theorem dX9_squareRoot_22 : decode cX9_squareRoot 22 = .ok (.istore_n 1, 1) := by decide +kernel
theorem dX9_squareRoot_23 : decode cX9_squareRoot 23 = .ok (.iload_n 2, 1) := by decide +kernel
theorem dX9_squareRoot_24 : decode cX9_squareRoot 24 = .ok (.iconst 1, 1) := by decide +kernel
theorem dX9_squareRoot_25 : decode cX9_squareRoot 25 = .ok (.ishr, 1) := by decide +kernel
theorem dX9_squareRoot_26 : decode cX9_squareRoot 26 = .ok (.istore_n 2, 1) := by decide +kernel
theorem dX9_squareRoot_27 : decode cX9_squareRoot 27 = .ok (.goto (-21), 3) := by decide +kernel
theorem dX9_squareRoot_30 : decode cX9_squareRoot 30 = .ok (.iload_n 1, 1) := by decide +kernel
theorem dX9_squareRoot_31 : decode cX9_squareRoot 31 = .ok (.ireturn, 1) := by decide +kernel
theorem dX9_rootAt_0 : decode cX9_rootAt 0 = .ok (.aload_n 0, 1) := by decide +kernel
theorem dX9_rootAt_1 : decode cX9_rootAt 1 = .ok (.iload_n 1, 1) := by decide +kernel
theorem dX9_rootAt_2 : decode cX9_rootAt 2 = .ok (.invokestatic 32, 3) := by decide +kernel
theorem dX9_rootAt_5 : decode cX9_rootAt 5 = .ok (.istore_n 2, 1) := by decide +kernel
theorem dX9_rootAt_6 : decode cX9_rootAt 6 = .ok (.aload_n 0, 1) := by decide +kernel
theorem dX9_rootAt_7 : decode cX9_rootAt 7 = .ok (.iload_n 1, 1) := by decide +kernel
theorem dX9_rootAt_8 : decode cX9_rootAt 8 = .ok (.bipush 64, 2) := by decide +kernel
theorem dX9_rootAt_10 : decode cX9_rootAt 10 = .ok (.iadd, 1) := by decide +kernel
theorem dX9_rootAt_11 : decode cX9_rootAt 11 = .ok (.invokestatic 32, 3) := by decide +kernel
theorem dX9_rootAt_14 : decode cX9_rootAt 14 = .ok (.istore_n 3, 1) := by decide +kernel
theorem dX9_rootAt_15 : decode cX9_rootAt 15 = .ok (.iload_n 2, 1) := by decide +kernel
theorem dX9_rootAt_16 : decode cX9_rootAt 16 = .ok (.iload_n 2, 1) := by decide +kernel
theorem dX9_rootAt_17 : decode cX9_rootAt 17 = .ok (.imul, 1) := by decide +kernel
theorem dX9_rootAt_18 : decode cX9_rootAt 18 = .ok (.iload_n 3, 1) := by decide +kernel
theorem dX9_rootAt_19 : decode cX9_rootAt 19 = .ok (.iload_n 3, 1) := by decide +kernel
theorem dX9_rootAt_20 : decode cX9_rootAt 20 = .ok (.imul, 1) := by decide +kernel
theorem dX9_rootAt_21 : decode cX9_rootAt 21 = .ok (.iadd, 1) := by decide +kernel
theorem dX9_rootAt_22 : decode cX9_rootAt 22 = .ok (.invokestatic 36, 3) := by decide +kernel
theorem dX9_rootAt_25 : decode cX9_rootAt 25 = .ok (.ireturn, 1) := by decide +kernel
theorem dX9_rootsOf_0 : decode cX9_rootsOf 0 = .ok (.ldc 42, 2) := by decide +kernel
theorem dX9_rootsOf_2 : decode cX9_rootsOf 2 = .ok (.istore_n 2, 1) := by decide +kernel
theorem dX9_rootsOf_3 : decode cX9_rootsOf 3 = .ok (.iconst 0, 1) := by decide +kernel
theorem dX9_rootsOf_4 : decode cX9_rootsOf 4 = .ok (.istore_n 3, 1) := by decide +kernel
theorem dX9_rootsOf_5 : decode cX9_rootsOf 5 = .ok (.iconst 0, 1) := by decide +kernel
theorem dX9_rootsOf_6 : decode cX9_rootsOf 6 = .ok (.istore 4, 2) := by decide +kernel
theorem dX9_rootsOf_8 : decode cX9_rootsOf 8 = .ok (.iconst 0, 1) := by decide +kernel
theorem dX9_rootsOf_9 : decode cX9_rootsOf 9 = .ok (.istore 5, 2) := by decide +kernel
theorem dX9_rootsOf_11 : decode cX9_rootsOf 11 = .ok (.iload 5, 2) := by decide +kernel
theorem dX9_rootsOf_13 : decode cX9_rootsOf 13 = .ok (.bipush 64, 2) := by decide +kernel
theorem dX9_rootsOf_15 : decode cX9_rootsOf 15 = .ok (.if_icmp .ge 37, 3) := by decide +kernel
theorem dX9_rootsOf_18 : decode cX9_rootsOf 18 = .ok (.aload_n 0, 1) := by decide +kernel
theorem dX9_rootsOf_19 : decode cX9_rootsOf 19 = .ok (.iload 5, 2) := by decide +kernel
theorem dX9_rootsOf_21 : decode cX9_rootsOf 21 = .ok (.invokestatic 43, 3) := by decide +kernel
theorem dX9_rootsOf_24 : decode cX9_rootsOf 24 = .ok (.istore 6, 2) := by decide +kernel
theorem dX9_rootsOf_26 : decode cX9_rootsOf 26 = .ok (.iload 6, 2) := by decide +kernel
theorem dX9_rootsOf_28 : decode cX9_rootsOf 28 = .ok (.iload_n 2, 1) := by decide +kernel
theorem dX9_rootsOf_29 : decode cX9_rootsOf 29 = .ok (.if_icmp .ge 10, 3) := by decide +kernel
theorem dX9_rootsOf_32 : decode cX9_rootsOf 32 = .ok (.iload 6, 2) := by decide +kernel
theorem dX9_rootsOf_34 : decode cX9_rootsOf 34 = .ok (.istore_n 2, 1) := by decide +kernel
theorem dX9_rootsOf_35 : decode cX9_rootsOf 35 = .ok (.iload 5, 2) := by decide +kernel
theorem dX9_rootsOf_37 : decode cX9_rootsOf 37 = .ok (.istore 4, 2) := by decide +kernel
theorem dX9_rootsOf_39 : decode cX9_rootsOf 39 = .ok (.iload_n 3, 1) := by decide +kernel
theorem dX9_rootsOf_40 : decode cX9_rootsOf 40 = .ok (.iload 6, 2) := by decide +kernel
theorem dX9_rootsOf_42 : decode cX9_rootsOf 42 = .ok (.invokestatic 46, 3) := by decide +kernel
theorem dX9_rootsOf_45 : decode cX9_rootsOf 45 = .ok (.istore_n 3, 1) := by decide +kernel
theorem dX9_rootsOf_46 : decode cX9_rootsOf 46 = .ok (.iinc 5 1, 3) := by decide +kernel
theorem dX9_rootsOf_49 : decode cX9_rootsOf 49 = .ok (.goto (-38), 3) := by decide +kernel
theorem dX9_rootsOf_52 : decode cX9_rootsOf 52 = .ok (.iload_n 1, 1) := by decide +kernel
theorem dX9_rootsOf_53 : decode cX9_rootsOf 53 = .ok (.tableswitch 34 0 2 #[27, 29, 31], 27) := by decide +kernel
theorem dX9_rootsOf_80 : decode cX9_rootsOf 80 = .ok (.iload_n 2, 1) := by decide +kernel
theorem dX9_rootsOf_81 : decode cX9_rootsOf 81 = .ok (.ireturn, 1) := by decide +kernel
theorem dX9_rootsOf_82 : decode cX9_rootsOf 82 = .ok (.iload_n 3, 1) := by decide +kernel
theorem dX9_rootsOf_83 : decode cX9_rootsOf 83 = .ok (.ireturn, 1) := by decide +kernel
theorem dX9_rootsOf_84 : decode cX9_rootsOf 84 = .ok (.iload 4, 2) := by decide +kernel
theorem dX9_rootsOf_86 : decode cX9_rootsOf 86 = .ok (.ireturn, 1) := by decide +kernel
theorem dX9_rootsOf_87 : decode cX9_rootsOf 87 = .ok (.iconst (-1), 1) := by decide +kernel
theorem dX9_rootsOf_88 : decode cX9_rootsOf 88 = .ok (.ireturn, 1) := by decide +kernel
theorem dX9_bestAt_0 : decode cX9_bestAt 0 = .ok (.aload_n 1, 1) := by decide +kernel
theorem dX9_bestAt_1 : decode cX9_bestAt 1 = .ok (.iload_n 2, 1) := by decide +kernel
theorem dX9_bestAt_2 : decode cX9_bestAt 2 = .ok (.iaload, 1) := by decide +kernel
theorem dX9_bestAt_3 : decode cX9_bestAt 3 = .ok (.istore_n 3, 1) := by decide +kernel
theorem dX9_bestAt_4 : decode cX9_bestAt 4 = .ok (.iconst 0, 1) := by decide +kernel
theorem dX9_bestAt_5 : decode cX9_bestAt 5 = .ok (.istore 4, 2) := by decide +kernel
theorem dX9_bestAt_7 : decode cX9_bestAt 7 = .ok (.ldc 42, 2) := by decide +kernel
theorem dX9_bestAt_9 : decode cX9_bestAt 9 = .ok (.istore 5, 2) := by decide +kernel
theorem dX9_bestAt_11 : decode cX9_bestAt 11 = .ok (.iconst 0, 1) := by decide +kernel
theorem dX9_bestAt_12 : decode cX9_bestAt 12 = .ok (.istore 6, 2) := by decide +kernel
theorem dX9_bestAt_14 : decode cX9_bestAt 14 = .ok (.iload 6, 2) := by decide +kernel
theorem dX9_bestAt_16 : decode cX9_bestAt 16 = .ok (.sipush 400, 3) := by decide +kernel
theorem dX9_bestAt_19 : decode cX9_bestAt 19 = .ok (.if_icmp .gt 81, 3) := by decide +kernel
theorem dX9_bestAt_22 : decode cX9_bestAt 22 = .ok (.iload 5, 2) := by decide +kernel
theorem dX9_bestAt_24 : decode cX9_bestAt 24 = .ok (.ifCond .le 76, 3) := by decide +kernel
theorem dX9_bestAt_27 : decode cX9_bestAt 27 = .ok (.iload 6, 2) := by decide +kernel
theorem dX9_bestAt_29 : decode cX9_bestAt 29 = .ok (.iconst 1, 1) := by decide +kernel
theorem dX9_bestAt_30 : decode cX9_bestAt 30 = .ok (.iadd, 1) := by decide +kernel
theorem dX9_bestAt_31 : decode cX9_bestAt 31 = .ok (.iconst 2, 1) := by decide +kernel
theorem dX9_bestAt_32 : decode cX9_bestAt 32 = .ok (.idiv, 1) := by decide +kernel
theorem dX9_bestAt_33 : decode cX9_bestAt 33 = .ok (.istore 7, 2) := by decide +kernel
theorem dX9_bestAt_35 : decode cX9_bestAt 35 = .ok (.iload 6, 2) := by decide +kernel
theorem dX9_bestAt_37 : decode cX9_bestAt 37 = .ok (.iconst 1, 1) := by decide +kernel
theorem dX9_bestAt_38 : decode cX9_bestAt 38 = .ok (.iand, 1) := by decide +kernel
theorem dX9_bestAt_39 : decode cX9_bestAt 39 = .ok (.iconst 1, 1) := by decide +kernel
theorem dX9_bestAt_40 : decode cX9_bestAt 40 = .ok (.if_icmp .ne 9, 3) := by decide +kernel
theorem dX9_bestAt_43 : decode cX9_bestAt 43 = .ok (.iload 7, 2) := by decide +kernel
theorem dX9_bestAt_45 : decode cX9_bestAt 45 = .ok (.ineg, 1) := by decide +kernel
theorem dX9_bestAt_46 : decode cX9_bestAt 46 = .ok (.goto 5, 3) := by decide +kernel
theorem dX9_bestAt_49 : decode cX9_bestAt 49 = .ok (.iload 7, 2) := by decide +kernel
theorem dX9_bestAt_51 : decode cX9_bestAt 51 = .ok (.istore 8, 2) := by decide +kernel
theorem dX9_bestAt_53 : decode cX9_bestAt 53 = .ok (.aload_n 1, 1) := by decide +kernel
theorem dX9_bestAt_54 : decode cX9_bestAt 54 = .ok (.iload_n 2, 1) := by decide +kernel
theorem dX9_bestAt_55 : decode cX9_bestAt 55 = .ok (.aload_n 0, 1) := by decide +kernel
theorem dX9_bestAt_56 : decode cX9_bestAt 56 = .ok (.getfield 9, 3) := by decide +kernel
theorem dX9_bestAt_59 : decode cX9_bestAt 59 = .ok (.iload_n 2, 1) := by decide +kernel
theorem dX9_bestAt_60 : decode cX9_bestAt 60 = .ok (.iaload, 1) := by decide +kernel
theorem dX9_bestAt_61 : decode cX9_bestAt 61 = .ok (.iload 8, 2) := by decide +kernel
theorem dX9_bestAt_63 : decode cX9_bestAt 63 = .ok (.iadd, 1) := by decide +kernel
theorem dX9_bestAt_64 : decode cX9_bestAt 64 = .ok (.iastore, 1) := by decide +kernel
theorem dX9_bestAt_65 : decode cX9_bestAt 65 = .ok (.aload_n 1, 1) := by decide +kernel
theorem dX9_bestAt_66 : decode cX9_bestAt 66 = .ok (.iload_n 2, 1) := by decide +kernel
theorem dX9_bestAt_67 : decode cX9_bestAt 67 = .ok (.invokestatic 43, 3) := by decide +kernel
theorem dX9_bestAt_70 : decode cX9_bestAt 70 = .ok (.sipush 1000, 3) := by decide +kernel
theorem dX9_bestAt_73 : decode cX9_bestAt 73 = .ok (.isub, 1) := by decide +kernel
theorem dX9_bestAt_74 : decode cX9_bestAt 74 = .ok (.invokestatic 52, 3) := by decide +kernel
theorem dX9_bestAt_77 : decode cX9_bestAt 77 = .ok (.istore 9, 2) := by decide +kernel
theorem dX9_bestAt_79 : decode cX9_bestAt 79 = .ok (.iload 9, 2) := by decide +kernel
theorem dX9_bestAt_81 : decode cX9_bestAt 81 = .ok (.iload 5, 2) := by decide +kernel
theorem dX9_bestAt_83 : decode cX9_bestAt 83 = .ok (.if_icmp .ge 11, 3) := by decide +kernel
theorem dX9_bestAt_86 : decode cX9_bestAt 86 = .ok (.iload 9, 2) := by decide +kernel
theorem dX9_bestAt_88 : decode cX9_bestAt 88 = .ok (.istore 5, 2) := by decide +kernel
theorem dX9_bestAt_90 : decode cX9_bestAt 90 = .ok (.iload 8, 2) := by decide +kernel
theorem dX9_bestAt_92 : decode cX9_bestAt 92 = .ok (.istore 4, 2) := by decide +kernel
theorem dX9_bestAt_94 : decode cX9_bestAt 94 = .ok (.iinc 6 1, 3) := by decide +kernel
theorem dX9_bestAt_97 : decode cX9_bestAt 97 = .ok (.goto (-83), 3) := by decide +kernel
theorem dX9_bestAt_100 : decode cX9_bestAt 100 = .ok (.aload_n 1, 1) := by decide +kernel
theorem dX9_bestAt_101 : decode cX9_bestAt 101 = .ok (.iload_n 2, 1) := by decide +kernel
theorem dX9_bestAt_102 : decode cX9_bestAt 102 = .ok (.iload_n 3, 1) := by decide +kernel
theorem dX9_bestAt_103 : decode cX9_bestAt 103 = .ok (.iastore, 1) := by decide +kernel
theorem dX9_bestAt_104 : decode cX9_bestAt 104 = .ok (.iload 4, 2) := by decide +kernel
theorem dX9_bestAt_106 : decode cX9_bestAt 106 = .ok (.ireturn, 1) := by decide +kernel
theorem dX10_put_0 : decode cX10_put 0 = .ok (.bipush 24, 2) := by decide +kernel
theorem dX10_put_2 : decode cX10_put 2 = .ok (.istore_n 2, 1) := by decide +kernel
theorem dX10_put_3 : decode cX10_put 3 = .ok (.iload_n 2, 1) := by decide +kernel
theorem dX10_put_4 : decode cX10_put 4 = .ok (.ifCond .lt 44, 3) := by decide +kernel
theorem dX10_put_7 : decode cX10_put 7 = .ok (.aload_n 0, 1) := by decide +kernel
theorem dX10_put_8 : decode cX10_put 8 = .ok (.getfield 15, 3) := by decide +kernel
theorem dX10_put_11 : decode cX10_put 11 = .ok (.aload_n 0, 1) := by decide +kernel
theorem dX10_put_12 : decode cX10_put 12 = .ok (.getfield 9, 3) := by decide +kernel
theorem dX10_put_15 : decode cX10_put 15 = .ok (.arraylength, 1) := by decide +kernel
theorem dX10_put_16 : decode cX10_put 16 = .ok (.if_icmp .ge 32, 3) := by decide +kernel
theorem dX10_put_19 : decode cX10_put 19 = .ok (.aload_n 0, 1) := by decide +kernel
theorem dX10_put_20 : decode cX10_put 20 = .ok (.getfield 9, 3) := by decide +kernel
theorem dX10_put_23 : decode cX10_put 23 = .ok (.aload_n 0, 1) := by decide +kernel
theorem dX10_put_24 : decode cX10_put 24 = .ok (.getfield 15, 3) := by decide +kernel
theorem dX10_put_27 : decode cX10_put 27 = .ok (.iload_n 1, 1) := by decide +kernel
theorem dX10_put_28 : decode cX10_put 28 = .ok (.iload_n 2, 1) := by decide +kernel
theorem dX10_put_29 : decode cX10_put 29 = .ok (.ishr, 1) := by decide +kernel
theorem dX10_put_30 : decode cX10_put 30 = .ok (.i2b, 1) := by decide +kernel
theorem dX10_put_31 : decode cX10_put 31 = .ok (.bastore, 1) := by decide +kernel
theorem dX10_put_32 : decode cX10_put 32 = .ok (.aload_n 0, 1) := by decide +kernel
theorem dX10_put_33 : decode cX10_put 33 = .ok (.dup, 1) := by decide +kernel
theorem dX10_put_34 : decode cX10_put 34 = .ok (.getfield 15, 3) := by decide +kernel
theorem dX10_put_37 : decode cX10_put 37 = .ok (.iconst 1, 1) := by decide +kernel
theorem dX10_put_38 : decode cX10_put 38 = .ok (.iadd, 1) := by decide +kernel
theorem dX10_put_39 : decode cX10_put 39 = .ok (.putfield 15, 3) := by decide +kernel
theorem dX10_put_42 : decode cX10_put 42 = .ok (.iinc 2 (-8), 3) := by decide +kernel
theorem dX10_put_45 : decode cX10_put 45 = .ok (.goto (-42), 3) := by decide +kernel
theorem dX10_put_48 : decode cX10_put 48 = .ok (.return_, 1) := by decide +kernel
def zX7_letGo (sh : zShp) (k0 : Nat) (p1 : Int32) (p2 : Int32) (M : zMem) : Option (zMem) :=
  zbd (zpI M k0 0 (0 : Int32)) fun M_1 =>
  zbd (zpI M_1 k0 1 (-p2)) fun M_2 =>
  zbd (zpI M_2 k0 2 (0 : Int32)) fun M_3 =>
  zbd (zpI M_3 k0 3 p1) fun M_4 =>
  some M_4
set_option maxHeartbeats 4000000 in
set_option maxRecDepth 100000 in
theorem ztX7_letGo (l : Launch) (D : va_G) (cy : Nat → ClassId) (sh : zShp) (ad : Nat → Nat) {k0 : Nat} {p1 : Int32} {p2 : Int32} (h0 : zT sh k0 7) {M : zMem} {M1 : zMem} (hd : zX7_letGo sh k0 p1 p2 M = some M1) : zCV l yX7_letGo cX7_letGo 3 { frames := 0, cells := 0, slots := 0, locals := 0 } [.ref (ad k0), .int p1, .int p2] D cy sh ad M M1 := by
  refine zcv_of (by decide) (Nat.le_of_ble_eq_true rfl) (fun p e s m below meth c ls F hr hlk hl hw => ?_)
  have hx := F.1.1
  have hb := F.1.2.1
  have hl : lv_has ls 3 [(0, .ref (ad k0)), (1, .int p1), (2, .int p2)] := hl
  unfold zX7_letGo at hd
  refine lv_aload_n hx hb dX7_letGo_0 rfl (lv_at hl 0 rfl) ?_
  refine lv_iconst (v := (0 : Int32)) hx hb dX7_letGo_1 (by decide) ?_
  refine z_pI F hw h0 zc7 0 (by decide) rfl zf7_22 rfl rfl rfl dX7_letGo_2 (fun H locs M_1 eM_1 hw => ?_)
  have hd := zbd_eq eM_1 hd
  refine lv_aload_n hx hb dX7_letGo_5 rfl (lv_at hl 0 rfl) ?_
  refine lv_iload_n hx hb dX7_letGo_6 rfl (lv_at hl 2 rfl) ?_
  refine lv_ineg hx hb dX7_letGo_7 ?_
  refine z_pI F hw h0 zc7 1 (by decide) rfl zf7_25 rfl rfl rfl dX7_letGo_8 (fun H locs M_2 eM_2 hw => ?_)
  have hd := zbd_eq eM_2 hd
  refine lv_aload_n hx hb dX7_letGo_11 rfl (lv_at hl 0 rfl) ?_
  refine lv_iconst (v := (0 : Int32)) hx hb dX7_letGo_12 (by decide) ?_
  refine z_pI F hw h0 zc7 2 (by decide) rfl zf7_28 rfl rfl rfl dX7_letGo_13 (fun H locs M_3 eM_3 hw => ?_)
  have hd := zbd_eq eM_3 hd
  refine lv_aload_n hx hb dX7_letGo_16 rfl (lv_at hl 0 rfl) ?_
  refine lv_iload_n hx hb dX7_letGo_17 rfl (lv_at hl 1 rfl) ?_
  refine z_pI F hw h0 zc7 3 (by decide) rfl zf7_31 rfl rfl rfl dX7_letGo_18 (fun H locs M_4 eM_4 hw => ?_)
  have hd := zbd_eq eM_4 hd
  exact z_vret F hr hlk hw (Option.some.inj hd) dX7_letGo_21

def zX7_clear (sh : zShp) (k0 : Nat) (M : zMem) : Option (zMem) :=
  zob (zX7_letGo sh k0 (0 : Int32) (0 : Int32) M) fun M_2 =>
  zbd (zpI M_2 k0 4 (0 : Int32)) fun M_3 =>
  zbd (zpI M_3 k0 5 (0 : Int32)) fun M_4 =>
  some M_4
set_option maxHeartbeats 4000000 in
set_option maxRecDepth 100000 in
theorem ztX7_clear (l : Launch) (D : va_G) (cy : Nat → ClassId) (sh : zShp) (ad : Nat → Nat) {k0 : Nat} (h0 : zT sh k0 7) {M : zMem} {M1 : zMem} (hd : zX7_clear sh k0 M = some M1) : zCV l yX7_clear cX7_clear 1 { frames := 1, cells := 0, slots := 0, locals := 22 } [.ref (ad k0)] D cy sh ad M M1 := by
  refine zcv_of (by decide) (Nat.le_of_ble_eq_true rfl) (fun p e s m below meth c ls F hr hlk hl hw => ?_)
  have hx := F.1.1
  have hb := F.1.2.1
  have hl : lv_has ls 1 [(0, .ref (ad k0))] := hl
  unfold zX7_clear at hd
  refine lv_aload_n hx hb dX7_clear_0 rfl (lv_at hl 0 rfl) ?_
  refine lv_iconst (v := (0 : Int32)) hx hb dX7_clear_1 (by decide) ?_
  refine lv_iconst (v := (0 : Int32)) hx hb dX7_clear_2 (by decide) ?_
  obtain ⟨M_2, hc_1, hd⟩ := zob_some hd
  refine z_cvV F hw hl.1 (As := [.int (0 : Int32), .int (0 : Int32)]) (rest := []) (ztX7_letGo l D cy sh ad h0 hc_1) zyX7_letGo h0 zc7 zk7_9 ⟨rfl, rfl⟩ ⟨by decide, by decide⟩ rfl rfl (Nat.le_of_ble_eq_true rfl) dX7_clear_3 (fun H locs hw => ?_)
  refine lv_aload_n hx hb dX7_clear_6 rfl (lv_at hl 0 rfl) ?_
  refine lv_iconst (v := (0 : Int32)) hx hb dX7_clear_7 (by decide) ?_
  refine z_pI F hw h0 zc7 4 (by decide) rfl zf7_15 rfl rfl rfl dX7_clear_8 (fun H locs M_3 eM_3 hw => ?_)
  have hd := zbd_eq eM_3 hd
  refine lv_aload_n hx hb dX7_clear_11 rfl (lv_at hl 0 rfl) ?_
  refine lv_iconst (v := (0 : Int32)) hx hb dX7_clear_12 (by decide) ?_
  refine z_pI F hw h0 zc7 5 (by decide) rfl zf7_19 rfl rfl rfl dX7_clear_13 (fun H locs M_4 eM_4 hw => ?_)
  have hd := zbd_eq eM_4 hd
  exact z_vret F hr hlk hw (Option.some.inj hd) dX7_clear_16

def zX7_angle (sh : zShp) (k0 : Nat) (M : zMem) : Option (Int32) :=
  some (((16 : Int32) * (zI M k0 0)) - (zI M k0 1))
set_option maxHeartbeats 4000000 in
set_option maxRecDepth 100000 in
theorem ztX7_angle (l : Launch) (D : va_G) (cy : Nat → ClassId) (sh : zShp) (ad : Nat → Nat) {k0 : Nat} (h0 : zT sh k0 7) {M : zMem} {r : Int32} (hd : zX7_angle sh k0 M = some r) : zCI l yX7_angle cX7_angle 1 .int { frames := 0, cells := 0, slots := 0, locals := 0 } [.ref (ad k0)] D cy sh ad M r M := by
  refine zci_of (by decide) (Nat.le_of_ble_eq_true rfl) (fun p e s m below meth c ls F hr hlk hl hw => ?_)
  have hx := F.1.1
  have hb := F.1.2.1
  have hl : lv_has ls 1 [(0, .ref (ad k0))] := hl
  unfold zX7_angle at hd
  refine lv_bipush (v := (16 : Int32)) hx hb dX7_angle_0 (by decide) ?_
  refine lv_aload_n hx hb dX7_angle_2 rfl (lv_at hl 0 rfl) ?_
  refine z_gI F hw h0 zc7 0 (by decide) rfl zf7_22 dX7_angle_3 ?_
  refine lv_imul hx hb dX7_angle_6 ?_
  refine lv_aload_n hx hb dX7_angle_7 rfl (lv_at hl 0 rfl) ?_
  refine z_gI F hw h0 zc7 1 (by decide) rfl zf7_25 dX7_angle_8 ?_
  refine lv_isub hx hb dX7_angle_11 ?_
  exact z_iret F hr hlk hw (Option.some.inj hd) rfl dX7_angle_12

def zjJ9_floorDiv_7cf53_21 (sh : zShp) (p0 : Int32) (p1 : Int32) (M : zMem)  (x2 : Int32) : Option (Int32) :=
  some x2
def zJ9_floorDiv_7cf53 (sh : zShp) (p0 : Int32) (p1 : Int32) (M : zMem) : Option (Int32) :=
  zgd (znz p1) <|
  if 0 ≤ (p0 ^^^ p1) then (
  zjJ9_floorDiv_7cf53_21 sh p0 p1 M (p0 / p1))
  else (
  if ((p0 / p1) * p1) = p0 then (
  zjJ9_floorDiv_7cf53_21 sh p0 p1 M (p0 / p1))
  else (
  some ((p0 / p1) - (1 : Int32))))
set_option maxHeartbeats 4000000 in
set_option maxRecDepth 100000 in
theorem ztJ9_floorDiv_7cf53 (l : Launch) (D : va_G) (cy : Nat → ClassId) (sh : zShp) (ad : Nat → Nat) {p0 : Int32} {p1 : Int32}  {M : zMem} {r : Int32} (hd : zJ9_floorDiv_7cf53 sh p0 p1 M = some r) : zCI l yJ9_floorDiv_7cf53 cJ9_floorDiv_7cf53 3 .int { frames := 0, cells := 0, slots := 0, locals := 0 } [.int p0, .int p1] D cy sh ad M r M := by
  refine zci_ofF (by decide +kernel) (Nat.le_of_ble_eq_true rfl) (fun p e s m below meth c ls F hr hlk hl hw => ?_)
  have hx := F.1.1
  have hb := F.1.2.1
  have hl : lv_has ls 3 [(0, .int p0), (1, .int p1)] := hl
  have J21 : ∀ (x2 : Int32) (H : Heap) (locs : List Loc) (ls : Array Slot), lv_has ls 3 [(2, .int x2)] → zWd D cy sh ad s M H locs → zjJ9_floorDiv_7cf53_21 sh p0 p1 M  x2 = some r → W p l e { frames := 0, cells := 0, slots := 0, locals := 0 } s m ([.int p0, .int p1] : List Value).toArray below meth c H locs 0 0 (zQI below D cy sh ad s [.int p0, .int p1] r M) (F0 m 21 ls []) := by
    intro  x2 H locs ls hl hw hd
    unfold zjJ9_floorDiv_7cf53_21 at hd
    refine lv_iload_n hx hb dJ9_floorDiv_7cf53_21 rfl (lv_at hl 0 rfl) ?_
    exact z_iret F hr hlk hw (Option.some.inj hd) rfl dJ9_floorDiv_7cf53_22
  unfold zJ9_floorDiv_7cf53 at hd
  refine lv_iload_n hx hb dJ9_floorDiv_7cf53_0 rfl (lv_at hl 0 rfl) ?_
  refine lv_iload_n hx hb dJ9_floorDiv_7cf53_1 rfl (lv_at hl 1 rfl) ?_
  obtain ⟨g_1, hd⟩ := zgd_some hd
  refine lv_idiv hx hb dJ9_floorDiv_7cf53_2 (znz_ne g_1) ?_
  refine lv_istore_n (lv' := [(2, .int (p0 / p1)), (0, .int p0), (1, .int p1)]) hx hb dJ9_floorDiv_7cf53_3 rfl hl (by decide) rfl (fun ls hl => ?_)
  refine lv_iload_n hx hb dJ9_floorDiv_7cf53_4 rfl (lv_at hl 1 rfl) ?_
  refine lv_iload_n hx hb dJ9_floorDiv_7cf53_5 rfl (lv_at hl 2 rfl) ?_
  refine lv_ixor hx hb dJ9_floorDiv_7cf53_6 ?_
  refine lv_if_ge (tgt := 21) hx hb dJ9_floorDiv_7cf53_7 (by decide) (fun c_2 => ?_) (fun c_2 => ?_)
  · have hd := zif_pos c_2 hd
    exact J21 _ _ _ _ (lv_sub hl [0] rfl) hw hd
  · have hd := zif_neg c_2 hd
    refine lv_iload_n hx hb dJ9_floorDiv_7cf53_10 rfl (lv_at hl 0 rfl) ?_
    refine lv_iload_n hx hb dJ9_floorDiv_7cf53_11 rfl (lv_at hl 2 rfl) ?_
    refine lv_imul hx hb dJ9_floorDiv_7cf53_12 ?_
    refine lv_iload_n hx hb dJ9_floorDiv_7cf53_13 rfl (lv_at hl 1 rfl) ?_
    refine lv_icmp_eq (tgt := 21) hx hb dJ9_floorDiv_7cf53_14 (by decide) (fun c_3 => ?_) (fun c_3 => ?_)
    · have hd := zif_pos c_3 hd
      exact J21 _ _ _ _ (lv_sub hl [0] rfl) hw hd
    · have hd := zif_neg c_3 hd
      refine lv_iload_n hx hb dJ9_floorDiv_7cf53_17 rfl (lv_at hl 0 rfl) ?_
      refine lv_iconst (v := (1 : Int32)) hx hb dJ9_floorDiv_7cf53_18 (by decide) ?_
      refine lv_isub hx hb dJ9_floorDiv_7cf53_19 ?_
      exact z_iret F hr hlk hw (Option.some.inj hd) rfl dJ9_floorDiv_7cf53_20

def zX7_truePlace (sh : zShp) (k0 : Nat) (M : zMem) : Option (Int32) :=
  zob (zJ9_floorDiv_7cf53 sh (zI M k0 1) (16 : Int32) M) fun r_2 =>
  some r_2
set_option maxHeartbeats 4000000 in
set_option maxRecDepth 100000 in
theorem ztX7_truePlace (l : Launch) (D : va_G) (cy : Nat → ClassId) (sh : zShp) (ad : Nat → Nat) {k0 : Nat} (h0 : zT sh k0 7) {M : zMem} {r : Int32} (hd : zX7_truePlace sh k0 M = some r) : zCI l yX7_truePlace cX7_truePlace 1 .int { frames := 1, cells := 0, slots := 0, locals := 22 } [.ref (ad k0)] D cy sh ad M r M := by
  refine zci_of (by decide) (Nat.le_of_ble_eq_true rfl) (fun p e s m below meth c ls F hr hlk hl hw => ?_)
  have hx := F.1.1
  have hb := F.1.2.1
  have hl : lv_has ls 1 [(0, .ref (ad k0))] := hl
  unfold zX7_truePlace at hd
  refine lv_aload_n hx hb dX7_truePlace_0 rfl (lv_at hl 0 rfl) ?_
  refine z_gI F hw h0 zc7 1 (by decide) rfl zf7_25 dX7_truePlace_1 ?_
  refine lv_bipush (v := (16 : Int32)) hx hb dX7_truePlace_4 (by decide) ?_
  obtain ⟨r_2, hc_1, hd⟩ := zob_some hd
  refine z_csI F hw hl.1 (As := [.int (zI M k0 1), .int (16 : Int32)]) (rest := []) (ztJ9_floorDiv_7cf53 l D cy sh ad  hc_1) zyJ9_floorDiv_7cf53 zk7_34 ⟨rfl, rfl⟩ ⟨by decide, by decide⟩ rfl rfl (Nat.le_of_ble_eq_true rfl) dX7_truePlace_6 (fun H locs hw => ?_)
  exact z_iret F hr hlk hw (Option.some.inj hd) rfl dX7_truePlace_9

def zX9_wave (sh : zShp) (k0 : Nat) (p1 : Int32) (M : zMem) : Option (Int32) :=
  if ((p1 >>> ((6 : Int32) &&& 31)) &&& (3 : Int32)) = (0 : Int32) then (
  zgd (zin (p1 &&& (63 : Int32)) (zlen sh k0)) <|
  some (zI M k0 ((p1 &&& (63 : Int32)).toNatClampNeg)))
  else if ((p1 >>> ((6 : Int32) &&& 31)) &&& (3 : Int32)) = (1 : Int32) then (
  zgd (zin ((64 : Int32) - (p1 &&& (63 : Int32))) (zlen sh k0)) <|
  some (zI M k0 (((64 : Int32) - (p1 &&& (63 : Int32))).toNatClampNeg)))
  else if ((p1 >>> ((6 : Int32) &&& 31)) &&& (3 : Int32)) = (2 : Int32) then (
  zgd (zin (p1 &&& (63 : Int32)) (zlen sh k0)) <|
  some (-(zI M k0 ((p1 &&& (63 : Int32)).toNatClampNeg))))
  else (
  zgd (zin ((64 : Int32) - (p1 &&& (63 : Int32))) (zlen sh k0)) <|
  some (-(zI M k0 (((64 : Int32) - (p1 &&& (63 : Int32))).toNatClampNeg))))
set_option maxHeartbeats 4000000 in
set_option maxRecDepth 100000 in
theorem ztX9_wave (l : Launch) (D : va_G) (cy : Nat → ClassId) (sh : zShp) (ad : Nat → Nat) {k0 : Nat} {p1 : Int32} (h0 : zT sh k0 14) {M : zMem} {r : Int32} (hd : zX9_wave sh k0 p1 M = some r) : zCI l yX9_wave cX9_wave 3 .int { frames := 0, cells := 0, slots := 0, locals := 0 } [.ref (ad k0), .int p1] D cy sh ad M r M := by
  refine zci_of (by decide) (Nat.le_of_ble_eq_true rfl) (fun p e s m below meth c ls F hr hlk hl hw => ?_)
  have hx := F.1.1
  have hb := F.1.2.1
  have hl : lv_has ls 3 [(0, .ref (ad k0)), (1, .int p1)] := hl
  unfold zX9_wave at hd
  refine lv_iload_n hx hb dX9_wave_0 rfl (lv_at hl 1 rfl) ?_
  refine lv_bipush (v := (63 : Int32)) hx hb dX9_wave_1 (by decide) ?_
  refine lv_iand hx hb dX9_wave_3 ?_
  refine lv_istore_n (lv' := [(2, .int (p1 &&& (63 : Int32))), (0, .ref (ad k0)), (1, .int p1)]) hx hb dX9_wave_4 rfl hl (by decide) rfl (fun ls hl => ?_)
  refine lv_iload_n hx hb dX9_wave_5 rfl (lv_at hl 2 rfl) ?_
  refine lv_bipush (v := (6 : Int32)) hx hb dX9_wave_6 (by decide) ?_
  refine lv_ishr hx hb dX9_wave_8 ?_
  refine lv_iconst (v := (3 : Int32)) hx hb dX9_wave_9 (by decide) ?_
  refine lv_iand hx hb dX9_wave_10 ?_
  by_cases c_1 : ((p1 >>> ((6 : Int32) &&& 31)) &&& (3 : Int32)) = (0 : Int32)
  · have hd := zif_pos c_1 hd
    refine lv_tableIn (tgt := 36) (off := 25) hx hb dX9_wave_11 (by rw [c_1]; decide) (by rw [c_1]; decide) (by rw [c_1]; decide) (by decide) ?_
    refine lv_aload_n hx hb dX9_wave_36 rfl (lv_at hl 1 rfl) ?_
    refine lv_iload_n hx hb dX9_wave_37 rfl (lv_at hl 0 rfl) ?_
    obtain ⟨g_2, hd⟩ := zgd_some hd
    refine z_iald F hw h0 g_2 dX9_wave_38 ?_
    exact z_iret F hr hlk hw (Option.some.inj hd) rfl dX9_wave_39
  have hd := zif_neg c_1 hd
  by_cases c_3 : ((p1 >>> ((6 : Int32) &&& 31)) &&& (3 : Int32)) = (1 : Int32)
  · have hd := zif_pos c_3 hd
    refine lv_tableIn (tgt := 40) (off := 29) hx hb dX9_wave_11 (by rw [c_3]; decide) (by rw [c_3]; decide) (by rw [c_3]; decide) (by decide) ?_
    refine lv_aload_n hx hb dX9_wave_40 rfl (lv_at hl 1 rfl) ?_
    refine lv_bipush (v := (64 : Int32)) hx hb dX9_wave_41 (by decide) ?_
    refine lv_iload_n hx hb dX9_wave_43 rfl (lv_at hl 0 rfl) ?_
    refine lv_isub hx hb dX9_wave_44 ?_
    obtain ⟨g_4, hd⟩ := zgd_some hd
    refine z_iald F hw h0 g_4 dX9_wave_45 ?_
    exact z_iret F hr hlk hw (Option.some.inj hd) rfl dX9_wave_46
  have hd := zif_neg c_3 hd
  by_cases c_5 : ((p1 >>> ((6 : Int32) &&& 31)) &&& (3 : Int32)) = (2 : Int32)
  · have hd := zif_pos c_5 hd
    refine lv_tableIn (tgt := 47) (off := 36) hx hb dX9_wave_11 (by rw [c_5]; decide) (by rw [c_5]; decide) (by rw [c_5]; decide) (by decide) ?_
    refine lv_aload_n hx hb dX9_wave_47 rfl (lv_at hl 1 rfl) ?_
    refine lv_iload_n hx hb dX9_wave_48 rfl (lv_at hl 0 rfl) ?_
    obtain ⟨g_6, hd⟩ := zgd_some hd
    refine z_iald F hw h0 g_6 dX9_wave_49 ?_
    refine lv_ineg hx hb dX9_wave_50 ?_
    exact z_iret F hr hlk hw (Option.some.inj hd) rfl dX9_wave_51
  have hd := zif_neg c_5 hd
  have nc_1 := zne c_1 (a := 0) (by decide)
  have nc_3 := zne c_3 (a := 1) (by decide)
  have nc_5 := zne c_5 (a := 2) (by decide)
  refine lv_tableOut (tgt := 52) hx hb dX9_wave_11 (by omega) (by decide) ?_
  refine lv_aload_n hx hb dX9_wave_52 rfl (lv_at hl 1 rfl) ?_
  refine lv_bipush (v := (64 : Int32)) hx hb dX9_wave_53 (by decide) ?_
  refine lv_iload_n hx hb dX9_wave_55 rfl (lv_at hl 0 rfl) ?_
  refine lv_isub hx hb dX9_wave_56 ?_
  obtain ⟨g_7, hd⟩ := zgd_some hd
  refine z_iald F hw h0 g_7 dX9_wave_57 ?_
  refine lv_ineg hx hb dX9_wave_58 ?_
  exact z_iret F hr hlk hw (Option.some.inj hd) rfl dX9_wave_59

def zjX7_push_47 (sh : zShp) (k0 : Nat) (k1 : Nat) (k2 : Nat) (M : zMem)  (s0 : Int32) : Option (Int32) :=
  some s0
def zX7_push (sh : zShp) (k0 : Nat) (k1 : Nat) (k2 : Nat) (M : zMem) : Option (Int32) :=
  zob (zX7_angle sh k0 M) fun r_3 =>
  zob (zX9_wave sh (zR M k2 0) (r_3 / (16 : Int32)) M) fun r_5 =>
  zbd ((((zI M k1 4) * r_5) / (1000 : Int32))) fun v_6 =>
  if (1 : Int32) ≤ (zI M k1 5) then (
  zgd (znz (zI M k1 5)) <|
  zjX7_push_47 sh k0 k1 k2 M ((v_6 - (zI M k0 3)) / (zI M k1 5)))
  else (
  zjX7_push_47 sh k0 k1 k2 M (0 : Int32))
set_option maxHeartbeats 4000000 in
set_option maxRecDepth 100000 in
theorem ztX7_push (l : Launch) (D : va_G) (cy : Nat → ClassId) (sh : zShp) (ad : Nat → Nat) {k0 : Nat} {k1 : Nat} {k2 : Nat} (h0 : zT sh k0 7) (h1 : zT sh k1 0) (h2 : zT sh k2 9) {M : zMem} {r : Int32} (hd : zX7_push sh k0 k1 k2 M = some r) : zCI l yX7_push cX7_push 4 .int { frames := 1, cells := 0, slots := 0, locals := 22 } [.ref (ad k0), .ref (ad k1), .ref (ad k2)] D cy sh ad M r M := by
  refine zci_of (by decide) (Nat.le_of_ble_eq_true rfl) (fun p e s m below meth c ls F hr hlk hl hw => ?_)
  have hx := F.1.1
  have hb := F.1.2.1
  have hl : lv_has ls 4 [(0, .ref (ad k0)), (1, .ref (ad k1)), (2, .ref (ad k2))] := hl
  have J47 : ∀ (s0 : Int32) (H : Heap) (locs : List Loc) (ls : Array Slot), lv_has ls 4 [] → zWd D cy sh ad s M H locs → zjX7_push_47 sh k0 k1 k2 M  s0 = some r → W p l e { frames := 1, cells := 0, slots := 0, locals := 22 } s m ([.ref (ad k0), .ref (ad k1), .ref (ad k2)] : List Value).toArray below meth c H locs 0 0 (zQI below D cy sh ad s [.ref (ad k0), .ref (ad k1), .ref (ad k2)] r M) (F0 m 47 ls [.int s0]) := by
    intro  s0 H locs ls hl hw hd
    unfold zjX7_push_47 at hd
    exact z_iret F hr hlk hw (Option.some.inj hd) rfl dX7_push_47
  unfold zX7_push at hd
  refine lv_aload_n hx hb dX7_push_0 rfl (lv_at hl 1 rfl) ?_
  refine z_gI F hw h1 zc0 4 (by decide) rfl zf7_40 dX7_push_1 ?_
  refine lv_aload_n hx hb dX7_push_4 rfl (lv_at hl 2 rfl) ?_
  refine z_gR F hw h2 zc9 0 (by decide) rfl zf7_45 dX7_push_5 ?_
  have t_1 : zT sh (zR M k2 0) 14 := hw.2.2.2.fld h2 0 14
  refine lv_aload_n hx hb dX7_push_8 rfl (lv_at hl 0 rfl) ?_
  obtain ⟨r_3, hc_2, hd⟩ := zob_some hd
  refine z_cvI F hw hl.1 (As := []) (rest := [.ref (ad (zR M k2 0)), .int (zI M k1 4)]) (ztX7_angle l D cy sh ad h0 hc_2) zyX7_angle h0 zc7 zk7_51 ⟨rfl, rfl⟩ ⟨by decide, by decide⟩ rfl rfl (Nat.le_of_ble_eq_true rfl) dX7_push_9 (fun H locs hw => ?_)
  refine lv_bipush (v := (16 : Int32)) hx hb dX7_push_12 (by decide) ?_
  refine lv_idiv hx hb dX7_push_14 (by decide) ?_
  obtain ⟨r_5, hc_4, hd⟩ := zob_some hd
  refine z_csI F hw hl.1 (As := [.ref (ad (zR M k2 0)), .int (r_3 / (16 : Int32))]) (rest := [.int (zI M k1 4)]) (ztX9_wave l D cy sh ad t_1 hc_4) zyX9_wave zk7_55 ⟨rfl, rfl⟩ ⟨by decide, by decide⟩ rfl rfl (Nat.le_of_ble_eq_true rfl) dX7_push_15 (fun H locs hw => ?_)
  refine lv_imul hx hb dX7_push_18 ?_
  refine lv_sipush (v := (1000 : Int32)) hx hb dX7_push_19 (by decide) ?_
  refine lv_idiv hx hb dX7_push_22 (by decide) ?_
  refine lv_topi (fun v_6 ev_6 => ?_)
  have hd := zbd_eq ev_6 hd
  refine lv_istore_n (lv' := [(3, .int v_6), (0, .ref (ad k0)), (1, .ref (ad k1)), (2, .ref (ad k2))]) hx hb dX7_push_23 rfl hl (by decide) rfl (fun ls hl => ?_)
  refine lv_aload_n hx hb dX7_push_24 rfl (lv_at hl 2 rfl) ?_
  refine z_gI F hw h1 zc0 5 (by decide) rfl zf7_59 dX7_push_25 ?_
  refine lv_iconst (v := (1 : Int32)) hx hb dX7_push_28 (by decide) ?_
  refine lv_icmp_ge (tgt := 36) hx hb dX7_push_29 (by decide) (fun c_7 => ?_) (fun c_7 => ?_)
  · have hd := zif_pos c_7 hd
    refine lv_iload_n hx hb dX7_push_36 rfl (lv_at hl 0 rfl) ?_
    refine lv_aload_n hx hb dX7_push_37 rfl (lv_at hl 1 rfl) ?_
    refine z_gI F hw h0 zc7 3 (by decide) rfl zf7_31 dX7_push_38 ?_
    refine lv_isub hx hb dX7_push_41 ?_
    refine lv_aload_n hx hb dX7_push_42 rfl (lv_at hl 2 rfl) ?_
    refine z_gI F hw h1 zc0 5 (by decide) rfl zf7_59 dX7_push_43 ?_
    obtain ⟨g_8, hd⟩ := zgd_some hd
    refine lv_idiv hx hb dX7_push_46 (znz_ne g_8) ?_
    exact J47 _ _ _ _ (lv_sub hl [] rfl) hw hd
  · have hd := zif_neg c_7 hd
    refine lv_iconst (v := (0 : Int32)) hx hb dX7_push_32 (by decide) ?_
    refine lv_goto (tgt := 47) hx hb dX7_push_33 (by decide) ?_
    exact J47 _ _ _ _ (lv_sub hl [] rfl) hw hd

def zX7_turn (sh : zShp) (k0 : Nat) (k1 : Nat) (k2 : Nat) (M : zMem) : Option (zMem) :=
  zob (zX7_push sh k0 k1 k2 M) fun r_2 =>
  zbd ((((zI M k0 2) + r_2) - ((((zI M k0 2) + r_2) * (zI M k1 6)) / (100 : Int32)))) fun v_3 =>
  zbd (zpI M k0 2 (zmax (-2000 : Int32) (zmin (2000 : Int32) v_3))) fun M_4 =>
  zbd (zpI M_4 k0 1 ((zI M_4 k0 1) + (zI M_4 k0 2))) fun M_5 =>
  some M_5
set_option maxHeartbeats 4000000 in
set_option maxRecDepth 100000 in
theorem ztX7_turn (l : Launch) (D : va_G) (cy : Nat → ClassId) (sh : zShp) (ad : Nat → Nat) {k0 : Nat} {k1 : Nat} {k2 : Nat} (h0 : zT sh k0 7) (h1 : zT sh k1 0) (h2 : zT sh k2 9) {M : zMem} {M1 : zMem} (hd : zX7_turn sh k0 k1 k2 M = some M1) : zCV l yX7_turn cX7_turn 4 { frames := 2, cells := 0, slots := 0, locals := 45 } [.ref (ad k0), .ref (ad k1), .ref (ad k2)] D cy sh ad M M1 := by
  refine zcv_of (by decide) (Nat.le_of_ble_eq_true rfl) (fun p e s m below meth c ls F hr hlk hl hw => ?_)
  have hx := F.1.1
  have hb := F.1.2.1
  have hl : lv_has ls 4 [(0, .ref (ad k0)), (1, .ref (ad k1)), (2, .ref (ad k2))] := hl
  unfold zX7_turn at hd
  refine lv_aload_n hx hb dX7_turn_0 rfl (lv_at hl 0 rfl) ?_
  refine z_gI F hw h0 zc7 2 (by decide) rfl zf7_28 dX7_turn_1 ?_
  refine lv_aload_n hx hb dX7_turn_4 rfl (lv_at hl 0 rfl) ?_
  refine lv_aload_n hx hb dX7_turn_5 rfl (lv_at hl 1 rfl) ?_
  refine lv_aload_n hx hb dX7_turn_6 rfl (lv_at hl 2 rfl) ?_
  obtain ⟨r_2, hc_1, hd⟩ := zob_some hd
  refine z_cvI F hw hl.1 (As := [.ref (ad k1), .ref (ad k2)]) (rest := [.int (zI M k0 2)]) (ztX7_push l D cy sh ad h0 h1 h2 hc_1) zyX7_push h0 zc7 zk7_62 ⟨rfl, rfl⟩ ⟨by decide, by decide⟩ rfl rfl (Nat.le_of_ble_eq_true rfl) dX7_turn_7 (fun H locs hw => ?_)
  refine lv_iadd hx hb dX7_turn_10 ?_
  refine lv_istore_n (lv' := [(3, .int ((zI M k0 2) + r_2)), (0, .ref (ad k0)), (1, .ref (ad k1)), (2, .ref (ad k2))]) hx hb dX7_turn_11 rfl hl (by decide) rfl (fun ls hl => ?_)
  refine lv_iload_n hx hb dX7_turn_12 rfl (lv_at hl 0 rfl) ?_
  refine lv_iload_n hx hb dX7_turn_13 rfl (lv_at hl 0 rfl) ?_
  refine lv_aload_n hx hb dX7_turn_14 rfl (lv_at hl 2 rfl) ?_
  refine z_gI F hw h1 zc0 6 (by decide) rfl zf7_66 dX7_turn_15 ?_
  refine lv_imul hx hb dX7_turn_18 ?_
  refine lv_bipush (v := (100 : Int32)) hx hb dX7_turn_19 (by decide) ?_
  refine lv_idiv hx hb dX7_turn_21 (by decide) ?_
  refine lv_isub hx hb dX7_turn_22 ?_
  refine lv_topi (fun v_3 ev_3 => ?_)
  have hd := zbd_eq ev_3 hd
  refine lv_istore_n (lv' := [(3, .int v_3), (0, .ref (ad k0)), (1, .ref (ad k1)), (2, .ref (ad k2))]) hx hb dX7_turn_23 rfl hl (by decide) rfl (fun ls hl => ?_)
  refine lv_aload_n hx hb dX7_turn_24 rfl (lv_at hl 1 rfl) ?_
  refine lv_sipush (v := (-2000 : Int32)) hx hb dX7_turn_25 (by decide) ?_
  refine lv_sipush (v := (2000 : Int32)) hx hb dX7_turn_28 (by decide) ?_
  refine lv_iload_n hx hb dX7_turn_31 rfl (lv_at hl 0 rfl) ?_
  refine z_mmin F hl.1 zk7_69 (by decide) (Nat.le_of_ble_eq_true rfl) dX7_turn_32 ?_
  refine z_mmax F hl.1 zk7_72 (by decide) (Nat.le_of_ble_eq_true rfl) dX7_turn_35 ?_
  refine z_pI F hw h0 zc7 2 (by decide) rfl zf7_28 rfl rfl rfl dX7_turn_38 (fun H locs M_4 eM_4 hw => ?_)
  have hd := zbd_eq eM_4 hd
  refine lv_aload_n hx hb dX7_turn_41 rfl (lv_at hl 1 rfl) ?_
  refine lv_dup hx hb dX7_turn_42 rfl ?_
  refine z_gI F hw h0 zc7 1 (by decide) rfl zf7_25 dX7_turn_43 ?_
  refine lv_aload_n hx hb dX7_turn_46 rfl (lv_at hl 1 rfl) ?_
  refine z_gI F hw h0 zc7 2 (by decide) rfl zf7_28 dX7_turn_47 ?_
  refine lv_iadd hx hb dX7_turn_50 ?_
  refine z_pI F hw h0 zc7 1 (by decide) rfl zf7_25 rfl rfl rfl dX7_turn_51 (fun H locs M_5 eM_5 hw => ?_)
  have hd := zbd_eq eM_5 hd
  exact z_vret F hr hlk hw (Option.some.inj hd) dX7_turn_54

def zjX7_isCalm_21 (sh : zShp) (k0 : Nat) (k1 : Nat) (k2 : Nat) (M : zMem)  (s0 : Int32) : Option (Int32) :=
  zgd (zisB s0) <|
  some s0
def zjX7_isCalm_20 (sh : zShp) (k0 : Nat) (k1 : Nat) (k2 : Nat) (M : zMem)   : Option (Int32) :=
  zjX7_isCalm_21 sh k0 k1 k2 M (0 : Int32)
def zX7_isCalm (sh : zShp) (k0 : Nat) (k1 : Nat) (k2 : Nat) (M : zMem) : Option (Int32) :=
  if (zI M k0 2) = 0 then (
  zob (zX7_push sh k0 k1 k2 M) fun r_4 =>
  if r_4 = 0 then (
  zjX7_isCalm_21 sh k0 k1 k2 M (1 : Int32))
  else (
  zjX7_isCalm_20 sh k0 k1 k2 M))
  else (
  zjX7_isCalm_20 sh k0 k1 k2 M)
set_option maxHeartbeats 4000000 in
set_option maxRecDepth 100000 in
theorem ztX7_isCalm (l : Launch) (D : va_G) (cy : Nat → ClassId) (sh : zShp) (ad : Nat → Nat) {k0 : Nat} {k1 : Nat} {k2 : Nat} (h0 : zT sh k0 7) (h1 : zT sh k1 0) (h2 : zT sh k2 9) {M : zMem} {r : Int32} (hd : zX7_isCalm sh k0 k1 k2 M = some r) : zCI l yX7_isCalm cX7_isCalm 3 .boolean { frames := 2, cells := 0, slots := 0, locals := 45 } [.ref (ad k0), .ref (ad k1), .ref (ad k2)] D cy sh ad M r M := by
  refine zci_of (by decide) (Nat.le_of_ble_eq_true rfl) (fun p e s m below meth c ls F hr hlk hl hw => ?_)
  have hx := F.1.1
  have hb := F.1.2.1
  have hl : lv_has ls 3 [(0, .ref (ad k0)), (1, .ref (ad k1)), (2, .ref (ad k2))] := hl
  have J21 : ∀ (s0 : Int32) (H : Heap) (locs : List Loc) (ls : Array Slot), lv_has ls 3 [] → zWd D cy sh ad s M H locs → zjX7_isCalm_21 sh k0 k1 k2 M  s0 = some r → W p l e { frames := 2, cells := 0, slots := 0, locals := 45 } s m ([.ref (ad k0), .ref (ad k1), .ref (ad k2)] : List Value).toArray below meth c H locs 0 0 (zQI below D cy sh ad s [.ref (ad k0), .ref (ad k1), .ref (ad k2)] r M) (F0 m 21 ls [.int s0]) := by
    intro  s0 H locs ls hl hw hd
    unfold zjX7_isCalm_21 at hd
    obtain ⟨g_1, hd⟩ := zgd_some hd
    exact z_zret F hr hlk hw g_1 (Option.some.inj hd) rfl dX7_isCalm_21
  have J20 : ∀  (H : Heap) (locs : List Loc) (ls : Array Slot), lv_has ls 3 [] → zWd D cy sh ad s M H locs → zjX7_isCalm_20 sh k0 k1 k2 M   = some r → W p l e { frames := 2, cells := 0, slots := 0, locals := 45 } s m ([.ref (ad k0), .ref (ad k1), .ref (ad k2)] : List Value).toArray below meth c H locs 0 0 (zQI below D cy sh ad s [.ref (ad k0), .ref (ad k1), .ref (ad k2)] r M) (F0 m 20 ls []) := by
    intro  H locs ls hl hw hd
    unfold zjX7_isCalm_20 at hd
    refine lv_iconst (v := (0 : Int32)) hx hb dX7_isCalm_20 (by decide) ?_
    exact J21 _ _ _ _ (lv_sub hl [] rfl) hw hd
  unfold zX7_isCalm at hd
  refine lv_aload_n hx hb dX7_isCalm_0 rfl (lv_at hl 0 rfl) ?_
  refine z_gI F hw h0 zc7 2 (by decide) rfl zf7_28 dX7_isCalm_1 ?_
  refine lv_if_ne (tgt := 20) hx hb dX7_isCalm_4 (by decide) (fun c_2 => ?_) (fun c_2 => ?_)
  · have hd := zif_neg c_2 hd
    exact J20 _ _ _ (lv_sub hl [] rfl) hw hd
  · have hd := zif_pos c_2 hd
    refine lv_aload_n hx hb dX7_isCalm_7 rfl (lv_at hl 0 rfl) ?_
    refine lv_aload_n hx hb dX7_isCalm_8 rfl (lv_at hl 1 rfl) ?_
    refine lv_aload_n hx hb dX7_isCalm_9 rfl (lv_at hl 2 rfl) ?_
    obtain ⟨r_4, hc_3, hd⟩ := zob_some hd
    refine z_cvI F hw hl.1 (As := [.ref (ad k1), .ref (ad k2)]) (rest := []) (ztX7_push l D cy sh ad h0 h1 h2 hc_3) zyX7_push h0 zc7 zk7_62 ⟨rfl, rfl⟩ ⟨by decide, by decide⟩ rfl rfl (Nat.le_of_ble_eq_true rfl) dX7_isCalm_10 (fun H locs hw => ?_)
    refine lv_if_ne (tgt := 20) hx hb dX7_isCalm_13 (by decide) (fun c_5 => ?_) (fun c_5 => ?_)
    · have hd := zif_neg c_5 hd
      exact J20 _ _ _ (lv_sub hl [] rfl) hw hd
    · have hd := zif_pos c_5 hd
      refine lv_iconst (v := (1 : Int32)) hx hb dX7_isCalm_16 (by decide) ?_
      refine lv_goto (tgt := 21) hx hb dX7_isCalm_17 (by decide) ?_
      exact J21 _ _ _ _ (lv_sub hl [] rfl) hw hd

def zjX7_isOffBy_16 (sh : zShp) (k0 : Nat) (p1 : Int32) (M : zMem)  (s0 : Int32) : Option (Int32) :=
  zgd (zisB s0) <|
  some s0
def zX7_isOffBy (sh : zShp) (k0 : Nat) (p1 : Int32) (M : zMem) : Option (Int32) :=
  zob (zX7_angle sh k0 M) fun r_3 =>
  if (zabs r_3) < p1 then (
  zjX7_isOffBy_16 sh k0 p1 M (0 : Int32))
  else (
  zjX7_isOffBy_16 sh k0 p1 M (1 : Int32))
set_option maxHeartbeats 4000000 in
set_option maxRecDepth 100000 in
theorem ztX7_isOffBy (l : Launch) (D : va_G) (cy : Nat → ClassId) (sh : zShp) (ad : Nat → Nat) {k0 : Nat} {p1 : Int32} (h0 : zT sh k0 7) {M : zMem} {r : Int32} (hd : zX7_isOffBy sh k0 p1 M = some r) : zCI l yX7_isOffBy cX7_isOffBy 2 .boolean { frames := 1, cells := 0, slots := 0, locals := 21 } [.ref (ad k0), .int p1] D cy sh ad M r M := by
  refine zci_of (by decide) (Nat.le_of_ble_eq_true rfl) (fun p e s m below meth c ls F hr hlk hl hw => ?_)
  have hx := F.1.1
  have hb := F.1.2.1
  have hl : lv_has ls 2 [(0, .ref (ad k0)), (1, .int p1)] := hl
  have J16 : ∀ (s0 : Int32) (H : Heap) (locs : List Loc) (ls : Array Slot), lv_has ls 2 [] → zWd D cy sh ad s M H locs → zjX7_isOffBy_16 sh k0 p1 M  s0 = some r → W p l e { frames := 1, cells := 0, slots := 0, locals := 21 } s m ([.ref (ad k0), .int p1] : List Value).toArray below meth c H locs 0 0 (zQI below D cy sh ad s [.ref (ad k0), .int p1] r M) (F0 m 16 ls [.int s0]) := by
    intro  s0 H locs ls hl hw hd
    unfold zjX7_isOffBy_16 at hd
    obtain ⟨g_1, hd⟩ := zgd_some hd
    exact z_zret F hr hlk hw g_1 (Option.some.inj hd) rfl dX7_isOffBy_16
  unfold zX7_isOffBy at hd
  refine lv_aload_n hx hb dX7_isOffBy_0 rfl (lv_at hl 0 rfl) ?_
  obtain ⟨r_3, hc_2, hd⟩ := zob_some hd
  refine z_cvI F hw hl.1 (As := []) (rest := []) (ztX7_angle l D cy sh ad h0 hc_2) zyX7_angle h0 zc7 zk7_51 ⟨rfl, rfl⟩ ⟨by decide, by decide⟩ rfl rfl (Nat.le_of_ble_eq_true rfl) dX7_isOffBy_1 (fun H locs hw => ?_)
  refine z_mabs F hl.1 zk7_75 (by decide) (Nat.le_of_ble_eq_true rfl) dX7_isOffBy_4 ?_
  refine lv_iload_n hx hb dX7_isOffBy_7 rfl (lv_at hl 1 rfl) ?_
  refine lv_icmp_lt (tgt := 15) hx hb dX7_isOffBy_8 (by decide) (fun c_4 => ?_) (fun c_4 => ?_)
  · have hd := zif_pos c_4 hd
    refine lv_iconst (v := (0 : Int32)) hx hb dX7_isOffBy_15 (by decide) ?_
    exact J16 _ _ _ _ (lv_sub hl [] rfl) hw hd
  · have hd := zif_neg c_4 hd
    refine lv_iconst (v := (1 : Int32)) hx hb dX7_isOffBy_11 (by decide) ?_
    refine lv_goto (tgt := 16) hx hb dX7_isOffBy_12 (by decide) ?_
    exact J16 _ _ _ _ (lv_sub hl [] rfl) hw hd

def zX8_stop (sh : zShp) (k0 : Nat) (M : zMem) : Option (zMem) :=
  zbd (zpI M k0 8 (0 : Int32)) fun M_1 =>
  zbd (zpI M_1 k0 9 (0 : Int32)) fun M_2 =>
  zbd (zpI M_2 k0 10 (0 : Int32)) fun M_3 =>
  zbd (zpI M_3 k0 4 (0 : Int32)) fun M_4 =>
  some M_4
set_option maxHeartbeats 4000000 in
set_option maxRecDepth 100000 in
theorem ztX8_stop (l : Launch) (D : va_G) (cy : Nat → ClassId) (sh : zShp) (ad : Nat → Nat) {k0 : Nat} (h0 : zT sh k0 8) {M : zMem} {M1 : zMem} (hd : zX8_stop sh k0 M = some M1) : zCV l yX8_stop cX8_stop 1 { frames := 0, cells := 0, slots := 0, locals := 0 } [.ref (ad k0)] D cy sh ad M M1 := by
  refine zcv_of (by decide) (Nat.le_of_ble_eq_true rfl) (fun p e s m below meth c ls F hr hlk hl hw => ?_)
  have hx := F.1.1
  have hb := F.1.2.1
  have hl : lv_has ls 1 [(0, .ref (ad k0))] := hl
  unfold zX8_stop at hd
  refine lv_aload_n hx hb dX8_stop_0 rfl (lv_at hl 0 rfl) ?_
  refine lv_iconst (v := (0 : Int32)) hx hb dX8_stop_1 (by decide) ?_
  refine z_pI F hw h0 zc8 8 (by decide) rfl zf8_48 rfl (by decide) rfl dX8_stop_2 (fun H locs M_1 eM_1 hw => ?_)
  have hd := zbd_eq eM_1 hd
  refine lv_aload_n hx hb dX8_stop_5 rfl (lv_at hl 0 rfl) ?_
  refine lv_iconst (v := (0 : Int32)) hx hb dX8_stop_6 (by decide) ?_
  refine z_pI F hw h0 zc8 9 (by decide) rfl zf8_52 rfl (by decide) rfl dX8_stop_7 (fun H locs M_2 eM_2 hw => ?_)
  have hd := zbd_eq eM_2 hd
  refine lv_aload_n hx hb dX8_stop_10 rfl (lv_at hl 0 rfl) ?_
  refine lv_iconst (v := (0 : Int32)) hx hb dX8_stop_11 (by decide) ?_
  refine z_pI F hw h0 zc8 10 (by decide) rfl zf8_55 rfl rfl rfl dX8_stop_12 (fun H locs M_3 eM_3 hw => ?_)
  have hd := zbd_eq eM_3 hd
  refine lv_aload_n hx hb dX8_stop_15 rfl (lv_at hl 0 rfl) ?_
  refine lv_iconst (v := (0 : Int32)) hx hb dX8_stop_16 (by decide) ?_
  refine z_pI F hw h0 zc8 4 (by decide) rfl zf8_58 rfl rfl rfl dX8_stop_17 (fun H locs M_4 eM_4 hw => ?_)
  have hd := zbd_eq eM_4 hd
  exact z_vret F hr hlk hw (Option.some.inj hd) dX8_stop_20

def zbX8_clear_2 (sh : zShp) (k0 : Nat)  (kk2 : Int32 → zMem → Option (zMem)) (x1 : Int32) (M : zMem) : Option (zMem) :=
  if (Int32.ofNat (zlen sh (zR M k0 0))) ≤ x1 then (
  zbd (zpI M k0 5 (0 : Int32)) fun M_3 =>
  zbd (zpI M_3 k0 6 (0 : Int32)) fun M_4 =>
  zbd (zpI M_4 k0 7 (-1 : Int32)) fun M_5 =>
  zob (zX8_stop sh k0 M_5) fun M_7 =>
  some M_7)
  else (
  zgd (zin x1 (zlen sh (zR M k0 0))) <|
  zob (zX7_clear sh (zR M (zR M k0 0) x1.toNatClampNeg) M) fun M_12 =>
  kk2 (x1 + (1 : Int32)) M_12)
def zlX8_clear_2 (sh : zShp) (k0 : Nat)  : Nat → Int32 → zMem → Option (zMem)
  | 0 => fun _ _ => none
  | n + 1 => fun x1 M => zbX8_clear_2 sh k0  (zlX8_clear_2 sh k0  n) x1 M
def zX8_clear (sh : zShp) (k0 : Nat) (M : zMem) : Option (zMem) :=
  zlX8_clear_2 sh k0 zF (0 : Int32) M
set_option maxHeartbeats 4000000 in
set_option maxRecDepth 100000 in
theorem ztX8_clear (l : Launch) (D : va_G) (cy : Nat → ClassId) (sh : zShp) (ad : Nat → Nat) {k0 : Nat} (h0 : zT sh k0 8) {M : zMem} {M1 : zMem} (hd : zX8_clear sh k0 M = some M1) : zCV l yX8_clear cX8_clear 2 { frames := 2, cells := 0, slots := 0, locals := 42 } [.ref (ad k0)] D cy sh ad M M1 := by
  refine zcv_of (by decide) (Nat.le_of_ble_eq_true rfl) (fun p e s m below meth c ls F hr hlk hl hw => ?_)
  have hx := F.1.1
  have hb := F.1.2.1
  have hl : lv_has ls 2 [(0, .ref (ad k0))] := hl
  have L2 : ∀  (n : Nat), ∀ (x1 : Int32) (M : zMem) (H : Heap) (locs : List Loc) (ls : Array Slot), lv_has ls 2 [(0, .ref (ad k0)), (1, .int x1)] → zWd D cy sh ad s M H locs → zlX8_clear_2 sh k0  n x1 M = some M1 → W p l e { frames := 2, cells := 0, slots := 0, locals := 42 } s m ([.ref (ad k0)] : List Value).toArray below meth c H locs 0 0 (zQV below D cy sh ad s [.ref (ad k0)] M1) (F0 m 2 ls []) := by
    intro  n
    induction n with
    | zero => intro x1 M H locs ls hl hw hd; exact (znone hd).elim
    | succ n hk2 =>
      intro x1 M H locs ls hl hw hd
      have hd : zbX8_clear_2 sh k0  (zlX8_clear_2 sh k0  n) x1 M = some M1 := hd
      unfold zbX8_clear_2 at hd
      refine lv_iload_n hx hb dX8_clear_2 rfl (lv_at hl 1 rfl) ?_
      refine lv_aload_n hx hb dX8_clear_3 rfl (lv_at hl 0 rfl) ?_
      refine z_gR F hw h0 zc8 0 (by decide) rfl zf8_11 dX8_clear_4 ?_
      have t_1 : zT sh (zR M k0 0) 18 := hw.2.2.2.fld h0 0 18
      refine z_alen F hw t_1 (by decide) (t0 := 5) rfl dX8_clear_7 ?_
      refine lv_icmp_ge (tgt := 26) hx hb dX8_clear_8 (by decide) (fun c_2 => ?_) (fun c_2 => ?_)
      · have hd := zif_pos c_2 hd
        refine lv_aload_n hx hb dX8_clear_26 rfl (lv_at hl 0 rfl) ?_
        refine lv_iconst (v := (0 : Int32)) hx hb dX8_clear_27 (by decide) ?_
        refine z_pI F hw h0 zc8 5 (by decide) rfl zf8_39 rfl rfl rfl dX8_clear_28 (fun H locs M_3 eM_3 hw => ?_)
        have hd := zbd_eq eM_3 hd
        refine lv_aload_n hx hb dX8_clear_31 rfl (lv_at hl 0 rfl) ?_
        refine lv_iconst (v := (0 : Int32)) hx hb dX8_clear_32 (by decide) ?_
        refine z_pI F hw h0 zc8 6 (by decide) rfl zf8_42 rfl rfl rfl dX8_clear_33 (fun H locs M_4 eM_4 hw => ?_)
        have hd := zbd_eq eM_4 hd
        refine lv_aload_n hx hb dX8_clear_36 rfl (lv_at hl 0 rfl) ?_
        refine lv_iconst (v := (-1 : Int32)) hx hb dX8_clear_37 (by decide) ?_
        refine z_pI F hw h0 zc8 7 (by decide) rfl zf8_31 rfl rfl rfl dX8_clear_38 (fun H locs M_5 eM_5 hw => ?_)
        have hd := zbd_eq eM_5 hd
        refine lv_aload_n hx hb dX8_clear_41 rfl (lv_at hl 0 rfl) ?_
        obtain ⟨M_7, hc_6, hd⟩ := zob_some hd
        refine z_cvV F hw hl.1 (As := []) (rest := []) (ztX8_stop l D cy sh ad h0 hc_6) zyX8_stop h0 zc8 zk8_45 ⟨rfl, rfl⟩ ⟨by decide, by decide⟩ rfl rfl (Nat.le_of_ble_eq_true rfl) dX8_clear_42 (fun H locs hw => ?_)
        exact z_vret F hr hlk hw (Option.some.inj hd) dX8_clear_45
      · have hd := zif_neg c_2 hd
        refine lv_aload_n hx hb dX8_clear_11 rfl (lv_at hl 0 rfl) ?_
        refine z_gR F hw h0 zc8 0 (by decide) rfl zf8_11 dX8_clear_12 ?_
        have t_8 : zT sh (zR M k0 0) 18 := hw.2.2.2.fld h0 0 18
        refine lv_iload_n hx hb dX8_clear_15 rfl (lv_at hl 1 rfl) ?_
        obtain ⟨g_9, hd⟩ := zgd_some hd
        refine z_aald F hw t_8 (by decide) 5 rfl g_9 dX8_clear_16 ?_
        have t_10 : zT sh (zR M (zR M k0 0) x1.toNatClampNeg) 7 := hw.2.2.2.arr t_8 _ 7 (zin_lt g_9)
        obtain ⟨M_12, hc_11, hd⟩ := zob_some hd
        refine z_cvV F hw hl.1 (As := []) (rest := []) (ztX7_clear l D cy sh ad t_10 hc_11) zyX7_clear t_10 zc7 zk8_36 ⟨rfl, rfl⟩ ⟨by decide, by decide⟩ rfl rfl (Nat.le_of_ble_eq_true rfl) dX8_clear_17 (fun H locs hw => ?_)
        refine lv_iinc (v := (x1 + (1 : Int32))) (lv' := [(1, .int (x1 + (1 : Int32))), (0, .ref (ad k0))]) hx hb dX8_clear_20 hl (k := 1) rfl (ziinc (by decide)) (by decide) rfl (fun ls hl => ?_)
        refine lv_goto (tgt := 2) hx hb dX8_clear_23 (by decide) ?_
        exact hk2 _ _ _ _ _ (lv_sub hl [1, 0] rfl) hw hd
  unfold zX8_clear at hd
  refine lv_iconst (v := (0 : Int32)) hx hb dX8_clear_0 (by decide) ?_
  refine lv_istore_n (lv' := [(1, .int (0 : Int32)), (0, .ref (ad k0))]) hx hb dX8_clear_1 rfl hl (by decide) rfl (fun ls hl => ?_)
  exact L2 zF _ _ _ _ _ (lv_sub hl [1, 0] rfl) hw hd

def zjX8_begin_47 (sh : zShp) (k0 : Nat) (k1 : Nat) (k2 : Nat)  (M : zMem) : Option (zMem) :=
  some M
def zX8_begin (sh : zShp) (k0 : Nat) (k1 : Nat) (k2 : Nat) (M : zMem) : Option (zMem) :=
  zob2 (zX4_plan sh (zR M k0 1) (zR M k0 0) k1 k2 M) fun r_4 M_5 =>
  if r_4 = 0 then (
  zjX8_begin_47 sh k0 k1 k2 M_5)
  else (
  zbd (zpI M_5 k0 8 (1 : Int32)) fun M_7 =>
  zbd (zpI M_7 k0 9 (0 : Int32)) fun M_8 =>
  zob (zX4_ticks sh (zR M_8 k0 1) M_8) fun r_11 =>
  zbd (zpI M_8 k0 10 r_11) fun M_12 =>
  zbd (zpI M_12 k0 11 (0 : Int32)) fun M_13 =>
  zbd (zpI M_13 k0 12 (0 : Int32)) fun M_14 =>
  zjX8_begin_47 sh k0 k1 k2 M_14)
set_option maxHeartbeats 4000000 in
set_option maxRecDepth 100000 in
theorem ztX8_begin (l : Launch) (D : va_G) (cy : Nat → ClassId) (sh : zShp) (ad : Nat → Nat) {k0 : Nat} {k1 : Nat} {k2 : Nat} (h0 : zT sh k0 8) (h1 : zT sh k1 14) (h2 : zT sh k2 1) {M : zMem} {M1 : zMem} (hd : zX8_begin sh k0 k1 k2 M = some M1) : zCV l yX8_begin cX8_begin 3 { frames := 4, cells := 0, slots := 0, locals := 100 } [.ref (ad k0), .ref (ad k1), .ref (ad k2)] D cy sh ad M M1 := by
  refine zcv_of (by decide) (Nat.le_of_ble_eq_true rfl) (fun p e s m below meth c ls F hr hlk hl hw => ?_)
  have hx := F.1.1
  have hb := F.1.2.1
  have hl : lv_has ls 3 [(0, .ref (ad k0)), (1, .ref (ad k1)), (2, .ref (ad k2))] := hl
  have J47 : ∀ (M : zMem) (H : Heap) (locs : List Loc) (ls : Array Slot), lv_has ls 3 [] → zWd D cy sh ad s M H locs → zjX8_begin_47 sh k0 k1 k2  M = some M1 → W p l e { frames := 4, cells := 0, slots := 0, locals := 100 } s m ([.ref (ad k0), .ref (ad k1), .ref (ad k2)] : List Value).toArray below meth c H locs 0 0 (zQV below D cy sh ad s [.ref (ad k0), .ref (ad k1), .ref (ad k2)] M1) (F0 m 47 ls []) := by
    intro  M H locs ls hl hw hd
    unfold zjX8_begin_47 at hd
    exact z_vret F hr hlk hw (Option.some.inj hd) dX8_begin_47
  unfold zX8_begin at hd
  refine lv_aload_n hx hb dX8_begin_0 rfl (lv_at hl 0 rfl) ?_
  refine z_gR F hw h0 zc8 1 (by decide) rfl zf8_20 dX8_begin_1 ?_
  have t_1 : zT sh (zR M k0 1) 4 := hw.2.2.2.fld h0 1 4
  refine lv_aload_n hx hb dX8_begin_4 rfl (lv_at hl 0 rfl) ?_
  refine z_gR F hw h0 zc8 0 (by decide) rfl zf8_11 dX8_begin_5 ?_
  have t_2 : zT sh (zR M k0 0) 18 := hw.2.2.2.fld h0 0 18
  refine lv_aload_n hx hb dX8_begin_8 rfl (lv_at hl 1 rfl) ?_
  refine lv_aload_n hx hb dX8_begin_9 rfl (lv_at hl 2 rfl) ?_
  obtain ⟨r_4, M_5, hc_3, hd⟩ := zob2_some hd
  refine z_cvI F hw hl.1 (As := [.ref (ad (zR M k0 0)), .ref (ad k1), .ref (ad k2)]) (rest := []) (ztX4_plan l D cy sh ad t_1 t_2 h1 h2 hc_3) zyX4_plan t_1 zc4 zk8_61 ⟨rfl, rfl⟩ ⟨by decide, by decide⟩ rfl rfl (Nat.le_of_ble_eq_true rfl) dX8_begin_10 (fun H locs hw => ?_)
  refine lv_if_eq (tgt := 47) hx hb dX8_begin_13 (by decide) (fun c_6 => ?_) (fun c_6 => ?_)
  · have hd := zif_pos c_6 hd
    exact J47 _ _ _ _ (lv_sub hl [] rfl) hw hd
  · have hd := zif_neg c_6 hd
    refine lv_aload_n hx hb dX8_begin_16 rfl (lv_at hl 0 rfl) ?_
    refine lv_iconst (v := (1 : Int32)) hx hb dX8_begin_17 (by decide) ?_
    refine z_pI F hw h0 zc8 8 (by decide) rfl zf8_48 rfl (by decide) rfl dX8_begin_18 (fun H locs M_7 eM_7 hw => ?_)
    have hd := zbd_eq eM_7 hd
    refine lv_aload_n hx hb dX8_begin_21 rfl (lv_at hl 0 rfl) ?_
    refine lv_iconst (v := (0 : Int32)) hx hb dX8_begin_22 (by decide) ?_
    refine z_pI F hw h0 zc8 9 (by decide) rfl zf8_52 rfl (by decide) rfl dX8_begin_23 (fun H locs M_8 eM_8 hw => ?_)
    have hd := zbd_eq eM_8 hd
    refine lv_aload_n hx hb dX8_begin_26 rfl (lv_at hl 0 rfl) ?_
    refine lv_aload_n hx hb dX8_begin_27 rfl (lv_at hl 0 rfl) ?_
    refine z_gR F hw h0 zc8 1 (by decide) rfl zf8_20 dX8_begin_28 ?_
    have t_9 : zT sh (zR M_8 k0 1) 4 := hw.2.2.2.fld h0 1 4
    obtain ⟨r_11, hc_10, hd⟩ := zob_some hd
    refine z_cvI F hw hl.1 (As := []) (rest := [.ref (ad k0)]) (ztX4_ticks l D cy sh ad t_9 hc_10) zyX4_ticks t_9 zc4 zk8_65 ⟨rfl, rfl⟩ ⟨by decide, by decide⟩ rfl rfl (Nat.le_of_ble_eq_true rfl) dX8_begin_31 (fun H locs hw => ?_)
    refine z_pI F hw h0 zc8 10 (by decide) rfl zf8_55 rfl rfl rfl dX8_begin_34 (fun H locs M_12 eM_12 hw => ?_)
    have hd := zbd_eq eM_12 hd
    refine lv_aload_n hx hb dX8_begin_37 rfl (lv_at hl 0 rfl) ?_
    refine lv_iconst (v := (0 : Int32)) hx hb dX8_begin_38 (by decide) ?_
    refine z_pI F hw h0 zc8 11 (by decide) rfl zf8_68 rfl rfl rfl dX8_begin_39 (fun H locs M_13 eM_13 hw => ?_)
    have hd := zbd_eq eM_13 hd
    refine lv_aload_n hx hb dX8_begin_42 rfl (lv_at hl 0 rfl) ?_
    refine lv_iconst (v := (0 : Int32)) hx hb dX8_begin_43 (by decide) ?_
    refine z_pI F hw h0 zc8 12 (by decide) rfl zf8_71 rfl rfl rfl dX8_begin_44 (fun H locs M_14 eM_14 hw => ?_)
    have hd := zbd_eq eM_14 hd
    exact J47 _ _ _ _ (lv_sub hl [] rfl) hw hd

def zX8_haltBy (sh : zShp) (k0 : Nat) (k1 : Nat) (M : zMem) : Option (zMem) :=
  if (zI M k1 1) = 0 then (
  zob (zX8_stop sh k0 M) fun M_10 =>
  some M_10)
  else (
  zob (zX5_copyFrom sh (zR M (zR M k0 1) 2) k1 M) fun M_5 =>
  zbd (zpI M_5 k0 9 (1 : Int32)) fun M_6 =>
  zbd (zpI M_6 k0 10 (zI M_6 k1 1)) fun M_7 =>
  zbd (zpI M_7 k0 4 (0 : Int32)) fun M_8 =>
  some M_8)
set_option maxHeartbeats 4000000 in
set_option maxRecDepth 100000 in
theorem ztX8_haltBy (l : Launch) (D : va_G) (cy : Nat → ClassId) (sh : zShp) (ad : Nat → Nat) {k0 : Nat} {k1 : Nat} (h0 : zT sh k0 8) (h1 : zT sh k1 5) {M : zMem} {M1 : zMem} (hd : zX8_haltBy sh k0 k1 M = some M1) : zCV l yX8_haltBy cX8_haltBy 2 { frames := 2, cells := 0, slots := 0, locals := 47 } [.ref (ad k0), .ref (ad k1)] D cy sh ad M M1 := by
  refine zcv_of (by decide) (Nat.le_of_ble_eq_true rfl) (fun p e s m below meth c ls F hr hlk hl hw => ?_)
  have hx := F.1.1
  have hb := F.1.2.1
  have hl : lv_has ls 2 [(0, .ref (ad k0)), (1, .ref (ad k1))] := hl
  unfold zX8_haltBy at hd
  refine lv_aload_n hx hb dX8_haltBy_0 rfl (lv_at hl 1 rfl) ?_
  refine z_gI F hw h1 zc5 1 (by decide) rfl zf8_74 dX8_haltBy_1 ?_
  refine lv_if_ne (tgt := 12) hx hb dX8_haltBy_4 (by decide) (fun c_1 => ?_) (fun c_1 => ?_)
  · have hd := zif_neg c_1 hd
    refine lv_aload_n hx hb dX8_haltBy_12 rfl (lv_at hl 0 rfl) ?_
    refine z_gR F hw h0 zc8 1 (by decide) rfl zf8_20 dX8_haltBy_13 ?_
    have t_2 : zT sh (zR M k0 1) 4 := hw.2.2.2.fld h0 1 4
    refine z_gR F hw t_2 zc4 2 (by decide) rfl zf8_77 dX8_haltBy_16 ?_
    have t_3 : zT sh (zR M (zR M k0 1) 2) 5 := hw.2.2.2.fld t_2 2 5
    refine lv_aload_n hx hb dX8_haltBy_19 rfl (lv_at hl 1 rfl) ?_
    obtain ⟨M_5, hc_4, hd⟩ := zob_some hd
    refine z_cvV F hw hl.1 (As := [.ref (ad k1)]) (rest := []) (ztX5_copyFrom l D cy sh ad t_3 h1 hc_4) zyX5_copyFrom t_3 zc5 zk8_81 ⟨rfl, rfl⟩ ⟨by decide, by decide⟩ rfl rfl (Nat.le_of_ble_eq_true rfl) dX8_haltBy_20 (fun H locs hw => ?_)
    refine lv_aload_n hx hb dX8_haltBy_23 rfl (lv_at hl 0 rfl) ?_
    refine lv_iconst (v := (1 : Int32)) hx hb dX8_haltBy_24 (by decide) ?_
    refine z_pI F hw h0 zc8 9 (by decide) rfl zf8_52 rfl (by decide) rfl dX8_haltBy_25 (fun H locs M_6 eM_6 hw => ?_)
    have hd := zbd_eq eM_6 hd
    refine lv_aload_n hx hb dX8_haltBy_28 rfl (lv_at hl 0 rfl) ?_
    refine lv_aload_n hx hb dX8_haltBy_29 rfl (lv_at hl 1 rfl) ?_
    refine z_gI F hw h1 zc5 1 (by decide) rfl zf8_74 dX8_haltBy_30 ?_
    refine z_pI F hw h0 zc8 10 (by decide) rfl zf8_55 rfl rfl rfl dX8_haltBy_33 (fun H locs M_7 eM_7 hw => ?_)
    have hd := zbd_eq eM_7 hd
    refine lv_aload_n hx hb dX8_haltBy_36 rfl (lv_at hl 0 rfl) ?_
    refine lv_iconst (v := (0 : Int32)) hx hb dX8_haltBy_37 (by decide) ?_
    refine z_pI F hw h0 zc8 4 (by decide) rfl zf8_58 rfl rfl rfl dX8_haltBy_38 (fun H locs M_8 eM_8 hw => ?_)
    have hd := zbd_eq eM_8 hd
    exact z_vret F hr hlk hw (Option.some.inj hd) dX8_haltBy_41
  · have hd := zif_pos c_1 hd
    refine lv_aload_n hx hb dX8_haltBy_7 rfl (lv_at hl 0 rfl) ?_
    obtain ⟨M_10, hc_9, hd⟩ := zob_some hd
    refine z_cvV F hw hl.1 (As := []) (rest := []) (ztX8_stop l D cy sh ad h0 hc_9) zyX8_stop h0 zc8 zk8_45 ⟨rfl, rfl⟩ ⟨by decide, by decide⟩ rfl rfl (Nat.le_of_ble_eq_true rfl) dX8_haltBy_8 (fun H locs hw => ?_)
    exact z_vret F hr hlk hw (Option.some.inj hd) dX8_haltBy_11

def zjX8_addWaiting_35 (sh : zShp) (k0 : Nat) (k1 : Nat)  (M : zMem) : Option (zMem) :=
  some M
def zX8_addWaiting (sh : zShp) (k0 : Nat) (k1 : Nat) (M : zMem) : Option (zMem) :=
  if (8 : Int32) ≤ (zI M k0 4) then (
  zjX8_addWaiting_35 sh k0 k1 M)
  else (
  zgd (zcpok (0 : Int32) ((zI M k0 4) * (3 : Int32)) (3 : Int32) (zlen sh k1) (zlen sh (zR M k0 2))) <|
  zbd (zpC M k1 (0 : Int32).toNatClampNeg (zR M k0 2) ((zI M k0 4) * (3 : Int32)).toNatClampNeg (3 : Int32).toNatClampNeg) fun M_4 =>
  zbd (zpI M_4 k0 4 ((zI M_4 k0 4) + (1 : Int32))) fun M_5 =>
  zjX8_addWaiting_35 sh k0 k1 M_5)
set_option maxHeartbeats 4000000 in
set_option maxRecDepth 100000 in
theorem ztX8_addWaiting (l : Launch) (D : va_G) (cy : Nat → ClassId) (sh : zShp) (ad : Nat → Nat) {k0 : Nat} {k1 : Nat} (h0 : zT sh k0 8) (h1 : zT sh k1 14) {M : zMem} {M1 : zMem} (hd : zX8_addWaiting sh k0 k1 M = some M1) : zCV l yX8_addWaiting cX8_addWaiting 2 { frames := 1, cells := 0, slots := 0, locals := 26 } [.ref (ad k0), .ref (ad k1)] D cy sh ad M M1 := by
  refine zcv_of (by decide) (Nat.le_of_ble_eq_true rfl) (fun p e s m below meth c ls F hr hlk hl hw => ?_)
  have hx := F.1.1
  have hb := F.1.2.1
  have hl : lv_has ls 2 [(0, .ref (ad k0)), (1, .ref (ad k1))] := hl
  have J35 : ∀ (M : zMem) (H : Heap) (locs : List Loc) (ls : Array Slot), lv_has ls 2 [] → zWd D cy sh ad s M H locs → zjX8_addWaiting_35 sh k0 k1  M = some M1 → W p l e { frames := 1, cells := 0, slots := 0, locals := 26 } s m ([.ref (ad k0), .ref (ad k1)] : List Value).toArray below meth c H locs 0 0 (zQV below D cy sh ad s [.ref (ad k0), .ref (ad k1)] M1) (F0 m 35 ls []) := by
    intro  M H locs ls hl hw hd
    unfold zjX8_addWaiting_35 at hd
    exact z_vret F hr hlk hw (Option.some.inj hd) dX8_addWaiting_35
  unfold zX8_addWaiting at hd
  refine lv_aload_n hx hb dX8_addWaiting_0 rfl (lv_at hl 0 rfl) ?_
  refine z_gI F hw h0 zc8 4 (by decide) rfl zf8_58 dX8_addWaiting_1 ?_
  refine lv_bipush (v := (8 : Int32)) hx hb dX8_addWaiting_4 (by decide) ?_
  refine lv_icmp_ge (tgt := 35) hx hb dX8_addWaiting_6 (by decide) (fun c_1 => ?_) (fun c_1 => ?_)
  · have hd := zif_pos c_1 hd
    exact J35 _ _ _ _ (lv_sub hl [] rfl) hw hd
  · have hd := zif_neg c_1 hd
    refine lv_aload_n hx hb dX8_addWaiting_9 rfl (lv_at hl 1 rfl) ?_
    refine lv_iconst (v := (0 : Int32)) hx hb dX8_addWaiting_10 (by decide) ?_
    refine lv_aload_n hx hb dX8_addWaiting_11 rfl (lv_at hl 0 rfl) ?_
    refine z_gR F hw h0 zc8 2 (by decide) rfl zf8_24 dX8_addWaiting_12 ?_
    have t_2 : zT sh (zR M k0 2) 14 := hw.2.2.2.fld h0 2 14
    refine lv_aload_n hx hb dX8_addWaiting_15 rfl (lv_at hl 0 rfl) ?_
    refine z_gI F hw h0 zc8 4 (by decide) rfl zf8_58 dX8_addWaiting_16 ?_
    refine lv_iconst (v := (3 : Int32)) hx hb dX8_addWaiting_19 (by decide) ?_
    refine lv_imul hx hb dX8_addWaiting_20 ?_
    refine lv_iconst (v := (3 : Int32)) hx hb dX8_addWaiting_21 (by decide) ?_
    obtain ⟨g_3, hd⟩ := zgd_some hd
    refine z_copy F hw hl.1 h1 t_2 zk8_85 zac1 zac2 zac3 g_3 (by decide) (Nat.le_of_ble_eq_true rfl) dX8_addWaiting_22 (fun H locs M_4 eM_4 hw => ?_)
    have hd := zbd_eq eM_4 hd
    refine lv_aload_n hx hb dX8_addWaiting_25 rfl (lv_at hl 0 rfl) ?_
    refine lv_dup hx hb dX8_addWaiting_26 rfl ?_
    refine z_gI F hw h0 zc8 4 (by decide) rfl zf8_58 dX8_addWaiting_27 ?_
    refine lv_iconst (v := (1 : Int32)) hx hb dX8_addWaiting_30 (by decide) ?_
    refine lv_iadd hx hb dX8_addWaiting_31 ?_
    refine z_pI F hw h0 zc8 4 (by decide) rfl zf8_58 rfl rfl rfl dX8_addWaiting_32 (fun H locs M_5 eM_5 hw => ?_)
    have hd := zbd_eq eM_5 hd
    exact J35 _ _ _ _ (lv_sub hl [] rfl) hw hd

def zjX8_takeWaiting_51 (sh : zShp) (k0 : Nat)  (M : zMem) : Option (zMem) :=
  some M
def zX8_takeWaiting (sh : zShp) (k0 : Nat) (M : zMem) : Option (zMem) :=
  if (zI M k0 4) ≤ 0 then (
  zjX8_takeWaiting_51 sh k0 M)
  else (
  zgd (zcpok (0 : Int32) (0 : Int32) (3 : Int32) (zlen sh (zR M k0 2)) (zlen sh (zR M k0 3))) <|
  zbd (zpC M (zR M k0 2) (0 : Int32).toNatClampNeg (zR M k0 3) (0 : Int32).toNatClampNeg (3 : Int32).toNatClampNeg) fun M_5 =>
  zgd (zcpok (3 : Int32) (0 : Int32) ((Int32.ofNat (zlen sh (zR M_5 k0 2))) - (3 : Int32)) (zlen sh (zR M_5 k0 2)) (zlen sh (zR M_5 k0 2))) <|
  zbd (zpC M_5 (zR M_5 k0 2) (3 : Int32).toNatClampNeg (zR M_5 k0 2) (0 : Int32).toNatClampNeg ((Int32.ofNat (zlen sh (zR M_5 k0 2))) - (3 : Int32)).toNatClampNeg) fun M_10 =>
  zbd (zpI M_10 k0 4 ((zI M_10 k0 4) - (1 : Int32))) fun M_11 =>
  zjX8_takeWaiting_51 sh k0 M_11)
set_option maxHeartbeats 4000000 in
set_option maxRecDepth 100000 in
theorem ztX8_takeWaiting (l : Launch) (D : va_G) (cy : Nat → ClassId) (sh : zShp) (ad : Nat → Nat) {k0 : Nat} (h0 : zT sh k0 8) {M : zMem} {M1 : zMem} (hd : zX8_takeWaiting sh k0 M = some M1) : zCV l yX8_takeWaiting cX8_takeWaiting 1 { frames := 1, cells := 0, slots := 0, locals := 26 } [.ref (ad k0)] D cy sh ad M M1 := by
  refine zcv_of (by decide) (Nat.le_of_ble_eq_true rfl) (fun p e s m below meth c ls F hr hlk hl hw => ?_)
  have hx := F.1.1
  have hb := F.1.2.1
  have hl : lv_has ls 1 [(0, .ref (ad k0))] := hl
  have J51 : ∀ (M : zMem) (H : Heap) (locs : List Loc) (ls : Array Slot), lv_has ls 1 [] → zWd D cy sh ad s M H locs → zjX8_takeWaiting_51 sh k0  M = some M1 → W p l e { frames := 1, cells := 0, slots := 0, locals := 26 } s m ([.ref (ad k0)] : List Value).toArray below meth c H locs 0 0 (zQV below D cy sh ad s [.ref (ad k0)] M1) (F0 m 51 ls []) := by
    intro  M H locs ls hl hw hd
    unfold zjX8_takeWaiting_51 at hd
    exact z_vret F hr hlk hw (Option.some.inj hd) dX8_takeWaiting_51
  unfold zX8_takeWaiting at hd
  refine lv_aload_n hx hb dX8_takeWaiting_0 rfl (lv_at hl 0 rfl) ?_
  refine z_gI F hw h0 zc8 4 (by decide) rfl zf8_58 dX8_takeWaiting_1 ?_
  refine lv_if_le (tgt := 51) hx hb dX8_takeWaiting_4 (by decide) (fun c_1 => ?_) (fun c_1 => ?_)
  · have hd := zif_pos c_1 hd
    exact J51 _ _ _ _ (lv_sub hl [] rfl) hw hd
  · have hd := zif_neg c_1 hd
    refine lv_aload_n hx hb dX8_takeWaiting_7 rfl (lv_at hl 0 rfl) ?_
    refine z_gR F hw h0 zc8 2 (by decide) rfl zf8_24 dX8_takeWaiting_8 ?_
    have t_2 : zT sh (zR M k0 2) 14 := hw.2.2.2.fld h0 2 14
    refine lv_iconst (v := (0 : Int32)) hx hb dX8_takeWaiting_11 (by decide) ?_
    refine lv_aload_n hx hb dX8_takeWaiting_12 rfl (lv_at hl 0 rfl) ?_
    refine z_gR F hw h0 zc8 3 (by decide) rfl zf8_28 dX8_takeWaiting_13 ?_
    have t_3 : zT sh (zR M k0 3) 14 := hw.2.2.2.fld h0 3 14
    refine lv_iconst (v := (0 : Int32)) hx hb dX8_takeWaiting_16 (by decide) ?_
    refine lv_iconst (v := (3 : Int32)) hx hb dX8_takeWaiting_17 (by decide) ?_
    obtain ⟨g_4, hd⟩ := zgd_some hd
    refine z_copy F hw hl.1 t_2 t_3 zk8_85 zac1 zac2 zac3 g_4 (by decide) (Nat.le_of_ble_eq_true rfl) dX8_takeWaiting_18 (fun H locs M_5 eM_5 hw => ?_)
    have hd := zbd_eq eM_5 hd
    refine lv_aload_n hx hb dX8_takeWaiting_21 rfl (lv_at hl 0 rfl) ?_
    refine z_gR F hw h0 zc8 2 (by decide) rfl zf8_24 dX8_takeWaiting_22 ?_
    have t_6 : zT sh (zR M_5 k0 2) 14 := hw.2.2.2.fld h0 2 14
    refine lv_iconst (v := (3 : Int32)) hx hb dX8_takeWaiting_25 (by decide) ?_
    refine lv_aload_n hx hb dX8_takeWaiting_26 rfl (lv_at hl 0 rfl) ?_
    refine z_gR F hw h0 zc8 2 (by decide) rfl zf8_24 dX8_takeWaiting_27 ?_
    have t_7 : zT sh (zR M_5 k0 2) 14 := hw.2.2.2.fld h0 2 14
    refine lv_iconst (v := (0 : Int32)) hx hb dX8_takeWaiting_30 (by decide) ?_
    refine lv_aload_n hx hb dX8_takeWaiting_31 rfl (lv_at hl 0 rfl) ?_
    refine z_gR F hw h0 zc8 2 (by decide) rfl zf8_24 dX8_takeWaiting_32 ?_
    have t_8 : zT sh (zR M_5 k0 2) 14 := hw.2.2.2.fld h0 2 14
    refine z_alen F hw t_8 (by decide) (t0 := 1) rfl dX8_takeWaiting_35 ?_
    refine lv_iconst (v := (3 : Int32)) hx hb dX8_takeWaiting_36 (by decide) ?_
    refine lv_isub hx hb dX8_takeWaiting_37 ?_
    obtain ⟨g_9, hd⟩ := zgd_some hd
    refine z_copy F hw hl.1 t_6 t_7 zk8_85 zac1 zac2 zac3 g_9 (by decide) (Nat.le_of_ble_eq_true rfl) dX8_takeWaiting_38 (fun H locs M_10 eM_10 hw => ?_)
    have hd := zbd_eq eM_10 hd
    refine lv_aload_n hx hb dX8_takeWaiting_41 rfl (lv_at hl 0 rfl) ?_
    refine lv_dup hx hb dX8_takeWaiting_42 rfl ?_
    refine z_gI F hw h0 zc8 4 (by decide) rfl zf8_58 dX8_takeWaiting_43 ?_
    refine lv_iconst (v := (1 : Int32)) hx hb dX8_takeWaiting_46 (by decide) ?_
    refine lv_isub hx hb dX8_takeWaiting_47 ?_
    refine z_pI F hw h0 zc8 4 (by decide) rfl zf8_58 rfl rfl rfl dX8_takeWaiting_48 (fun H locs M_11 eM_11 hw => ?_)
    have hd := zbd_eq eM_11 hd
    exact J51 _ _ _ _ (lv_sub hl [] rfl) hw hd

def zjX8_advance_128 (sh : zShp) (k0 : Nat)  (M : zMem) : Option (zMem) :=
  some M
def zbX8_advance_79 (sh : zShp) (k0 : Nat)  (kk79 : Int32 → zMem → Option (zMem)) (x1 : Int32) (M : zMem) : Option (zMem) :=
  if (3 : Int32) ≤ x1 then (
  if 0 < (zI M k0 10) then (
  zjX8_advance_128 sh k0 M)
  else (
  zbd (zpI M k0 8 (0 : Int32)) fun M_3 =>
  zbd (zpI M_3 k0 9 (0 : Int32)) fun M_4 =>
  zjX8_advance_128 sh k0 M_4))
  else (
  zgd (zin x1 (zlen sh (zR M k0 0))) <|
  zob (zX4_placeOf sh (zR M k0 1) x1 (zI M k0 11) M) fun r_10 =>
  zbd (zpI M (zR M (zR M k0 0) x1.toNatClampNeg) 0 r_10) fun M_11 =>
  kk79 (x1 + (1 : Int32)) M_11)
def zlX8_advance_79 (sh : zShp) (k0 : Nat)  : Nat → Int32 → zMem → Option (zMem)
  | 0 => fun _ _ => none
  | n + 1 => fun x1 M => zbX8_advance_79 sh k0  (zlX8_advance_79 sh k0  n) x1 M
def zjX8_advance_51 (sh : zShp) (k0 : Nat)  (s0 : Nat) (s1 : Int32) (M : zMem) : Option (zMem) :=
  zbd (zpI M s0 12 s1) fun M_12 =>
  zbd (zpI M_12 k0 11 ((zI M_12 k0 11) + (zI M_12 k0 12))) fun M_13 =>
  zbd (zpI M_13 k0 10 ((zI M_13 k0 10) - (1 : Int32))) fun M_14 =>
  zlX8_advance_79 sh k0 zF (0 : Int32) M_14
def zX8_advance (sh : zShp) (k0 : Nat) (M : zMem) : Option (zMem) :=
  if (zI M k0 9) = 0 then (
  zob (zX4_ticks sh (zR M k0 1) M) fun r_19 =>
  zob (zX4_goneBehind sh (zR M k0 1) ((r_19 - (zI M k0 10)) + (1 : Int32)) M) fun r_21 =>
  zjX8_advance_51 sh k0 k0 (r_21 - (zI M k0 11)) M)
  else (
  zob (zX5_speedIn sh (zR M (zR M k0 1) 2) (zI M k0 10) M) fun r_25 =>
  zjX8_advance_51 sh k0 k0 r_25 M)
set_option maxHeartbeats 4000000 in
set_option maxRecDepth 100000 in
theorem ztX8_advance (l : Launch) (D : va_G) (cy : Nat → ClassId) (sh : zShp) (ad : Nat → Nat) {k0 : Nat} (h0 : zT sh k0 8) {M : zMem} {M1 : zMem} (hd : zX8_advance sh k0 M = some M1) : zCV l yX8_advance cX8_advance 2 { frames := 3, cells := 0, slots := 0, locals := 65 } [.ref (ad k0)] D cy sh ad M M1 := by
  refine zcv_of (by decide) (Nat.le_of_ble_eq_true rfl) (fun p e s m below meth c ls F hr hlk hl hw => ?_)
  have hx := F.1.1
  have hb := F.1.2.1
  have hl : lv_has ls 2 [(0, .ref (ad k0))] := hl
  have J128 : ∀ (M : zMem) (H : Heap) (locs : List Loc) (ls : Array Slot), lv_has ls 2 [] → zWd D cy sh ad s M H locs → zjX8_advance_128 sh k0  M = some M1 → W p l e { frames := 3, cells := 0, slots := 0, locals := 65 } s m ([.ref (ad k0)] : List Value).toArray below meth c H locs 0 0 (zQV below D cy sh ad s [.ref (ad k0)] M1) (F0 m 128 ls []) := by
    intro  M H locs ls hl hw hd
    unfold zjX8_advance_128 at hd
    exact z_vret F hr hlk hw (Option.some.inj hd) dX8_advance_128
  have L79 : ∀  (n : Nat), ∀ (x1 : Int32) (M : zMem) (H : Heap) (locs : List Loc) (ls : Array Slot), lv_has ls 2 [(0, .ref (ad k0)), (1, .int x1)] → zWd D cy sh ad s M H locs → zlX8_advance_79 sh k0  n x1 M = some M1 → W p l e { frames := 3, cells := 0, slots := 0, locals := 65 } s m ([.ref (ad k0)] : List Value).toArray below meth c H locs 0 0 (zQV below D cy sh ad s [.ref (ad k0)] M1) (F0 m 79 ls []) := by
    intro  n
    induction n with
    | zero => intro x1 M H locs ls hl hw hd; exact (znone hd).elim
    | succ n hk79 =>
      intro x1 M H locs ls hl hw hd
      have hd : zbX8_advance_79 sh k0  (zlX8_advance_79 sh k0  n) x1 M = some M1 := hd
      unfold zbX8_advance_79 at hd
      refine lv_iload_n hx hb dX8_advance_79 rfl (lv_at hl 1 rfl) ?_
      refine lv_iconst (v := (3 : Int32)) hx hb dX8_advance_80 (by decide) ?_
      refine lv_icmp_ge (tgt := 111) hx hb dX8_advance_81 (by decide) (fun c_1 => ?_) (fun c_1 => ?_)
      · have hd := zif_pos c_1 hd
        refine lv_aload_n hx hb dX8_advance_111 rfl (lv_at hl 0 rfl) ?_
        refine z_gI F hw h0 zc8 10 (by decide) rfl zf8_55 dX8_advance_112 ?_
        refine lv_if_gt (tgt := 128) hx hb dX8_advance_115 (by decide) (fun c_2 => ?_) (fun c_2 => ?_)
        · have hd := zif_pos c_2 hd
          exact J128 _ _ _ _ (lv_sub hl [] rfl) hw hd
        · have hd := zif_neg c_2 hd
          refine lv_aload_n hx hb dX8_advance_118 rfl (lv_at hl 0 rfl) ?_
          refine lv_iconst (v := (0 : Int32)) hx hb dX8_advance_119 (by decide) ?_
          refine z_pI F hw h0 zc8 8 (by decide) rfl zf8_48 rfl (by decide) rfl dX8_advance_120 (fun H locs M_3 eM_3 hw => ?_)
          have hd := zbd_eq eM_3 hd
          refine lv_aload_n hx hb dX8_advance_123 rfl (lv_at hl 0 rfl) ?_
          refine lv_iconst (v := (0 : Int32)) hx hb dX8_advance_124 (by decide) ?_
          refine z_pI F hw h0 zc8 9 (by decide) rfl zf8_52 rfl (by decide) rfl dX8_advance_125 (fun H locs M_4 eM_4 hw => ?_)
          have hd := zbd_eq eM_4 hd
          exact J128 _ _ _ _ (lv_sub hl [] rfl) hw hd
      · have hd := zif_neg c_1 hd
        refine lv_aload_n hx hb dX8_advance_84 rfl (lv_at hl 0 rfl) ?_
        refine z_gR F hw h0 zc8 0 (by decide) rfl zf8_11 dX8_advance_85 ?_
        have t_5 : zT sh (zR M k0 0) 18 := hw.2.2.2.fld h0 0 18
        refine lv_iload_n hx hb dX8_advance_88 rfl (lv_at hl 1 rfl) ?_
        obtain ⟨g_6, hd⟩ := zgd_some hd
        refine z_aald F hw t_5 (by decide) 5 rfl g_6 dX8_advance_89 ?_
        have t_7 : zT sh (zR M (zR M k0 0) x1.toNatClampNeg) 7 := hw.2.2.2.arr t_5 _ 7 (zin_lt g_6)
        refine lv_aload_n hx hb dX8_advance_90 rfl (lv_at hl 0 rfl) ?_
        refine z_gR F hw h0 zc8 1 (by decide) rfl zf8_20 dX8_advance_91 ?_
        have t_8 : zT sh (zR M k0 1) 4 := hw.2.2.2.fld h0 1 4
        refine lv_iload_n hx hb dX8_advance_94 rfl (lv_at hl 1 rfl) ?_
        refine lv_aload_n hx hb dX8_advance_95 rfl (lv_at hl 0 rfl) ?_
        refine z_gI F hw h0 zc8 11 (by decide) rfl zf8_68 dX8_advance_96 ?_
        obtain ⟨r_10, hc_9, hd⟩ := zob_some hd
        refine z_cvI F hw hl.1 (As := [.int x1, .int (zI M k0 11)]) (rest := [.ref (ad (zR M (zR M k0 0) x1.toNatClampNeg))]) (ztX4_placeOf l D cy sh ad t_8 hc_9) zyX4_placeOf t_8 zc4 zk8_136 ⟨rfl, rfl⟩ ⟨by decide, by decide⟩ rfl rfl (Nat.le_of_ble_eq_true rfl) dX8_advance_99 (fun H locs hw => ?_)
        refine z_pI F hw t_7 zc7 0 (by decide) rfl zf8_140 rfl rfl rfl dX8_advance_102 (fun H locs M_11 eM_11 hw => ?_)
        have hd := zbd_eq eM_11 hd
        refine lv_iinc (v := (x1 + (1 : Int32))) (lv' := [(1, .int (x1 + (1 : Int32))), (0, .ref (ad k0))]) hx hb dX8_advance_105 hl (k := 1) rfl (ziinc (by decide)) (by decide) rfl (fun ls hl => ?_)
        refine lv_goto (tgt := 79) hx hb dX8_advance_108 (by decide) ?_
        exact hk79 _ _ _ _ _ (lv_sub hl [1, 0] rfl) hw hd
  have J51 : ∀ (s0 : Nat) (s1 : Int32) (ts0 : zT sh s0 8) (M : zMem) (H : Heap) (locs : List Loc) (ls : Array Slot), lv_has ls 2 [(0, .ref (ad k0))] → zWd D cy sh ad s M H locs → zjX8_advance_51 sh k0  s0 s1 M = some M1 → W p l e { frames := 3, cells := 0, slots := 0, locals := 65 } s m ([.ref (ad k0)] : List Value).toArray below meth c H locs 0 0 (zQV below D cy sh ad s [.ref (ad k0)] M1) (F0 m 51 ls [.int s1, .ref (ad s0)]) := by
    intro  s0 s1 ts0 M H locs ls hl hw hd
    unfold zjX8_advance_51 at hd
    refine z_pI F hw ts0 zc8 12 (by decide) rfl zf8_71 rfl rfl rfl dX8_advance_51 (fun H locs M_12 eM_12 hw => ?_)
    have hd := zbd_eq eM_12 hd
    refine lv_aload_n hx hb dX8_advance_54 rfl (lv_at hl 0 rfl) ?_
    refine lv_dup hx hb dX8_advance_55 rfl ?_
    refine z_gI F hw h0 zc8 11 (by decide) rfl zf8_68 dX8_advance_56 ?_
    refine lv_aload_n hx hb dX8_advance_59 rfl (lv_at hl 0 rfl) ?_
    refine z_gI F hw h0 zc8 12 (by decide) rfl zf8_71 dX8_advance_60 ?_
    refine lv_iadd hx hb dX8_advance_63 ?_
    refine z_pI F hw h0 zc8 11 (by decide) rfl zf8_68 rfl rfl rfl dX8_advance_64 (fun H locs M_13 eM_13 hw => ?_)
    have hd := zbd_eq eM_13 hd
    refine lv_aload_n hx hb dX8_advance_67 rfl (lv_at hl 0 rfl) ?_
    refine lv_dup hx hb dX8_advance_68 rfl ?_
    refine z_gI F hw h0 zc8 10 (by decide) rfl zf8_55 dX8_advance_69 ?_
    refine lv_iconst (v := (1 : Int32)) hx hb dX8_advance_72 (by decide) ?_
    refine lv_isub hx hb dX8_advance_73 ?_
    refine z_pI F hw h0 zc8 10 (by decide) rfl zf8_55 rfl rfl rfl dX8_advance_74 (fun H locs M_14 eM_14 hw => ?_)
    have hd := zbd_eq eM_14 hd
    refine lv_iconst (v := (0 : Int32)) hx hb dX8_advance_77 (by decide) ?_
    refine lv_istore_n (lv' := [(1, .int (0 : Int32)), (0, .ref (ad k0))]) hx hb dX8_advance_78 rfl hl (by decide) rfl (fun ls hl => ?_)
    exact L79 zF _ _ _ _ _ (lv_sub hl [1, 0] rfl) hw hd
  unfold zX8_advance at hd
  refine lv_aload_n hx hb dX8_advance_0 rfl (lv_at hl 0 rfl) ?_
  refine lv_aload_n hx hb dX8_advance_1 rfl (lv_at hl 0 rfl) ?_
  refine z_gI F hw h0 zc8 9 (by decide) rfl zf8_52 dX8_advance_2 ?_
  refine lv_if_eq (tgt := 25) hx hb dX8_advance_5 (by decide) (fun c_15 => ?_) (fun c_15 => ?_)
  · have hd := zif_pos c_15 hd
    refine lv_aload_n hx hb dX8_advance_25 rfl (lv_at hl 0 rfl) ?_
    refine z_gR F hw h0 zc8 1 (by decide) rfl zf8_20 dX8_advance_26 ?_
    have t_16 : zT sh (zR M k0 1) 4 := hw.2.2.2.fld h0 1 4
    refine lv_aload_n hx hb dX8_advance_29 rfl (lv_at hl 0 rfl) ?_
    refine z_gR F hw h0 zc8 1 (by decide) rfl zf8_20 dX8_advance_30 ?_
    have t_17 : zT sh (zR M k0 1) 4 := hw.2.2.2.fld h0 1 4
    obtain ⟨r_19, hc_18, hd⟩ := zob_some hd
    refine z_cvI F hw hl.1 (As := []) (rest := [.ref (ad (zR M k0 1)), .ref (ad k0)]) (ztX4_ticks l D cy sh ad t_17 hc_18) zyX4_ticks t_17 zc4 zk8_65 ⟨rfl, rfl⟩ ⟨by decide, by decide⟩ rfl rfl (Nat.le_of_ble_eq_true rfl) dX8_advance_33 (fun H locs hw => ?_)
    refine lv_aload_n hx hb dX8_advance_36 rfl (lv_at hl 0 rfl) ?_
    refine z_gI F hw h0 zc8 10 (by decide) rfl zf8_55 dX8_advance_37 ?_
    refine lv_isub hx hb dX8_advance_40 ?_
    refine lv_iconst (v := (1 : Int32)) hx hb dX8_advance_41 (by decide) ?_
    refine lv_iadd hx hb dX8_advance_42 ?_
    obtain ⟨r_21, hc_20, hd⟩ := zob_some hd
    refine z_cvI F hw hl.1 (As := [.int ((r_19 - (zI M k0 10)) + (1 : Int32))]) (rest := [.ref (ad k0)]) (ztX4_goneBehind l D cy sh ad t_16 hc_20) zyX4_goneBehind t_16 zc4 zk8_133 ⟨rfl, rfl⟩ ⟨by decide, by decide⟩ rfl rfl (Nat.le_of_ble_eq_true rfl) dX8_advance_43 (fun H locs hw => ?_)
    refine lv_aload_n hx hb dX8_advance_46 rfl (lv_at hl 0 rfl) ?_
    refine z_gI F hw h0 zc8 11 (by decide) rfl zf8_68 dX8_advance_47 ?_
    refine lv_isub hx hb dX8_advance_50 ?_
    exact J51 _ _ h0 _ _ _ _ (lv_sub hl [0] rfl) hw hd
  · have hd := zif_neg c_15 hd
    refine lv_aload_n hx hb dX8_advance_8 rfl (lv_at hl 0 rfl) ?_
    refine z_gR F hw h0 zc8 1 (by decide) rfl zf8_20 dX8_advance_9 ?_
    have t_22 : zT sh (zR M k0 1) 4 := hw.2.2.2.fld h0 1 4
    refine z_gR F hw t_22 zc4 2 (by decide) rfl zf8_77 dX8_advance_12 ?_
    have t_23 : zT sh (zR M (zR M k0 1) 2) 5 := hw.2.2.2.fld t_22 2 5
    refine lv_aload_n hx hb dX8_advance_15 rfl (lv_at hl 0 rfl) ?_
    refine z_gI F hw h0 zc8 10 (by decide) rfl zf8_55 dX8_advance_16 ?_
    obtain ⟨r_25, hc_24, hd⟩ := zob_some hd
    refine z_cvI F hw hl.1 (As := [.int (zI M k0 10)]) (rest := [.ref (ad k0)]) (ztX5_speedIn l D cy sh ad t_23 hc_24) zyX5_speedIn t_23 zc5 zk8_129 ⟨rfl, rfl⟩ ⟨by decide, by decide⟩ rfl rfl (Nat.le_of_ble_eq_true rfl) dX8_advance_19 (fun H locs hw => ?_)
    refine lv_goto (tgt := 51) hx hb dX8_advance_22 (by decide) ?_
    exact J51 _ _ h0 _ _ _ _ (lv_sub hl [0] rfl) hw hd

def zjX8_tripIfOver_58 (sh : zShp) (k0 : Nat) (p1 : Int32) (kk2 : Int32 → zMem → Option (zMem)) (x2 : Int32) (M : zMem) : Option (zMem) :=
  kk2 (x2 + (1 : Int32)) M
def zbX8_tripIfOver_2 (sh : zShp) (k0 : Nat) (p1 : Int32)  (kk2 : Int32 → zMem → Option (zMem)) (x2 : Int32) (M : zMem) : Option (zMem) :=
  if p1 ≤ x2 then (
  some M)
  else (
  zgd (zin x2 (zlen sh (zR M k0 0))) <|
  if (zI M (zR M (zR M k0 0) x2.toNatClampNeg) 4) ≤ 0 then (
  zjX8_tripIfOver_58 sh k0 p1 kk2 x2 M)
  else (
  zgd (zin x2 (zlen sh (zR M k0 0))) <|
  zgd (zin x2 (zlen sh (zR M k0 0))) <|
  zob (zX7_isOffBy sh (zR M (zR M k0 0) x2.toNatClampNeg) (zI M (zR M (zR M k0 0) x2.toNatClampNeg) 4) M) fun r_13 =>
  if r_13 = 0 then (
  zjX8_tripIfOver_58 sh k0 p1 kk2 x2 M)
  else (
  zbd (zpI M k0 6 (zI M k0 5)) fun M_15 =>
  zbd (zpI M_15 k0 7 x2) fun M_16 =>
  zob (zX8_stop sh k0 M_16) fun M_18 =>
  some M_18)))
def zlX8_tripIfOver_2 (sh : zShp) (k0 : Nat) (p1 : Int32)  : Nat → Int32 → zMem → Option (zMem)
  | 0 => fun _ _ => none
  | n + 1 => fun x2 M => zbX8_tripIfOver_2 sh k0 p1  (zlX8_tripIfOver_2 sh k0 p1  n) x2 M
def zX8_tripIfOver (sh : zShp) (k0 : Nat) (p1 : Int32) (M : zMem) : Option (zMem) :=
  zlX8_tripIfOver_2 sh k0 p1 zF (0 : Int32) M
set_option maxHeartbeats 4000000 in
set_option maxRecDepth 100000 in
theorem ztX8_tripIfOver (l : Launch) (D : va_G) (cy : Nat → ClassId) (sh : zShp) (ad : Nat → Nat) {k0 : Nat} {p1 : Int32} (h0 : zT sh k0 8) {M : zMem} {M1 : zMem} (hd : zX8_tripIfOver sh k0 p1 M = some M1) : zCV l yX8_tripIfOver cX8_tripIfOver 3 { frames := 2, cells := 0, slots := 0, locals := 42 } [.ref (ad k0), .int p1] D cy sh ad M M1 := by
  refine zcv_of (by decide) (Nat.le_of_ble_eq_true rfl) (fun p e s m below meth c ls F hr hlk hl hw => ?_)
  have hx := F.1.1
  have hb := F.1.2.1
  have hl : lv_has ls 3 [(0, .ref (ad k0)), (1, .int p1)] := hl
  have J58 : ∀ (kk2 : Int32 → zMem → Option (zMem)) (hk2 : ∀ (x2 : Int32) (M : zMem) (H : Heap) (locs : List Loc) (ls : Array Slot), lv_has ls 3 [(0, .ref (ad k0)), (1, .int p1), (2, .int x2)] → zWd D cy sh ad s M H locs → kk2 x2 M = some M1 → W p l e { frames := 2, cells := 0, slots := 0, locals := 42 } s m ([.ref (ad k0), .int p1] : List Value).toArray below meth c H locs 0 0 (zQV below D cy sh ad s [.ref (ad k0), .int p1] M1) (F0 m 2 ls [])), ∀ (x2 : Int32) (M : zMem) (H : Heap) (locs : List Loc) (ls : Array Slot), lv_has ls 3 [(0, .ref (ad k0)), (1, .int p1), (2, .int x2)] → zWd D cy sh ad s M H locs → zjX8_tripIfOver_58 sh k0 p1 kk2 x2 M = some M1 → W p l e { frames := 2, cells := 0, slots := 0, locals := 42 } s m ([.ref (ad k0), .int p1] : List Value).toArray below meth c H locs 0 0 (zQV below D cy sh ad s [.ref (ad k0), .int p1] M1) (F0 m 58 ls []) := by
    intro kk2 hk2 x2 M H locs ls hl hw hd
    unfold zjX8_tripIfOver_58 at hd
    refine lv_iinc (v := (x2 + (1 : Int32))) (lv' := [(2, .int (x2 + (1 : Int32))), (0, .ref (ad k0)), (1, .int p1)]) hx hb dX8_tripIfOver_58 hl (k := 2) rfl (ziinc (by decide)) (by decide) rfl (fun ls hl => ?_)
    refine lv_goto (tgt := 2) hx hb dX8_tripIfOver_61 (by decide) ?_
    exact hk2 _ _ _ _ _ (lv_sub hl [1, 2, 0] rfl) hw hd
  have L2 : ∀  (n : Nat), ∀ (x2 : Int32) (M : zMem) (H : Heap) (locs : List Loc) (ls : Array Slot), lv_has ls 3 [(0, .ref (ad k0)), (1, .int p1), (2, .int x2)] → zWd D cy sh ad s M H locs → zlX8_tripIfOver_2 sh k0 p1  n x2 M = some M1 → W p l e { frames := 2, cells := 0, slots := 0, locals := 42 } s m ([.ref (ad k0), .int p1] : List Value).toArray below meth c H locs 0 0 (zQV below D cy sh ad s [.ref (ad k0), .int p1] M1) (F0 m 2 ls []) := by
    intro  n
    induction n with
    | zero => intro x2 M H locs ls hl hw hd; exact (znone hd).elim
    | succ n hk2 =>
      intro x2 M H locs ls hl hw hd
      have hd : zbX8_tripIfOver_2 sh k0 p1  (zlX8_tripIfOver_2 sh k0 p1  n) x2 M = some M1 := hd
      unfold zbX8_tripIfOver_2 at hd
      refine lv_iload_n hx hb dX8_tripIfOver_2 rfl (lv_at hl 2 rfl) ?_
      refine lv_iload_n hx hb dX8_tripIfOver_3 rfl (lv_at hl 1 rfl) ?_
      refine lv_icmp_ge (tgt := 64) hx hb dX8_tripIfOver_4 (by decide) (fun c_1 => ?_) (fun c_1 => ?_)
      · have hd := zif_pos c_1 hd
        exact z_vret F hr hlk hw (Option.some.inj hd) dX8_tripIfOver_64
      · have hd := zif_neg c_1 hd
        refine lv_aload_n hx hb dX8_tripIfOver_7 rfl (lv_at hl 0 rfl) ?_
        refine z_gR F hw h0 zc8 0 (by decide) rfl zf8_11 dX8_tripIfOver_8 ?_
        have t_2 : zT sh (zR M k0 0) 18 := hw.2.2.2.fld h0 0 18
        refine lv_iload_n hx hb dX8_tripIfOver_11 rfl (lv_at hl 2 rfl) ?_
        obtain ⟨g_3, hd⟩ := zgd_some hd
        refine z_aald F hw t_2 (by decide) 5 rfl g_3 dX8_tripIfOver_12 ?_
        have t_4 : zT sh (zR M (zR M k0 0) x2.toNatClampNeg) 7 := hw.2.2.2.arr t_2 _ 7 (zin_lt g_3)
        refine z_gI F hw t_4 zc7 4 (by decide) rfl zf8_143 dX8_tripIfOver_13 ?_
        refine lv_if_le (tgt := 58) hx hb dX8_tripIfOver_16 (by decide) (fun c_5 => ?_) (fun c_5 => ?_)
        · have hd := zif_pos c_5 hd
          exact J58 _ hk2 _ _ _ _ _ (lv_sub hl [0, 1, 2] rfl) hw hd
        · have hd := zif_neg c_5 hd
          refine lv_aload_n hx hb dX8_tripIfOver_19 rfl (lv_at hl 0 rfl) ?_
          refine z_gR F hw h0 zc8 0 (by decide) rfl zf8_11 dX8_tripIfOver_20 ?_
          have t_6 : zT sh (zR M k0 0) 18 := hw.2.2.2.fld h0 0 18
          refine lv_iload_n hx hb dX8_tripIfOver_23 rfl (lv_at hl 2 rfl) ?_
          obtain ⟨g_7, hd⟩ := zgd_some hd
          refine z_aald F hw t_6 (by decide) 5 rfl g_7 dX8_tripIfOver_24 ?_
          have t_8 : zT sh (zR M (zR M k0 0) x2.toNatClampNeg) 7 := hw.2.2.2.arr t_6 _ 7 (zin_lt g_7)
          refine lv_aload_n hx hb dX8_tripIfOver_25 rfl (lv_at hl 0 rfl) ?_
          refine z_gR F hw h0 zc8 0 (by decide) rfl zf8_11 dX8_tripIfOver_26 ?_
          have t_9 : zT sh (zR M k0 0) 18 := hw.2.2.2.fld h0 0 18
          refine lv_iload_n hx hb dX8_tripIfOver_29 rfl (lv_at hl 2 rfl) ?_
          obtain ⟨g_10, hd⟩ := zgd_some hd
          refine z_aald F hw t_9 (by decide) 5 rfl g_10 dX8_tripIfOver_30 ?_
          have t_11 : zT sh (zR M (zR M k0 0) x2.toNatClampNeg) 7 := hw.2.2.2.arr t_9 _ 7 (zin_lt g_10)
          refine z_gI F hw t_11 zc7 4 (by decide) rfl zf8_143 dX8_tripIfOver_31 ?_
          obtain ⟨r_13, hc_12, hd⟩ := zob_some hd
          refine z_cvI F hw hl.1 (As := [.int (zI M (zR M (zR M k0 0) x2.toNatClampNeg) 4)]) (rest := []) (ztX7_isOffBy l D cy sh ad t_8 hc_12) zyX7_isOffBy t_8 zc7 zk8_121 ⟨rfl, rfl⟩ ⟨by decide, by decide⟩ rfl rfl (Nat.le_of_ble_eq_true rfl) dX8_tripIfOver_34 (fun H locs hw => ?_)
          refine lv_if_eq (tgt := 58) hx hb dX8_tripIfOver_37 (by decide) (fun c_14 => ?_) (fun c_14 => ?_)
          · have hd := zif_pos c_14 hd
            exact J58 _ hk2 _ _ _ _ _ (lv_sub hl [0, 1, 2] rfl) hw hd
          · have hd := zif_neg c_14 hd
            refine lv_aload_n hx hb dX8_tripIfOver_40 rfl (lv_at hl 0 rfl) ?_
            refine lv_aload_n hx hb dX8_tripIfOver_41 rfl (lv_at hl 0 rfl) ?_
            refine z_gI F hw h0 zc8 5 (by decide) rfl zf8_39 dX8_tripIfOver_42 ?_
            refine z_pI F hw h0 zc8 6 (by decide) rfl zf8_42 rfl rfl rfl dX8_tripIfOver_45 (fun H locs M_15 eM_15 hw => ?_)
            have hd := zbd_eq eM_15 hd
            refine lv_aload_n hx hb dX8_tripIfOver_48 rfl (lv_at hl 0 rfl) ?_
            refine lv_iload_n hx hb dX8_tripIfOver_49 rfl (lv_at hl 2 rfl) ?_
            refine z_pI F hw h0 zc8 7 (by decide) rfl zf8_31 rfl rfl rfl dX8_tripIfOver_50 (fun H locs M_16 eM_16 hw => ?_)
            have hd := zbd_eq eM_16 hd
            refine lv_aload_n hx hb dX8_tripIfOver_53 rfl (lv_at hl 0 rfl) ?_
            obtain ⟨M_18, hc_17, hd⟩ := zob_some hd
            refine z_cvV F hw hl.1 (As := []) (rest := []) (ztX8_stop l D cy sh ad h0 hc_17) zyX8_stop h0 zc8 zk8_45 ⟨rfl, rfl⟩ ⟨by decide, by decide⟩ rfl rfl (Nat.le_of_ble_eq_true rfl) dX8_tripIfOver_54 (fun H locs hw => ?_)
            exact z_vret F hr hlk hw (Option.some.inj hd) dX8_tripIfOver_57
  unfold zX8_tripIfOver at hd
  refine lv_iconst (v := (0 : Int32)) hx hb dX8_tripIfOver_0 (by decide) ?_
  refine lv_istore_n (lv' := [(2, .int (0 : Int32)), (0, .ref (ad k0)), (1, .int p1)]) hx hb dX8_tripIfOver_1 rfl hl (by decide) rfl (fun ls hl => ?_)
  exact L2 zF _ _ _ _ _ (lv_sub hl [1, 2, 0] rfl) hw hd

def zjX8_tick_152 (sh : zShp) (k0 : Nat) (k1 : Nat)  (M : zMem) : Option (zMem) :=
  some M
def zjX8_tick_131 (sh : zShp) (k0 : Nat) (k1 : Nat) (kk64 : Int32 → zMem → Option (zMem)) (x2 : Int32) (M : zMem) : Option (zMem) :=
  kk64 (x2 + (1 : Int32)) M
def zbX8_tick_64 (sh : zShp) (k0 : Nat) (k1 : Nat)  (kk64 : Int32 → zMem → Option (zMem)) (x2 : Int32) (M : zMem) : Option (zMem) :=
  if (zI M k1 6) ≤ x2 then (
  if (zI M k0 8) = 0 then (
  zjX8_tick_152 sh k0 k1 M)
  else (
  zob (zX8_tripIfOver sh k0 (zI M k1 6) M) fun M_4 =>
  zjX8_tick_152 sh k0 k1 M_4))
  else (
  zgd (zin x2 (zlen sh (zR M k0 0))) <|
  zgd (zin x2 (zlen sh (zR M k1 0))) <|
  zob (zX7_turn sh (zR M (zR M k0 0) x2.toNatClampNeg) (zR M (zR M k1 0) x2.toNatClampNeg) (zR M k1 4) M) fun M_13 =>
  zgd (zin x2 (zlen sh (zR M_13 k0 0))) <|
  if (zI M_13 (zR M_13 (zR M_13 k0 0) x2.toNatClampNeg) 5) = 0 then (
  zgd (zin x2 (zlen sh (zR M_13 k0 0))) <|
  zob (zX7_isOffBy sh (zR M_13 (zR M_13 k0 0) x2.toNatClampNeg) (1024 : Int32) M_13) fun r_22 =>
  if r_22 = 0 then (
  zjX8_tick_131 sh k0 k1 kk64 x2 M_13)
  else (
  zgd (zin x2 (zlen sh (zR M_13 k0 0))) <|
  zbd (zpI M_13 (zR M_13 (zR M_13 k0 0) x2.toNatClampNeg) 5 (zI M_13 k0 5)) fun M_27 =>
  zjX8_tick_131 sh k0 k1 kk64 x2 M_27))
  else (
  zjX8_tick_131 sh k0 k1 kk64 x2 M_13))
def zlX8_tick_64 (sh : zShp) (k0 : Nat) (k1 : Nat)  : Nat → Int32 → zMem → Option (zMem)
  | 0 => fun _ _ => none
  | n + 1 => fun x2 M => zbX8_tick_64 sh k0 k1  (zlX8_tick_64 sh k0 k1  n) x2 M
def zjX8_tick_62 (sh : zShp) (k0 : Nat) (k1 : Nat)  (M : zMem) : Option (zMem) :=
  zlX8_tick_64 sh k0 k1 zF (0 : Int32) M
def zjX8_tick_51 (sh : zShp) (k0 : Nat) (k1 : Nat)  (M : zMem) : Option (zMem) :=
  if (zI M k0 8) = 0 then (
  zjX8_tick_62 sh k0 k1 M)
  else (
  zob (zX8_advance sh k0 M) fun M_30 =>
  zjX8_tick_62 sh k0 k1 M_30)
def zbX8_tick_12 (sh : zShp) (k0 : Nat) (k1 : Nat)  (kk12 : Int32 → zMem → Option (zMem)) (x2 : Int32) (M : zMem) : Option (zMem) :=
  if (8 : Int32) ≤ x2 then (
  zjX8_tick_51 sh k0 k1 M)
  else (
  if (zI M k0 8) = 0 then (
  if (zI M k0 4) ≤ 0 then (
  zjX8_tick_51 sh k0 k1 M)
  else (
  zob (zX8_takeWaiting sh k0 M) fun M_35 =>
  zob (zX8_begin sh k0 (zR M_35 k0 3) k1 M_35) fun M_38 =>
  kk12 (x2 + (1 : Int32)) M_38))
  else (
  zjX8_tick_51 sh k0 k1 M))
def zlX8_tick_12 (sh : zShp) (k0 : Nat) (k1 : Nat)  : Nat → Int32 → zMem → Option (zMem)
  | 0 => fun _ _ => none
  | n + 1 => fun x2 M => zbX8_tick_12 sh k0 k1  (zlX8_tick_12 sh k0 k1  n) x2 M
def zX8_tick (sh : zShp) (k0 : Nat) (k1 : Nat) (M : zMem) : Option (zMem) :=
  zbd (zpI M k0 5 ((zI M k0 5) + (1 : Int32))) fun M_39 =>
  zlX8_tick_12 sh k0 k1 zF (0 : Int32) M_39
set_option maxHeartbeats 4000000 in
set_option maxRecDepth 100000 in
theorem ztX8_tick (l : Launch) (D : va_G) (cy : Nat → ClassId) (sh : zShp) (ad : Nat → Nat) {k0 : Nat} {k1 : Nat} (h0 : zT sh k0 8) (h1 : zT sh k1 1) {M : zMem} {M1 : zMem} (hd : zX8_tick sh k0 k1 M = some M1) : zCV l yX8_tick cX8_tick 3 { frames := 5, cells := 0, slots := 0, locals := 122 } [.ref (ad k0), .ref (ad k1)] D cy sh ad M M1 := by
  refine zcv_of (by decide) (Nat.le_of_ble_eq_true rfl) (fun p e s m below meth c ls F hr hlk hl hw => ?_)
  have hx := F.1.1
  have hb := F.1.2.1
  have hl : lv_has ls 3 [(0, .ref (ad k0)), (1, .ref (ad k1))] := hl
  have J152 : ∀ (M : zMem) (H : Heap) (locs : List Loc) (ls : Array Slot), lv_has ls 3 [] → zWd D cy sh ad s M H locs → zjX8_tick_152 sh k0 k1  M = some M1 → W p l e { frames := 5, cells := 0, slots := 0, locals := 122 } s m ([.ref (ad k0), .ref (ad k1)] : List Value).toArray below meth c H locs 0 0 (zQV below D cy sh ad s [.ref (ad k0), .ref (ad k1)] M1) (F0 m 152 ls []) := by
    intro  M H locs ls hl hw hd
    unfold zjX8_tick_152 at hd
    exact z_vret F hr hlk hw (Option.some.inj hd) dX8_tick_152
  have J131 : ∀ (kk64 : Int32 → zMem → Option (zMem)) (hk64 : ∀ (x2 : Int32) (M : zMem) (H : Heap) (locs : List Loc) (ls : Array Slot), lv_has ls 3 [(0, .ref (ad k0)), (1, .ref (ad k1)), (2, .int x2)] → zWd D cy sh ad s M H locs → kk64 x2 M = some M1 → W p l e { frames := 5, cells := 0, slots := 0, locals := 122 } s m ([.ref (ad k0), .ref (ad k1)] : List Value).toArray below meth c H locs 0 0 (zQV below D cy sh ad s [.ref (ad k0), .ref (ad k1)] M1) (F0 m 64 ls [])), ∀ (x2 : Int32) (M : zMem) (H : Heap) (locs : List Loc) (ls : Array Slot), lv_has ls 3 [(0, .ref (ad k0)), (1, .ref (ad k1)), (2, .int x2)] → zWd D cy sh ad s M H locs → zjX8_tick_131 sh k0 k1 kk64 x2 M = some M1 → W p l e { frames := 5, cells := 0, slots := 0, locals := 122 } s m ([.ref (ad k0), .ref (ad k1)] : List Value).toArray below meth c H locs 0 0 (zQV below D cy sh ad s [.ref (ad k0), .ref (ad k1)] M1) (F0 m 131 ls []) := by
    intro kk64 hk64 x2 M H locs ls hl hw hd
    unfold zjX8_tick_131 at hd
    refine lv_iinc (v := (x2 + (1 : Int32))) (lv' := [(2, .int (x2 + (1 : Int32))), (0, .ref (ad k0)), (1, .ref (ad k1))]) hx hb dX8_tick_131 hl (k := 2) rfl (ziinc (by decide)) (by decide) rfl (fun ls hl => ?_)
    refine lv_goto (tgt := 64) hx hb dX8_tick_134 (by decide) ?_
    exact hk64 _ _ _ _ _ (lv_sub hl [1, 2, 0] rfl) hw hd
  have L64 : ∀  (n : Nat), ∀ (x2 : Int32) (M : zMem) (H : Heap) (locs : List Loc) (ls : Array Slot), lv_has ls 3 [(0, .ref (ad k0)), (1, .ref (ad k1)), (2, .int x2)] → zWd D cy sh ad s M H locs → zlX8_tick_64 sh k0 k1  n x2 M = some M1 → W p l e { frames := 5, cells := 0, slots := 0, locals := 122 } s m ([.ref (ad k0), .ref (ad k1)] : List Value).toArray below meth c H locs 0 0 (zQV below D cy sh ad s [.ref (ad k0), .ref (ad k1)] M1) (F0 m 64 ls []) := by
    intro  n
    induction n with
    | zero => intro x2 M H locs ls hl hw hd; exact (znone hd).elim
    | succ n hk64 =>
      intro x2 M H locs ls hl hw hd
      have hd : zbX8_tick_64 sh k0 k1  (zlX8_tick_64 sh k0 k1  n) x2 M = some M1 := hd
      unfold zbX8_tick_64 at hd
      refine lv_iload_n hx hb dX8_tick_64 rfl (lv_at hl 2 rfl) ?_
      refine lv_aload_n hx hb dX8_tick_65 rfl (lv_at hl 1 rfl) ?_
      refine z_gI F hw h1 zc1 6 (by decide) rfl zf8_101 dX8_tick_66 ?_
      refine lv_icmp_ge (tgt := 137) hx hb dX8_tick_69 (by decide) (fun c_1 => ?_) (fun c_1 => ?_)
      · have hd := zif_pos c_1 hd
        refine lv_aload_n hx hb dX8_tick_137 rfl (lv_at hl 0 rfl) ?_
        refine z_gI F hw h0 zc8 8 (by decide) rfl zf8_48 dX8_tick_138 ?_
        refine lv_if_eq (tgt := 152) hx hb dX8_tick_141 (by decide) (fun c_2 => ?_) (fun c_2 => ?_)
        · have hd := zif_pos c_2 hd
          exact J152 _ _ _ _ (lv_sub hl [] rfl) hw hd
        · have hd := zif_neg c_2 hd
          refine lv_aload_n hx hb dX8_tick_144 rfl (lv_at hl 0 rfl) ?_
          refine lv_aload_n hx hb dX8_tick_145 rfl (lv_at hl 1 rfl) ?_
          refine z_gI F hw h1 zc1 6 (by decide) rfl zf8_101 dX8_tick_146 ?_
          obtain ⟨M_4, hc_3, hd⟩ := zob_some hd
          refine z_cvV F hw hl.1 (As := [.int (zI M k1 6)]) (rest := []) (ztX8_tripIfOver l D cy sh ad h0 hc_3) zyX8_tripIfOver h0 zc8 zk8_125 ⟨rfl, rfl⟩ ⟨by decide, by decide⟩ rfl rfl (Nat.le_of_ble_eq_true rfl) dX8_tick_149 (fun H locs hw => ?_)
          exact J152 _ _ _ _ (lv_sub hl [] rfl) hw hd
      · have hd := zif_neg c_1 hd
        refine lv_aload_n hx hb dX8_tick_72 rfl (lv_at hl 0 rfl) ?_
        refine z_gR F hw h0 zc8 0 (by decide) rfl zf8_11 dX8_tick_73 ?_
        have t_5 : zT sh (zR M k0 0) 18 := hw.2.2.2.fld h0 0 18
        refine lv_iload_n hx hb dX8_tick_76 rfl (lv_at hl 2 rfl) ?_
        obtain ⟨g_6, hd⟩ := zgd_some hd
        refine z_aald F hw t_5 (by decide) 5 rfl g_6 dX8_tick_77 ?_
        have t_7 : zT sh (zR M (zR M k0 0) x2.toNatClampNeg) 7 := hw.2.2.2.arr t_5 _ 7 (zin_lt g_6)
        refine lv_aload_n hx hb dX8_tick_78 rfl (lv_at hl 1 rfl) ?_
        refine z_gR F hw h1 zc1 0 (by decide) rfl zf8_106 dX8_tick_79 ?_
        have t_8 : zT sh (zR M k1 0) 17 := hw.2.2.2.fld h1 0 17
        refine lv_iload_n hx hb dX8_tick_82 rfl (lv_at hl 2 rfl) ?_
        obtain ⟨g_9, hd⟩ := zgd_some hd
        refine z_aald F hw t_8 (by decide) 4 rfl g_9 dX8_tick_83 ?_
        have t_10 : zT sh (zR M (zR M k1 0) x2.toNatClampNeg) 0 := hw.2.2.2.arr t_8 _ 0 (zin_lt g_9)
        refine lv_aload_n hx hb dX8_tick_84 rfl (lv_at hl 1 rfl) ?_
        refine z_gR F hw h1 zc1 4 (by decide) rfl zf8_110 dX8_tick_85 ?_
        have t_11 : zT sh (zR M k1 4) 9 := hw.2.2.2.fld h1 4 9
        obtain ⟨M_13, hc_12, hd⟩ := zob_some hd
        refine z_cvV F hw hl.1 (As := [.ref (ad (zR M (zR M k1 0) x2.toNatClampNeg)), .ref (ad (zR M k1 4))]) (rest := []) (ztX7_turn l D cy sh ad t_7 t_10 t_11 hc_12) zyX7_turn t_7 zc7 zk8_114 ⟨rfl, rfl⟩ ⟨by decide, by decide⟩ rfl rfl (Nat.le_of_ble_eq_true rfl) dX8_tick_88 (fun H locs hw => ?_)
        refine lv_aload_n hx hb dX8_tick_91 rfl (lv_at hl 0 rfl) ?_
        refine z_gR F hw h0 zc8 0 (by decide) rfl zf8_11 dX8_tick_92 ?_
        have t_14 : zT sh (zR M_13 k0 0) 18 := hw.2.2.2.fld h0 0 18
        refine lv_iload_n hx hb dX8_tick_95 rfl (lv_at hl 2 rfl) ?_
        obtain ⟨g_15, hd⟩ := zgd_some hd
        refine z_aald F hw t_14 (by decide) 5 rfl g_15 dX8_tick_96 ?_
        have t_16 : zT sh (zR M_13 (zR M_13 k0 0) x2.toNatClampNeg) 7 := hw.2.2.2.arr t_14 _ 7 (zin_lt g_15)
        refine z_gI F hw t_16 zc7 5 (by decide) rfl zf8_118 dX8_tick_97 ?_
        refine lv_if_ne (tgt := 131) hx hb dX8_tick_100 (by decide) (fun c_17 => ?_) (fun c_17 => ?_)
        · have hd := zif_neg c_17 hd
          exact J131 _ hk64 _ _ _ _ _ (lv_sub hl [0, 1, 2] rfl) hw hd
        · have hd := zif_pos c_17 hd
          refine lv_aload_n hx hb dX8_tick_103 rfl (lv_at hl 0 rfl) ?_
          refine z_gR F hw h0 zc8 0 (by decide) rfl zf8_11 dX8_tick_104 ?_
          have t_18 : zT sh (zR M_13 k0 0) 18 := hw.2.2.2.fld h0 0 18
          refine lv_iload_n hx hb dX8_tick_107 rfl (lv_at hl 2 rfl) ?_
          obtain ⟨g_19, hd⟩ := zgd_some hd
          refine z_aald F hw t_18 (by decide) 5 rfl g_19 dX8_tick_108 ?_
          have t_20 : zT sh (zR M_13 (zR M_13 k0 0) x2.toNatClampNeg) 7 := hw.2.2.2.arr t_18 _ 7 (zin_lt g_19)
          refine lv_sipush (v := (1024 : Int32)) hx hb dX8_tick_109 (by decide) ?_
          obtain ⟨r_22, hc_21, hd⟩ := zob_some hd
          refine z_cvI F hw hl.1 (As := [.int (1024 : Int32)]) (rest := []) (ztX7_isOffBy l D cy sh ad t_20 hc_21) zyX7_isOffBy t_20 zc7 zk8_121 ⟨rfl, rfl⟩ ⟨by decide, by decide⟩ rfl rfl (Nat.le_of_ble_eq_true rfl) dX8_tick_112 (fun H locs hw => ?_)
          refine lv_if_eq (tgt := 131) hx hb dX8_tick_115 (by decide) (fun c_23 => ?_) (fun c_23 => ?_)
          · have hd := zif_pos c_23 hd
            exact J131 _ hk64 _ _ _ _ _ (lv_sub hl [0, 1, 2] rfl) hw hd
          · have hd := zif_neg c_23 hd
            refine lv_aload_n hx hb dX8_tick_118 rfl (lv_at hl 0 rfl) ?_
            refine z_gR F hw h0 zc8 0 (by decide) rfl zf8_11 dX8_tick_119 ?_
            have t_24 : zT sh (zR M_13 k0 0) 18 := hw.2.2.2.fld h0 0 18
            refine lv_iload_n hx hb dX8_tick_122 rfl (lv_at hl 2 rfl) ?_
            obtain ⟨g_25, hd⟩ := zgd_some hd
            refine z_aald F hw t_24 (by decide) 5 rfl g_25 dX8_tick_123 ?_
            have t_26 : zT sh (zR M_13 (zR M_13 k0 0) x2.toNatClampNeg) 7 := hw.2.2.2.arr t_24 _ 7 (zin_lt g_25)
            refine lv_aload_n hx hb dX8_tick_124 rfl (lv_at hl 0 rfl) ?_
            refine z_gI F hw h0 zc8 5 (by decide) rfl zf8_39 dX8_tick_125 ?_
            refine z_pI F hw t_26 zc7 5 (by decide) rfl zf8_118 rfl rfl rfl dX8_tick_128 (fun H locs M_27 eM_27 hw => ?_)
            have hd := zbd_eq eM_27 hd
            exact J131 _ hk64 _ _ _ _ _ (lv_sub hl [0, 1, 2] rfl) hw hd
  have J62 : ∀ (M : zMem) (H : Heap) (locs : List Loc) (ls : Array Slot), lv_has ls 3 [(0, .ref (ad k0)), (1, .ref (ad k1))] → zWd D cy sh ad s M H locs → zjX8_tick_62 sh k0 k1  M = some M1 → W p l e { frames := 5, cells := 0, slots := 0, locals := 122 } s m ([.ref (ad k0), .ref (ad k1)] : List Value).toArray below meth c H locs 0 0 (zQV below D cy sh ad s [.ref (ad k0), .ref (ad k1)] M1) (F0 m 62 ls []) := by
    intro  M H locs ls hl hw hd
    unfold zjX8_tick_62 at hd
    refine lv_iconst (v := (0 : Int32)) hx hb dX8_tick_62 (by decide) ?_
    refine lv_istore_n (lv' := [(2, .int (0 : Int32)), (0, .ref (ad k0)), (1, .ref (ad k1))]) hx hb dX8_tick_63 rfl hl (by decide) rfl (fun ls hl => ?_)
    exact L64 zF _ _ _ _ _ (lv_sub hl [1, 2, 0] rfl) hw hd
  have J51 : ∀ (M : zMem) (H : Heap) (locs : List Loc) (ls : Array Slot), lv_has ls 3 [(0, .ref (ad k0)), (1, .ref (ad k1))] → zWd D cy sh ad s M H locs → zjX8_tick_51 sh k0 k1  M = some M1 → W p l e { frames := 5, cells := 0, slots := 0, locals := 122 } s m ([.ref (ad k0), .ref (ad k1)] : List Value).toArray below meth c H locs 0 0 (zQV below D cy sh ad s [.ref (ad k0), .ref (ad k1)] M1) (F0 m 51 ls []) := by
    intro  M H locs ls hl hw hd
    unfold zjX8_tick_51 at hd
    refine lv_aload_n hx hb dX8_tick_51 rfl (lv_at hl 0 rfl) ?_
    refine z_gI F hw h0 zc8 8 (by decide) rfl zf8_48 dX8_tick_52 ?_
    refine lv_if_eq (tgt := 62) hx hb dX8_tick_55 (by decide) (fun c_28 => ?_) (fun c_28 => ?_)
    · have hd := zif_pos c_28 hd
      exact J62 _ _ _ _ (lv_sub hl [0, 1] rfl) hw hd
    · have hd := zif_neg c_28 hd
      refine lv_aload_n hx hb dX8_tick_58 rfl (lv_at hl 0 rfl) ?_
      obtain ⟨M_30, hc_29, hd⟩ := zob_some hd
      refine z_cvV F hw hl.1 (As := []) (rest := []) (ztX8_advance l D cy sh ad h0 hc_29) zyX8_advance h0 zc8 zk8_98 ⟨rfl, rfl⟩ ⟨by decide, by decide⟩ rfl rfl (Nat.le_of_ble_eq_true rfl) dX8_tick_59 (fun H locs hw => ?_)
      exact J62 _ _ _ _ (lv_sub hl [0, 1] rfl) hw hd
  have L12 : ∀  (n : Nat), ∀ (x2 : Int32) (M : zMem) (H : Heap) (locs : List Loc) (ls : Array Slot), lv_has ls 3 [(0, .ref (ad k0)), (1, .ref (ad k1)), (2, .int x2)] → zWd D cy sh ad s M H locs → zlX8_tick_12 sh k0 k1  n x2 M = some M1 → W p l e { frames := 5, cells := 0, slots := 0, locals := 122 } s m ([.ref (ad k0), .ref (ad k1)] : List Value).toArray below meth c H locs 0 0 (zQV below D cy sh ad s [.ref (ad k0), .ref (ad k1)] M1) (F0 m 12 ls []) := by
    intro  n
    induction n with
    | zero => intro x2 M H locs ls hl hw hd; exact (znone hd).elim
    | succ n hk12 =>
      intro x2 M H locs ls hl hw hd
      have hd : zbX8_tick_12 sh k0 k1  (zlX8_tick_12 sh k0 k1  n) x2 M = some M1 := hd
      unfold zbX8_tick_12 at hd
      refine lv_iload_n hx hb dX8_tick_12 rfl (lv_at hl 2 rfl) ?_
      refine lv_bipush (v := (8 : Int32)) hx hb dX8_tick_13 (by decide) ?_
      refine lv_icmp_ge (tgt := 51) hx hb dX8_tick_15 (by decide) (fun c_31 => ?_) (fun c_31 => ?_)
      · have hd := zif_pos c_31 hd
        exact J51 _ _ _ _ (lv_sub hl [0, 1] rfl) hw hd
      · have hd := zif_neg c_31 hd
        refine lv_aload_n hx hb dX8_tick_18 rfl (lv_at hl 0 rfl) ?_
        refine z_gI F hw h0 zc8 8 (by decide) rfl zf8_48 dX8_tick_19 ?_
        refine lv_if_ne (tgt := 51) hx hb dX8_tick_22 (by decide) (fun c_32 => ?_) (fun c_32 => ?_)
        · have hd := zif_neg c_32 hd
          exact J51 _ _ _ _ (lv_sub hl [0, 1] rfl) hw hd
        · have hd := zif_pos c_32 hd
          refine lv_aload_n hx hb dX8_tick_25 rfl (lv_at hl 0 rfl) ?_
          refine z_gI F hw h0 zc8 4 (by decide) rfl zf8_58 dX8_tick_26 ?_
          refine lv_if_le (tgt := 51) hx hb dX8_tick_29 (by decide) (fun c_33 => ?_) (fun c_33 => ?_)
          · have hd := zif_pos c_33 hd
            exact J51 _ _ _ _ (lv_sub hl [0, 1] rfl) hw hd
          · have hd := zif_neg c_33 hd
            refine lv_aload_n hx hb dX8_tick_32 rfl (lv_at hl 0 rfl) ?_
            obtain ⟨M_35, hc_34, hd⟩ := zob_some hd
            refine z_cvV F hw hl.1 (As := []) (rest := []) (ztX8_takeWaiting l D cy sh ad h0 hc_34) zyX8_takeWaiting h0 zc8 zk8_91 ⟨rfl, rfl⟩ ⟨by decide, by decide⟩ rfl rfl (Nat.le_of_ble_eq_true rfl) dX8_tick_33 (fun H locs hw => ?_)
            refine lv_aload_n hx hb dX8_tick_36 rfl (lv_at hl 0 rfl) ?_
            refine lv_aload_n hx hb dX8_tick_37 rfl (lv_at hl 0 rfl) ?_
            refine z_gR F hw h0 zc8 3 (by decide) rfl zf8_28 dX8_tick_38 ?_
            have t_36 : zT sh (zR M_35 k0 3) 14 := hw.2.2.2.fld h0 3 14
            refine lv_aload_n hx hb dX8_tick_41 rfl (lv_at hl 1 rfl) ?_
            obtain ⟨M_38, hc_37, hd⟩ := zob_some hd
            refine z_cvV F hw hl.1 (As := [.ref (ad (zR M_35 k0 3)), .ref (ad k1)]) (rest := []) (ztX8_begin l D cy sh ad h0 t_36 h1 hc_37) zyX8_begin h0 zc8 zk8_94 ⟨rfl, rfl⟩ ⟨by decide, by decide⟩ rfl rfl (Nat.le_of_ble_eq_true rfl) dX8_tick_42 (fun H locs hw => ?_)
            refine lv_iinc (v := (x2 + (1 : Int32))) (lv' := [(2, .int (x2 + (1 : Int32))), (0, .ref (ad k0)), (1, .ref (ad k1))]) hx hb dX8_tick_45 hl (k := 2) rfl (ziinc (by decide)) (by decide) rfl (fun ls hl => ?_)
            refine lv_goto (tgt := 12) hx hb dX8_tick_48 (by decide) ?_
            exact hk12 _ _ _ _ _ (lv_sub hl [1, 2, 0] rfl) hw hd
  unfold zX8_tick at hd
  refine lv_aload_n hx hb dX8_tick_0 rfl (lv_at hl 0 rfl) ?_
  refine lv_dup hx hb dX8_tick_1 rfl ?_
  refine z_gI F hw h0 zc8 5 (by decide) rfl zf8_39 dX8_tick_2 ?_
  refine lv_iconst (v := (1 : Int32)) hx hb dX8_tick_5 (by decide) ?_
  refine lv_iadd hx hb dX8_tick_6 ?_
  refine z_pI F hw h0 zc8 5 (by decide) rfl zf8_39 rfl rfl rfl dX8_tick_7 (fun H locs M_39 eM_39 hw => ?_)
  have hd := zbd_eq eM_39 hd
  refine lv_iconst (v := (0 : Int32)) hx hb dX8_tick_10 (by decide) ?_
  refine lv_istore_n (lv' := [(2, .int (0 : Int32)), (0, .ref (ad k0)), (1, .ref (ad k1))]) hx hb dX8_tick_11 rfl hl (by decide) rfl (fun ls hl => ?_)
  exact L12 zF _ _ _ _ _ (lv_sub hl [1, 2, 0] rfl) hw hd

def zjX8_microsLeft_46 (sh : zShp) (k0 : Nat) (M : zMem)  (s0 : Int32) : Option (Int32) :=
  some s0
def zX8_microsLeft (sh : zShp) (k0 : Nat) (M : zMem) : Option (Int32) :=
  if (zI M k0 8) = 0 then (
  some (0 : Int32))
  else (
  if (zI M k0 9) = 0 then (
  zjX8_microsLeft_46 sh k0 M ((zI M (zR M k0 1) 4) - (zI M k0 11)))
  else (
  zgd (zin (zI M k0 10) (zlen sh (zR M (zR M (zR M k0 1) 2) 0))) <|
  zjX8_microsLeft_46 sh k0 M (zI M (zR M (zR M (zR M k0 1) 2) 0) ((zI M k0 10).toNatClampNeg))))
set_option maxHeartbeats 4000000 in
set_option maxRecDepth 100000 in
theorem ztX8_microsLeft (l : Launch) (D : va_G) (cy : Nat → ClassId) (sh : zShp) (ad : Nat → Nat) {k0 : Nat} (h0 : zT sh k0 8) {M : zMem} {r : Int32} (hd : zX8_microsLeft sh k0 M = some r) : zCI l yX8_microsLeft cX8_microsLeft 1 .int { frames := 0, cells := 0, slots := 0, locals := 0 } [.ref (ad k0)] D cy sh ad M r M := by
  refine zci_of (by decide) (Nat.le_of_ble_eq_true rfl) (fun p e s m below meth c ls F hr hlk hl hw => ?_)
  have hx := F.1.1
  have hb := F.1.2.1
  have hl : lv_has ls 1 [(0, .ref (ad k0))] := hl
  have J46 : ∀ (s0 : Int32) (H : Heap) (locs : List Loc) (ls : Array Slot), lv_has ls 1 [] → zWd D cy sh ad s M H locs → zjX8_microsLeft_46 sh k0 M  s0 = some r → W p l e { frames := 0, cells := 0, slots := 0, locals := 0 } s m ([.ref (ad k0)] : List Value).toArray below meth c H locs 0 0 (zQI below D cy sh ad s [.ref (ad k0)] r M) (F0 m 46 ls [.int s0]) := by
    intro  s0 H locs ls hl hw hd
    unfold zjX8_microsLeft_46 at hd
    exact z_iret F hr hlk hw (Option.some.inj hd) rfl dX8_microsLeft_46
  unfold zX8_microsLeft at hd
  refine lv_aload_n hx hb dX8_microsLeft_0 rfl (lv_at hl 0 rfl) ?_
  refine z_gI F hw h0 zc8 8 (by decide) rfl zf8_48 dX8_microsLeft_1 ?_
  refine lv_if_ne (tgt := 9) hx hb dX8_microsLeft_4 (by decide) (fun c_1 => ?_) (fun c_1 => ?_)
  · have hd := zif_neg c_1 hd
    refine lv_aload_n hx hb dX8_microsLeft_9 rfl (lv_at hl 0 rfl) ?_
    refine z_gI F hw h0 zc8 9 (by decide) rfl zf8_52 dX8_microsLeft_10 ?_
    refine lv_if_eq (tgt := 34) hx hb dX8_microsLeft_13 (by decide) (fun c_2 => ?_) (fun c_2 => ?_)
    · have hd := zif_pos c_2 hd
      refine lv_aload_n hx hb dX8_microsLeft_34 rfl (lv_at hl 0 rfl) ?_
      refine z_gR F hw h0 zc8 1 (by decide) rfl zf8_20 dX8_microsLeft_35 ?_
      have t_3 : zT sh (zR M k0 1) 4 := hw.2.2.2.fld h0 1 4
      refine z_gI F hw t_3 zc4 4 (by decide) rfl zf8_149 dX8_microsLeft_38 ?_
      refine lv_aload_n hx hb dX8_microsLeft_41 rfl (lv_at hl 0 rfl) ?_
      refine z_gI F hw h0 zc8 11 (by decide) rfl zf8_68 dX8_microsLeft_42 ?_
      refine lv_isub hx hb dX8_microsLeft_45 ?_
      exact J46 _ _ _ _ (lv_sub hl [] rfl) hw hd
    · have hd := zif_neg c_2 hd
      refine lv_aload_n hx hb dX8_microsLeft_16 rfl (lv_at hl 0 rfl) ?_
      refine z_gR F hw h0 zc8 1 (by decide) rfl zf8_20 dX8_microsLeft_17 ?_
      have t_4 : zT sh (zR M k0 1) 4 := hw.2.2.2.fld h0 1 4
      refine z_gR F hw t_4 zc4 2 (by decide) rfl zf8_77 dX8_microsLeft_20 ?_
      have t_5 : zT sh (zR M (zR M k0 1) 2) 5 := hw.2.2.2.fld t_4 2 5
      refine z_gR F hw t_5 zc5 0 (by decide) rfl zf8_146 dX8_microsLeft_23 ?_
      have t_6 : zT sh (zR M (zR M (zR M k0 1) 2) 0) 14 := hw.2.2.2.fld t_5 0 14
      refine lv_aload_n hx hb dX8_microsLeft_26 rfl (lv_at hl 0 rfl) ?_
      refine z_gI F hw h0 zc8 10 (by decide) rfl zf8_55 dX8_microsLeft_27 ?_
      obtain ⟨g_7, hd⟩ := zgd_some hd
      refine z_iald F hw t_6 g_7 dX8_microsLeft_30 ?_
      refine lv_goto (tgt := 46) hx hb dX8_microsLeft_31 (by decide) ?_
      exact J46 _ _ _ _ (lv_sub hl [] rfl) hw hd
  · have hd := zif_pos c_1 hd
    refine lv_iconst (v := (0 : Int32)) hx hb dX8_microsLeft_7 (by decide) ?_
    exact z_iret F hr hlk hw (Option.some.inj hd) rfl dX8_microsLeft_8

def zjX8_isSteady_14 (sh : zShp) (k0 : Nat) (k1 : Nat) (M : zMem)   : Option (Int32) :=
  some (0 : Int32)
def zbX8_isSteady_18 (sh : zShp) (k0 : Nat) (k1 : Nat) (M : zMem)  (kk18 : Int32 → Option (Int32)) (x2 : Int32) : Option (Int32) :=
  if (zI M k1 6) ≤ x2 then (
  some (1 : Int32))
  else (
  zgd (zin x2 (zlen sh (zR M k0 0))) <|
  zgd (zin x2 (zlen sh (zR M k1 0))) <|
  zob (zX7_isCalm sh (zR M (zR M k0 0) x2.toNatClampNeg) (zR M (zR M k1 0) x2.toNatClampNeg) (zR M k1 4) M) fun r_10 =>
  if r_10 = 0 then (
  some (0 : Int32))
  else (
  kk18 (x2 + (1 : Int32))))
def zlX8_isSteady_18 (sh : zShp) (k0 : Nat) (k1 : Nat) (M : zMem)  : Nat → Int32 → Option (Int32)
  | 0 => fun _ => none
  | n + 1 => fun x2 => zbX8_isSteady_18 sh k0 k1 M  (zlX8_isSteady_18 sh k0 k1 M  n) x2
def zX8_isSteady (sh : zShp) (k0 : Nat) (k1 : Nat) (M : zMem) : Option (Int32) :=
  if (zI M k0 8) = 0 then (
  if (zI M k0 4) ≤ 0 then (
  zlX8_isSteady_18 sh k0 k1 M zF (0 : Int32))
  else (
  zjX8_isSteady_14 sh k0 k1 M))
  else (
  zjX8_isSteady_14 sh k0 k1 M)
set_option maxHeartbeats 4000000 in
set_option maxRecDepth 100000 in
theorem ztX8_isSteady (l : Launch) (D : va_G) (cy : Nat → ClassId) (sh : zShp) (ad : Nat → Nat) {k0 : Nat} {k1 : Nat} (h0 : zT sh k0 8) (h1 : zT sh k1 1) {M : zMem} {r : Int32} (hd : zX8_isSteady sh k0 k1 M = some r) : zCI l yX8_isSteady cX8_isSteady 3 .boolean { frames := 3, cells := 0, slots := 0, locals := 67 } [.ref (ad k0), .ref (ad k1)] D cy sh ad M r M := by
  refine zci_of (by decide) (Nat.le_of_ble_eq_true rfl) (fun p e s m below meth c ls F hr hlk hl hw => ?_)
  have hx := F.1.1
  have hb := F.1.2.1
  have hl : lv_has ls 3 [(0, .ref (ad k0)), (1, .ref (ad k1))] := hl
  have J14 : ∀  (H : Heap) (locs : List Loc) (ls : Array Slot), lv_has ls 3 [] → zWd D cy sh ad s M H locs → zjX8_isSteady_14 sh k0 k1 M   = some r → W p l e { frames := 3, cells := 0, slots := 0, locals := 67 } s m ([.ref (ad k0), .ref (ad k1)] : List Value).toArray below meth c H locs 0 0 (zQI below D cy sh ad s [.ref (ad k0), .ref (ad k1)] r M) (F0 m 14 ls []) := by
    intro  H locs ls hl hw hd
    unfold zjX8_isSteady_14 at hd
    refine lv_iconst (v := (0 : Int32)) hx hb dX8_isSteady_14 (by decide) ?_
    exact z_zret F hr hlk hw (by decide) (Option.some.inj hd) rfl dX8_isSteady_15
  have L18 : ∀  (n : Nat), ∀ (x2 : Int32) (H : Heap) (locs : List Loc) (ls : Array Slot), lv_has ls 3 [(0, .ref (ad k0)), (1, .ref (ad k1)), (2, .int x2)] → zWd D cy sh ad s M H locs → zlX8_isSteady_18 sh k0 k1 M  n x2 = some r → W p l e { frames := 3, cells := 0, slots := 0, locals := 67 } s m ([.ref (ad k0), .ref (ad k1)] : List Value).toArray below meth c H locs 0 0 (zQI below D cy sh ad s [.ref (ad k0), .ref (ad k1)] r M) (F0 m 18 ls []) := by
    intro  n
    induction n with
    | zero => intro x2 H locs ls hl hw hd; exact (znone hd).elim
    | succ n hk18 =>
      intro x2 H locs ls hl hw hd
      have hd : zbX8_isSteady_18 sh k0 k1 M  (zlX8_isSteady_18 sh k0 k1 M  n) x2 = some r := hd
      unfold zbX8_isSteady_18 at hd
      refine lv_iload_n hx hb dX8_isSteady_18 rfl (lv_at hl 2 rfl) ?_
      refine lv_aload_n hx hb dX8_isSteady_19 rfl (lv_at hl 1 rfl) ?_
      refine z_gI F hw h1 zc1 6 (by decide) rfl zf8_101 dX8_isSteady_20 ?_
      refine lv_icmp_ge (tgt := 56) hx hb dX8_isSteady_23 (by decide) (fun c_1 => ?_) (fun c_1 => ?_)
      · have hd := zif_pos c_1 hd
        refine lv_iconst (v := (1 : Int32)) hx hb dX8_isSteady_56 (by decide) ?_
        exact z_zret F hr hlk hw (by decide) (Option.some.inj hd) rfl dX8_isSteady_57
      · have hd := zif_neg c_1 hd
        refine lv_aload_n hx hb dX8_isSteady_26 rfl (lv_at hl 0 rfl) ?_
        refine z_gR F hw h0 zc8 0 (by decide) rfl zf8_11 dX8_isSteady_27 ?_
        have t_2 : zT sh (zR M k0 0) 18 := hw.2.2.2.fld h0 0 18
        refine lv_iload_n hx hb dX8_isSteady_30 rfl (lv_at hl 2 rfl) ?_
        obtain ⟨g_3, hd⟩ := zgd_some hd
        refine z_aald F hw t_2 (by decide) 5 rfl g_3 dX8_isSteady_31 ?_
        have t_4 : zT sh (zR M (zR M k0 0) x2.toNatClampNeg) 7 := hw.2.2.2.arr t_2 _ 7 (zin_lt g_3)
        refine lv_aload_n hx hb dX8_isSteady_32 rfl (lv_at hl 1 rfl) ?_
        refine z_gR F hw h1 zc1 0 (by decide) rfl zf8_106 dX8_isSteady_33 ?_
        have t_5 : zT sh (zR M k1 0) 17 := hw.2.2.2.fld h1 0 17
        refine lv_iload_n hx hb dX8_isSteady_36 rfl (lv_at hl 2 rfl) ?_
        obtain ⟨g_6, hd⟩ := zgd_some hd
        refine z_aald F hw t_5 (by decide) 4 rfl g_6 dX8_isSteady_37 ?_
        have t_7 : zT sh (zR M (zR M k1 0) x2.toNatClampNeg) 0 := hw.2.2.2.arr t_5 _ 0 (zin_lt g_6)
        refine lv_aload_n hx hb dX8_isSteady_38 rfl (lv_at hl 1 rfl) ?_
        refine z_gR F hw h1 zc1 4 (by decide) rfl zf8_110 dX8_isSteady_39 ?_
        have t_8 : zT sh (zR M k1 4) 9 := hw.2.2.2.fld h1 4 9
        obtain ⟨r_10, hc_9, hd⟩ := zob_some hd
        refine z_cvI F hw hl.1 (As := [.ref (ad (zR M (zR M k1 0) x2.toNatClampNeg)), .ref (ad (zR M k1 4))]) (rest := []) (ztX7_isCalm l D cy sh ad t_4 t_7 t_8 hc_9) zyX7_isCalm t_4 zc7 zk8_152 ⟨rfl, rfl⟩ ⟨by decide, by decide⟩ rfl rfl (Nat.le_of_ble_eq_true rfl) dX8_isSteady_42 (fun H locs hw => ?_)
        refine lv_if_ne (tgt := 50) hx hb dX8_isSteady_45 (by decide) (fun c_11 => ?_) (fun c_11 => ?_)
        · have hd := zif_neg c_11 hd
          refine lv_iinc (v := (x2 + (1 : Int32))) (lv' := [(2, .int (x2 + (1 : Int32))), (0, .ref (ad k0)), (1, .ref (ad k1))]) hx hb dX8_isSteady_50 hl (k := 2) rfl (ziinc (by decide)) (by decide) rfl (fun ls hl => ?_)
          refine lv_goto (tgt := 18) hx hb dX8_isSteady_53 (by decide) ?_
          exact hk18 _ _ _ _ (lv_sub hl [1, 2, 0] rfl) hw hd
        · have hd := zif_pos c_11 hd
          refine lv_iconst (v := (0 : Int32)) hx hb dX8_isSteady_48 (by decide) ?_
          exact z_zret F hr hlk hw (by decide) (Option.some.inj hd) rfl dX8_isSteady_49
  unfold zX8_isSteady at hd
  refine lv_aload_n hx hb dX8_isSteady_0 rfl (lv_at hl 0 rfl) ?_
  refine z_gI F hw h0 zc8 8 (by decide) rfl zf8_48 dX8_isSteady_1 ?_
  refine lv_if_ne (tgt := 14) hx hb dX8_isSteady_4 (by decide) (fun c_12 => ?_) (fun c_12 => ?_)
  · have hd := zif_neg c_12 hd
    exact J14 _ _ _ (lv_sub hl [] rfl) hw hd
  · have hd := zif_pos c_12 hd
    refine lv_aload_n hx hb dX8_isSteady_7 rfl (lv_at hl 0 rfl) ?_
    refine z_gI F hw h0 zc8 4 (by decide) rfl zf8_58 dX8_isSteady_8 ?_
    refine lv_if_le (tgt := 16) hx hb dX8_isSteady_11 (by decide) (fun c_13 => ?_) (fun c_13 => ?_)
    · have hd := zif_pos c_13 hd
      refine lv_iconst (v := (0 : Int32)) hx hb dX8_isSteady_16 (by decide) ?_
      refine lv_istore_n (lv' := [(2, .int (0 : Int32)), (0, .ref (ad k0)), (1, .ref (ad k1))]) hx hb dX8_isSteady_17 rfl hl (by decide) rfl (fun ls hl => ?_)
      exact L18 zF _ _ _ _ (lv_sub hl [1, 2, 0] rfl) hw hd
    · have hd := zif_neg c_13 hd
      exact J14 _ _ _ (lv_sub hl [] rfl) hw hd

def zjX9_squareRoot_23 (sh : zShp) (p0 : Int32) (M : zMem) (kk6 : Int32 → Int32 → Option (Int32)) (x1 : Int32) (x2 : Int32) : Option (Int32) :=
  zbd ((x2 >>> ((1 : Int32) &&& 31))) fun v_1 =>
  kk6 x1 v_1
def zbX9_squareRoot_6 (sh : zShp) (p0 : Int32) (M : zMem)  (kk6 : Int32 → Int32 → Option (Int32)) (x1 : Int32) (x2 : Int32) : Option (Int32) :=
  if x2 ≤ 0 then (
  some x1)
  else (
  if p0 < ((x1 + x2) * (x1 + x2)) then (
  zjX9_squareRoot_23 sh p0 M kk6 x1 x2)
  else (
  zjX9_squareRoot_23 sh p0 M kk6 (x1 + x2) x2))
def zlX9_squareRoot_6 (sh : zShp) (p0 : Int32) (M : zMem)  : Nat → Int32 → Int32 → Option (Int32)
  | 0 => fun _ _ => none
  | n + 1 => fun x1 x2 => zbX9_squareRoot_6 sh p0 M  (zlX9_squareRoot_6 sh p0 M  n) x1 x2
def zX9_squareRoot (sh : zShp) (p0 : Int32) (M : zMem) : Option (Int32) :=
  zlX9_squareRoot_6 sh p0 M zF (0 : Int32) (1024 : Int32)
set_option maxHeartbeats 4000000 in
set_option maxRecDepth 100000 in
theorem ztX9_squareRoot (l : Launch) (D : va_G) (cy : Nat → ClassId) (sh : zShp) (ad : Nat → Nat) {p0 : Int32}  {M : zMem} {r : Int32} (hd : zX9_squareRoot sh p0 M = some r) : zCI l yX9_squareRoot cX9_squareRoot 4 .int { frames := 0, cells := 0, slots := 0, locals := 0 } [.int p0] D cy sh ad M r M := by
  refine zci_of (by decide) (Nat.le_of_ble_eq_true rfl) (fun p e s m below meth c ls F hr hlk hl hw => ?_)
  have hx := F.1.1
  have hb := F.1.2.1
  have hl : lv_has ls 4 [(0, .int p0)] := hl
  have J23 : ∀ (kk6 : Int32 → Int32 → Option (Int32)) (hk6 : ∀ (x1 : Int32) (x2 : Int32) (H : Heap) (locs : List Loc) (ls : Array Slot), lv_has ls 4 [(0, .int p0), (1, .int x1), (2, .int x2)] → zWd D cy sh ad s M H locs → kk6 x1 x2 = some r → W p l e { frames := 0, cells := 0, slots := 0, locals := 0 } s m ([.int p0] : List Value).toArray below meth c H locs 0 0 (zQI below D cy sh ad s [.int p0] r M) (F0 m 6 ls [])), ∀ (x1 : Int32) (x2 : Int32) (H : Heap) (locs : List Loc) (ls : Array Slot), lv_has ls 4 [(0, .int p0), (1, .int x1), (2, .int x2)] → zWd D cy sh ad s M H locs → zjX9_squareRoot_23 sh p0 M kk6 x1 x2 = some r → W p l e { frames := 0, cells := 0, slots := 0, locals := 0 } s m ([.int p0] : List Value).toArray below meth c H locs 0 0 (zQI below D cy sh ad s [.int p0] r M) (F0 m 23 ls []) := by
    intro kk6 hk6 x1 x2 H locs ls hl hw hd
    unfold zjX9_squareRoot_23 at hd
    refine lv_iload_n hx hb dX9_squareRoot_23 rfl (lv_at hl 2 rfl) ?_
    refine lv_iconst (v := (1 : Int32)) hx hb dX9_squareRoot_24 (by decide) ?_
    refine lv_ishr hx hb dX9_squareRoot_25 ?_
    refine lv_topi (fun v_1 ev_1 => ?_)
    have hd := zbd_eq ev_1 hd
    refine lv_istore_n (lv' := [(2, .int v_1), (0, .int p0), (1, .int x1)]) hx hb dX9_squareRoot_26 rfl hl (by decide) rfl (fun ls hl => ?_)
    refine lv_goto (tgt := 6) hx hb dX9_squareRoot_27 (by decide) ?_
    exact hk6 _ _ _ _ _ (lv_sub hl [1, 2, 0] rfl) hw hd
  have L6 : ∀  (n : Nat), ∀ (x1 : Int32) (x2 : Int32) (H : Heap) (locs : List Loc) (ls : Array Slot), lv_has ls 4 [(0, .int p0), (1, .int x1), (2, .int x2)] → zWd D cy sh ad s M H locs → zlX9_squareRoot_6 sh p0 M  n x1 x2 = some r → W p l e { frames := 0, cells := 0, slots := 0, locals := 0 } s m ([.int p0] : List Value).toArray below meth c H locs 0 0 (zQI below D cy sh ad s [.int p0] r M) (F0 m 6 ls []) := by
    intro  n
    induction n with
    | zero => intro x1 x2 H locs ls hl hw hd; exact (znone hd).elim
    | succ n hk6 =>
      intro x1 x2 H locs ls hl hw hd
      have hd : zbX9_squareRoot_6 sh p0 M  (zlX9_squareRoot_6 sh p0 M  n) x1 x2 = some r := hd
      unfold zbX9_squareRoot_6 at hd
      refine lv_iload_n hx hb dX9_squareRoot_6 rfl (lv_at hl 2 rfl) ?_
      refine lv_if_le (tgt := 30) hx hb dX9_squareRoot_7 (by decide) (fun c_2 => ?_) (fun c_2 => ?_)
      · have hd := zif_pos c_2 hd
        refine lv_iload_n hx hb dX9_squareRoot_30 rfl (lv_at hl 1 rfl) ?_
        exact z_iret F hr hlk hw (Option.some.inj hd) rfl dX9_squareRoot_31
      · have hd := zif_neg c_2 hd
        refine lv_iload_n hx hb dX9_squareRoot_10 rfl (lv_at hl 1 rfl) ?_
        refine lv_iload_n hx hb dX9_squareRoot_11 rfl (lv_at hl 2 rfl) ?_
        refine lv_iadd hx hb dX9_squareRoot_12 ?_
        refine lv_istore_n (lv' := [(3, .int (x1 + x2)), (0, .int p0), (1, .int x1), (2, .int x2)]) hx hb dX9_squareRoot_13 rfl hl (by decide) rfl (fun ls hl => ?_)
        refine lv_iload_n hx hb dX9_squareRoot_14 rfl (lv_at hl 0 rfl) ?_
        refine lv_iload_n hx hb dX9_squareRoot_15 rfl (lv_at hl 0 rfl) ?_
        refine lv_imul hx hb dX9_squareRoot_16 ?_
        refine lv_iload_n hx hb dX9_squareRoot_17 rfl (lv_at hl 1 rfl) ?_
        refine lv_icmp_gt (tgt := 23) hx hb dX9_squareRoot_18 (by decide) (fun c_3 => ?_) (fun c_3 => ?_)
        · have hd := zif_pos c_3 hd
          exact J23 _ hk6 _ _ _ _ _ (lv_sub hl [1, 2, 3] rfl) hw hd
        · have hd := zif_neg c_3 hd
          refine lv_iload_n hx hb dX9_squareRoot_21 rfl (lv_at hl 0 rfl) ?_
          refine lv_istore_n (lv' := [(1, .int (x1 + x2)), (3, .int (x1 + x2)), (0, .int p0), (2, .int x2)]) hx hb dX9_squareRoot_22 rfl hl (by decide) rfl (fun ls hl => ?_)
          exact J23 _ hk6 _ _ _ _ _ (lv_sub hl [2, 0, 3] rfl) hw hd
  unfold zX9_squareRoot at hd
  refine lv_iconst (v := (0 : Int32)) hx hb dX9_squareRoot_0 (by decide) ?_
  refine lv_istore_n (lv' := [(1, .int (0 : Int32)), (0, .int p0)]) hx hb dX9_squareRoot_1 rfl hl (by decide) rfl (fun ls hl => ?_)
  refine lv_sipush (v := (1024 : Int32)) hx hb dX9_squareRoot_2 (by decide) ?_
  refine lv_istore_n (lv' := [(2, .int (1024 : Int32)), (1, .int (0 : Int32)), (0, .int p0)]) hx hb dX9_squareRoot_5 rfl hl (by decide) rfl (fun ls hl => ?_)
  exact L6 zF _ _ _ _ _ (lv_sub hl [2, 1, 0] rfl) hw hd

def zX9_rootAt (sh : zShp) (k0 : Nat) (p1 : Int32) (M : zMem) : Option (Int32) :=
  zob (zX9_wave sh k0 p1 M) fun r_2 =>
  zob (zX9_wave sh k0 (p1 + (64 : Int32)) M) fun r_4 =>
  zob (zX9_squareRoot sh ((r_2 * r_2) + (r_4 * r_4)) M) fun r_6 =>
  some r_6
set_option maxHeartbeats 4000000 in
set_option maxRecDepth 100000 in
theorem ztX9_rootAt (l : Launch) (D : va_G) (cy : Nat → ClassId) (sh : zShp) (ad : Nat → Nat) {k0 : Nat} {p1 : Int32} (h0 : zT sh k0 14) {M : zMem} {r : Int32} (hd : zX9_rootAt sh k0 p1 M = some r) : zCI l yX9_rootAt cX9_rootAt 4 .int { frames := 1, cells := 0, slots := 0, locals := 23 } [.ref (ad k0), .int p1] D cy sh ad M r M := by
  refine zci_of (by decide) (Nat.le_of_ble_eq_true rfl) (fun p e s m below meth c ls F hr hlk hl hw => ?_)
  have hx := F.1.1
  have hb := F.1.2.1
  have hl : lv_has ls 4 [(0, .ref (ad k0)), (1, .int p1)] := hl
  unfold zX9_rootAt at hd
  refine lv_aload_n hx hb dX9_rootAt_0 rfl (lv_at hl 0 rfl) ?_
  refine lv_iload_n hx hb dX9_rootAt_1 rfl (lv_at hl 1 rfl) ?_
  obtain ⟨r_2, hc_1, hd⟩ := zob_some hd
  refine z_csI F hw hl.1 (As := [.ref (ad k0), .int p1]) (rest := []) (ztX9_wave l D cy sh ad h0 hc_1) zyX9_wave zk9_32 ⟨rfl, rfl⟩ ⟨by decide, by decide⟩ rfl rfl (Nat.le_of_ble_eq_true rfl) dX9_rootAt_2 (fun H locs hw => ?_)
  refine lv_istore_n (lv' := [(2, .int r_2), (0, .ref (ad k0)), (1, .int p1)]) hx hb dX9_rootAt_5 rfl hl (by decide) rfl (fun ls hl => ?_)
  refine lv_aload_n hx hb dX9_rootAt_6 rfl (lv_at hl 1 rfl) ?_
  refine lv_iload_n hx hb dX9_rootAt_7 rfl (lv_at hl 2 rfl) ?_
  refine lv_bipush (v := (64 : Int32)) hx hb dX9_rootAt_8 (by decide) ?_
  refine lv_iadd hx hb dX9_rootAt_10 ?_
  obtain ⟨r_4, hc_3, hd⟩ := zob_some hd
  refine z_csI F hw hl.1 (As := [.ref (ad k0), .int (p1 + (64 : Int32))]) (rest := []) (ztX9_wave l D cy sh ad h0 hc_3) zyX9_wave zk9_32 ⟨rfl, rfl⟩ ⟨by decide, by decide⟩ rfl rfl (Nat.le_of_ble_eq_true rfl) dX9_rootAt_11 (fun H locs hw => ?_)
  refine lv_istore_n (lv' := [(3, .int r_4), (2, .int r_2), (0, .ref (ad k0)), (1, .int p1)]) hx hb dX9_rootAt_14 rfl hl (by decide) rfl (fun ls hl => ?_)
  refine lv_iload_n hx hb dX9_rootAt_15 rfl (lv_at hl 1 rfl) ?_
  refine lv_iload_n hx hb dX9_rootAt_16 rfl (lv_at hl 1 rfl) ?_
  refine lv_imul hx hb dX9_rootAt_17 ?_
  refine lv_iload_n hx hb dX9_rootAt_18 rfl (lv_at hl 0 rfl) ?_
  refine lv_iload_n hx hb dX9_rootAt_19 rfl (lv_at hl 0 rfl) ?_
  refine lv_imul hx hb dX9_rootAt_20 ?_
  refine lv_iadd hx hb dX9_rootAt_21 ?_
  obtain ⟨r_6, hc_5, hd⟩ := zob_some hd
  refine z_csI F hw hl.1 (As := [.int ((r_2 * r_2) + (r_4 * r_4))]) (rest := []) (ztX9_squareRoot l D cy sh ad  hc_5) zyX9_squareRoot zk9_36 ⟨rfl, rfl⟩ ⟨by decide, by decide⟩ rfl rfl (Nat.le_of_ble_eq_true rfl) dX9_rootAt_22 (fun H locs hw => ?_)
  exact z_iret F hr hlk hw (Option.some.inj hd) rfl dX9_rootAt_25

def zjX9_rootsOf_39 (sh : zShp) (k0 : Nat) (p1 : Int32) (M : zMem) (kk11 : Int32 → Int32 → Int32 → Int32 → Option (Int32)) (x2 : Int32) (x3 : Int32) (x4 : Int32) (x5 : Int32) (x6 : Int32) : Option (Int32) :=
  kk11 x2 (zmax x3 x6) x4 (x5 + (1 : Int32))
def zbX9_rootsOf_11 (sh : zShp) (k0 : Nat) (p1 : Int32) (M : zMem)  (kk11 : Int32 → Int32 → Int32 → Int32 → Option (Int32)) (x2 : Int32) (x3 : Int32) (x4 : Int32) (x5 : Int32) : Option (Int32) :=
  if (64 : Int32) ≤ x5 then (
  if p1 = (0 : Int32) then (
  some x2)
  else if p1 = (1 : Int32) then (
  some x3)
  else if p1 = (2 : Int32) then (
  some x4)
  else (
  some (-1 : Int32)))
  else (
  zob (zX9_rootAt sh k0 x5 M) fun r_6 =>
  if x2 ≤ r_6 then (
  zjX9_rootsOf_39 sh k0 p1 M kk11 x2 x3 x4 x5 r_6)
  else (
  zjX9_rootsOf_39 sh k0 p1 M kk11 r_6 x3 x5 x5 r_6))
def zlX9_rootsOf_11 (sh : zShp) (k0 : Nat) (p1 : Int32) (M : zMem)  : Nat → Int32 → Int32 → Int32 → Int32 → Option (Int32)
  | 0 => fun _ _ _ _ => none
  | n + 1 => fun x2 x3 x4 x5 => zbX9_rootsOf_11 sh k0 p1 M  (zlX9_rootsOf_11 sh k0 p1 M  n) x2 x3 x4 x5
def zX9_rootsOf (sh : zShp) (k0 : Nat) (p1 : Int32) (M : zMem) : Option (Int32) :=
  zlX9_rootsOf_11 sh k0 p1 M zF (2147483647 : Int32) (0 : Int32) (0 : Int32) (0 : Int32)
set_option maxHeartbeats 4000000 in
set_option maxRecDepth 100000 in
theorem ztX9_rootsOf (l : Launch) (D : va_G) (cy : Nat → ClassId) (sh : zShp) (ad : Nat → Nat) {k0 : Nat} {p1 : Int32} (h0 : zT sh k0 14) {M : zMem} {r : Int32} (hd : zX9_rootsOf sh k0 p1 M = some r) : zCI l yX9_rootsOf cX9_rootsOf 7 .int { frames := 2, cells := 0, slots := 0, locals := 46 } [.ref (ad k0), .int p1] D cy sh ad M r M := by
  refine zci_of (by decide) (Nat.le_of_ble_eq_true rfl) (fun p e s m below meth c ls F hr hlk hl hw => ?_)
  have hx := F.1.1
  have hb := F.1.2.1
  have hl : lv_has ls 7 [(0, .ref (ad k0)), (1, .int p1)] := hl
  have J39 : ∀ (kk11 : Int32 → Int32 → Int32 → Int32 → Option (Int32)) (hk11 : ∀ (x2 : Int32) (x3 : Int32) (x4 : Int32) (x5 : Int32) (H : Heap) (locs : List Loc) (ls : Array Slot), lv_has ls 7 [(0, .ref (ad k0)), (1, .int p1), (2, .int x2), (3, .int x3), (4, .int x4), (5, .int x5)] → zWd D cy sh ad s M H locs → kk11 x2 x3 x4 x5 = some r → W p l e { frames := 2, cells := 0, slots := 0, locals := 46 } s m ([.ref (ad k0), .int p1] : List Value).toArray below meth c H locs 0 0 (zQI below D cy sh ad s [.ref (ad k0), .int p1] r M) (F0 m 11 ls [])), ∀ (x2 : Int32) (x3 : Int32) (x4 : Int32) (x5 : Int32) (x6 : Int32) (H : Heap) (locs : List Loc) (ls : Array Slot), lv_has ls 7 [(0, .ref (ad k0)), (1, .int p1), (2, .int x2), (3, .int x3), (4, .int x4), (5, .int x5), (6, .int x6)] → zWd D cy sh ad s M H locs → zjX9_rootsOf_39 sh k0 p1 M kk11 x2 x3 x4 x5 x6 = some r → W p l e { frames := 2, cells := 0, slots := 0, locals := 46 } s m ([.ref (ad k0), .int p1] : List Value).toArray below meth c H locs 0 0 (zQI below D cy sh ad s [.ref (ad k0), .int p1] r M) (F0 m 39 ls []) := by
    intro kk11 hk11 x2 x3 x4 x5 x6 H locs ls hl hw hd
    unfold zjX9_rootsOf_39 at hd
    refine lv_iload_n hx hb dX9_rootsOf_39 rfl (lv_at hl 3 rfl) ?_
    refine lv_iload hx hb dX9_rootsOf_40 (lv_at hl 6 rfl) ?_
    refine z_mmax F hl.1 zk9_46 (by decide) (Nat.le_of_ble_eq_true rfl) dX9_rootsOf_42 ?_
    refine lv_istore_n (lv' := [(3, .int (zmax x3 x6)), (0, .ref (ad k0)), (1, .int p1), (2, .int x2), (4, .int x4), (5, .int x5), (6, .int x6)]) hx hb dX9_rootsOf_45 rfl hl (by decide) rfl (fun ls hl => ?_)
    refine lv_iinc (v := (x5 + (1 : Int32))) (lv' := [(5, .int (x5 + (1 : Int32))), (3, .int (zmax x3 x6)), (0, .ref (ad k0)), (1, .int p1), (2, .int x2), (4, .int x4), (6, .int x6)]) hx hb dX9_rootsOf_46 hl (k := 5) rfl (ziinc (by decide)) (by decide) rfl (fun ls hl => ?_)
    refine lv_goto (tgt := 11) hx hb dX9_rootsOf_49 (by decide) ?_
    exact hk11 _ _ _ _ _ _ _ (lv_sub hl [2, 3, 4, 1, 5, 0] rfl) hw hd
  have L11 : ∀  (n : Nat), ∀ (x2 : Int32) (x3 : Int32) (x4 : Int32) (x5 : Int32) (H : Heap) (locs : List Loc) (ls : Array Slot), lv_has ls 7 [(0, .ref (ad k0)), (1, .int p1), (2, .int x2), (3, .int x3), (4, .int x4), (5, .int x5)] → zWd D cy sh ad s M H locs → zlX9_rootsOf_11 sh k0 p1 M  n x2 x3 x4 x5 = some r → W p l e { frames := 2, cells := 0, slots := 0, locals := 46 } s m ([.ref (ad k0), .int p1] : List Value).toArray below meth c H locs 0 0 (zQI below D cy sh ad s [.ref (ad k0), .int p1] r M) (F0 m 11 ls []) := by
    intro  n
    induction n with
    | zero => intro x2 x3 x4 x5 H locs ls hl hw hd; exact (znone hd).elim
    | succ n hk11 =>
      intro x2 x3 x4 x5 H locs ls hl hw hd
      have hd : zbX9_rootsOf_11 sh k0 p1 M  (zlX9_rootsOf_11 sh k0 p1 M  n) x2 x3 x4 x5 = some r := hd
      unfold zbX9_rootsOf_11 at hd
      refine lv_iload hx hb dX9_rootsOf_11 (lv_at hl 5 rfl) ?_
      refine lv_bipush (v := (64 : Int32)) hx hb dX9_rootsOf_13 (by decide) ?_
      refine lv_icmp_ge (tgt := 52) hx hb dX9_rootsOf_15 (by decide) (fun c_1 => ?_) (fun c_1 => ?_)
      · have hd := zif_pos c_1 hd
        refine lv_iload_n hx hb dX9_rootsOf_52 rfl (lv_at hl 1 rfl) ?_
        by_cases c_2 : p1 = (0 : Int32)
        · have hd := zif_pos c_2 hd
          refine lv_tableIn (tgt := 80) (off := 27) hx hb dX9_rootsOf_53 (by rw [c_2]; decide) (by rw [c_2]; decide) (by rw [c_2]; decide) (by decide) ?_
          refine lv_iload_n hx hb dX9_rootsOf_80 rfl (lv_at hl 2 rfl) ?_
          exact z_iret F hr hlk hw (Option.some.inj hd) rfl dX9_rootsOf_81
        have hd := zif_neg c_2 hd
        by_cases c_3 : p1 = (1 : Int32)
        · have hd := zif_pos c_3 hd
          refine lv_tableIn (tgt := 82) (off := 29) hx hb dX9_rootsOf_53 (by rw [c_3]; decide) (by rw [c_3]; decide) (by rw [c_3]; decide) (by decide) ?_
          refine lv_iload_n hx hb dX9_rootsOf_82 rfl (lv_at hl 3 rfl) ?_
          exact z_iret F hr hlk hw (Option.some.inj hd) rfl dX9_rootsOf_83
        have hd := zif_neg c_3 hd
        by_cases c_4 : p1 = (2 : Int32)
        · have hd := zif_pos c_4 hd
          refine lv_tableIn (tgt := 84) (off := 31) hx hb dX9_rootsOf_53 (by rw [c_4]; decide) (by rw [c_4]; decide) (by rw [c_4]; decide) (by decide) ?_
          refine lv_iload hx hb dX9_rootsOf_84 (lv_at hl 4 rfl) ?_
          exact z_iret F hr hlk hw (Option.some.inj hd) rfl dX9_rootsOf_86
        have hd := zif_neg c_4 hd
        have nc_2 := zne c_2 (a := 0) (by decide)
        have nc_3 := zne c_3 (a := 1) (by decide)
        have nc_4 := zne c_4 (a := 2) (by decide)
        refine lv_tableOut (tgt := 87) hx hb dX9_rootsOf_53 (by omega) (by decide) ?_
        refine lv_iconst (v := (-1 : Int32)) hx hb dX9_rootsOf_87 (by decide) ?_
        exact z_iret F hr hlk hw (Option.some.inj hd) rfl dX9_rootsOf_88
      · have hd := zif_neg c_1 hd
        refine lv_aload_n hx hb dX9_rootsOf_18 rfl (lv_at hl 0 rfl) ?_
        refine lv_iload hx hb dX9_rootsOf_19 (lv_at hl 5 rfl) ?_
        obtain ⟨r_6, hc_5, hd⟩ := zob_some hd
        refine z_csI F hw hl.1 (As := [.ref (ad k0), .int x5]) (rest := []) (ztX9_rootAt l D cy sh ad h0 hc_5) zyX9_rootAt zk9_43 ⟨rfl, rfl⟩ ⟨by decide, by decide⟩ rfl rfl (Nat.le_of_ble_eq_true rfl) dX9_rootsOf_21 (fun H locs hw => ?_)
        refine lv_istore (lv' := [(6, .int r_6), (0, .ref (ad k0)), (1, .int p1), (2, .int x2), (3, .int x3), (4, .int x4), (5, .int x5)]) hx hb dX9_rootsOf_24 hl (by decide) rfl (fun ls hl => ?_)
        refine lv_iload hx hb dX9_rootsOf_26 (lv_at hl 0 rfl) ?_
        refine lv_iload_n hx hb dX9_rootsOf_28 rfl (lv_at hl 3 rfl) ?_
        refine lv_icmp_ge (tgt := 39) hx hb dX9_rootsOf_29 (by decide) (fun c_7 => ?_) (fun c_7 => ?_)
        · have hd := zif_pos c_7 hd
          exact J39 _ hk11 _ _ _ _ _ _ _ _ (lv_sub hl [1, 2, 3, 4, 5, 6, 0] rfl) hw hd
        · have hd := zif_neg c_7 hd
          refine lv_iload hx hb dX9_rootsOf_32 (lv_at hl 0 rfl) ?_
          refine lv_istore_n (lv' := [(2, .int r_6), (6, .int r_6), (0, .ref (ad k0)), (1, .int p1), (3, .int x3), (4, .int x4), (5, .int x5)]) hx hb dX9_rootsOf_34 rfl hl (by decide) rfl (fun ls hl => ?_)
          refine lv_iload hx hb dX9_rootsOf_35 (lv_at hl 6 rfl) ?_
          refine lv_istore (lv' := [(4, .int x5), (2, .int r_6), (6, .int r_6), (0, .ref (ad k0)), (1, .int p1), (3, .int x3), (5, .int x5)]) hx hb dX9_rootsOf_37 hl (by decide) rfl (fun ls hl => ?_)
          exact J39 _ hk11 _ _ _ _ _ _ _ _ (lv_sub hl [3, 4, 1, 5, 0, 6, 2] rfl) hw hd
  unfold zX9_rootsOf at hd
  refine lv_ldc (v := (2147483647 : Int32)) hx hb F.1.2.2.2.1 (F.1.2.2.2.2 _ zi9_42) dX9_rootsOf_0 ?_
  refine lv_istore_n (lv' := [(2, .int (2147483647 : Int32)), (0, .ref (ad k0)), (1, .int p1)]) hx hb dX9_rootsOf_2 rfl hl (by decide) rfl (fun ls hl => ?_)
  refine lv_iconst (v := (0 : Int32)) hx hb dX9_rootsOf_3 (by decide) ?_
  refine lv_istore_n (lv' := [(3, .int (0 : Int32)), (2, .int (2147483647 : Int32)), (0, .ref (ad k0)), (1, .int p1)]) hx hb dX9_rootsOf_4 rfl hl (by decide) rfl (fun ls hl => ?_)
  refine lv_iconst (v := (0 : Int32)) hx hb dX9_rootsOf_5 (by decide) ?_
  refine lv_istore (lv' := [(4, .int (0 : Int32)), (3, .int (0 : Int32)), (2, .int (2147483647 : Int32)), (0, .ref (ad k0)), (1, .int p1)]) hx hb dX9_rootsOf_6 hl (by decide) rfl (fun ls hl => ?_)
  refine lv_iconst (v := (0 : Int32)) hx hb dX9_rootsOf_8 (by decide) ?_
  refine lv_istore (lv' := [(5, .int (0 : Int32)), (4, .int (0 : Int32)), (3, .int (0 : Int32)), (2, .int (2147483647 : Int32)), (0, .ref (ad k0)), (1, .int p1)]) hx hb dX9_rootsOf_9 hl (by decide) rfl (fun ls hl => ?_)
  exact L11 zF _ _ _ _ _ _ _ (lv_sub hl [4, 5, 3, 2, 1, 0] rfl) hw hd

def zjX9_bestAt_100 (sh : zShp) (k0 : Nat) (k1 : Nat) (p2 : Int32)  (x3 : Int32) (x4 : Int32) (M : zMem) : Option (Int32 × zMem) :=
  zgd (zin p2 (zlen sh k1)) <|
  zbd (zpI M k1 (p2.toNatClampNeg) x3) fun M_2 =>
  some (x4, M_2)
def zjX9_bestAt_94 (sh : zShp) (k0 : Nat) (k1 : Nat) (p2 : Int32) (kk14 : Int32 → Int32 → Int32 → Int32 → zMem → Option (Int32 × zMem)) (x3 : Int32) (x4 : Int32) (x5 : Int32) (x6 : Int32) (M : zMem) : Option (Int32 × zMem) :=
  kk14 x3 x4 x5 (x6 + (1 : Int32)) M
def zjX9_bestAt_51 (sh : zShp) (k0 : Nat) (k1 : Nat) (p2 : Int32) (kk14 : Int32 → Int32 → Int32 → Int32 → zMem → Option (Int32 × zMem)) (x3 : Int32) (x4 : Int32) (x5 : Int32) (x6 : Int32) (s0 : Int32) (M : zMem) : Option (Int32 × zMem) :=
  zgd (zin p2 (zlen sh (zR M k0 0))) <|
  zgd (zin p2 (zlen sh k1)) <|
  zbd (zpI M k1 (p2.toNatClampNeg) ((zI M (zR M k0 0) p2.toNatClampNeg) + s0)) fun M_6 =>
  zob (zX9_rootAt sh k1 p2 M_6) fun r_8 =>
  zbd ((zabs (r_8 - (1000 : Int32)))) fun v_9 =>
  if x5 ≤ v_9 then (
  zjX9_bestAt_94 sh k0 k1 p2 kk14 x3 x4 x5 x6 M_6)
  else (
  zjX9_bestAt_94 sh k0 k1 p2 kk14 x3 s0 v_9 x6 M_6)
def zbX9_bestAt_14 (sh : zShp) (k0 : Nat) (k1 : Nat) (p2 : Int32)  (kk14 : Int32 → Int32 → Int32 → Int32 → zMem → Option (Int32 × zMem)) (x3 : Int32) (x4 : Int32) (x5 : Int32) (x6 : Int32) (M : zMem) : Option (Int32 × zMem) :=
  if (400 : Int32) < x6 then (
  zjX9_bestAt_100 sh k0 k1 p2 x3 x4 M)
  else (
  if x5 ≤ 0 then (
  zjX9_bestAt_100 sh k0 k1 p2 x3 x4 M)
  else (
  zbd (((x6 + (1 : Int32)) / (2 : Int32))) fun v_13 =>
  if (x6 &&& (1 : Int32)) = (1 : Int32) then (
  zjX9_bestAt_51 sh k0 k1 p2 kk14 x3 x4 x5 x6 (-v_13) M)
  else (
  zjX9_bestAt_51 sh k0 k1 p2 kk14 x3 x4 x5 x6 v_13 M)))
def zlX9_bestAt_14 (sh : zShp) (k0 : Nat) (k1 : Nat) (p2 : Int32)  : Nat → Int32 → Int32 → Int32 → Int32 → zMem → Option (Int32 × zMem)
  | 0 => fun _ _ _ _ _ => none
  | n + 1 => fun x3 x4 x5 x6 M => zbX9_bestAt_14 sh k0 k1 p2  (zlX9_bestAt_14 sh k0 k1 p2  n) x3 x4 x5 x6 M
def zX9_bestAt (sh : zShp) (k0 : Nat) (k1 : Nat) (p2 : Int32) (M : zMem) : Option (Int32 × zMem) :=
  zgd (zin p2 (zlen sh k1)) <|
  zlX9_bestAt_14 sh k0 k1 p2 zF (zI M k1 p2.toNatClampNeg) (0 : Int32) (2147483647 : Int32) (0 : Int32) M
set_option maxHeartbeats 4000000 in
set_option maxRecDepth 100000 in
theorem ztX9_bestAt (l : Launch) (D : va_G) (cy : Nat → ClassId) (sh : zShp) (ad : Nat → Nat) {k0 : Nat} {k1 : Nat} {p2 : Int32} (h0 : zT sh k0 9) (h1 : zT sh k1 14) {M : zMem} {r : Int32} {M1 : zMem} (hd : zX9_bestAt sh k0 k1 p2 M = some (r, M1)) : zCI l yX9_bestAt cX9_bestAt 10 .int { frames := 2, cells := 0, slots := 0, locals := 46 } [.ref (ad k0), .ref (ad k1), .int p2] D cy sh ad M r M1 := by
  refine zci_of (by decide) (Nat.le_of_ble_eq_true rfl) (fun p e s m below meth c ls F hr hlk hl hw => ?_)
  have hx := F.1.1
  have hb := F.1.2.1
  have hl : lv_has ls 10 [(0, .ref (ad k0)), (1, .ref (ad k1)), (2, .int p2)] := hl
  have J100 : ∀ (x3 : Int32) (x4 : Int32) (M : zMem) (H : Heap) (locs : List Loc) (ls : Array Slot), lv_has ls 10 [(1, .ref (ad k1)), (2, .int p2), (3, .int x3), (4, .int x4)] → zWd D cy sh ad s M H locs → zjX9_bestAt_100 sh k0 k1 p2  x3 x4 M = some (r, M1) → W p l e { frames := 2, cells := 0, slots := 0, locals := 46 } s m ([.ref (ad k0), .ref (ad k1), .int p2] : List Value).toArray below meth c H locs 0 0 (zQI below D cy sh ad s [.ref (ad k0), .ref (ad k1), .int p2] r M1) (F0 m 100 ls []) := by
    intro  x3 x4 M H locs ls hl hw hd
    unfold zjX9_bestAt_100 at hd
    refine lv_aload_n hx hb dX9_bestAt_100 rfl (lv_at hl 0 rfl) ?_
    refine lv_iload_n hx hb dX9_bestAt_101 rfl (lv_at hl 1 rfl) ?_
    refine lv_iload_n hx hb dX9_bestAt_102 rfl (lv_at hl 2 rfl) ?_
    obtain ⟨g_1, hd⟩ := zgd_some hd
    refine z_iast F hw h1 g_1 dX9_bestAt_103 (fun H locs M_2 eM_2 hw => ?_)
    have hd := zbd_eq eM_2 hd
    refine lv_iload hx hb dX9_bestAt_104 (lv_at hl 3 rfl) ?_
    exact z_iret F hr hlk hw (zpr1 hd) (zpr2 hd) dX9_bestAt_106
  have J94 : ∀ (kk14 : Int32 → Int32 → Int32 → Int32 → zMem → Option (Int32 × zMem)) (hk14 : ∀ (x3 : Int32) (x4 : Int32) (x5 : Int32) (x6 : Int32) (M : zMem) (H : Heap) (locs : List Loc) (ls : Array Slot), lv_has ls 10 [(0, .ref (ad k0)), (1, .ref (ad k1)), (2, .int p2), (3, .int x3), (4, .int x4), (5, .int x5), (6, .int x6)] → zWd D cy sh ad s M H locs → kk14 x3 x4 x5 x6 M = some (r, M1) → W p l e { frames := 2, cells := 0, slots := 0, locals := 46 } s m ([.ref (ad k0), .ref (ad k1), .int p2] : List Value).toArray below meth c H locs 0 0 (zQI below D cy sh ad s [.ref (ad k0), .ref (ad k1), .int p2] r M1) (F0 m 14 ls [])), ∀ (x3 : Int32) (x4 : Int32) (x5 : Int32) (x6 : Int32) (M : zMem) (H : Heap) (locs : List Loc) (ls : Array Slot), lv_has ls 10 [(0, .ref (ad k0)), (1, .ref (ad k1)), (2, .int p2), (3, .int x3), (4, .int x4), (5, .int x5), (6, .int x6)] → zWd D cy sh ad s M H locs → zjX9_bestAt_94 sh k0 k1 p2 kk14 x3 x4 x5 x6 M = some (r, M1) → W p l e { frames := 2, cells := 0, slots := 0, locals := 46 } s m ([.ref (ad k0), .ref (ad k1), .int p2] : List Value).toArray below meth c H locs 0 0 (zQI below D cy sh ad s [.ref (ad k0), .ref (ad k1), .int p2] r M1) (F0 m 94 ls []) := by
    intro kk14 hk14 x3 x4 x5 x6 M H locs ls hl hw hd
    unfold zjX9_bestAt_94 at hd
    refine lv_iinc (v := (x6 + (1 : Int32))) (lv' := [(6, .int (x6 + (1 : Int32))), (0, .ref (ad k0)), (1, .ref (ad k1)), (2, .int p2), (3, .int x3), (4, .int x4), (5, .int x5)]) hx hb dX9_bestAt_94 hl (k := 6) rfl (ziinc (by decide)) (by decide) rfl (fun ls hl => ?_)
    refine lv_goto (tgt := 14) hx hb dX9_bestAt_97 (by decide) ?_
    exact hk14 _ _ _ _ _ _ _ _ (lv_sub hl [1, 2, 3, 4, 5, 6, 0] rfl) hw hd
  have J51 : ∀ (kk14 : Int32 → Int32 → Int32 → Int32 → zMem → Option (Int32 × zMem)) (hk14 : ∀ (x3 : Int32) (x4 : Int32) (x5 : Int32) (x6 : Int32) (M : zMem) (H : Heap) (locs : List Loc) (ls : Array Slot), lv_has ls 10 [(0, .ref (ad k0)), (1, .ref (ad k1)), (2, .int p2), (3, .int x3), (4, .int x4), (5, .int x5), (6, .int x6)] → zWd D cy sh ad s M H locs → kk14 x3 x4 x5 x6 M = some (r, M1) → W p l e { frames := 2, cells := 0, slots := 0, locals := 46 } s m ([.ref (ad k0), .ref (ad k1), .int p2] : List Value).toArray below meth c H locs 0 0 (zQI below D cy sh ad s [.ref (ad k0), .ref (ad k1), .int p2] r M1) (F0 m 14 ls [])), ∀ (x3 : Int32) (x4 : Int32) (x5 : Int32) (x6 : Int32) (s0 : Int32) (M : zMem) (H : Heap) (locs : List Loc) (ls : Array Slot), lv_has ls 10 [(0, .ref (ad k0)), (1, .ref (ad k1)), (2, .int p2), (3, .int x3), (4, .int x4), (5, .int x5), (6, .int x6)] → zWd D cy sh ad s M H locs → zjX9_bestAt_51 sh k0 k1 p2 kk14 x3 x4 x5 x6 s0 M = some (r, M1) → W p l e { frames := 2, cells := 0, slots := 0, locals := 46 } s m ([.ref (ad k0), .ref (ad k1), .int p2] : List Value).toArray below meth c H locs 0 0 (zQI below D cy sh ad s [.ref (ad k0), .ref (ad k1), .int p2] r M1) (F0 m 51 ls [.int s0]) := by
    intro kk14 hk14 x3 x4 x5 x6 s0 M H locs ls hl hw hd
    unfold zjX9_bestAt_51 at hd
    refine lv_istore (lv' := [(8, .int s0), (0, .ref (ad k0)), (1, .ref (ad k1)), (2, .int p2), (3, .int x3), (4, .int x4), (5, .int x5), (6, .int x6)]) hx hb dX9_bestAt_51 hl (by decide) rfl (fun ls hl => ?_)
    refine lv_aload_n hx hb dX9_bestAt_53 rfl (lv_at hl 2 rfl) ?_
    refine lv_iload_n hx hb dX9_bestAt_54 rfl (lv_at hl 3 rfl) ?_
    refine lv_aload_n hx hb dX9_bestAt_55 rfl (lv_at hl 1 rfl) ?_
    refine z_gR F hw h0 zc9 0 (by decide) rfl zf9_9 dX9_bestAt_56 ?_
    have t_3 : zT sh (zR M k0 0) 14 := hw.2.2.2.fld h0 0 14
    refine lv_iload_n hx hb dX9_bestAt_59 rfl (lv_at hl 3 rfl) ?_
    obtain ⟨g_4, hd⟩ := zgd_some hd
    refine z_iald F hw t_3 g_4 dX9_bestAt_60 ?_
    refine lv_iload hx hb dX9_bestAt_61 (lv_at hl 0 rfl) ?_
    refine lv_iadd hx hb dX9_bestAt_63 ?_
    obtain ⟨g_5, hd⟩ := zgd_some hd
    refine z_iast F hw h1 g_5 dX9_bestAt_64 (fun H locs M_6 eM_6 hw => ?_)
    have hd := zbd_eq eM_6 hd
    refine lv_aload_n hx hb dX9_bestAt_65 rfl (lv_at hl 2 rfl) ?_
    refine lv_iload_n hx hb dX9_bestAt_66 rfl (lv_at hl 3 rfl) ?_
    obtain ⟨r_8, hc_7, hd⟩ := zob_some hd
    refine z_csI F hw hl.1 (As := [.ref (ad k1), .int p2]) (rest := []) (ztX9_rootAt l D cy sh ad h1 hc_7) zyX9_rootAt zk9_43 ⟨rfl, rfl⟩ ⟨by decide, by decide⟩ rfl rfl (Nat.le_of_ble_eq_true rfl) dX9_bestAt_67 (fun H locs hw => ?_)
    refine lv_sipush (v := (1000 : Int32)) hx hb dX9_bestAt_70 (by decide) ?_
    refine lv_isub hx hb dX9_bestAt_73 ?_
    refine z_mabs F hl.1 zk9_52 (by decide) (Nat.le_of_ble_eq_true rfl) dX9_bestAt_74 ?_
    refine lv_topi (fun v_9 ev_9 => ?_)
    have hd := zbd_eq ev_9 hd
    refine lv_istore (lv' := [(9, .int v_9), (8, .int s0), (0, .ref (ad k0)), (1, .ref (ad k1)), (2, .int p2), (3, .int x3), (4, .int x4), (5, .int x5), (6, .int x6)]) hx hb dX9_bestAt_77 hl (by decide) rfl (fun ls hl => ?_)
    refine lv_iload hx hb dX9_bestAt_79 (lv_at hl 0 rfl) ?_
    refine lv_iload hx hb dX9_bestAt_81 (lv_at hl 7 rfl) ?_
    refine lv_icmp_ge (tgt := 94) hx hb dX9_bestAt_83 (by decide) (fun c_10 => ?_) (fun c_10 => ?_)
    · have hd := zif_pos c_10 hd
      exact J94 _ hk14 _ _ _ _ _ _ _ _ (lv_sub hl [2, 3, 4, 5, 6, 7, 8] rfl) hw hd
    · have hd := zif_neg c_10 hd
      refine lv_iload hx hb dX9_bestAt_86 (lv_at hl 0 rfl) ?_
      refine lv_istore (lv' := [(5, .int v_9), (9, .int v_9), (8, .int s0), (0, .ref (ad k0)), (1, .ref (ad k1)), (2, .int p2), (3, .int x3), (4, .int x4), (6, .int x6)]) hx hb dX9_bestAt_88 hl (by decide) rfl (fun ls hl => ?_)
      refine lv_iload hx hb dX9_bestAt_90 (lv_at hl 2 rfl) ?_
      refine lv_istore (lv' := [(4, .int s0), (5, .int v_9), (9, .int v_9), (8, .int s0), (0, .ref (ad k0)), (1, .ref (ad k1)), (2, .int p2), (3, .int x3), (6, .int x6)]) hx hb dX9_bestAt_92 hl (by decide) rfl (fun ls hl => ?_)
      exact J94 _ hk14 _ _ _ _ _ _ _ _ (lv_sub hl [4, 5, 6, 7, 0, 1, 8] rfl) hw hd
  have L14 : ∀  (n : Nat), ∀ (x3 : Int32) (x4 : Int32) (x5 : Int32) (x6 : Int32) (M : zMem) (H : Heap) (locs : List Loc) (ls : Array Slot), lv_has ls 10 [(0, .ref (ad k0)), (1, .ref (ad k1)), (2, .int p2), (3, .int x3), (4, .int x4), (5, .int x5), (6, .int x6)] → zWd D cy sh ad s M H locs → zlX9_bestAt_14 sh k0 k1 p2  n x3 x4 x5 x6 M = some (r, M1) → W p l e { frames := 2, cells := 0, slots := 0, locals := 46 } s m ([.ref (ad k0), .ref (ad k1), .int p2] : List Value).toArray below meth c H locs 0 0 (zQI below D cy sh ad s [.ref (ad k0), .ref (ad k1), .int p2] r M1) (F0 m 14 ls []) := by
    intro  n
    induction n with
    | zero => intro x3 x4 x5 x6 M H locs ls hl hw hd; exact (znone hd).elim
    | succ n hk14 =>
      intro x3 x4 x5 x6 M H locs ls hl hw hd
      have hd : zbX9_bestAt_14 sh k0 k1 p2  (zlX9_bestAt_14 sh k0 k1 p2  n) x3 x4 x5 x6 M = some (r, M1) := hd
      unfold zbX9_bestAt_14 at hd
      refine lv_iload hx hb dX9_bestAt_14 (lv_at hl 6 rfl) ?_
      refine lv_sipush (v := (400 : Int32)) hx hb dX9_bestAt_16 (by decide) ?_
      refine lv_icmp_gt (tgt := 100) hx hb dX9_bestAt_19 (by decide) (fun c_11 => ?_) (fun c_11 => ?_)
      · have hd := zif_pos c_11 hd
        exact J100 _ _ _ _ _ _ (lv_sub hl [1, 2, 3, 4] rfl) hw hd
      · have hd := zif_neg c_11 hd
        refine lv_iload hx hb dX9_bestAt_22 (lv_at hl 5 rfl) ?_
        refine lv_if_le (tgt := 100) hx hb dX9_bestAt_24 (by decide) (fun c_12 => ?_) (fun c_12 => ?_)
        · have hd := zif_pos c_12 hd
          exact J100 _ _ _ _ _ _ (lv_sub hl [1, 2, 3, 4] rfl) hw hd
        · have hd := zif_neg c_12 hd
          refine lv_iload hx hb dX9_bestAt_27 (lv_at hl 6 rfl) ?_
          refine lv_iconst (v := (1 : Int32)) hx hb dX9_bestAt_29 (by decide) ?_
          refine lv_iadd hx hb dX9_bestAt_30 ?_
          refine lv_iconst (v := (2 : Int32)) hx hb dX9_bestAt_31 (by decide) ?_
          refine lv_idiv hx hb dX9_bestAt_32 (by decide) ?_
          refine lv_topi (fun v_13 ev_13 => ?_)
          have hd := zbd_eq ev_13 hd
          refine lv_istore (lv' := [(7, .int v_13), (0, .ref (ad k0)), (1, .ref (ad k1)), (2, .int p2), (3, .int x3), (4, .int x4), (5, .int x5), (6, .int x6)]) hx hb dX9_bestAt_33 hl (by decide) rfl (fun ls hl => ?_)
          refine lv_iload hx hb dX9_bestAt_35 (lv_at hl 7 rfl) ?_
          refine lv_iconst (v := (1 : Int32)) hx hb dX9_bestAt_37 (by decide) ?_
          refine lv_iand hx hb dX9_bestAt_38 ?_
          refine lv_iconst (v := (1 : Int32)) hx hb dX9_bestAt_39 (by decide) ?_
          refine lv_icmp_ne (tgt := 49) hx hb dX9_bestAt_40 (by decide) (fun c_14 => ?_) (fun c_14 => ?_)
          · have hd := zif_neg c_14 hd
            refine lv_iload hx hb dX9_bestAt_49 (lv_at hl 0 rfl) ?_
            exact J51 _ hk14 _ _ _ _ _ _ _ _ _ (lv_sub hl [1, 2, 3, 4, 5, 6, 7] rfl) hw hd
          · have hd := zif_pos c_14 hd
            refine lv_iload hx hb dX9_bestAt_43 (lv_at hl 0 rfl) ?_
            refine lv_ineg hx hb dX9_bestAt_45 ?_
            refine lv_goto (tgt := 51) hx hb dX9_bestAt_46 (by decide) ?_
            exact J51 _ hk14 _ _ _ _ _ _ _ _ _ (lv_sub hl [1, 2, 3, 4, 5, 6, 7] rfl) hw hd
  unfold zX9_bestAt at hd
  refine lv_aload_n hx hb dX9_bestAt_0 rfl (lv_at hl 1 rfl) ?_
  refine lv_iload_n hx hb dX9_bestAt_1 rfl (lv_at hl 2 rfl) ?_
  obtain ⟨g_15, hd⟩ := zgd_some hd
  refine z_iald F hw h1 g_15 dX9_bestAt_2 ?_
  refine lv_istore_n (lv' := [(3, .int (zI M k1 p2.toNatClampNeg)), (0, .ref (ad k0)), (1, .ref (ad k1)), (2, .int p2)]) hx hb dX9_bestAt_3 rfl hl (by decide) rfl (fun ls hl => ?_)
  refine lv_iconst (v := (0 : Int32)) hx hb dX9_bestAt_4 (by decide) ?_
  refine lv_istore (lv' := [(4, .int (0 : Int32)), (3, .int (zI M k1 p2.toNatClampNeg)), (0, .ref (ad k0)), (1, .ref (ad k1)), (2, .int p2)]) hx hb dX9_bestAt_5 hl (by decide) rfl (fun ls hl => ?_)
  refine lv_ldc (v := (2147483647 : Int32)) hx hb F.1.2.2.2.1 (F.1.2.2.2.2 _ zi9_42) dX9_bestAt_7 ?_
  refine lv_istore (lv' := [(5, .int (2147483647 : Int32)), (4, .int (0 : Int32)), (3, .int (zI M k1 p2.toNatClampNeg)), (0, .ref (ad k0)), (1, .ref (ad k1)), (2, .int p2)]) hx hb dX9_bestAt_9 hl (by decide) rfl (fun ls hl => ?_)
  refine lv_iconst (v := (0 : Int32)) hx hb dX9_bestAt_11 (by decide) ?_
  refine lv_istore (lv' := [(6, .int (0 : Int32)), (5, .int (2147483647 : Int32)), (4, .int (0 : Int32)), (3, .int (zI M k1 p2.toNatClampNeg)), (0, .ref (ad k0)), (1, .ref (ad k1)), (2, .int p2)]) hx hb dX9_bestAt_12 hl (by decide) rfl (fun ls hl => ?_)
  exact L14 zF _ _ _ _ _ _ _ _ (lv_sub hl [4, 5, 6, 3, 2, 1, 0] rfl) hw hd

def zjX10_put_48 (sh : zShp) (k0 : Nat) (p1 : Int32)  (M : zMem) : Option (zMem) :=
  some M
def zbX10_put_3 (sh : zShp) (k0 : Nat) (p1 : Int32)  (kk3 : Int32 → zMem → Option (zMem)) (x2 : Int32) (M : zMem) : Option (zMem) :=
  if x2 < 0 then (
  zjX10_put_48 sh k0 p1 M)
  else (
  if (Int32.ofNat (zlen sh (zR M k0 0))) ≤ (zI M k0 1) then (
  zjX10_put_48 sh k0 p1 M)
  else (
  zgd (zin (zI M k0 1) (zlen sh (zR M k0 0))) <|
  zbd (zpI M (zR M k0 0) ((zI M k0 1).toNatClampNeg) (vp_nar .byte ((p1 >>> (x2 &&& 31)).toInt8.toInt32))) fun M_6 =>
  zbd (zpI M_6 k0 1 ((zI M_6 k0 1) + (1 : Int32))) fun M_7 =>
  kk3 (x2 + (-8 : Int32)) M_7))
def zlX10_put_3 (sh : zShp) (k0 : Nat) (p1 : Int32)  : Nat → Int32 → zMem → Option (zMem)
  | 0 => fun _ _ => none
  | n + 1 => fun x2 M => zbX10_put_3 sh k0 p1  (zlX10_put_3 sh k0 p1  n) x2 M
def zX10_put (sh : zShp) (k0 : Nat) (p1 : Int32) (M : zMem) : Option (zMem) :=
  zlX10_put_3 sh k0 p1 zF (24 : Int32) M
set_option maxHeartbeats 4000000 in
set_option maxRecDepth 100000 in
theorem ztX10_put (l : Launch) (D : va_G) (cy : Nat → ClassId) (sh : zShp) (ad : Nat → Nat) {k0 : Nat} {p1 : Int32} (h0 : zT sh k0 10) {M : zMem} {M1 : zMem} (hd : zX10_put sh k0 p1 M = some M1) : zCV l yX10_put cX10_put 3 { frames := 0, cells := 0, slots := 0, locals := 0 } [.ref (ad k0), .int p1] D cy sh ad M M1 := by
  refine zcv_of (by decide) (Nat.le_of_ble_eq_true rfl) (fun p e s m below meth c ls F hr hlk hl hw => ?_)
  have hx := F.1.1
  have hb := F.1.2.1
  have hl : lv_has ls 3 [(0, .ref (ad k0)), (1, .int p1)] := hl
  have J48 : ∀ (M : zMem) (H : Heap) (locs : List Loc) (ls : Array Slot), lv_has ls 3 [] → zWd D cy sh ad s M H locs → zjX10_put_48 sh k0 p1  M = some M1 → W p l e { frames := 0, cells := 0, slots := 0, locals := 0 } s m ([.ref (ad k0), .int p1] : List Value).toArray below meth c H locs 0 0 (zQV below D cy sh ad s [.ref (ad k0), .int p1] M1) (F0 m 48 ls []) := by
    intro  M H locs ls hl hw hd
    unfold zjX10_put_48 at hd
    exact z_vret F hr hlk hw (Option.some.inj hd) dX10_put_48
  have L3 : ∀  (n : Nat), ∀ (x2 : Int32) (M : zMem) (H : Heap) (locs : List Loc) (ls : Array Slot), lv_has ls 3 [(0, .ref (ad k0)), (1, .int p1), (2, .int x2)] → zWd D cy sh ad s M H locs → zlX10_put_3 sh k0 p1  n x2 M = some M1 → W p l e { frames := 0, cells := 0, slots := 0, locals := 0 } s m ([.ref (ad k0), .int p1] : List Value).toArray below meth c H locs 0 0 (zQV below D cy sh ad s [.ref (ad k0), .int p1] M1) (F0 m 3 ls []) := by
    intro  n
    induction n with
    | zero => intro x2 M H locs ls hl hw hd; exact (znone hd).elim
    | succ n hk3 =>
      intro x2 M H locs ls hl hw hd
      have hd : zbX10_put_3 sh k0 p1  (zlX10_put_3 sh k0 p1  n) x2 M = some M1 := hd
      unfold zbX10_put_3 at hd
      refine lv_iload_n hx hb dX10_put_3 rfl (lv_at hl 2 rfl) ?_
      refine lv_if_lt (tgt := 48) hx hb dX10_put_4 (by decide) (fun c_1 => ?_) (fun c_1 => ?_)
      · have hd := zif_pos c_1 hd
        exact J48 _ _ _ _ (lv_sub hl [] rfl) hw hd
      · have hd := zif_neg c_1 hd
        refine lv_aload_n hx hb dX10_put_7 rfl (lv_at hl 0 rfl) ?_
        refine z_gI F hw h0 zc10 1 (by decide) rfl zf10_15 dX10_put_8 ?_
        refine lv_aload_n hx hb dX10_put_11 rfl (lv_at hl 0 rfl) ?_
        refine z_gR F hw h0 zc10 0 (by decide) rfl zf10_9 dX10_put_12 ?_
        have t_2 : zT sh (zR M k0 0) 13 := hw.2.2.2.fld h0 0 13
        refine z_alen F hw t_2 (by decide) (t0 := 0) rfl dX10_put_15 ?_
        refine lv_icmp_ge (tgt := 48) hx hb dX10_put_16 (by decide) (fun c_3 => ?_) (fun c_3 => ?_)
        · have hd := zif_pos c_3 hd
          exact J48 _ _ _ _ (lv_sub hl [] rfl) hw hd
        · have hd := zif_neg c_3 hd
          refine lv_aload_n hx hb dX10_put_19 rfl (lv_at hl 0 rfl) ?_
          refine z_gR F hw h0 zc10 0 (by decide) rfl zf10_9 dX10_put_20 ?_
          have t_4 : zT sh (zR M k0 0) 13 := hw.2.2.2.fld h0 0 13
          refine lv_aload_n hx hb dX10_put_23 rfl (lv_at hl 0 rfl) ?_
          refine z_gI F hw h0 zc10 1 (by decide) rfl zf10_15 dX10_put_24 ?_
          refine lv_iload_n hx hb dX10_put_27 rfl (lv_at hl 1 rfl) ?_
          refine lv_iload_n hx hb dX10_put_28 rfl (lv_at hl 2 rfl) ?_
          refine lv_ishr hx hb dX10_put_29 ?_
          refine lv_i2b (v := (p1 >>> (x2 &&& 31)).toInt8.toInt32) hx hb dX10_put_30 rfl ?_
          obtain ⟨g_5, hd⟩ := zgd_some hd
          refine z_bast F hw t_4 g_5 dX10_put_31 (fun H locs M_6 eM_6 hw => ?_)
          have hd := zbd_eq eM_6 hd
          refine lv_aload_n hx hb dX10_put_32 rfl (lv_at hl 0 rfl) ?_
          refine lv_dup hx hb dX10_put_33 rfl ?_
          refine z_gI F hw h0 zc10 1 (by decide) rfl zf10_15 dX10_put_34 ?_
          refine lv_iconst (v := (1 : Int32)) hx hb dX10_put_37 (by decide) ?_
          refine lv_iadd hx hb dX10_put_38 ?_
          refine z_pI F hw h0 zc10 1 (by decide) rfl zf10_15 rfl rfl rfl dX10_put_39 (fun H locs M_7 eM_7 hw => ?_)
          have hd := zbd_eq eM_7 hd
          refine lv_iinc (v := (x2 + (-8 : Int32))) (lv' := [(2, .int (x2 + (-8 : Int32))), (0, .ref (ad k0)), (1, .int p1)]) hx hb dX10_put_42 hl (k := 2) rfl (ziinc (by decide)) (by decide) rfl (fun ls hl => ?_)
          refine lv_goto (tgt := 3) hx hb dX10_put_45 (by decide) ?_
          exact hk3 _ _ _ _ _ (lv_sub hl [1, 2, 0] rfl) hw hd
  unfold zX10_put at hd
  refine lv_bipush (v := (24 : Int32)) hx hb dX10_put_0 (by decide) ?_
  refine lv_istore_n (lv' := [(2, .int (24 : Int32)), (0, .ref (ad k0)), (1, .int p1)]) hx hb dX10_put_2 rfl hl (by decide) rfl (fun ls hl => ?_)
  exact L3 zF _ _ _ _ _ (lv_sub hl [1, 2, 0] rfl) hw hd
