theorem dX0_clear_0 : decode cX0_clear 0 = .ok (.aload_n 0, 1) := by decide +kernel
theorem dX0_clear_1 : decode cX0_clear 1 = .ok (.iload_n 1, 1) := by decide +kernel
theorem dX0_clear_2 : decode cX0_clear 2 = .ok (.putfield 22, 3) := by decide +kernel
theorem dX0_clear_5 : decode cX0_clear 5 = .ok (.aload_n 0, 1) := by decide +kernel
theorem dX0_clear_6 : decode cX0_clear 6 = .ok (.sipush 1000, 3) := by decide +kernel
theorem dX0_clear_9 : decode cX0_clear 9 = .ok (.putfield 25, 3) := by decide +kernel
theorem dX0_clear_12 : decode cX0_clear 12 = .ok (.aload_n 0, 1) := by decide +kernel
theorem dX0_clear_13 : decode cX0_clear 13 = .ok (.bipush 40, 2) := by decide +kernel
theorem dX0_clear_15 : decode cX0_clear 15 = .ok (.putfield 19, 3) := by decide +kernel
theorem dX0_clear_18 : decode cX0_clear 18 = .ok (.aload_n 0, 1) := by decide +kernel
theorem dX0_clear_19 : decode cX0_clear 19 = .ok (.bipush 20, 2) := by decide +kernel
theorem dX0_clear_21 : decode cX0_clear 21 = .ok (.putfield 28, 3) := by decide +kernel
theorem dX0_clear_24 : decode cX0_clear 24 = .ok (.aload_n 0, 1) := by decide +kernel
theorem dX0_clear_25 : decode cX0_clear 25 = .ok (.iconst 0, 1) := by decide +kernel
theorem dX0_clear_26 : decode cX0_clear 26 = .ok (.putfield 31, 3) := by decide +kernel
theorem dX0_clear_29 : decode cX0_clear 29 = .ok (.return_, 1) := by decide +kernel
theorem dX9_clear_0 : decode cX9_clear 0 = .ok (.aload_n 0, 1) := by decide +kernel
theorem dX9_clear_1 : decode cX9_clear 1 = .ok (.getfield 9, 3) := by decide +kernel
theorem dX9_clear_4 : decode cX9_clear 4 = .ok (.iconst 0, 1) := by decide +kernel
theorem dX9_clear_5 : decode cX9_clear 5 = .ok (.aload_n 0, 1) := by decide +kernel
theorem dX9_clear_6 : decode cX9_clear 6 = .ok (.getfield 15, 3) := by decide +kernel
theorem dX9_clear_9 : decode cX9_clear 9 = .ok (.iconst 0, 1) := by decide +kernel
theorem dX9_clear_10 : decode cX9_clear 10 = .ok (.aload_n 0, 1) := by decide +kernel
theorem dX9_clear_11 : decode cX9_clear 11 = .ok (.getfield 15, 3) := by decide +kernel
theorem dX9_clear_14 : decode cX9_clear 14 = .ok (.arraylength, 1) := by decide +kernel
theorem dX9_clear_15 : decode cX9_clear 15 = .ok (.invokestatic 26, 3) := by decide +kernel
theorem dX9_clear_18 : decode cX9_clear 18 = .ok (.return_, 1) := by decide +kernel
theorem dX1_clear_0 : decode cX1_clear 0 = .ok (.aload_n 0, 1) := by decide +kernel
theorem dX1_clear_1 : decode cX1_clear 1 = .ok (.getfield 30, 3) := by decide +kernel
theorem dX1_clear_4 : decode cX1_clear 4 = .ok (.invokevirtual 46, 3) := by decide +kernel
theorem dX1_clear_7 : decode cX1_clear 7 = .ok (.iconst 0, 1) := by decide +kernel
theorem dX1_clear_8 : decode cX1_clear 8 = .ok (.istore_n 1, 1) := by decide +kernel
theorem dX1_clear_9 : decode cX1_clear 9 = .ok (.iload_n 1, 1) := by decide +kernel
theorem dX1_clear_10 : decode cX1_clear 10 = .ok (.aload_n 0, 1) := by decide +kernel
theorem dX1_clear_11 : decode cX1_clear 11 = .ok (.getfield 34, 3) := by decide +kernel
theorem dX1_clear_14 : decode cX1_clear 14 = .ok (.arraylength, 1) := by decide +kernel
theorem dX1_clear_15 : decode cX1_clear 15 = .ok (.if_icmp .ge 16, 3) := by decide +kernel
theorem dX1_clear_18 : decode cX1_clear 18 = .ok (.aload_n 0, 1) := by decide +kernel
theorem dX1_clear_19 : decode cX1_clear 19 = .ok (.getfield 34, 3) := by decide +kernel
theorem dX1_clear_22 : decode cX1_clear 22 = .ok (.iload_n 1, 1) := by decide +kernel
theorem dX1_clear_23 : decode cX1_clear 23 = .ok (.iconst 0, 1) := by decide +kernel
theorem dX1_clear_24 : decode cX1_clear 24 = .ok (.bastore, 1) := by decide +kernel
theorem dX1_clear_25 : decode cX1_clear 25 = .ok (.iinc 1 1, 3) := by decide +kernel
theorem dX1_clear_28 : decode cX1_clear 28 = .ok (.goto (-19), 3) := by decide +kernel
theorem dX1_clear_31 : decode cX1_clear 31 = .ok (.aload_n 0, 1) := by decide +kernel
theorem dX1_clear_32 : decode cX1_clear 32 = .ok (.iconst 0, 1) := by decide +kernel
theorem dX1_clear_33 : decode cX1_clear 33 = .ok (.putfield 49, 3) := by decide +kernel
theorem dX1_clear_36 : decode cX1_clear 36 = .ok (.aload_n 0, 1) := by decide +kernel
theorem dX1_clear_37 : decode cX1_clear 37 = .ok (.iconst 0, 1) := by decide +kernel
theorem dX1_clear_38 : decode cX1_clear 38 = .ok (.putfield 52, 3) := by decide +kernel
theorem dX1_clear_41 : decode cX1_clear 41 = .ok (.aload_n 0, 1) := by decide +kernel
theorem dX1_clear_42 : decode cX1_clear 42 = .ok (.iconst 0, 1) := by decide +kernel
theorem dX1_clear_43 : decode cX1_clear 43 = .ok (.putfield 55, 3) := by decide +kernel
theorem dX1_clear_46 : decode cX1_clear 46 = .ok (.aload_n 0, 1) := by decide +kernel
theorem dX1_clear_47 : decode cX1_clear 47 = .ok (.sipush 300, 3) := by decide +kernel
theorem dX1_clear_50 : decode cX1_clear 50 = .ok (.putfield 38, 3) := by decide +kernel
theorem dX1_clear_53 : decode cX1_clear 53 = .ok (.aload_n 0, 1) := by decide +kernel
theorem dX1_clear_54 : decode cX1_clear 54 = .ok (.iconst 5, 1) := by decide +kernel
theorem dX1_clear_55 : decode cX1_clear 55 = .ok (.putfield 42, 3) := by decide +kernel
theorem dX1_clear_58 : decode cX1_clear 58 = .ok (.aload_n 0, 1) := by decide +kernel
theorem dX1_clear_59 : decode cX1_clear 59 = .ok (.iconst 0, 1) := by decide +kernel
theorem dX1_clear_60 : decode cX1_clear 60 = .ok (.putfield 58, 3) := by decide +kernel
theorem dX1_clear_63 : decode cX1_clear 63 = .ok (.return_, 1) := by decide +kernel
theorem dX1_axisNamed_0 : decode cX1_axisNamed 0 = .ok (.iconst 0, 1) := by decide +kernel
theorem dX1_axisNamed_1 : decode cX1_axisNamed 1 = .ok (.istore_n 2, 1) := by decide +kernel
theorem dX1_axisNamed_2 : decode cX1_axisNamed 2 = .ok (.iload_n 2, 1) := by decide +kernel
theorem dX1_axisNamed_3 : decode cX1_axisNamed 3 = .ok (.aload_n 0, 1) := by decide +kernel
theorem dX1_axisNamed_4 : decode cX1_axisNamed 4 = .ok (.getfield 49, 3) := by decide +kernel
theorem dX1_axisNamed_7 : decode cX1_axisNamed 7 = .ok (.if_icmp .ge 24, 3) := by decide +kernel
theorem dX1_axisNamed_10 : decode cX1_axisNamed 10 = .ok (.aload_n 0, 1) := by decide +kernel
theorem dX1_axisNamed_11 : decode cX1_axisNamed 11 = .ok (.getfield 11, 3) := by decide +kernel
theorem dX1_axisNamed_14 : decode cX1_axisNamed 14 = .ok (.iload_n 2, 1) := by decide +kernel
theorem dX1_axisNamed_15 : decode cX1_axisNamed 15 = .ok (.aaload, 1) := by decide +kernel
theorem dX1_axisNamed_16 : decode cX1_axisNamed 16 = .ok (.getfield 62, 3) := by decide +kernel
theorem dX1_axisNamed_19 : decode cX1_axisNamed 19 = .ok (.iload_n 1, 1) := by decide +kernel
theorem dX1_axisNamed_20 : decode cX1_axisNamed 20 = .ok (.if_icmp .ne 5, 3) := by decide +kernel
theorem dX1_axisNamed_23 : decode cX1_axisNamed 23 = .ok (.iload_n 2, 1) := by decide +kernel
theorem dX1_axisNamed_24 : decode cX1_axisNamed 24 = .ok (.ireturn, 1) := by decide +kernel
theorem dX1_axisNamed_25 : decode cX1_axisNamed 25 = .ok (.iinc 2 1, 3) := by decide +kernel
theorem dX1_axisNamed_28 : decode cX1_axisNamed 28 = .ok (.goto (-26), 3) := by decide +kernel
theorem dX1_axisNamed_31 : decode cX1_axisNamed 31 = .ok (.iconst (-1), 1) := by decide +kernel
theorem dX1_axisNamed_32 : decode cX1_axisNamed 32 = .ok (.ireturn, 1) := by decide +kernel
theorem dX11_isWithin_0 : decode cX11_isWithin 0 = .ok (.iload_n 0, 1) := by decide +kernel
theorem dX11_isWithin_1 : decode cX11_isWithin 1 = .ok (.iload_n 1, 1) := by decide +kernel
theorem dX11_isWithin_2 : decode cX11_isWithin 2 = .ok (.if_icmp .lt 12, 3) := by decide +kernel
theorem dX11_isWithin_5 : decode cX11_isWithin 5 = .ok (.iload_n 0, 1) := by decide +kernel
theorem dX11_isWithin_6 : decode cX11_isWithin 6 = .ok (.iload_n 2, 1) := by decide +kernel
theorem dX11_isWithin_7 : decode cX11_isWithin 7 = .ok (.if_icmp .gt 7, 3) := by decide +kernel
theorem dX11_isWithin_10 : decode cX11_isWithin 10 = .ok (.iconst 1, 1) := by decide +kernel
theorem dX11_isWithin_11 : decode cX11_isWithin 11 = .ok (.goto 4, 3) := by decide +kernel
theorem dX11_isWithin_14 : decode cX11_isWithin 14 = .ok (.iconst 0, 1) := by decide +kernel
theorem dX11_isWithin_15 : decode cX11_isWithin 15 = .ok (.ireturn, 1) := by decide +kernel
theorem dX1_bandsOver_0 : decode cX1_bandsOver 0 = .ok (.iconst 0, 1) := by decide +kernel
theorem dX1_bandsOver_1 : decode cX1_bandsOver 1 = .ok (.istore_n 3, 1) := by decide +kernel
theorem dX1_bandsOver_2 : decode cX1_bandsOver 2 = .ok (.iconst 0, 1) := by decide +kernel
theorem dX1_bandsOver_3 : decode cX1_bandsOver 3 = .ok (.istore 4, 2) := by decide +kernel
theorem dX1_bandsOver_5 : decode cX1_bandsOver 5 = .ok (.iload 4, 2) := by decide +kernel
theorem dX1_bandsOver_7 : decode cX1_bandsOver 7 = .ok (.aload_n 0, 1) := by decide +kernel
theorem dX1_bandsOver_8 : decode cX1_bandsOver 8 = .ok (.getfield 52, 3) := by decide +kernel
theorem dX1_bandsOver_11 : decode cX1_bandsOver 11 = .ok (.if_icmp .ge 44, 3) := by decide +kernel
theorem dX1_bandsOver_14 : decode cX1_bandsOver 14 = .ok (.aload_n 0, 1) := by decide +kernel
theorem dX1_bandsOver_15 : decode cX1_bandsOver 15 = .ok (.getfield 17, 3) := by decide +kernel
theorem dX1_bandsOver_18 : decode cX1_bandsOver 18 = .ok (.iload 4, 2) := by decide +kernel
theorem dX1_bandsOver_20 : decode cX1_bandsOver 20 = .ok (.iaload, 1) := by decide +kernel
theorem dX1_bandsOver_21 : decode cX1_bandsOver 21 = .ok (.iload_n 1, 1) := by decide +kernel
theorem dX1_bandsOver_22 : decode cX1_bandsOver 22 = .ok (.if_icmp .ne 27, 3) := by decide +kernel
theorem dX1_bandsOver_25 : decode cX1_bandsOver 25 = .ok (.iload_n 2, 1) := by decide +kernel
theorem dX1_bandsOver_26 : decode cX1_bandsOver 26 = .ok (.aload_n 0, 1) := by decide +kernel
theorem dX1_bandsOver_27 : decode cX1_bandsOver 27 = .ok (.getfield 21, 3) := by decide +kernel
theorem dX1_bandsOver_30 : decode cX1_bandsOver 30 = .ok (.iload 4, 2) := by decide +kernel
theorem dX1_bandsOver_32 : decode cX1_bandsOver 32 = .ok (.iaload, 1) := by decide +kernel
theorem dX1_bandsOver_33 : decode cX1_bandsOver 33 = .ok (.aload_n 0, 1) := by decide +kernel
theorem dX1_bandsOver_34 : decode cX1_bandsOver 34 = .ok (.getfield 24, 3) := by decide +kernel
theorem dX1_bandsOver_37 : decode cX1_bandsOver 37 = .ok (.iload 4, 2) := by decide +kernel
theorem dX1_bandsOver_39 : decode cX1_bandsOver 39 = .ok (.iaload, 1) := by decide +kernel
theorem dX1_bandsOver_40 : decode cX1_bandsOver 40 = .ok (.invokestatic 65, 3) := by decide +kernel
theorem dX1_bandsOver_43 : decode cX1_bandsOver 43 = .ok (.ifCond .eq 6, 3) := by decide +kernel
theorem dX1_bandsOver_46 : decode cX1_bandsOver 46 = .ok (.iinc 3 1, 3) := by decide +kernel
theorem dX1_bandsOver_49 : decode cX1_bandsOver 49 = .ok (.iinc 4 1, 3) := by decide +kernel
theorem dX1_bandsOver_52 : decode cX1_bandsOver 52 = .ok (.goto (-47), 3) := by decide +kernel
theorem dX1_bandsOver_55 : decode cX1_bandsOver 55 = .ok (.iload_n 3, 1) := by decide +kernel
theorem dX1_bandsOver_56 : decode cX1_bandsOver 56 = .ok (.ireturn, 1) := by decide +kernel
theorem dX2_start_0 : decode cX2_start 0 = .ok (.aload_n 0, 1) := by decide +kernel
theorem dX2_start_1 : decode cX2_start 1 = .ok (.iconst 0, 1) := by decide +kernel
theorem dX2_start_2 : decode cX2_start 2 = .ok (.putfield 7, 3) := by decide +kernel
theorem dX2_start_5 : decode cX2_start 5 = .ok (.aload_n 0, 1) := by decide +kernel
theorem dX2_start_6 : decode cX2_start 6 = .ok (.iconst 0, 1) := by decide +kernel
theorem dX2_start_7 : decode cX2_start 7 = .ok (.putfield 13, 3) := by decide +kernel
theorem dX2_start_10 : decode cX2_start 10 = .ok (.aload_n 0, 1) := by decide +kernel
theorem dX2_start_11 : decode cX2_start 11 = .ok (.iload_n 2, 1) := by decide +kernel
theorem dX2_start_12 : decode cX2_start 12 = .ok (.putfield 16, 3) := by decide +kernel
theorem dX2_start_15 : decode cX2_start 15 = .ok (.aload_n 0, 1) := by decide +kernel
theorem dX2_start_16 : decode cX2_start 16 = .ok (.aload_n 1, 1) := by decide +kernel
theorem dX2_start_17 : decode cX2_start 17 = .ok (.getfield 19, 3) := by decide +kernel
theorem dX2_start_20 : decode cX2_start 20 = .ok (.putfield 24, 3) := by decide +kernel
theorem dX2_start_23 : decode cX2_start 23 = .ok (.aload_n 0, 1) := by decide +kernel
theorem dX2_start_24 : decode cX2_start 24 = .ok (.aload_n 1, 1) := by decide +kernel
theorem dX2_start_25 : decode cX2_start 25 = .ok (.getfield 25, 3) := by decide +kernel
theorem dX2_start_28 : decode cX2_start 28 = .ok (.putfield 28, 3) := by decide +kernel
theorem dX2_start_31 : decode cX2_start 31 = .ok (.return_, 1) := by decide +kernel
theorem dX2_step_0 : decode cX2_step 0 = .ok (.aload_n 0, 1) := by decide +kernel
theorem dX2_step_1 : decode cX2_step 1 = .ok (.getfield 7, 3) := by decide +kernel
theorem dX2_step_4 : decode cX2_step 4 = .ok (.aload_n 0, 1) := by decide +kernel
theorem dX2_step_5 : decode cX2_step 5 = .ok (.getfield 28, 3) := by decide +kernel
theorem dX2_step_8 : decode cX2_step 8 = .ok (.imul, 1) := by decide +kernel
theorem dX2_step_9 : decode cX2_step 9 = .ok (.bipush 100, 2) := by decide +kernel
theorem dX2_step_11 : decode cX2_step 11 = .ok (.idiv, 1) := by decide +kernel
theorem dX2_step_12 : decode cX2_step 12 = .ok (.istore_n 2, 1) := by decide +kernel
theorem dX2_step_13 : decode cX2_step 13 = .ok (.aload_n 0, 1) := by decide +kernel
theorem dX2_step_14 : decode cX2_step 14 = .ok (.getfield 7, 3) := by decide +kernel
theorem dX2_step_17 : decode cX2_step 17 = .ok (.iload_n 1, 1) := by decide +kernel
theorem dX2_step_18 : decode cX2_step 18 = .ok (.if_icmp .ge 24, 3) := by decide +kernel
theorem dX2_step_21 : decode cX2_step 21 = .ok (.aload_n 0, 1) := by decide +kernel
theorem dX2_step_22 : decode cX2_step 22 = .ok (.dup, 1) := by decide +kernel
theorem dX2_step_23 : decode cX2_step 23 = .ok (.getfield 7, 3) := by decide +kernel
theorem dX2_step_26 : decode cX2_step 26 = .ok (.aload_n 0, 1) := by decide +kernel
theorem dX2_step_27 : decode cX2_step 27 = .ok (.getfield 24, 3) := by decide +kernel
theorem dX2_step_30 : decode cX2_step 30 = .ok (.iload_n 2, 1) := by decide +kernel
theorem dX2_step_31 : decode cX2_step 31 = .ok (.isub, 1) := by decide +kernel
theorem dX2_step_32 : decode cX2_step 32 = .ok (.bipush 10, 2) := by decide +kernel
theorem dX2_step_34 : decode cX2_step 34 = .ok (.idiv, 1) := by decide +kernel
theorem dX2_step_35 : decode cX2_step 35 = .ok (.iadd, 1) := by decide +kernel
theorem dX2_step_36 : decode cX2_step 36 = .ok (.putfield 7, 3) := by decide +kernel
theorem dX2_step_39 : decode cX2_step 39 = .ok (.goto 54, 3) := by decide +kernel
theorem dX2_step_42 : decode cX2_step 42 = .ok (.aload_n 0, 1) := by decide +kernel
theorem dX2_step_43 : decode cX2_step 43 = .ok (.getfield 13, 3) := by decide +kernel
theorem dX2_step_46 : decode cX2_step 46 = .ok (.aload_n 0, 1) := by decide +kernel
theorem dX2_step_47 : decode cX2_step 47 = .ok (.getfield 16, 3) := by decide +kernel
theorem dX2_step_50 : decode cX2_step 50 = .ok (.if_icmp .ge 15, 3) := by decide +kernel
theorem dX2_step_53 : decode cX2_step 53 = .ok (.aload_n 0, 1) := by decide +kernel
theorem dX2_step_54 : decode cX2_step 54 = .ok (.getfield 24, 3) := by decide +kernel
theorem dX2_step_57 : decode cX2_step 57 = .ok (.iload_n 2, 1) := by decide +kernel
theorem dX2_step_58 : decode cX2_step 58 = .ok (.iadd, 1) := by decide +kernel
theorem dX2_step_59 : decode cX2_step 59 = .ok (.bipush 10, 2) := by decide +kernel
theorem dX2_step_61 : decode cX2_step 61 = .ok (.idiv, 1) := by decide +kernel
theorem dX2_step_62 : decode cX2_step 62 = .ok (.goto 16, 3) := by decide +kernel
theorem dX2_step_65 : decode cX2_step 65 = .ok (.aload_n 0, 1) := by decide +kernel
theorem dX2_step_66 : decode cX2_step 66 = .ok (.getfield 7, 3) := by decide +kernel
theorem dX2_step_69 : decode cX2_step 69 = .ok (.aload_n 0, 1) := by decide +kernel
theorem dX2_step_70 : decode cX2_step 70 = .ok (.getfield 28, 3) := by decide +kernel
theorem dX2_step_73 : decode cX2_step 73 = .ok (.imul, 1) := by decide +kernel
theorem dX2_step_74 : decode cX2_step 74 = .ok (.sipush 1000, 3) := by decide +kernel
theorem dX2_step_77 : decode cX2_step 77 = .ok (.idiv, 1) := by decide +kernel
theorem dX2_step_78 : decode cX2_step 78 = .ok (.istore_n 3, 1) := by decide +kernel
theorem dX2_step_79 : decode cX2_step 79 = .ok (.aload_n 0, 1) := by decide +kernel
theorem dX2_step_80 : decode cX2_step 80 = .ok (.iconst 0, 1) := by decide +kernel
theorem dX2_step_81 : decode cX2_step 81 = .ok (.aload_n 0, 1) := by decide +kernel
theorem dX2_step_82 : decode cX2_step 82 = .ok (.getfield 7, 3) := by decide +kernel
theorem dX2_step_85 : decode cX2_step 85 = .ok (.iload_n 3, 1) := by decide +kernel
theorem dX2_step_86 : decode cX2_step 86 = .ok (.isub, 1) := by decide +kernel
theorem dX2_step_87 : decode cX2_step 87 = .ok (.invokestatic 29, 3) := by decide +kernel
theorem dX2_step_90 : decode cX2_step 90 = .ok (.putfield 7, 3) := by decide +kernel
theorem dX2_step_93 : decode cX2_step 93 = .ok (.aload_n 0, 1) := by decide +kernel
theorem dX2_step_94 : decode cX2_step 94 = .ok (.aload_n 0, 1) := by decide +kernel
theorem dX2_step_95 : decode cX2_step 95 = .ok (.getfield 13, 3) := by decide +kernel
theorem dX2_step_98 : decode cX2_step 98 = .ok (.iconst 1, 1) := by decide +kernel
theorem dX2_step_99 : decode cX2_step 99 = .ok (.iadd, 1) := by decide +kernel
theorem dX2_step_100 : decode cX2_step 100 = .ok (.bipush 8, 2) := by decide +kernel
theorem dX2_step_102 : decode cX2_step 102 = .ok (.irem, 1) := by decide +kernel
theorem dX2_step_103 : decode cX2_step 103 = .ok (.putfield 13, 3) := by decide +kernel
theorem dX2_step_106 : decode cX2_step 106 = .ok (.return_, 1) := by decide +kernel
theorem dX7_copyFrom_0 : decode cX7_copyFrom 0 = .ok (.aload_n 0, 1) := by decide +kernel
theorem dX7_copyFrom_1 : decode cX7_copyFrom 1 = .ok (.aload_n 1, 1) := by decide +kernel
theorem dX7_copyFrom_2 : decode cX7_copyFrom 2 = .ok (.getfield 22, 3) := by decide +kernel
theorem dX7_copyFrom_5 : decode cX7_copyFrom 5 = .ok (.putfield 22, 3) := by decide +kernel
theorem dX7_copyFrom_8 : decode cX7_copyFrom 8 = .ok (.aload_n 0, 1) := by decide +kernel
theorem dX7_copyFrom_9 : decode cX7_copyFrom 9 = .ok (.aload_n 1, 1) := by decide +kernel
theorem dX7_copyFrom_10 : decode cX7_copyFrom 10 = .ok (.getfield 25, 3) := by decide +kernel
theorem dX7_copyFrom_13 : decode cX7_copyFrom 13 = .ok (.putfield 25, 3) := by decide +kernel
theorem dX7_copyFrom_16 : decode cX7_copyFrom 16 = .ok (.aload_n 0, 1) := by decide +kernel
theorem dX7_copyFrom_17 : decode cX7_copyFrom 17 = .ok (.aload_n 1, 1) := by decide +kernel
theorem dX7_copyFrom_18 : decode cX7_copyFrom 18 = .ok (.getfield 28, 3) := by decide +kernel
theorem dX7_copyFrom_21 : decode cX7_copyFrom 21 = .ok (.putfield 28, 3) := by decide +kernel
theorem dX7_copyFrom_24 : decode cX7_copyFrom 24 = .ok (.aload_n 0, 1) := by decide +kernel
theorem dX7_copyFrom_25 : decode cX7_copyFrom 25 = .ok (.aload_n 1, 1) := by decide +kernel
theorem dX7_copyFrom_26 : decode cX7_copyFrom 26 = .ok (.getfield 31, 3) := by decide +kernel
theorem dX7_copyFrom_29 : decode cX7_copyFrom 29 = .ok (.putfield 31, 3) := by decide +kernel
theorem dX7_copyFrom_32 : decode cX7_copyFrom 32 = .ok (.aload_n 0, 1) := by decide +kernel
theorem dX7_copyFrom_33 : decode cX7_copyFrom 33 = .ok (.aload_n 1, 1) := by decide +kernel
theorem dX7_copyFrom_34 : decode cX7_copyFrom 34 = .ok (.getfield 15, 3) := by decide +kernel
theorem dX7_copyFrom_37 : decode cX7_copyFrom 37 = .ok (.putfield 15, 3) := by decide +kernel
theorem dX7_copyFrom_40 : decode cX7_copyFrom 40 = .ok (.aload_n 0, 1) := by decide +kernel
theorem dX7_copyFrom_41 : decode cX7_copyFrom 41 = .ok (.aload_n 1, 1) := by decide +kernel
theorem dX7_copyFrom_42 : decode cX7_copyFrom 42 = .ok (.getfield 19, 3) := by decide +kernel
theorem dX7_copyFrom_45 : decode cX7_copyFrom 45 = .ok (.putfield 19, 3) := by decide +kernel
theorem dX7_copyFrom_48 : decode cX7_copyFrom 48 = .ok (.return_, 1) := by decide +kernel
theorem dX5_copyFrom_0 : decode cX5_copyFrom 0 = .ok (.aload_n 0, 1) := by decide +kernel
theorem dX5_copyFrom_1 : decode cX5_copyFrom 1 = .ok (.aload_n 1, 1) := by decide +kernel
theorem dX5_copyFrom_2 : decode cX5_copyFrom 2 = .ok (.getfield 15, 3) := by decide +kernel
theorem dX5_copyFrom_5 : decode cX5_copyFrom 5 = .ok (.putfield 15, 3) := by decide +kernel
theorem dX5_copyFrom_8 : decode cX5_copyFrom 8 = .ok (.aload_n 1, 1) := by decide +kernel
theorem dX5_copyFrom_9 : decode cX5_copyFrom 9 = .ok (.getfield 9, 3) := by decide +kernel
theorem dX5_copyFrom_12 : decode cX5_copyFrom 12 = .ok (.iconst 0, 1) := by decide +kernel
theorem dX5_copyFrom_13 : decode cX5_copyFrom 13 = .ok (.aload_n 0, 1) := by decide +kernel
theorem dX5_copyFrom_14 : decode cX5_copyFrom 14 = .ok (.getfield 9, 3) := by decide +kernel
theorem dX5_copyFrom_17 : decode cX5_copyFrom 17 = .ok (.iconst 0, 1) := by decide +kernel
theorem dX5_copyFrom_18 : decode cX5_copyFrom 18 = .ok (.aload_n 0, 1) := by decide +kernel
theorem dX5_copyFrom_19 : decode cX5_copyFrom 19 = .ok (.getfield 9, 3) := by decide +kernel
theorem dX5_copyFrom_22 : decode cX5_copyFrom 22 = .ok (.arraylength, 1) := by decide +kernel
theorem dX5_copyFrom_23 : decode cX5_copyFrom 23 = .ok (.invokestatic 27, 3) := by decide +kernel
theorem dX5_copyFrom_26 : decode cX5_copyFrom 26 = .ok (.return_, 1) := by decide +kernel
theorem dX4_copyFrom_0 : decode cX4_copyFrom 0 = .ok (.aload_n 1, 1) := by decide +kernel
theorem dX4_copyFrom_1 : decode cX4_copyFrom 1 = .ok (.getfield 9, 3) := by decide +kernel
theorem dX4_copyFrom_4 : decode cX4_copyFrom 4 = .ok (.iconst 0, 1) := by decide +kernel
theorem dX4_copyFrom_5 : decode cX4_copyFrom 5 = .ok (.aload_n 0, 1) := by decide +kernel
theorem dX4_copyFrom_6 : decode cX4_copyFrom 6 = .ok (.getfield 9, 3) := by decide +kernel
theorem dX4_copyFrom_9 : decode cX4_copyFrom 9 = .ok (.iconst 0, 1) := by decide +kernel
theorem dX4_copyFrom_10 : decode cX4_copyFrom 10 = .ok (.aload_n 0, 1) := by decide +kernel
theorem dX4_copyFrom_11 : decode cX4_copyFrom 11 = .ok (.getfield 9, 3) := by decide +kernel
theorem dX4_copyFrom_14 : decode cX4_copyFrom 14 = .ok (.arraylength, 1) := by decide +kernel
theorem dX4_copyFrom_15 : decode cX4_copyFrom 15 = .ok (.invokestatic 120, 3) := by decide +kernel
theorem dX4_copyFrom_18 : decode cX4_copyFrom 18 = .ok (.aload_n 1, 1) := by decide +kernel
theorem dX4_copyFrom_19 : decode cX4_copyFrom 19 = .ok (.getfield 15, 3) := by decide +kernel
theorem dX4_copyFrom_22 : decode cX4_copyFrom 22 = .ok (.iconst 0, 1) := by decide +kernel
theorem dX4_copyFrom_23 : decode cX4_copyFrom 23 = .ok (.aload_n 0, 1) := by decide +kernel
theorem dX4_copyFrom_24 : decode cX4_copyFrom 24 = .ok (.getfield 15, 3) := by decide +kernel
theorem dX4_copyFrom_27 : decode cX4_copyFrom 27 = .ok (.iconst 0, 1) := by decide +kernel
theorem dX4_copyFrom_28 : decode cX4_copyFrom 28 = .ok (.aload_n 0, 1) := by decide +kernel
theorem dX4_copyFrom_29 : decode cX4_copyFrom 29 = .ok (.getfield 15, 3) := by decide +kernel
theorem dX4_copyFrom_32 : decode cX4_copyFrom 32 = .ok (.arraylength, 1) := by decide +kernel
theorem dX4_copyFrom_33 : decode cX4_copyFrom 33 = .ok (.invokestatic 120, 3) := by decide +kernel
theorem dX4_copyFrom_36 : decode cX4_copyFrom 36 = .ok (.aload_n 0, 1) := by decide +kernel
theorem dX4_copyFrom_37 : decode cX4_copyFrom 37 = .ok (.getfield 21, 3) := by decide +kernel
theorem dX4_copyFrom_40 : decode cX4_copyFrom 40 = .ok (.aload_n 1, 1) := by decide +kernel
theorem dX4_copyFrom_41 : decode cX4_copyFrom 41 = .ok (.getfield 21, 3) := by decide +kernel
theorem dX4_copyFrom_44 : decode cX4_copyFrom 44 = .ok (.invokevirtual 126, 3) := by decide +kernel
theorem dX4_copyFrom_47 : decode cX4_copyFrom 47 = .ok (.aload_n 0, 1) := by decide +kernel
theorem dX4_copyFrom_48 : decode cX4_copyFrom 48 = .ok (.aload_n 1, 1) := by decide +kernel
theorem dX4_copyFrom_49 : decode cX4_copyFrom 49 = .ok (.getfield 25, 3) := by decide +kernel
theorem dX4_copyFrom_52 : decode cX4_copyFrom 52 = .ok (.putfield 25, 3) := by decide +kernel
theorem dX4_copyFrom_55 : decode cX4_copyFrom 55 = .ok (.aload_n 0, 1) := by decide +kernel
theorem dX4_copyFrom_56 : decode cX4_copyFrom 56 = .ok (.aload_n 1, 1) := by decide +kernel
theorem dX4_copyFrom_57 : decode cX4_copyFrom 57 = .ok (.getfield 29, 3) := by decide +kernel
theorem dX4_copyFrom_60 : decode cX4_copyFrom 60 = .ok (.putfield 29, 3) := by decide +kernel
theorem dX4_copyFrom_63 : decode cX4_copyFrom 63 = .ok (.aload_n 0, 1) := by decide +kernel
theorem dX4_copyFrom_64 : decode cX4_copyFrom 64 = .ok (.aload_n 1, 1) := by decide +kernel
theorem dX4_copyFrom_65 : decode cX4_copyFrom 65 = .ok (.getfield 50, 3) := by decide +kernel
theorem dX4_copyFrom_68 : decode cX4_copyFrom 68 = .ok (.putfield 50, 3) := by decide +kernel
theorem dX4_copyFrom_71 : decode cX4_copyFrom 71 = .ok (.aload_n 0, 1) := by decide +kernel
theorem dX4_copyFrom_72 : decode cX4_copyFrom 72 = .ok (.aload_n 1, 1) := by decide +kernel
theorem dX4_copyFrom_73 : decode cX4_copyFrom 73 = .ok (.getfield 66, 3) := by decide +kernel
theorem dX4_copyFrom_76 : decode cX4_copyFrom 76 = .ok (.putfield 66, 3) := by decide +kernel
theorem dX4_copyFrom_79 : decode cX4_copyFrom 79 = .ok (.aload_n 0, 1) := by decide +kernel
theorem dX4_copyFrom_80 : decode cX4_copyFrom 80 = .ok (.aload_n 1, 1) := by decide +kernel
theorem dX4_copyFrom_81 : decode cX4_copyFrom 81 = .ok (.getfield 70, 3) := by decide +kernel
theorem dX4_copyFrom_84 : decode cX4_copyFrom 84 = .ok (.putfield 70, 3) := by decide +kernel
theorem dX4_copyFrom_87 : decode cX4_copyFrom 87 = .ok (.aload_n 0, 1) := by decide +kernel
theorem dX4_copyFrom_88 : decode cX4_copyFrom 88 = .ok (.aload_n 1, 1) := by decide +kernel
theorem dX4_copyFrom_89 : decode cX4_copyFrom 89 = .ok (.getfield 98, 3) := by decide +kernel
theorem dX4_copyFrom_92 : decode cX4_copyFrom 92 = .ok (.putfield 98, 3) := by decide +kernel
theorem dX4_copyFrom_95 : decode cX4_copyFrom 95 = .ok (.aload_n 0, 1) := by decide +kernel
theorem dX4_copyFrom_96 : decode cX4_copyFrom 96 = .ok (.aload_n 1, 1) := by decide +kernel
theorem dX4_copyFrom_97 : decode cX4_copyFrom 97 = .ok (.getfield 101, 3) := by decide +kernel
theorem dX4_copyFrom_100 : decode cX4_copyFrom 100 = .ok (.putfield 101, 3) := by decide +kernel
theorem dX4_copyFrom_103 : decode cX4_copyFrom 103 = .ok (.return_, 1) := by decide +kernel
theorem dX8_copyFrom_0 : decode cX8_copyFrom 0 = .ok (.iconst 0, 1) := by decide +kernel
theorem dX8_copyFrom_1 : decode cX8_copyFrom 1 = .ok (.istore_n 2, 1) := by decide +kernel
theorem dX8_copyFrom_2 : decode cX8_copyFrom 2 = .ok (.iload_n 2, 1) := by decide +kernel
theorem dX8_copyFrom_3 : decode cX8_copyFrom 3 = .ok (.aload_n 0, 1) := by decide +kernel
theorem dX8_copyFrom_4 : decode cX8_copyFrom 4 = .ok (.getfield 11, 3) := by decide +kernel
theorem dX8_copyFrom_7 : decode cX8_copyFrom 7 = .ok (.arraylength, 1) := by decide +kernel
theorem dX8_copyFrom_8 : decode cX8_copyFrom 8 = .ok (.if_icmp .ge 24, 3) := by decide +kernel
theorem dX8_copyFrom_11 : decode cX8_copyFrom 11 = .ok (.aload_n 0, 1) := by decide +kernel
theorem dX8_copyFrom_12 : decode cX8_copyFrom 12 = .ok (.getfield 11, 3) := by decide +kernel
theorem dX8_copyFrom_15 : decode cX8_copyFrom 15 = .ok (.iload_n 2, 1) := by decide +kernel
theorem dX8_copyFrom_16 : decode cX8_copyFrom 16 = .ok (.aaload, 1) := by decide +kernel
theorem dX8_copyFrom_17 : decode cX8_copyFrom 17 = .ok (.aload_n 1, 1) := by decide +kernel
theorem dX8_copyFrom_18 : decode cX8_copyFrom 18 = .ok (.getfield 11, 3) := by decide +kernel
theorem dX8_copyFrom_21 : decode cX8_copyFrom 21 = .ok (.iload_n 2, 1) := by decide +kernel
theorem dX8_copyFrom_22 : decode cX8_copyFrom 22 = .ok (.aaload, 1) := by decide +kernel
theorem dX8_copyFrom_23 : decode cX8_copyFrom 23 = .ok (.invokevirtual 156, 3) := by decide +kernel
theorem dX8_copyFrom_26 : decode cX8_copyFrom 26 = .ok (.iinc 2 1, 3) := by decide +kernel
theorem dX8_copyFrom_29 : decode cX8_copyFrom 29 = .ok (.goto (-27), 3) := by decide +kernel
theorem dX8_copyFrom_32 : decode cX8_copyFrom 32 = .ok (.aload_n 0, 1) := by decide +kernel
theorem dX8_copyFrom_33 : decode cX8_copyFrom 33 = .ok (.getfield 20, 3) := by decide +kernel
theorem dX8_copyFrom_36 : decode cX8_copyFrom 36 = .ok (.aload_n 1, 1) := by decide +kernel
theorem dX8_copyFrom_37 : decode cX8_copyFrom 37 = .ok (.getfield 20, 3) := by decide +kernel
theorem dX8_copyFrom_40 : decode cX8_copyFrom 40 = .ok (.invokevirtual 159, 3) := by decide +kernel
theorem dX8_copyFrom_43 : decode cX8_copyFrom 43 = .ok (.aload_n 1, 1) := by decide +kernel
theorem dX8_copyFrom_44 : decode cX8_copyFrom 44 = .ok (.getfield 24, 3) := by decide +kernel
theorem dX8_copyFrom_47 : decode cX8_copyFrom 47 = .ok (.iconst 0, 1) := by decide +kernel
theorem dX8_copyFrom_48 : decode cX8_copyFrom 48 = .ok (.aload_n 0, 1) := by decide +kernel
theorem dX8_copyFrom_49 : decode cX8_copyFrom 49 = .ok (.getfield 24, 3) := by decide +kernel
theorem dX8_copyFrom_52 : decode cX8_copyFrom 52 = .ok (.iconst 0, 1) := by decide +kernel
theorem dX8_copyFrom_53 : decode cX8_copyFrom 53 = .ok (.aload_n 0, 1) := by decide +kernel
theorem dX8_copyFrom_54 : decode cX8_copyFrom 54 = .ok (.getfield 24, 3) := by decide +kernel
theorem dX8_copyFrom_57 : decode cX8_copyFrom 57 = .ok (.arraylength, 1) := by decide +kernel
theorem dX8_copyFrom_58 : decode cX8_copyFrom 58 = .ok (.invokestatic 85, 3) := by decide +kernel
theorem dX8_copyFrom_61 : decode cX8_copyFrom 61 = .ok (.aload_n 0, 1) := by decide +kernel
theorem dX8_copyFrom_62 : decode cX8_copyFrom 62 = .ok (.aload_n 1, 1) := by decide +kernel
theorem dX8_copyFrom_63 : decode cX8_copyFrom 63 = .ok (.getfield 58, 3) := by decide +kernel
theorem dX8_copyFrom_66 : decode cX8_copyFrom 66 = .ok (.putfield 58, 3) := by decide +kernel
theorem dX8_copyFrom_69 : decode cX8_copyFrom 69 = .ok (.aload_n 0, 1) := by decide +kernel
theorem dX8_copyFrom_70 : decode cX8_copyFrom 70 = .ok (.aload_n 1, 1) := by decide +kernel
theorem dX8_copyFrom_71 : decode cX8_copyFrom 71 = .ok (.getfield 39, 3) := by decide +kernel
theorem dX8_copyFrom_74 : decode cX8_copyFrom 74 = .ok (.putfield 39, 3) := by decide +kernel
theorem dX8_copyFrom_77 : decode cX8_copyFrom 77 = .ok (.aload_n 0, 1) := by decide +kernel
theorem dX8_copyFrom_78 : decode cX8_copyFrom 78 = .ok (.aload_n 1, 1) := by decide +kernel
theorem dX8_copyFrom_79 : decode cX8_copyFrom 79 = .ok (.getfield 42, 3) := by decide +kernel
theorem dX8_copyFrom_82 : decode cX8_copyFrom 82 = .ok (.putfield 42, 3) := by decide +kernel
theorem dX8_copyFrom_85 : decode cX8_copyFrom 85 = .ok (.aload_n 0, 1) := by decide +kernel
theorem dX8_copyFrom_86 : decode cX8_copyFrom 86 = .ok (.aload_n 1, 1) := by decide +kernel
theorem dX8_copyFrom_87 : decode cX8_copyFrom 87 = .ok (.getfield 31, 3) := by decide +kernel
theorem dX8_copyFrom_90 : decode cX8_copyFrom 90 = .ok (.putfield 31, 3) := by decide +kernel
theorem dX8_copyFrom_93 : decode cX8_copyFrom 93 = .ok (.aload_n 0, 1) := by decide +kernel
theorem dX8_copyFrom_94 : decode cX8_copyFrom 94 = .ok (.aload_n 1, 1) := by decide +kernel
theorem dX8_copyFrom_95 : decode cX8_copyFrom 95 = .ok (.getfield 48, 3) := by decide +kernel
theorem dX8_copyFrom_98 : decode cX8_copyFrom 98 = .ok (.putfield 48, 3) := by decide +kernel
theorem dX8_copyFrom_101 : decode cX8_copyFrom 101 = .ok (.aload_n 0, 1) := by decide +kernel
theorem dX8_copyFrom_102 : decode cX8_copyFrom 102 = .ok (.aload_n 1, 1) := by decide +kernel
theorem dX8_copyFrom_103 : decode cX8_copyFrom 103 = .ok (.getfield 52, 3) := by decide +kernel
theorem dX8_copyFrom_106 : decode cX8_copyFrom 106 = .ok (.putfield 52, 3) := by decide +kernel
theorem dX8_copyFrom_109 : decode cX8_copyFrom 109 = .ok (.aload_n 0, 1) := by decide +kernel
theorem dX8_copyFrom_110 : decode cX8_copyFrom 110 = .ok (.aload_n 1, 1) := by decide +kernel
theorem dX8_copyFrom_111 : decode cX8_copyFrom 111 = .ok (.getfield 55, 3) := by decide +kernel
theorem dX8_copyFrom_114 : decode cX8_copyFrom 114 = .ok (.putfield 55, 3) := by decide +kernel
theorem dX8_copyFrom_117 : decode cX8_copyFrom 117 = .ok (.aload_n 0, 1) := by decide +kernel
theorem dX8_copyFrom_118 : decode cX8_copyFrom 118 = .ok (.aload_n 1, 1) := by decide +kernel
theorem dX8_copyFrom_119 : decode cX8_copyFrom 119 = .ok (.getfield 68, 3) := by decide +kernel
theorem dX8_copyFrom_122 : decode cX8_copyFrom 122 = .ok (.putfield 68, 3) := by decide +kernel
theorem dX8_copyFrom_125 : decode cX8_copyFrom 125 = .ok (.aload_n 0, 1) := by decide +kernel
theorem dX8_copyFrom_126 : decode cX8_copyFrom 126 = .ok (.aload_n 1, 1) := by decide +kernel
theorem dX8_copyFrom_127 : decode cX8_copyFrom 127 = .ok (.getfield 71, 3) := by decide +kernel
theorem dX8_copyFrom_130 : decode cX8_copyFrom 130 = .ok (.putfield 71, 3) := by decide +kernel
theorem dX8_copyFrom_133 : decode cX8_copyFrom 133 = .ok (.return_, 1) := by decide +kernel
theorem dX3_keep_0 : decode cX3_keep 0 = .ok (.aload_n 0, 1) := by decide +kernel
theorem dX3_keep_1 : decode cX3_keep 1 = .ok (.getfield 11, 3) := by decide +kernel
theorem dX3_keep_4 : decode cX3_keep 4 = .ok (.aload_n 0, 1) := by decide +kernel
theorem dX3_keep_5 : decode cX3_keep 5 = .ok (.getfield 18, 3) := by decide +kernel
theorem dX3_keep_8 : decode cX3_keep 8 = .ok (.aaload, 1) := by decide +kernel
theorem dX3_keep_9 : decode cX3_keep 9 = .ok (.aload_n 1, 1) := by decide +kernel
theorem dX3_keep_10 : decode cX3_keep 10 = .ok (.invokevirtual 22, 3) := by decide +kernel
theorem dX3_keep_13 : decode cX3_keep 13 = .ok (.aload_n 0, 1) := by decide +kernel
theorem dX3_keep_14 : decode cX3_keep 14 = .ok (.aload_n 0, 1) := by decide +kernel
theorem dX3_keep_15 : decode cX3_keep 15 = .ok (.getfield 18, 3) := by decide +kernel
theorem dX3_keep_18 : decode cX3_keep 18 = .ok (.iconst 1, 1) := by decide +kernel
theorem dX3_keep_19 : decode cX3_keep 19 = .ok (.iadd, 1) := by decide +kernel
theorem dX3_keep_20 : decode cX3_keep 20 = .ok (.bipush 10, 2) := by decide +kernel
theorem dX3_keep_22 : decode cX3_keep 22 = .ok (.irem, 1) := by decide +kernel
theorem dX3_keep_23 : decode cX3_keep 23 = .ok (.putfield 18, 3) := by decide +kernel
theorem dX3_keep_26 : decode cX3_keep 26 = .ok (.aload_n 0, 1) := by decide +kernel
theorem dX3_keep_27 : decode cX3_keep 27 = .ok (.bipush 10, 2) := by decide +kernel
theorem dX3_keep_29 : decode cX3_keep 29 = .ok (.aload_n 0, 1) := by decide +kernel
theorem dX3_keep_30 : decode cX3_keep 30 = .ok (.getfield 26, 3) := by decide +kernel
theorem dX3_keep_33 : decode cX3_keep 33 = .ok (.iconst 1, 1) := by decide +kernel
theorem dX3_keep_34 : decode cX3_keep 34 = .ok (.iadd, 1) := by decide +kernel
theorem dX3_keep_35 : decode cX3_keep 35 = .ok (.invokestatic 29, 3) := by decide +kernel
theorem dX3_keep_38 : decode cX3_keep 38 = .ok (.putfield 26, 3) := by decide +kernel
theorem dX3_keep_41 : decode cX3_keep 41 = .ok (.return_, 1) := by decide +kernel
theorem dX3_takeBack_0 : decode cX3_takeBack 0 = .ok (.aload_n 0, 1) := by decide +kernel
theorem dX3_takeBack_1 : decode cX3_takeBack 1 = .ok (.getfield 26, 3) := by decide +kernel
theorem dX3_takeBack_4 : decode cX3_takeBack 4 = .ok (.ifCond .le 42, 3) := by decide +kernel
theorem dX3_takeBack_7 : decode cX3_takeBack 7 = .ok (.aload_n 0, 1) := by decide +kernel
theorem dX3_takeBack_8 : decode cX3_takeBack 8 = .ok (.aload_n 0, 1) := by decide +kernel
theorem dX3_takeBack_9 : decode cX3_takeBack 9 = .ok (.getfield 18, 3) := by decide +kernel
theorem dX3_takeBack_12 : decode cX3_takeBack 12 = .ok (.bipush 10, 2) := by decide +kernel
theorem dX3_takeBack_14 : decode cX3_takeBack 14 = .ok (.iadd, 1) := by decide +kernel
theorem dX3_takeBack_15 : decode cX3_takeBack 15 = .ok (.iconst 1, 1) := by decide +kernel
theorem dX3_takeBack_16 : decode cX3_takeBack 16 = .ok (.isub, 1) := by decide +kernel
theorem dX3_takeBack_17 : decode cX3_takeBack 17 = .ok (.bipush 10, 2) := by decide +kernel
theorem dX3_takeBack_19 : decode cX3_takeBack 19 = .ok (.irem, 1) := by decide +kernel
theorem dX3_takeBack_20 : decode cX3_takeBack 20 = .ok (.putfield 18, 3) := by decide +kernel
theorem dX3_takeBack_23 : decode cX3_takeBack 23 = .ok (.aload_n 0, 1) := by decide +kernel
theorem dX3_takeBack_24 : decode cX3_takeBack 24 = .ok (.dup, 1) := by decide +kernel
theorem dX3_takeBack_25 : decode cX3_takeBack 25 = .ok (.getfield 26, 3) := by decide +kernel
theorem dX3_takeBack_28 : decode cX3_takeBack 28 = .ok (.iconst 1, 1) := by decide +kernel
theorem dX3_takeBack_29 : decode cX3_takeBack 29 = .ok (.isub, 1) := by decide +kernel
theorem dX3_takeBack_30 : decode cX3_takeBack 30 = .ok (.putfield 26, 3) := by decide +kernel
theorem dX3_takeBack_33 : decode cX3_takeBack 33 = .ok (.aload_n 1, 1) := by decide +kernel
theorem dX3_takeBack_34 : decode cX3_takeBack 34 = .ok (.aload_n 0, 1) := by decide +kernel
theorem dX3_takeBack_35 : decode cX3_takeBack 35 = .ok (.getfield 11, 3) := by decide +kernel
theorem dX3_takeBack_38 : decode cX3_takeBack 38 = .ok (.aload_n 0, 1) := by decide +kernel
theorem dX3_takeBack_39 : decode cX3_takeBack 39 = .ok (.getfield 18, 3) := by decide +kernel
theorem dX3_takeBack_42 : decode cX3_takeBack 42 = .ok (.aaload, 1) := by decide +kernel
theorem dX3_takeBack_43 : decode cX3_takeBack 43 = .ok (.invokevirtual 22, 3) := by decide +kernel
theorem dX3_takeBack_46 : decode cX3_takeBack 46 = .ok (.return_, 1) := by decide +kernel
theorem dX4_wayOf_0 : decode cX4_wayOf 0 = .ok (.aload_n 0, 1) := by decide +kernel
theorem dX4_wayOf_1 : decode cX4_wayOf 1 = .ok (.getfield 15, 3) := by decide +kernel
theorem dX4_wayOf_4 : decode cX4_wayOf 4 = .ok (.iload_n 1, 1) := by decide +kernel
theorem dX4_wayOf_5 : decode cX4_wayOf 5 = .ok (.iaload, 1) := by decide +kernel
theorem dX4_wayOf_6 : decode cX4_wayOf 6 = .ok (.invokestatic 104, 3) := by decide +kernel
theorem dX4_wayOf_9 : decode cX4_wayOf 9 = .ok (.ireturn, 1) := by decide +kernel
theorem dX4_findLimits_0 : decode cX4_findLimits 0 = .ok (.aload_n 0, 1) := by decide +kernel
theorem dX4_findLimits_1 : decode cX4_findLimits 1 = .ok (.bipush 60, 2) := by decide +kernel
theorem dX4_findLimits_3 : decode cX4_findLimits 3 = .ok (.putfield 50, 3) := by decide +kernel
theorem dX4_findLimits_6 : decode cX4_findLimits 6 = .ok (.aload_n 0, 1) := by decide +kernel
theorem dX4_findLimits_7 : decode cX4_findLimits 7 = .ok (.bipush 30, 2) := by decide +kernel
theorem dX4_findLimits_9 : decode cX4_findLimits 9 = .ok (.putfield 66, 3) := by decide +kernel
theorem dX4_findLimits_12 : decode cX4_findLimits 12 = .ok (.aload_n 0, 1) := by decide +kernel
theorem dX4_findLimits_13 : decode cX4_findLimits 13 = .ok (.bipush 10, 2) := by decide +kernel
theorem dX4_findLimits_15 : decode cX4_findLimits 15 = .ok (.putfield 70, 3) := by decide +kernel
theorem dX4_findLimits_18 : decode cX4_findLimits 18 = .ok (.iconst 0, 1) := by decide +kernel
theorem dX4_findLimits_19 : decode cX4_findLimits 19 = .ok (.istore_n 2, 1) := by decide +kernel
theorem dX4_findLimits_20 : decode cX4_findLimits 20 = .ok (.iload_n 2, 1) := by decide +kernel
theorem dX4_findLimits_21 : decode cX4_findLimits 21 = .ok (.aload_n 1, 1) := by decide +kernel
theorem dX4_findLimits_22 : decode cX4_findLimits 22 = .ok (.getfield 37, 3) := by decide +kernel
theorem dX4_findLimits_25 : decode cX4_findLimits 25 = .ok (.if_icmp .ge 100, 3) := by decide +kernel
theorem dX4_findLimits_28 : decode cX4_findLimits 28 = .ok (.aload_n 0, 1) := by decide +kernel
theorem dX4_findLimits_29 : decode cX4_findLimits 29 = .ok (.iload_n 2, 1) := by decide +kernel
theorem dX4_findLimits_30 : decode cX4_findLimits 30 = .ok (.invokevirtual 42, 3) := by decide +kernel
theorem dX4_findLimits_33 : decode cX4_findLimits 33 = .ok (.istore_n 3, 1) := by decide +kernel
theorem dX4_findLimits_34 : decode cX4_findLimits 34 = .ok (.iload_n 3, 1) := by decide +kernel
theorem dX4_findLimits_35 : decode cX4_findLimits 35 = .ok (.ifCond .le 84, 3) := by decide +kernel
theorem dX4_findLimits_38 : decode cX4_findLimits 38 = .ok (.aload_n 0, 1) := by decide +kernel
theorem dX4_findLimits_39 : decode cX4_findLimits 39 = .ok (.aload_n 0, 1) := by decide +kernel
theorem dX4_findLimits_40 : decode cX4_findLimits 40 = .ok (.getfield 50, 3) := by decide +kernel
theorem dX4_findLimits_43 : decode cX4_findLimits 43 = .ok (.aload_n 1, 1) := by decide +kernel
theorem dX4_findLimits_44 : decode cX4_findLimits 44 = .ok (.getfield 57, 3) := by decide +kernel
theorem dX4_findLimits_47 : decode cX4_findLimits 47 = .ok (.iload_n 2, 1) := by decide +kernel
theorem dX4_findLimits_48 : decode cX4_findLimits 48 = .ok (.aaload, 1) := by decide +kernel
theorem dX4_findLimits_49 : decode cX4_findLimits 49 = .ok (.getfield 75, 3) := by decide +kernel
theorem dX4_findLimits_52 : decode cX4_findLimits 52 = .ok (.aload_n 0, 1) := by decide +kernel
theorem dX4_findLimits_53 : decode cX4_findLimits 53 = .ok (.getfield 29, 3) := by decide +kernel
theorem dX4_findLimits_56 : decode cX4_findLimits 56 = .ok (.imul, 1) := by decide +kernel
theorem dX4_findLimits_57 : decode cX4_findLimits 57 = .ok (.iload_n 3, 1) := by decide +kernel
theorem dX4_findLimits_58 : decode cX4_findLimits 58 = .ok (.idiv, 1) := by decide +kernel
theorem dX4_findLimits_59 : decode cX4_findLimits 59 = .ok (.invokestatic 76, 3) := by decide +kernel
theorem dX4_findLimits_62 : decode cX4_findLimits 62 = .ok (.putfield 50, 3) := by decide +kernel
theorem dX4_findLimits_65 : decode cX4_findLimits 65 = .ok (.aload_n 0, 1) := by decide +kernel
theorem dX4_findLimits_66 : decode cX4_findLimits 66 = .ok (.aload_n 0, 1) := by decide +kernel
theorem dX4_findLimits_67 : decode cX4_findLimits 67 = .ok (.getfield 66, 3) := by decide +kernel
theorem dX4_findLimits_70 : decode cX4_findLimits 70 = .ok (.aload_n 1, 1) := by decide +kernel
theorem dX4_findLimits_71 : decode cX4_findLimits 71 = .ok (.getfield 57, 3) := by decide +kernel
theorem dX4_findLimits_74 : decode cX4_findLimits 74 = .ok (.iload_n 2, 1) := by decide +kernel
theorem dX4_findLimits_75 : decode cX4_findLimits 75 = .ok (.aaload, 1) := by decide +kernel
theorem dX4_findLimits_76 : decode cX4_findLimits 76 = .ok (.getfield 61, 3) := by decide +kernel
theorem dX4_findLimits_79 : decode cX4_findLimits 79 = .ok (.aload_n 0, 1) := by decide +kernel
theorem dX4_findLimits_80 : decode cX4_findLimits 80 = .ok (.getfield 29, 3) := by decide +kernel
theorem dX4_findLimits_83 : decode cX4_findLimits 83 = .ok (.imul, 1) := by decide +kernel
theorem dX4_findLimits_84 : decode cX4_findLimits 84 = .ok (.iload_n 3, 1) := by decide +kernel
theorem dX4_findLimits_85 : decode cX4_findLimits 85 = .ok (.idiv, 1) := by decide +kernel
theorem dX4_findLimits_86 : decode cX4_findLimits 86 = .ok (.invokestatic 76, 3) := by decide +kernel
theorem dX4_findLimits_89 : decode cX4_findLimits 89 = .ok (.putfield 66, 3) := by decide +kernel
theorem dX4_findLimits_92 : decode cX4_findLimits 92 = .ok (.aload_n 0, 1) := by decide +kernel
theorem dX4_findLimits_93 : decode cX4_findLimits 93 = .ok (.aload_n 0, 1) := by decide +kernel
theorem dX4_findLimits_94 : decode cX4_findLimits 94 = .ok (.getfield 70, 3) := by decide +kernel
theorem dX4_findLimits_97 : decode cX4_findLimits 97 = .ok (.aload_n 1, 1) := by decide +kernel
theorem dX4_findLimits_98 : decode cX4_findLimits 98 = .ok (.getfield 57, 3) := by decide +kernel
theorem dX4_findLimits_101 : decode cX4_findLimits 101 = .ok (.iload_n 2, 1) := by decide +kernel
theorem dX4_findLimits_102 : decode cX4_findLimits 102 = .ok (.aaload, 1) := by decide +kernel
theorem dX4_findLimits_103 : decode cX4_findLimits 103 = .ok (.getfield 67, 3) := by decide +kernel
theorem dX4_findLimits_106 : decode cX4_findLimits 106 = .ok (.aload_n 0, 1) := by decide +kernel
theorem dX4_findLimits_107 : decode cX4_findLimits 107 = .ok (.getfield 29, 3) := by decide +kernel
theorem dX4_findLimits_110 : decode cX4_findLimits 110 = .ok (.imul, 1) := by decide +kernel
theorem dX4_findLimits_111 : decode cX4_findLimits 111 = .ok (.iload_n 3, 1) := by decide +kernel
theorem dX4_findLimits_112 : decode cX4_findLimits 112 = .ok (.idiv, 1) := by decide +kernel
theorem dX4_findLimits_113 : decode cX4_findLimits 113 = .ok (.invokestatic 76, 3) := by decide +kernel
theorem dX4_findLimits_116 : decode cX4_findLimits 116 = .ok (.putfield 70, 3) := by decide +kernel
theorem dX4_findLimits_119 : decode cX4_findLimits 119 = .ok (.iinc 2 1, 3) := by decide +kernel
theorem dX4_findLimits_122 : decode cX4_findLimits 122 = .ok (.goto (-102), 3) := by decide +kernel
theorem dX4_findLimits_125 : decode cX4_findLimits 125 = .ok (.return_, 1) := by decide +kernel
theorem dX5_nextGain_0 : decode cX5_nextGain 0 = .ok (.iload_n 3, 1) := by decide +kernel
theorem dX5_nextGain_1 : decode cX5_nextGain 1 = .ok (.iconst 1, 1) := by decide +kernel
theorem dX5_nextGain_2 : decode cX5_nextGain 2 = .ok (.if_icmp .ge 5, 3) := by decide +kernel
theorem dX5_nextGain_5 : decode cX5_nextGain 5 = .ok (.iconst 0, 1) := by decide +kernel
theorem dX5_nextGain_6 : decode cX5_nextGain 6 = .ok (.ireturn, 1) := by decide +kernel
theorem dX5_nextGain_7 : decode cX5_nextGain 7 = .ok (.iconst 1, 1) := by decide +kernel
theorem dX5_nextGain_8 : decode cX5_nextGain 8 = .ok (.istore 4, 2) := by decide +kernel
theorem dX5_nextGain_10 : decode cX5_nextGain 10 = .ok (.iload 4, 2) := by decide +kernel
theorem dX5_nextGain_12 : decode cX5_nextGain 12 = .ok (.iconst (-1), 1) := by decide +kernel
theorem dX5_nextGain_13 : decode cX5_nextGain 13 = .ok (.if_icmp .lt 66, 3) := by decide +kernel
theorem dX5_nextGain_16 : decode cX5_nextGain 16 = .ok (.iload_n 1, 1) := by decide +kernel
theorem dX5_nextGain_17 : decode cX5_nextGain 17 = .ok (.iload 4, 2) := by decide +kernel
theorem dX5_nextGain_19 : decode cX5_nextGain 19 = .ok (.iload_n 3, 1) := by decide +kernel
theorem dX5_nextGain_20 : decode cX5_nextGain 20 = .ok (.imul, 1) := by decide +kernel
theorem dX5_nextGain_21 : decode cX5_nextGain 21 = .ok (.iadd, 1) := by decide +kernel
theorem dX5_nextGain_22 : decode cX5_nextGain 22 = .ok (.istore 5, 2) := by decide +kernel
theorem dX5_nextGain_24 : decode cX5_nextGain 24 = .ok (.iload 5, 2) := by decide +kernel
theorem dX5_nextGain_26 : decode cX5_nextGain 26 = .ok (.iload_n 3, 1) := by decide +kernel
theorem dX5_nextGain_27 : decode cX5_nextGain 27 = .ok (.iadd, 1) := by decide +kernel
theorem dX5_nextGain_28 : decode cX5_nextGain 28 = .ok (.iconst 1, 1) := by decide +kernel
theorem dX5_nextGain_29 : decode cX5_nextGain 29 = .ok (.isub, 1) := by decide +kernel
theorem dX5_nextGain_30 : decode cX5_nextGain 30 = .ok (.iload_n 3, 1) := by decide +kernel
theorem dX5_nextGain_31 : decode cX5_nextGain 31 = .ok (.idiv, 1) := by decide +kernel
theorem dX5_nextGain_32 : decode cX5_nextGain 32 = .ok (.istore 6, 2) := by decide +kernel
theorem dX5_nextGain_34 : decode cX5_nextGain 34 = .ok (.iload 6, 2) := by decide +kernel
theorem dX5_nextGain_36 : decode cX5_nextGain 36 = .ok (.iload 5, 2) := by decide +kernel
theorem dX5_nextGain_38 : decode cX5_nextGain 38 = .ok (.imul, 1) := by decide +kernel
theorem dX5_nextGain_39 : decode cX5_nextGain 39 = .ok (.iload_n 3, 1) := by decide +kernel
theorem dX5_nextGain_40 : decode cX5_nextGain 40 = .ok (.iload 6, 2) := by decide +kernel
theorem dX5_nextGain_42 : decode cX5_nextGain 42 = .ok (.iload 6, 2) := by decide +kernel
theorem dX5_nextGain_44 : decode cX5_nextGain 44 = .ok (.iconst 1, 1) := by decide +kernel
theorem dX5_nextGain_45 : decode cX5_nextGain 45 = .ok (.isub, 1) := by decide +kernel
theorem dX5_nextGain_46 : decode cX5_nextGain 46 = .ok (.imul, 1) := by decide +kernel
theorem dX5_nextGain_47 : decode cX5_nextGain 47 = .ok (.iconst 2, 1) := by decide +kernel
theorem dX5_nextGain_48 : decode cX5_nextGain 48 = .ok (.idiv, 1) := by decide +kernel
theorem dX5_nextGain_49 : decode cX5_nextGain 49 = .ok (.imul, 1) := by decide +kernel
theorem dX5_nextGain_50 : decode cX5_nextGain 50 = .ok (.isub, 1) := by decide +kernel
theorem dX5_nextGain_51 : decode cX5_nextGain 51 = .ok (.istore 7, 2) := by decide +kernel
theorem dX5_nextGain_53 : decode cX5_nextGain 53 = .ok (.iload 5, 2) := by decide +kernel
theorem dX5_nextGain_55 : decode cX5_nextGain 55 = .ok (.ifCond .le 18, 3) := by decide +kernel
theorem dX5_nextGain_58 : decode cX5_nextGain 58 = .ok (.iload 5, 2) := by decide +kernel
theorem dX5_nextGain_60 : decode cX5_nextGain 60 = .ok (.iload_n 2, 1) := by decide +kernel
theorem dX5_nextGain_61 : decode cX5_nextGain 61 = .ok (.if_icmp .gt 12, 3) := by decide +kernel
theorem dX5_nextGain_64 : decode cX5_nextGain 64 = .ok (.iload 7, 2) := by decide +kernel
theorem dX5_nextGain_66 : decode cX5_nextGain 66 = .ok (.iload_n 0, 1) := by decide +kernel
theorem dX5_nextGain_67 : decode cX5_nextGain 67 = .ok (.if_icmp .gt 6, 3) := by decide +kernel
theorem dX5_nextGain_70 : decode cX5_nextGain 70 = .ok (.iload 5, 2) := by decide +kernel
theorem dX5_nextGain_72 : decode cX5_nextGain 72 = .ok (.ireturn, 1) := by decide +kernel
theorem dX5_nextGain_73 : decode cX5_nextGain 73 = .ok (.iinc 4 (-1), 3) := by decide +kernel
theorem dX5_nextGain_76 : decode cX5_nextGain 76 = .ok (.goto (-66), 3) := by decide +kernel
theorem dX5_nextGain_79 : decode cX5_nextGain 79 = .ok (.iconst 0, 1) := by decide +kernel
theorem dX5_nextGain_80 : decode cX5_nextGain 80 = .ok (.ireturn, 1) := by decide +kernel
theorem dX5_build_0 : decode cX5_build 0 = .ok (.iconst 0, 1) := by decide +kernel
theorem dX5_build_1 : decode cX5_build 1 = .ok (.istore 4, 2) := by decide +kernel
theorem dX5_build_3 : decode cX5_build 3 = .ok (.iconst 0, 1) := by decide +kernel
theorem dX5_build_4 : decode cX5_build 4 = .ok (.istore 5, 2) := by decide +kernel
theorem dX5_build_6 : decode cX5_build 6 = .ok (.aload_n 0, 1) := by decide +kernel
theorem dX5_build_7 : decode cX5_build 7 = .ok (.iconst 0, 1) := by decide +kernel
theorem dX5_build_8 : decode cX5_build 8 = .ok (.putfield 15, 3) := by decide +kernel
theorem dX5_build_11 : decode cX5_build 11 = .ok (.aload_n 0, 1) := by decide +kernel
theorem dX5_build_12 : decode cX5_build 12 = .ok (.getfield 15, 3) := by decide +kernel
theorem dX5_build_15 : decode cX5_build 15 = .ok (.bipush 60, 2) := by decide +kernel
theorem dX5_build_17 : decode cX5_build 17 = .ok (.if_icmp .ge 65, 3) := by decide +kernel
theorem dX5_build_20 : decode cX5_build 20 = .ok (.iload_n 1, 1) := by decide +kernel
theorem dX5_build_21 : decode cX5_build 21 = .ok (.iload 4, 2) := by decide +kernel
theorem dX5_build_23 : decode cX5_build 23 = .ok (.isub, 1) := by decide +kernel
theorem dX5_build_24 : decode cX5_build 24 = .ok (.iload 5, 2) := by decide +kernel
theorem dX5_build_26 : decode cX5_build 26 = .ok (.iload_n 2, 1) := by decide +kernel
theorem dX5_build_27 : decode cX5_build 27 = .ok (.iload_n 3, 1) := by decide +kernel
theorem dX5_build_28 : decode cX5_build 28 = .ok (.invokestatic 19, 3) := by decide +kernel
theorem dX5_build_31 : decode cX5_build 31 = .ok (.istore 5, 2) := by decide +kernel
theorem dX5_build_33 : decode cX5_build 33 = .ok (.iload 5, 2) := by decide +kernel
theorem dX5_build_35 : decode cX5_build 35 = .ok (.ifCond .ne 4, 3) := by decide +kernel
theorem dX5_build_38 : decode cX5_build 38 = .ok (.return_, 1) := by decide +kernel
theorem dX5_build_39 : decode cX5_build 39 = .ok (.iload 4, 2) := by decide +kernel
theorem dX5_build_41 : decode cX5_build 41 = .ok (.iload 5, 2) := by decide +kernel
theorem dX5_build_43 : decode cX5_build 43 = .ok (.iadd, 1) := by decide +kernel
theorem dX5_build_44 : decode cX5_build 44 = .ok (.istore 4, 2) := by decide +kernel
theorem dX5_build_46 : decode cX5_build 46 = .ok (.aload_n 0, 1) := by decide +kernel
theorem dX5_build_47 : decode cX5_build 47 = .ok (.getfield 9, 3) := by decide +kernel
theorem dX5_build_50 : decode cX5_build 50 = .ok (.aload_n 0, 1) := by decide +kernel
theorem dX5_build_51 : decode cX5_build 51 = .ok (.getfield 15, 3) := by decide +kernel
theorem dX5_build_54 : decode cX5_build 54 = .ok (.iconst 1, 1) := by decide +kernel
theorem dX5_build_55 : decode cX5_build 55 = .ok (.iadd, 1) := by decide +kernel
theorem dX5_build_56 : decode cX5_build 56 = .ok (.aload_n 0, 1) := by decide +kernel
theorem dX5_build_57 : decode cX5_build 57 = .ok (.getfield 9, 3) := by decide +kernel
theorem dX5_build_60 : decode cX5_build 60 = .ok (.aload_n 0, 1) := by decide +kernel
theorem dX5_build_61 : decode cX5_build 61 = .ok (.getfield 15, 3) := by decide +kernel
theorem dX5_build_64 : decode cX5_build 64 = .ok (.iaload, 1) := by decide +kernel
theorem dX5_build_65 : decode cX5_build 65 = .ok (.iload 4, 2) := by decide +kernel
theorem dX5_build_67 : decode cX5_build 67 = .ok (.iadd, 1) := by decide +kernel
theorem dX5_build_68 : decode cX5_build 68 = .ok (.iastore, 1) := by decide +kernel
theorem dX5_build_69 : decode cX5_build 69 = .ok (.aload_n 0, 1) := by decide +kernel
theorem dX5_build_70 : decode cX5_build 70 = .ok (.dup, 1) := by decide +kernel
theorem dX5_build_71 : decode cX5_build 71 = .ok (.getfield 15, 3) := by decide +kernel
theorem dX5_build_74 : decode cX5_build 74 = .ok (.iconst 1, 1) := by decide +kernel
theorem dX5_build_75 : decode cX5_build 75 = .ok (.iadd, 1) := by decide +kernel
theorem dX5_build_76 : decode cX5_build 76 = .ok (.putfield 15, 3) := by decide +kernel
theorem dX5_build_79 : decode cX5_build 79 = .ok (.goto (-68), 3) := by decide +kernel
theorem dX5_build_82 : decode cX5_build 82 = .ok (.return_, 1) := by decide +kernel
theorem dX5_speedIn_0 : decode cX5_speedIn 0 = .ok (.iload_n 1, 1) := by decide +kernel
theorem dX5_speedIn_1 : decode cX5_speedIn 1 = .ok (.iconst 1, 1) := by decide +kernel
theorem dX5_speedIn_2 : decode cX5_speedIn 2 = .ok (.if_icmp .lt 30, 3) := by decide +kernel
theorem dX5_speedIn_5 : decode cX5_speedIn 5 = .ok (.iload_n 1, 1) := by decide +kernel
theorem dX5_speedIn_6 : decode cX5_speedIn 6 = .ok (.aload_n 0, 1) := by decide +kernel
theorem dX5_speedIn_7 : decode cX5_speedIn 7 = .ok (.getfield 9, 3) := by decide +kernel
theorem dX5_speedIn_10 : decode cX5_speedIn 10 = .ok (.arraylength, 1) := by decide +kernel
theorem dX5_speedIn_11 : decode cX5_speedIn 11 = .ok (.if_icmp .ge 21, 3) := by decide +kernel
theorem dX5_speedIn_14 : decode cX5_speedIn 14 = .ok (.aload_n 0, 1) := by decide +kernel
theorem dX5_speedIn_15 : decode cX5_speedIn 15 = .ok (.getfield 9, 3) := by decide +kernel
theorem dX5_speedIn_18 : decode cX5_speedIn 18 = .ok (.iload_n 1, 1) := by decide +kernel
theorem dX5_speedIn_19 : decode cX5_speedIn 19 = .ok (.iaload, 1) := by decide +kernel
theorem dX5_speedIn_20 : decode cX5_speedIn 20 = .ok (.aload_n 0, 1) := by decide +kernel
theorem dX5_speedIn_21 : decode cX5_speedIn 21 = .ok (.getfield 9, 3) := by decide +kernel
theorem dX5_speedIn_24 : decode cX5_speedIn 24 = .ok (.iload_n 1, 1) := by decide +kernel
theorem dX5_speedIn_25 : decode cX5_speedIn 25 = .ok (.iconst 1, 1) := by decide +kernel
theorem dX5_speedIn_26 : decode cX5_speedIn 26 = .ok (.isub, 1) := by decide +kernel
theorem dX5_speedIn_27 : decode cX5_speedIn 27 = .ok (.iaload, 1) := by decide +kernel
theorem dX5_speedIn_28 : decode cX5_speedIn 28 = .ok (.isub, 1) := by decide +kernel
theorem dX5_speedIn_29 : decode cX5_speedIn 29 = .ok (.goto 4, 3) := by decide +kernel
theorem dX5_speedIn_32 : decode cX5_speedIn 32 = .ok (.iconst 0, 1) := by decide +kernel
theorem dX5_speedIn_33 : decode cX5_speedIn 33 = .ok (.ireturn, 1) := by decide +kernel
theorem dX5_reached_0 : decode cX5_reached 0 = .ok (.aload_n 0, 1) := by decide +kernel
theorem dX5_reached_1 : decode cX5_reached 1 = .ok (.aload_n 0, 1) := by decide +kernel
theorem dX5_reached_2 : decode cX5_reached 2 = .ok (.getfield 15, 3) := by decide +kernel
theorem dX5_reached_5 : decode cX5_reached 5 = .ok (.invokevirtual 23, 3) := by decide +kernel
theorem dX5_reached_8 : decode cX5_reached 8 = .ok (.ireturn, 1) := by decide +kernel
theorem dX5_micros_0 : decode cX5_micros 0 = .ok (.aload_n 0, 1) := by decide +kernel
theorem dX5_micros_1 : decode cX5_micros 1 = .ok (.getfield 9, 3) := by decide +kernel
theorem dX5_micros_4 : decode cX5_micros 4 = .ok (.aload_n 0, 1) := by decide +kernel
theorem dX5_micros_5 : decode cX5_micros 5 = .ok (.getfield 15, 3) := by decide +kernel
theorem dX5_micros_8 : decode cX5_micros 8 = .ok (.iaload, 1) := by decide +kernel
theorem dX5_micros_9 : decode cX5_micros 9 = .ok (.ireturn, 1) := by decide +kernel
theorem dX4_takeTop_0 : decode cX4_takeTop 0 = .ok (.aload_n 0, 1) := by decide +kernel
theorem dX4_takeTop_1 : decode cX4_takeTop 1 = .ok (.getfield 21, 3) := by decide +kernel
theorem dX4_takeTop_4 : decode cX4_takeTop 4 = .ok (.iload_n 2, 1) := by decide +kernel
theorem dX4_takeTop_5 : decode cX4_takeTop 5 = .ok (.aload_n 0, 1) := by decide +kernel
theorem dX4_takeTop_6 : decode cX4_takeTop 6 = .ok (.getfield 66, 3) := by decide +kernel
theorem dX4_takeTop_9 : decode cX4_takeTop 9 = .ok (.aload_n 0, 1) := by decide +kernel
theorem dX4_takeTop_10 : decode cX4_takeTop 10 = .ok (.getfield 70, 3) := by decide +kernel
theorem dX4_takeTop_13 : decode cX4_takeTop 13 = .ok (.invokevirtual 82, 3) := by decide +kernel
theorem dX4_takeTop_16 : decode cX4_takeTop 16 = .ok (.aload_n 0, 1) := by decide +kernel
theorem dX4_takeTop_17 : decode cX4_takeTop 17 = .ok (.getfield 21, 3) := by decide +kernel
theorem dX4_takeTop_20 : decode cX4_takeTop 20 = .ok (.invokevirtual 86, 3) := by decide +kernel
theorem dX4_takeTop_23 : decode cX4_takeTop 23 = .ok (.istore_n 3, 1) := by decide +kernel
theorem dX4_takeTop_24 : decode cX4_takeTop 24 = .ok (.iconst 2, 1) := by decide +kernel
theorem dX4_takeTop_25 : decode cX4_takeTop 25 = .ok (.aload_n 0, 1) := by decide +kernel
theorem dX4_takeTop_26 : decode cX4_takeTop 26 = .ok (.getfield 21, 3) := by decide +kernel
theorem dX4_takeTop_29 : decode cX4_takeTop 29 = .ok (.invokevirtual 89, 3) := by decide +kernel
theorem dX4_takeTop_32 : decode cX4_takeTop 32 = .ok (.imul, 1) := by decide +kernel
theorem dX4_takeTop_33 : decode cX4_takeTop 33 = .ok (.aload_n 0, 1) := by decide +kernel
theorem dX4_takeTop_34 : decode cX4_takeTop 34 = .ok (.getfield 29, 3) := by decide +kernel
theorem dX4_takeTop_37 : decode cX4_takeTop 37 = .ok (.if_icmp .gt 15, 3) := by decide +kernel
theorem dX4_takeTop_40 : decode cX4_takeTop 40 = .ok (.aload_n 1, 1) := by decide +kernel
theorem dX4_takeTop_41 : decode cX4_takeTop 41 = .ok (.aload_n 0, 1) := by decide +kernel
theorem dX4_takeTop_42 : decode cX4_takeTop 42 = .ok (.getfield 25, 3) := by decide +kernel
theorem dX4_takeTop_45 : decode cX4_takeTop 45 = .ok (.iload_n 3, 1) := by decide +kernel
theorem dX4_takeTop_46 : decode cX4_takeTop 46 = .ok (.invokevirtual 92, 3) := by decide +kernel
theorem dX4_takeTop_49 : decode cX4_takeTop 49 = .ok (.ifCond .le 5, 3) := by decide +kernel
theorem dX4_takeTop_52 : decode cX4_takeTop 52 = .ok (.iconst 0, 1) := by decide +kernel
theorem dX4_takeTop_53 : decode cX4_takeTop 53 = .ok (.ireturn, 1) := by decide +kernel
theorem dX4_takeTop_54 : decode cX4_takeTop 54 = .ok (.iconst 1, 1) := by decide +kernel
theorem dX4_takeTop_55 : decode cX4_takeTop 55 = .ok (.iload_n 3, 1) := by decide +kernel
theorem dX4_takeTop_56 : decode cX4_takeTop 56 = .ok (.invokestatic 95, 3) := by decide +kernel
theorem dX4_takeTop_59 : decode cX4_takeTop 59 = .ok (.istore 4, 2) := by decide +kernel
theorem dX4_takeTop_61 : decode cX4_takeTop 61 = .ok (.aload_n 0, 1) := by decide +kernel
theorem dX4_takeTop_62 : decode cX4_takeTop 62 = .ok (.aload_n 0, 1) := by decide +kernel
theorem dX4_takeTop_63 : decode cX4_takeTop 63 = .ok (.getfield 29, 3) := by decide +kernel
theorem dX4_takeTop_66 : decode cX4_takeTop 66 = .ok (.iconst 2, 1) := by decide +kernel
theorem dX4_takeTop_67 : decode cX4_takeTop 67 = .ok (.aload_n 0, 1) := by decide +kernel
theorem dX4_takeTop_68 : decode cX4_takeTop 68 = .ok (.getfield 21, 3) := by decide +kernel
theorem dX4_takeTop_71 : decode cX4_takeTop 71 = .ok (.invokevirtual 89, 3) := by decide +kernel
theorem dX4_takeTop_74 : decode cX4_takeTop 74 = .ok (.imul, 1) := by decide +kernel
theorem dX4_takeTop_75 : decode cX4_takeTop 75 = .ok (.isub, 1) := by decide +kernel
theorem dX4_takeTop_76 : decode cX4_takeTop 76 = .ok (.putfield 98, 3) := by decide +kernel
theorem dX4_takeTop_79 : decode cX4_takeTop 79 = .ok (.aload_n 0, 1) := by decide +kernel
theorem dX4_takeTop_80 : decode cX4_takeTop 80 = .ok (.aload_n 0, 1) := by decide +kernel
theorem dX4_takeTop_81 : decode cX4_takeTop 81 = .ok (.getfield 98, 3) := by decide +kernel
theorem dX4_takeTop_84 : decode cX4_takeTop 84 = .ok (.iload 4, 2) := by decide +kernel
theorem dX4_takeTop_86 : decode cX4_takeTop 86 = .ok (.iadd, 1) := by decide +kernel
theorem dX4_takeTop_87 : decode cX4_takeTop 87 = .ok (.iconst 1, 1) := by decide +kernel
theorem dX4_takeTop_88 : decode cX4_takeTop 88 = .ok (.isub, 1) := by decide +kernel
theorem dX4_takeTop_89 : decode cX4_takeTop 89 = .ok (.iload 4, 2) := by decide +kernel
theorem dX4_takeTop_91 : decode cX4_takeTop 91 = .ok (.idiv, 1) := by decide +kernel
theorem dX4_takeTop_92 : decode cX4_takeTop 92 = .ok (.putfield 101, 3) := by decide +kernel
theorem dX4_takeTop_95 : decode cX4_takeTop 95 = .ok (.iconst 1, 1) := by decide +kernel
theorem dX4_takeTop_96 : decode cX4_takeTop 96 = .ok (.ireturn, 1) := by decide +kernel
theorem dX4_plan_0 : decode cX4_plan 0 = .ok (.aload_n 0, 1) := by decide +kernel
theorem dX4_plan_1 : decode cX4_plan 1 = .ok (.iconst 0, 1) := by decide +kernel
theorem dX4_plan_2 : decode cX4_plan 2 = .ok (.putfield 25, 3) := by decide +kernel
theorem dX4_plan_5 : decode cX4_plan 5 = .ok (.aload_n 0, 1) := by decide +kernel
theorem dX4_plan_6 : decode cX4_plan 6 = .ok (.iconst 0, 1) := by decide +kernel
theorem dX4_plan_7 : decode cX4_plan 7 = .ok (.putfield 29, 3) := by decide +kernel
theorem dX4_plan_10 : decode cX4_plan 10 = .ok (.iconst 0, 1) := by decide +kernel
theorem dX4_plan_11 : decode cX4_plan 11 = .ok (.istore 4, 2) := by decide +kernel
theorem dX4_plan_13 : decode cX4_plan 13 = .ok (.iload 4, 2) := by decide +kernel
theorem dX4_plan_15 : decode cX4_plan 15 = .ok (.iconst 3, 1) := by decide +kernel
theorem dX4_plan_16 : decode cX4_plan 16 = .ok (.if_icmp .ge 84, 3) := by decide +kernel
theorem dX4_plan_19 : decode cX4_plan 19 = .ok (.aload_n 0, 1) := by decide +kernel
theorem dX4_plan_20 : decode cX4_plan 20 = .ok (.getfield 9, 3) := by decide +kernel
theorem dX4_plan_23 : decode cX4_plan 23 = .ok (.iload 4, 2) := by decide +kernel
theorem dX4_plan_25 : decode cX4_plan 25 = .ok (.aload_n 1, 1) := by decide +kernel
theorem dX4_plan_26 : decode cX4_plan 26 = .ok (.iload 4, 2) := by decide +kernel
theorem dX4_plan_28 : decode cX4_plan 28 = .ok (.aaload, 1) := by decide +kernel
theorem dX4_plan_29 : decode cX4_plan 29 = .ok (.getfield 32, 3) := by decide +kernel
theorem dX4_plan_32 : decode cX4_plan 32 = .ok (.iastore, 1) := by decide +kernel
theorem dX4_plan_33 : decode cX4_plan 33 = .ok (.aload_n 0, 1) := by decide +kernel
theorem dX4_plan_34 : decode cX4_plan 34 = .ok (.getfield 15, 3) := by decide +kernel
theorem dX4_plan_37 : decode cX4_plan 37 = .ok (.iload 4, 2) := by decide +kernel
theorem dX4_plan_39 : decode cX4_plan 39 = .ok (.iload 4, 2) := by decide +kernel
theorem dX4_plan_41 : decode cX4_plan 41 = .ok (.aload_n 3, 1) := by decide +kernel
theorem dX4_plan_42 : decode cX4_plan 42 = .ok (.getfield 37, 3) := by decide +kernel
theorem dX4_plan_45 : decode cX4_plan 45 = .ok (.if_icmp .ge 18, 3) := by decide +kernel
theorem dX4_plan_48 : decode cX4_plan 48 = .ok (.aload_n 2, 1) := by decide +kernel
theorem dX4_plan_49 : decode cX4_plan 49 = .ok (.iload 4, 2) := by decide +kernel
theorem dX4_plan_51 : decode cX4_plan 51 = .ok (.iaload, 1) := by decide +kernel
theorem dX4_plan_52 : decode cX4_plan 52 = .ok (.aload_n 0, 1) := by decide +kernel
theorem dX4_plan_53 : decode cX4_plan 53 = .ok (.getfield 9, 3) := by decide +kernel
theorem dX4_plan_56 : decode cX4_plan 56 = .ok (.iload 4, 2) := by decide +kernel
theorem dX4_plan_58 : decode cX4_plan 58 = .ok (.iaload, 1) := by decide +kernel
theorem dX4_plan_59 : decode cX4_plan 59 = .ok (.isub, 1) := by decide +kernel
theorem dX4_plan_60 : decode cX4_plan 60 = .ok (.goto 4, 3) := by decide +kernel
theorem dX4_plan_63 : decode cX4_plan 63 = .ok (.iconst 0, 1) := by decide +kernel
theorem dX4_plan_64 : decode cX4_plan 64 = .ok (.iastore, 1) := by decide +kernel
theorem dX4_plan_65 : decode cX4_plan 65 = .ok (.aload_n 0, 1) := by decide +kernel
theorem dX4_plan_66 : decode cX4_plan 66 = .ok (.iload 4, 2) := by decide +kernel
theorem dX4_plan_68 : decode cX4_plan 68 = .ok (.invokevirtual 42, 3) := by decide +kernel
theorem dX4_plan_71 : decode cX4_plan 71 = .ok (.aload_n 0, 1) := by decide +kernel
theorem dX4_plan_72 : decode cX4_plan 72 = .ok (.getfield 29, 3) := by decide +kernel
theorem dX4_plan_75 : decode cX4_plan 75 = .ok (.if_icmp .le 19, 3) := by decide +kernel
theorem dX4_plan_78 : decode cX4_plan 78 = .ok (.aload_n 0, 1) := by decide +kernel
theorem dX4_plan_79 : decode cX4_plan 79 = .ok (.aload_n 0, 1) := by decide +kernel
theorem dX4_plan_80 : decode cX4_plan 80 = .ok (.iload 4, 2) := by decide +kernel
theorem dX4_plan_82 : decode cX4_plan 82 = .ok (.invokevirtual 42, 3) := by decide +kernel
theorem dX4_plan_85 : decode cX4_plan 85 = .ok (.putfield 29, 3) := by decide +kernel
theorem dX4_plan_88 : decode cX4_plan 88 = .ok (.aload_n 0, 1) := by decide +kernel
theorem dX4_plan_89 : decode cX4_plan 89 = .ok (.iload 4, 2) := by decide +kernel
theorem dX4_plan_91 : decode cX4_plan 91 = .ok (.putfield 25, 3) := by decide +kernel
theorem dX4_plan_94 : decode cX4_plan 94 = .ok (.iinc 4 1, 3) := by decide +kernel
theorem dX4_plan_97 : decode cX4_plan 97 = .ok (.goto (-84), 3) := by decide +kernel
theorem dX4_plan_100 : decode cX4_plan 100 = .ok (.aload_n 0, 1) := by decide +kernel
theorem dX4_plan_101 : decode cX4_plan 101 = .ok (.getfield 29, 3) := by decide +kernel
theorem dX4_plan_104 : decode cX4_plan 104 = .ok (.ifCond .ne 5, 3) := by decide +kernel
theorem dX4_plan_107 : decode cX4_plan 107 = .ok (.iconst 0, 1) := by decide +kernel
theorem dX4_plan_108 : decode cX4_plan 108 = .ok (.ireturn, 1) := by decide +kernel
theorem dX4_plan_109 : decode cX4_plan 109 = .ok (.aload_n 0, 1) := by decide +kernel
theorem dX4_plan_110 : decode cX4_plan 110 = .ok (.aload_n 3, 1) := by decide +kernel
theorem dX4_plan_111 : decode cX4_plan 111 = .ok (.invokevirtual 46, 3) := by decide +kernel
theorem dX4_plan_114 : decode cX4_plan 114 = .ok (.aload_n 0, 1) := by decide +kernel
theorem dX4_plan_115 : decode cX4_plan 115 = .ok (.getfield 50, 3) := by decide +kernel
theorem dX4_plan_118 : decode cX4_plan 118 = .ok (.istore 4, 2) := by decide +kernel
theorem dX4_plan_120 : decode cX4_plan 120 = .ok (.iload 4, 2) := by decide +kernel
theorem dX4_plan_122 : decode cX4_plan 122 = .ok (.ifCond .lt 21, 3) := by decide +kernel
theorem dX4_plan_125 : decode cX4_plan 125 = .ok (.aload_n 0, 1) := by decide +kernel
theorem dX4_plan_126 : decode cX4_plan 126 = .ok (.aload_n 3, 1) := by decide +kernel
theorem dX4_plan_127 : decode cX4_plan 127 = .ok (.iload 4, 2) := by decide +kernel
theorem dX4_plan_129 : decode cX4_plan 129 = .ok (.invokevirtual 53, 3) := by decide +kernel
theorem dX4_plan_132 : decode cX4_plan 132 = .ok (.ifCond .eq 5, 3) := by decide +kernel
theorem dX4_plan_135 : decode cX4_plan 135 = .ok (.iconst 1, 1) := by decide +kernel
theorem dX4_plan_136 : decode cX4_plan 136 = .ok (.ireturn, 1) := by decide +kernel
theorem dX4_plan_137 : decode cX4_plan 137 = .ok (.iinc 4 (-1), 3) := by decide +kernel
theorem dX4_plan_140 : decode cX4_plan 140 = .ok (.goto (-20), 3) := by decide +kernel
theorem dX4_plan_143 : decode cX4_plan 143 = .ok (.iconst 0, 1) := by decide +kernel
theorem dX4_plan_144 : decode cX4_plan 144 = .ok (.ireturn, 1) := by decide +kernel
def zX0_clear (sh : zShp) (k0 : Nat) (p1 : Int32) (M : zMem) : Option (zMem) :=
  zbd (zpI M k0 0 p1) fun M_1 =>
  zbd (zpI M_1 k0 4 (1000 : Int32)) fun M_2 =>
  zbd (zpI M_2 k0 5 (40 : Int32)) fun M_3 =>
  zbd (zpI M_3 k0 6 (20 : Int32)) fun M_4 =>
  zbd (zpI M_4 k0 7 (0 : Int32)) fun M_5 =>
  some M_5
set_option maxHeartbeats 4000000 in
set_option maxRecDepth 100000 in
theorem ztX0_clear (l : Launch) (D : va_G) (cy : Nat → ClassId) (sh : zShp) (ad : Nat → Nat) {k0 : Nat} {p1 : Int32} (h0 : zT sh k0 0) {M : zMem} {M1 : zMem} (hd : zX0_clear sh k0 p1 M = some M1) : zCV l yX0_clear cX0_clear 2 { frames := 0, cells := 0, slots := 0, locals := 0 } [.ref (ad k0), .int p1] D cy sh ad M M1 := by
  refine zcv_of (by decide) (Nat.le_of_ble_eq_true rfl) (fun p e s m below meth c ls F hr hlk hl hw => ?_)
  have hx := F.1.1
  have hb := F.1.2.1
  have hl : lv_has ls 2 [(0, .ref (ad k0)), (1, .int p1)] := hl
  unfold zX0_clear at hd
  refine lv_aload_n hx hb dX0_clear_0 rfl (lv_at hl 0 rfl) ?_
  refine lv_iload_n hx hb dX0_clear_1 rfl (lv_at hl 1 rfl) ?_
  refine z_pI F hw h0 zc0 0 (by decide) rfl zf0_22 rfl rfl rfl dX0_clear_2 (fun H locs M_1 eM_1 hw => ?_)
  have hd := zbd_eq eM_1 hd
  refine lv_aload_n hx hb dX0_clear_5 rfl (lv_at hl 0 rfl) ?_
  refine lv_sipush (v := (1000 : Int32)) hx hb dX0_clear_6 (by decide) ?_
  refine z_pI F hw h0 zc0 4 (by decide) rfl zf0_25 rfl rfl rfl dX0_clear_9 (fun H locs M_2 eM_2 hw => ?_)
  have hd := zbd_eq eM_2 hd
  refine lv_aload_n hx hb dX0_clear_12 rfl (lv_at hl 0 rfl) ?_
  refine lv_bipush (v := (40 : Int32)) hx hb dX0_clear_13 (by decide) ?_
  refine z_pI F hw h0 zc0 5 (by decide) rfl zf0_19 rfl rfl rfl dX0_clear_15 (fun H locs M_3 eM_3 hw => ?_)
  have hd := zbd_eq eM_3 hd
  refine lv_aload_n hx hb dX0_clear_18 rfl (lv_at hl 0 rfl) ?_
  refine lv_bipush (v := (20 : Int32)) hx hb dX0_clear_19 (by decide) ?_
  refine z_pI F hw h0 zc0 6 (by decide) rfl zf0_28 rfl rfl rfl dX0_clear_21 (fun H locs M_4 eM_4 hw => ?_)
  have hd := zbd_eq eM_4 hd
  refine lv_aload_n hx hb dX0_clear_24 rfl (lv_at hl 0 rfl) ?_
  refine lv_iconst (v := (0 : Int32)) hx hb dX0_clear_25 (by decide) ?_
  refine z_pI F hw h0 zc0 7 (by decide) rfl zf0_31 rfl (by decide) rfl dX0_clear_26 (fun H locs M_5 eM_5 hw => ?_)
  have hd := zbd_eq eM_5 hd
  exact z_vret F hr hlk hw (Option.some.inj hd) dX0_clear_29

def zX9_clear (sh : zShp) (k0 : Nat) (M : zMem) : Option (zMem) :=
  zgd (zcpok (0 : Int32) (0 : Int32) (Int32.ofNat (zlen sh (zR M k0 1))) (zlen sh (zR M k0 0)) (zlen sh (zR M k0 1))) <|
  zbd (zpC M (zR M k0 0) (0 : Int32).toNatClampNeg (zR M k0 1) (0 : Int32).toNatClampNeg (Int32.ofNat (zlen sh (zR M k0 1))).toNatClampNeg) fun M_5 =>
  some M_5
set_option maxHeartbeats 4000000 in
set_option maxRecDepth 100000 in
theorem ztX9_clear (l : Launch) (D : va_G) (cy : Nat → ClassId) (sh : zShp) (ad : Nat → Nat) {k0 : Nat} (h0 : zT sh k0 9) {M : zMem} {M1 : zMem} (hd : zX9_clear sh k0 M = some M1) : zCV l yX9_clear cX9_clear 1 { frames := 1, cells := 0, slots := 0, locals := 26 } [.ref (ad k0)] D cy sh ad M M1 := by
  refine zcv_of (by decide) (Nat.le_of_ble_eq_true rfl) (fun p e s m below meth c ls F hr hlk hl hw => ?_)
  have hx := F.1.1
  have hb := F.1.2.1
  have hl : lv_has ls 1 [(0, .ref (ad k0))] := hl
  unfold zX9_clear at hd
  refine lv_aload_n hx hb dX9_clear_0 rfl (lv_at hl 0 rfl) ?_
  refine z_gR F hw h0 zc9 0 (by decide) rfl zf9_9 dX9_clear_1 ?_
  have t_1 : zT sh (zR M k0 0) 14 := hw.2.2.2.fld h0 0 14
  refine lv_iconst (v := (0 : Int32)) hx hb dX9_clear_4 (by decide) ?_
  refine lv_aload_n hx hb dX9_clear_5 rfl (lv_at hl 0 rfl) ?_
  refine z_gR F hw h0 zc9 1 (by decide) rfl zf9_15 dX9_clear_6 ?_
  have t_2 : zT sh (zR M k0 1) 14 := hw.2.2.2.fld h0 1 14
  refine lv_iconst (v := (0 : Int32)) hx hb dX9_clear_9 (by decide) ?_
  refine lv_aload_n hx hb dX9_clear_10 rfl (lv_at hl 0 rfl) ?_
  refine z_gR F hw h0 zc9 1 (by decide) rfl zf9_15 dX9_clear_11 ?_
  have t_3 : zT sh (zR M k0 1) 14 := hw.2.2.2.fld h0 1 14
  refine z_alen F hw t_3 (by decide) (t0 := 1) rfl dX9_clear_14 ?_
  obtain ⟨g_4, hd⟩ := zgd_some hd
  refine z_copy F hw hl.1 t_1 t_2 zk9_26 zac1 zac2 zac3 g_4 (by decide) (Nat.le_of_ble_eq_true rfl) dX9_clear_15 (fun H locs M_5 eM_5 hw => ?_)
  have hd := zbd_eq eM_5 hd
  exact z_vret F hr hlk hw (Option.some.inj hd) dX9_clear_18

def zbX1_clear_9 (sh : zShp) (k0 : Nat)  (kk9 : Int32 → zMem → Option (zMem)) (x1 : Int32) (M : zMem) : Option (zMem) :=
  if (Int32.ofNat (zlen sh (zR M k0 5))) ≤ x1 then (
  zbd (zpI M k0 6 (0 : Int32)) fun M_3 =>
  zbd (zpI M_3 k0 7 (0 : Int32)) fun M_4 =>
  zbd (zpI M_4 k0 8 (0 : Int32)) fun M_5 =>
  zbd (zpI M_5 k0 9 (300 : Int32)) fun M_6 =>
  zbd (zpI M_6 k0 10 (5 : Int32)) fun M_7 =>
  zbd (zpI M_7 k0 11 (0 : Int32)) fun M_8 =>
  some M_8)
  else (
  zgd (zin x1 (zlen sh (zR M k0 5))) <|
  zbd (zpI M (zR M k0 5) (x1.toNatClampNeg) (vp_nar .boolean (0 : Int32))) fun M_11 =>
  kk9 (x1 + (1 : Int32)) M_11)
def zlX1_clear_9 (sh : zShp) (k0 : Nat)  : Nat → Int32 → zMem → Option (zMem)
  | 0 => fun _ _ => none
  | n + 1 => fun x1 M => zbX1_clear_9 sh k0  (zlX1_clear_9 sh k0  n) x1 M
def zX1_clear (sh : zShp) (k0 : Nat) (M : zMem) : Option (zMem) :=
  zob (zX9_clear sh (zR M k0 4) M) fun M_14 =>
  zlX1_clear_9 sh k0 zF (0 : Int32) M_14
set_option maxHeartbeats 4000000 in
set_option maxRecDepth 100000 in
theorem ztX1_clear (l : Launch) (D : va_G) (cy : Nat → ClassId) (sh : zShp) (ad : Nat → Nat) {k0 : Nat} (h0 : zT sh k0 1) {M : zMem} {M1 : zMem} (hd : zX1_clear sh k0 M = some M1) : zCV l yX1_clear cX1_clear 2 { frames := 2, cells := 0, slots := 0, locals := 46 } [.ref (ad k0)] D cy sh ad M M1 := by
  refine zcv_of (by decide) (Nat.le_of_ble_eq_true rfl) (fun p e s m below meth c ls F hr hlk hl hw => ?_)
  have hx := F.1.1
  have hb := F.1.2.1
  have hl : lv_has ls 2 [(0, .ref (ad k0))] := hl
  have L9 : ∀  (n : Nat), ∀ (x1 : Int32) (M : zMem) (H : Heap) (locs : List Loc) (ls : Array Slot), lv_has ls 2 [(0, .ref (ad k0)), (1, .int x1)] → zWd D cy sh ad s M H locs → zlX1_clear_9 sh k0  n x1 M = some M1 → W p l e { frames := 2, cells := 0, slots := 0, locals := 46 } s m ([.ref (ad k0)] : List Value).toArray below meth c H locs 0 0 (zQV below D cy sh ad s [.ref (ad k0)] M1) (F0 m 9 ls []) := by
    intro  n
    induction n with
    | zero => intro x1 M H locs ls hl hw hd; exact (znone hd).elim
    | succ n hk9 =>
      intro x1 M H locs ls hl hw hd
      have hd : zbX1_clear_9 sh k0  (zlX1_clear_9 sh k0  n) x1 M = some M1 := hd
      unfold zbX1_clear_9 at hd
      refine lv_iload_n hx hb dX1_clear_9 rfl (lv_at hl 1 rfl) ?_
      refine lv_aload_n hx hb dX1_clear_10 rfl (lv_at hl 0 rfl) ?_
      refine z_gR F hw h0 zc1 5 (by decide) rfl zf1_34 dX1_clear_11 ?_
      have t_1 : zT sh (zR M k0 5) 16 := hw.2.2.2.fld h0 5 16
      refine z_alen F hw t_1 (by decide) (t0 := 3) rfl dX1_clear_14 ?_
      refine lv_icmp_ge (tgt := 31) hx hb dX1_clear_15 (by decide) (fun c_2 => ?_) (fun c_2 => ?_)
      · have hd := zif_pos c_2 hd
        refine lv_aload_n hx hb dX1_clear_31 rfl (lv_at hl 0 rfl) ?_
        refine lv_iconst (v := (0 : Int32)) hx hb dX1_clear_32 (by decide) ?_
        refine z_pI F hw h0 zc1 6 (by decide) rfl zf1_49 rfl rfl rfl dX1_clear_33 (fun H locs M_3 eM_3 hw => ?_)
        have hd := zbd_eq eM_3 hd
        refine lv_aload_n hx hb dX1_clear_36 rfl (lv_at hl 0 rfl) ?_
        refine lv_iconst (v := (0 : Int32)) hx hb dX1_clear_37 (by decide) ?_
        refine z_pI F hw h0 zc1 7 (by decide) rfl zf1_52 rfl rfl rfl dX1_clear_38 (fun H locs M_4 eM_4 hw => ?_)
        have hd := zbd_eq eM_4 hd
        refine lv_aload_n hx hb dX1_clear_41 rfl (lv_at hl 0 rfl) ?_
        refine lv_iconst (v := (0 : Int32)) hx hb dX1_clear_42 (by decide) ?_
        refine z_pI F hw h0 zc1 8 (by decide) rfl zf1_55 rfl rfl rfl dX1_clear_43 (fun H locs M_5 eM_5 hw => ?_)
        have hd := zbd_eq eM_5 hd
        refine lv_aload_n hx hb dX1_clear_46 rfl (lv_at hl 0 rfl) ?_
        refine lv_sipush (v := (300 : Int32)) hx hb dX1_clear_47 (by decide) ?_
        refine z_pI F hw h0 zc1 9 (by decide) rfl zf1_38 rfl rfl rfl dX1_clear_50 (fun H locs M_6 eM_6 hw => ?_)
        have hd := zbd_eq eM_6 hd
        refine lv_aload_n hx hb dX1_clear_53 rfl (lv_at hl 0 rfl) ?_
        refine lv_iconst (v := (5 : Int32)) hx hb dX1_clear_54 (by decide) ?_
        refine z_pI F hw h0 zc1 10 (by decide) rfl zf1_42 rfl rfl rfl dX1_clear_55 (fun H locs M_7 eM_7 hw => ?_)
        have hd := zbd_eq eM_7 hd
        refine lv_aload_n hx hb dX1_clear_58 rfl (lv_at hl 0 rfl) ?_
        refine lv_iconst (v := (0 : Int32)) hx hb dX1_clear_59 (by decide) ?_
        refine z_pI F hw h0 zc1 11 (by decide) rfl zf1_58 rfl (by decide) rfl dX1_clear_60 (fun H locs M_8 eM_8 hw => ?_)
        have hd := zbd_eq eM_8 hd
        exact z_vret F hr hlk hw (Option.some.inj hd) dX1_clear_63
      · have hd := zif_neg c_2 hd
        refine lv_aload_n hx hb dX1_clear_18 rfl (lv_at hl 0 rfl) ?_
        refine z_gR F hw h0 zc1 5 (by decide) rfl zf1_34 dX1_clear_19 ?_
        have t_9 : zT sh (zR M k0 5) 16 := hw.2.2.2.fld h0 5 16
        refine lv_iload_n hx hb dX1_clear_22 rfl (lv_at hl 1 rfl) ?_
        refine lv_iconst (v := (0 : Int32)) hx hb dX1_clear_23 (by decide) ?_
        obtain ⟨g_10, hd⟩ := zgd_some hd
        refine z_zast F hw t_9 g_10 dX1_clear_24 (fun H locs M_11 eM_11 hw => ?_)
        have hd := zbd_eq eM_11 hd
        refine lv_iinc (v := (x1 + (1 : Int32))) (lv' := [(1, .int (x1 + (1 : Int32))), (0, .ref (ad k0))]) hx hb dX1_clear_25 hl (k := 1) rfl (ziinc (by decide)) (by decide) rfl (fun ls hl => ?_)
        refine lv_goto (tgt := 9) hx hb dX1_clear_28 (by decide) ?_
        exact hk9 _ _ _ _ _ (lv_sub hl [1, 0] rfl) hw hd
  unfold zX1_clear at hd
  refine lv_aload_n hx hb dX1_clear_0 rfl (lv_at hl 0 rfl) ?_
  refine z_gR F hw h0 zc1 4 (by decide) rfl zf1_30 dX1_clear_1 ?_
  have t_12 : zT sh (zR M k0 4) 9 := hw.2.2.2.fld h0 4 9
  obtain ⟨M_14, hc_13, hd⟩ := zob_some hd
  refine z_cvV F hw hl.1 (As := []) (rest := []) (ztX9_clear l D cy sh ad t_12 hc_13) zyX9_clear t_12 zc9 zk1_46 ⟨rfl, rfl⟩ ⟨by decide, by decide⟩ rfl rfl (Nat.le_of_ble_eq_true rfl) dX1_clear_4 (fun H locs hw => ?_)
  refine lv_iconst (v := (0 : Int32)) hx hb dX1_clear_7 (by decide) ?_
  refine lv_istore_n (lv' := [(1, .int (0 : Int32)), (0, .ref (ad k0))]) hx hb dX1_clear_8 rfl hl (by decide) rfl (fun ls hl => ?_)
  exact L9 zF _ _ _ _ _ (lv_sub hl [1, 0] rfl) hw hd

def zbX1_axisNamed_2 (sh : zShp) (k0 : Nat) (p1 : Int32) (M : zMem)  (kk2 : Int32 → Option (Int32)) (x2 : Int32) : Option (Int32) :=
  if (zI M k0 6) ≤ x2 then (
  some (-1 : Int32))
  else (
  zgd (zin x2 (zlen sh (zR M k0 0))) <|
  if (zI M (zR M (zR M k0 0) x2.toNatClampNeg) 0) = p1 then (
  some x2)
  else (
  kk2 (x2 + (1 : Int32))))
def zlX1_axisNamed_2 (sh : zShp) (k0 : Nat) (p1 : Int32) (M : zMem)  : Nat → Int32 → Option (Int32)
  | 0 => fun _ => none
  | n + 1 => fun x2 => zbX1_axisNamed_2 sh k0 p1 M  (zlX1_axisNamed_2 sh k0 p1 M  n) x2
def zX1_axisNamed (sh : zShp) (k0 : Nat) (p1 : Int32) (M : zMem) : Option (Int32) :=
  zlX1_axisNamed_2 sh k0 p1 M zF (0 : Int32)
set_option maxHeartbeats 4000000 in
set_option maxRecDepth 100000 in
theorem ztX1_axisNamed (l : Launch) (D : va_G) (cy : Nat → ClassId) (sh : zShp) (ad : Nat → Nat) {k0 : Nat} {p1 : Int32} (h0 : zT sh k0 1) {M : zMem} {r : Int32} (hd : zX1_axisNamed sh k0 p1 M = some r) : zCI l yX1_axisNamed cX1_axisNamed 3 .int { frames := 0, cells := 0, slots := 0, locals := 0 } [.ref (ad k0), .int p1] D cy sh ad M r M := by
  refine zci_of (by decide) (Nat.le_of_ble_eq_true rfl) (fun p e s m below meth c ls F hr hlk hl hw => ?_)
  have hx := F.1.1
  have hb := F.1.2.1
  have hl : lv_has ls 3 [(0, .ref (ad k0)), (1, .int p1)] := hl
  have L2 : ∀  (n : Nat), ∀ (x2 : Int32) (H : Heap) (locs : List Loc) (ls : Array Slot), lv_has ls 3 [(0, .ref (ad k0)), (1, .int p1), (2, .int x2)] → zWd D cy sh ad s M H locs → zlX1_axisNamed_2 sh k0 p1 M  n x2 = some r → W p l e { frames := 0, cells := 0, slots := 0, locals := 0 } s m ([.ref (ad k0), .int p1] : List Value).toArray below meth c H locs 0 0 (zQI below D cy sh ad s [.ref (ad k0), .int p1] r M) (F0 m 2 ls []) := by
    intro  n
    induction n with
    | zero => intro x2 H locs ls hl hw hd; exact (znone hd).elim
    | succ n hk2 =>
      intro x2 H locs ls hl hw hd
      have hd : zbX1_axisNamed_2 sh k0 p1 M  (zlX1_axisNamed_2 sh k0 p1 M  n) x2 = some r := hd
      unfold zbX1_axisNamed_2 at hd
      refine lv_iload_n hx hb dX1_axisNamed_2 rfl (lv_at hl 2 rfl) ?_
      refine lv_aload_n hx hb dX1_axisNamed_3 rfl (lv_at hl 0 rfl) ?_
      refine z_gI F hw h0 zc1 6 (by decide) rfl zf1_49 dX1_axisNamed_4 ?_
      refine lv_icmp_ge (tgt := 31) hx hb dX1_axisNamed_7 (by decide) (fun c_1 => ?_) (fun c_1 => ?_)
      · have hd := zif_pos c_1 hd
        refine lv_iconst (v := (-1 : Int32)) hx hb dX1_axisNamed_31 (by decide) ?_
        exact z_iret F hr hlk hw (Option.some.inj hd) rfl dX1_axisNamed_32
      · have hd := zif_neg c_1 hd
        refine lv_aload_n hx hb dX1_axisNamed_10 rfl (lv_at hl 0 rfl) ?_
        refine z_gR F hw h0 zc1 0 (by decide) rfl zf1_11 dX1_axisNamed_11 ?_
        have t_2 : zT sh (zR M k0 0) 17 := hw.2.2.2.fld h0 0 17
        refine lv_iload_n hx hb dX1_axisNamed_14 rfl (lv_at hl 2 rfl) ?_
        obtain ⟨g_3, hd⟩ := zgd_some hd
        refine z_aald F hw t_2 (by decide) 4 rfl g_3 dX1_axisNamed_15 ?_
        have t_4 : zT sh (zR M (zR M k0 0) x2.toNatClampNeg) 0 := hw.2.2.2.arr t_2 _ 0 (zin_lt g_3)
        refine z_gI F hw t_4 zc0 0 (by decide) rfl zf1_62 dX1_axisNamed_16 ?_
        refine lv_iload_n hx hb dX1_axisNamed_19 rfl (lv_at hl 1 rfl) ?_
        refine lv_icmp_ne (tgt := 25) hx hb dX1_axisNamed_20 (by decide) (fun c_5 => ?_) (fun c_5 => ?_)
        · have hd := zif_neg c_5 hd
          refine lv_iinc (v := (x2 + (1 : Int32))) (lv' := [(2, .int (x2 + (1 : Int32))), (0, .ref (ad k0)), (1, .int p1)]) hx hb dX1_axisNamed_25 hl (k := 2) rfl (ziinc (by decide)) (by decide) rfl (fun ls hl => ?_)
          refine lv_goto (tgt := 2) hx hb dX1_axisNamed_28 (by decide) ?_
          exact hk2 _ _ _ _ (lv_sub hl [1, 2, 0] rfl) hw hd
        · have hd := zif_pos c_5 hd
          refine lv_iload_n hx hb dX1_axisNamed_23 rfl (lv_at hl 2 rfl) ?_
          exact z_iret F hr hlk hw (Option.some.inj hd) rfl dX1_axisNamed_24
  unfold zX1_axisNamed at hd
  refine lv_iconst (v := (0 : Int32)) hx hb dX1_axisNamed_0 (by decide) ?_
  refine lv_istore_n (lv' := [(2, .int (0 : Int32)), (0, .ref (ad k0)), (1, .int p1)]) hx hb dX1_axisNamed_1 rfl hl (by decide) rfl (fun ls hl => ?_)
  exact L2 zF _ _ _ _ (lv_sub hl [1, 2, 0] rfl) hw hd

def zjX11_isWithin_15 (sh : zShp) (p0 : Int32) (p1 : Int32) (p2 : Int32) (M : zMem)  (s0 : Int32) : Option (Int32) :=
  zgd (zisB s0) <|
  some s0
def zjX11_isWithin_14 (sh : zShp) (p0 : Int32) (p1 : Int32) (p2 : Int32) (M : zMem)   : Option (Int32) :=
  zjX11_isWithin_15 sh p0 p1 p2 M (0 : Int32)
def zX11_isWithin (sh : zShp) (p0 : Int32) (p1 : Int32) (p2 : Int32) (M : zMem) : Option (Int32) :=
  if p0 < p1 then (
  zjX11_isWithin_14 sh p0 p1 p2 M)
  else (
  if p2 < p0 then (
  zjX11_isWithin_14 sh p0 p1 p2 M)
  else (
  zjX11_isWithin_15 sh p0 p1 p2 M (1 : Int32)))
set_option maxHeartbeats 4000000 in
set_option maxRecDepth 100000 in
theorem ztX11_isWithin (l : Launch) (D : va_G) (cy : Nat → ClassId) (sh : zShp) (ad : Nat → Nat) {p0 : Int32} {p1 : Int32} {p2 : Int32}  {M : zMem} {r : Int32} (hd : zX11_isWithin sh p0 p1 p2 M = some r) : zCI l yX11_isWithin cX11_isWithin 3 .boolean { frames := 0, cells := 0, slots := 0, locals := 0 } [.int p0, .int p1, .int p2] D cy sh ad M r M := by
  refine zci_of (by decide) (Nat.le_of_ble_eq_true rfl) (fun p e s m below meth c ls F hr hlk hl hw => ?_)
  have hx := F.1.1
  have hb := F.1.2.1
  have hl : lv_has ls 3 [(0, .int p0), (1, .int p1), (2, .int p2)] := hl
  have J15 : ∀ (s0 : Int32) (H : Heap) (locs : List Loc) (ls : Array Slot), lv_has ls 3 [] → zWd D cy sh ad s M H locs → zjX11_isWithin_15 sh p0 p1 p2 M  s0 = some r → W p l e { frames := 0, cells := 0, slots := 0, locals := 0 } s m ([.int p0, .int p1, .int p2] : List Value).toArray below meth c H locs 0 0 (zQI below D cy sh ad s [.int p0, .int p1, .int p2] r M) (F0 m 15 ls [.int s0]) := by
    intro  s0 H locs ls hl hw hd
    unfold zjX11_isWithin_15 at hd
    obtain ⟨g_1, hd⟩ := zgd_some hd
    exact z_zret F hr hlk hw g_1 (Option.some.inj hd) rfl dX11_isWithin_15
  have J14 : ∀  (H : Heap) (locs : List Loc) (ls : Array Slot), lv_has ls 3 [] → zWd D cy sh ad s M H locs → zjX11_isWithin_14 sh p0 p1 p2 M   = some r → W p l e { frames := 0, cells := 0, slots := 0, locals := 0 } s m ([.int p0, .int p1, .int p2] : List Value).toArray below meth c H locs 0 0 (zQI below D cy sh ad s [.int p0, .int p1, .int p2] r M) (F0 m 14 ls []) := by
    intro  H locs ls hl hw hd
    unfold zjX11_isWithin_14 at hd
    refine lv_iconst (v := (0 : Int32)) hx hb dX11_isWithin_14 (by decide) ?_
    exact J15 _ _ _ _ (lv_sub hl [] rfl) hw hd
  unfold zX11_isWithin at hd
  refine lv_iload_n hx hb dX11_isWithin_0 rfl (lv_at hl 0 rfl) ?_
  refine lv_iload_n hx hb dX11_isWithin_1 rfl (lv_at hl 1 rfl) ?_
  refine lv_icmp_lt (tgt := 14) hx hb dX11_isWithin_2 (by decide) (fun c_2 => ?_) (fun c_2 => ?_)
  · have hd := zif_pos c_2 hd
    exact J14 _ _ _ (lv_sub hl [] rfl) hw hd
  · have hd := zif_neg c_2 hd
    refine lv_iload_n hx hb dX11_isWithin_5 rfl (lv_at hl 0 rfl) ?_
    refine lv_iload_n hx hb dX11_isWithin_6 rfl (lv_at hl 2 rfl) ?_
    refine lv_icmp_gt (tgt := 14) hx hb dX11_isWithin_7 (by decide) (fun c_3 => ?_) (fun c_3 => ?_)
    · have hd := zif_pos c_3 hd
      exact J14 _ _ _ (lv_sub hl [] rfl) hw hd
    · have hd := zif_neg c_3 hd
      refine lv_iconst (v := (1 : Int32)) hx hb dX11_isWithin_10 (by decide) ?_
      refine lv_goto (tgt := 15) hx hb dX11_isWithin_11 (by decide) ?_
      exact J15 _ _ _ _ (lv_sub hl [] rfl) hw hd

def zjX1_bandsOver_49 (sh : zShp) (k0 : Nat) (p1 : Int32) (p2 : Int32) (M : zMem) (kk5 : Int32 → Int32 → Option (Int32)) (x3 : Int32) (x4 : Int32) : Option (Int32) :=
  kk5 x3 (x4 + (1 : Int32))
def zbX1_bandsOver_5 (sh : zShp) (k0 : Nat) (p1 : Int32) (p2 : Int32) (M : zMem)  (kk5 : Int32 → Int32 → Option (Int32)) (x3 : Int32) (x4 : Int32) : Option (Int32) :=
  if (zI M k0 7) ≤ x4 then (
  some x3)
  else (
  zgd (zin x4 (zlen sh (zR M k0 1))) <|
  if (zI M (zR M k0 1) x4.toNatClampNeg) = p1 then (
  zgd (zin x4 (zlen sh (zR M k0 2))) <|
  zgd (zin x4 (zlen sh (zR M k0 3))) <|
  zob (zX11_isWithin sh p2 (zI M (zR M k0 2) x4.toNatClampNeg) (zI M (zR M k0 3) x4.toNatClampNeg) M) fun r_10 =>
  if r_10 = 0 then (
  zjX1_bandsOver_49 sh k0 p1 p2 M kk5 x3 x4)
  else (
  zjX1_bandsOver_49 sh k0 p1 p2 M kk5 (x3 + (1 : Int32)) x4))
  else (
  zjX1_bandsOver_49 sh k0 p1 p2 M kk5 x3 x4))
def zlX1_bandsOver_5 (sh : zShp) (k0 : Nat) (p1 : Int32) (p2 : Int32) (M : zMem)  : Nat → Int32 → Int32 → Option (Int32)
  | 0 => fun _ _ => none
  | n + 1 => fun x3 x4 => zbX1_bandsOver_5 sh k0 p1 p2 M  (zlX1_bandsOver_5 sh k0 p1 p2 M  n) x3 x4
def zX1_bandsOver (sh : zShp) (k0 : Nat) (p1 : Int32) (p2 : Int32) (M : zMem) : Option (Int32) :=
  zlX1_bandsOver_5 sh k0 p1 p2 M zF (0 : Int32) (0 : Int32)
set_option maxHeartbeats 4000000 in
set_option maxRecDepth 100000 in
theorem ztX1_bandsOver (l : Launch) (D : va_G) (cy : Nat → ClassId) (sh : zShp) (ad : Nat → Nat) {k0 : Nat} {p1 : Int32} {p2 : Int32} (h0 : zT sh k0 1) {M : zMem} {r : Int32} (hd : zX1_bandsOver sh k0 p1 p2 M = some r) : zCI l yX1_bandsOver cX1_bandsOver 5 .int { frames := 1, cells := 0, slots := 0, locals := 22 } [.ref (ad k0), .int p1, .int p2] D cy sh ad M r M := by
  refine zci_of (by decide) (Nat.le_of_ble_eq_true rfl) (fun p e s m below meth c ls F hr hlk hl hw => ?_)
  have hx := F.1.1
  have hb := F.1.2.1
  have hl : lv_has ls 5 [(0, .ref (ad k0)), (1, .int p1), (2, .int p2)] := hl
  have J49 : ∀ (kk5 : Int32 → Int32 → Option (Int32)) (hk5 : ∀ (x3 : Int32) (x4 : Int32) (H : Heap) (locs : List Loc) (ls : Array Slot), lv_has ls 5 [(0, .ref (ad k0)), (1, .int p1), (2, .int p2), (3, .int x3), (4, .int x4)] → zWd D cy sh ad s M H locs → kk5 x3 x4 = some r → W p l e { frames := 1, cells := 0, slots := 0, locals := 22 } s m ([.ref (ad k0), .int p1, .int p2] : List Value).toArray below meth c H locs 0 0 (zQI below D cy sh ad s [.ref (ad k0), .int p1, .int p2] r M) (F0 m 5 ls [])), ∀ (x3 : Int32) (x4 : Int32) (H : Heap) (locs : List Loc) (ls : Array Slot), lv_has ls 5 [(0, .ref (ad k0)), (1, .int p1), (2, .int p2), (3, .int x3), (4, .int x4)] → zWd D cy sh ad s M H locs → zjX1_bandsOver_49 sh k0 p1 p2 M kk5 x3 x4 = some r → W p l e { frames := 1, cells := 0, slots := 0, locals := 22 } s m ([.ref (ad k0), .int p1, .int p2] : List Value).toArray below meth c H locs 0 0 (zQI below D cy sh ad s [.ref (ad k0), .int p1, .int p2] r M) (F0 m 49 ls []) := by
    intro kk5 hk5 x3 x4 H locs ls hl hw hd
    unfold zjX1_bandsOver_49 at hd
    refine lv_iinc (v := (x4 + (1 : Int32))) (lv' := [(4, .int (x4 + (1 : Int32))), (0, .ref (ad k0)), (1, .int p1), (2, .int p2), (3, .int x3)]) hx hb dX1_bandsOver_49 hl (k := 4) rfl (ziinc (by decide)) (by decide) rfl (fun ls hl => ?_)
    refine lv_goto (tgt := 5) hx hb dX1_bandsOver_52 (by decide) ?_
    exact hk5 _ _ _ _ _ (lv_sub hl [1, 2, 3, 4, 0] rfl) hw hd
  have L5 : ∀  (n : Nat), ∀ (x3 : Int32) (x4 : Int32) (H : Heap) (locs : List Loc) (ls : Array Slot), lv_has ls 5 [(0, .ref (ad k0)), (1, .int p1), (2, .int p2), (3, .int x3), (4, .int x4)] → zWd D cy sh ad s M H locs → zlX1_bandsOver_5 sh k0 p1 p2 M  n x3 x4 = some r → W p l e { frames := 1, cells := 0, slots := 0, locals := 22 } s m ([.ref (ad k0), .int p1, .int p2] : List Value).toArray below meth c H locs 0 0 (zQI below D cy sh ad s [.ref (ad k0), .int p1, .int p2] r M) (F0 m 5 ls []) := by
    intro  n
    induction n with
    | zero => intro x3 x4 H locs ls hl hw hd; exact (znone hd).elim
    | succ n hk5 =>
      intro x3 x4 H locs ls hl hw hd
      have hd : zbX1_bandsOver_5 sh k0 p1 p2 M  (zlX1_bandsOver_5 sh k0 p1 p2 M  n) x3 x4 = some r := hd
      unfold zbX1_bandsOver_5 at hd
      refine lv_iload hx hb dX1_bandsOver_5 (lv_at hl 4 rfl) ?_
      refine lv_aload_n hx hb dX1_bandsOver_7 rfl (lv_at hl 0 rfl) ?_
      refine z_gI F hw h0 zc1 7 (by decide) rfl zf1_52 dX1_bandsOver_8 ?_
      refine lv_icmp_ge (tgt := 55) hx hb dX1_bandsOver_11 (by decide) (fun c_1 => ?_) (fun c_1 => ?_)
      · have hd := zif_pos c_1 hd
        refine lv_iload_n hx hb dX1_bandsOver_55 rfl (lv_at hl 3 rfl) ?_
        exact z_iret F hr hlk hw (Option.some.inj hd) rfl dX1_bandsOver_56
      · have hd := zif_neg c_1 hd
        refine lv_aload_n hx hb dX1_bandsOver_14 rfl (lv_at hl 0 rfl) ?_
        refine z_gR F hw h0 zc1 1 (by decide) rfl zf1_17 dX1_bandsOver_15 ?_
        have t_2 : zT sh (zR M k0 1) 14 := hw.2.2.2.fld h0 1 14
        refine lv_iload hx hb dX1_bandsOver_18 (lv_at hl 4 rfl) ?_
        obtain ⟨g_3, hd⟩ := zgd_some hd
        refine z_iald F hw t_2 g_3 dX1_bandsOver_20 ?_
        refine lv_iload_n hx hb dX1_bandsOver_21 rfl (lv_at hl 1 rfl) ?_
        refine lv_icmp_ne (tgt := 49) hx hb dX1_bandsOver_22 (by decide) (fun c_4 => ?_) (fun c_4 => ?_)
        · have hd := zif_neg c_4 hd
          exact J49 _ hk5 _ _ _ _ _ (lv_sub hl [0, 1, 2, 3, 4] rfl) hw hd
        · have hd := zif_pos c_4 hd
          refine lv_iload_n hx hb dX1_bandsOver_25 rfl (lv_at hl 2 rfl) ?_
          refine lv_aload_n hx hb dX1_bandsOver_26 rfl (lv_at hl 0 rfl) ?_
          refine z_gR F hw h0 zc1 2 (by decide) rfl zf1_21 dX1_bandsOver_27 ?_
          have t_5 : zT sh (zR M k0 2) 14 := hw.2.2.2.fld h0 2 14
          refine lv_iload hx hb dX1_bandsOver_30 (lv_at hl 4 rfl) ?_
          obtain ⟨g_6, hd⟩ := zgd_some hd
          refine z_iald F hw t_5 g_6 dX1_bandsOver_32 ?_
          refine lv_aload_n hx hb dX1_bandsOver_33 rfl (lv_at hl 0 rfl) ?_
          refine z_gR F hw h0 zc1 3 (by decide) rfl zf1_24 dX1_bandsOver_34 ?_
          have t_7 : zT sh (zR M k0 3) 14 := hw.2.2.2.fld h0 3 14
          refine lv_iload hx hb dX1_bandsOver_37 (lv_at hl 4 rfl) ?_
          obtain ⟨g_8, hd⟩ := zgd_some hd
          refine z_iald F hw t_7 g_8 dX1_bandsOver_39 ?_
          obtain ⟨r_10, hc_9, hd⟩ := zob_some hd
          refine z_cnI F hw hl.1 (As := [.int p2, .int (zI M (zR M k0 2) x4.toNatClampNeg), .int (zI M (zR M k0 3) x4.toNatClampNeg)]) (rest := []) (ztX11_isWithin l D cy sh ad  hc_9) zyX11_isWithin F.2.2.1 ⟨rfl, rfl⟩ ⟨by decide, by decide⟩ rfl rfl (Nat.le_of_ble_eq_true rfl) dX1_bandsOver_40 (fun H locs hw => ?_)
          refine lv_if_eq (tgt := 49) hx hb dX1_bandsOver_43 (by decide) (fun c_11 => ?_) (fun c_11 => ?_)
          · have hd := zif_pos c_11 hd
            exact J49 _ hk5 _ _ _ _ _ (lv_sub hl [0, 1, 2, 3, 4] rfl) hw hd
          · have hd := zif_neg c_11 hd
            refine lv_iinc (v := (x3 + (1 : Int32))) (lv' := [(3, .int (x3 + (1 : Int32))), (0, .ref (ad k0)), (1, .int p1), (2, .int p2), (4, .int x4)]) hx hb dX1_bandsOver_46 hl (k := 3) rfl (ziinc (by decide)) (by decide) rfl (fun ls hl => ?_)
            exact J49 _ hk5 _ _ _ _ _ (lv_sub hl [1, 2, 3, 0, 4] rfl) hw hd
  unfold zX1_bandsOver at hd
  refine lv_iconst (v := (0 : Int32)) hx hb dX1_bandsOver_0 (by decide) ?_
  refine lv_istore_n (lv' := [(3, .int (0 : Int32)), (0, .ref (ad k0)), (1, .int p1), (2, .int p2)]) hx hb dX1_bandsOver_1 rfl hl (by decide) rfl (fun ls hl => ?_)
  refine lv_iconst (v := (0 : Int32)) hx hb dX1_bandsOver_2 (by decide) ?_
  refine lv_istore (lv' := [(4, .int (0 : Int32)), (3, .int (0 : Int32)), (0, .ref (ad k0)), (1, .int p1), (2, .int p2)]) hx hb dX1_bandsOver_3 hl (by decide) rfl (fun ls hl => ?_)
  exact L5 zF _ _ _ _ _ (lv_sub hl [2, 3, 4, 1, 0] rfl) hw hd

def zX2_start (sh : zShp) (k0 : Nat) (k1 : Nat) (p2 : Int32) (M : zMem) : Option (zMem) :=
  zbd (zpI M k0 0 (0 : Int32)) fun M_1 =>
  zbd (zpI M_1 k0 1 (0 : Int32)) fun M_2 =>
  zbd (zpI M_2 k0 2 p2) fun M_3 =>
  zbd (zpI M_3 k0 3 (zI M_3 k1 9)) fun M_4 =>
  zbd (zpI M_4 k0 4 (zI M_4 k1 10)) fun M_5 =>
  some M_5
set_option maxHeartbeats 4000000 in
set_option maxRecDepth 100000 in
theorem ztX2_start (l : Launch) (D : va_G) (cy : Nat → ClassId) (sh : zShp) (ad : Nat → Nat) {k0 : Nat} {k1 : Nat} {p2 : Int32} (h0 : zT sh k0 2) (h1 : zT sh k1 1) {M : zMem} {M1 : zMem} (hd : zX2_start sh k0 k1 p2 M = some M1) : zCV l yX2_start cX2_start 3 { frames := 0, cells := 0, slots := 0, locals := 0 } [.ref (ad k0), .ref (ad k1), .int p2] D cy sh ad M M1 := by
  refine zcv_of (by decide) (Nat.le_of_ble_eq_true rfl) (fun p e s m below meth c ls F hr hlk hl hw => ?_)
  have hx := F.1.1
  have hb := F.1.2.1
  have hl : lv_has ls 3 [(0, .ref (ad k0)), (1, .ref (ad k1)), (2, .int p2)] := hl
  unfold zX2_start at hd
  refine lv_aload_n hx hb dX2_start_0 rfl (lv_at hl 0 rfl) ?_
  refine lv_iconst (v := (0 : Int32)) hx hb dX2_start_1 (by decide) ?_
  refine z_pI F hw h0 zc2 0 (by decide) rfl zf2_7 rfl rfl rfl dX2_start_2 (fun H locs M_1 eM_1 hw => ?_)
  have hd := zbd_eq eM_1 hd
  refine lv_aload_n hx hb dX2_start_5 rfl (lv_at hl 0 rfl) ?_
  refine lv_iconst (v := (0 : Int32)) hx hb dX2_start_6 (by decide) ?_
  refine z_pI F hw h0 zc2 1 (by decide) rfl zf2_13 rfl rfl rfl dX2_start_7 (fun H locs M_2 eM_2 hw => ?_)
  have hd := zbd_eq eM_2 hd
  refine lv_aload_n hx hb dX2_start_10 rfl (lv_at hl 0 rfl) ?_
  refine lv_iload_n hx hb dX2_start_11 rfl (lv_at hl 2 rfl) ?_
  refine z_pI F hw h0 zc2 2 (by decide) rfl zf2_16 rfl rfl rfl dX2_start_12 (fun H locs M_3 eM_3 hw => ?_)
  have hd := zbd_eq eM_3 hd
  refine lv_aload_n hx hb dX2_start_15 rfl (lv_at hl 0 rfl) ?_
  refine lv_aload_n hx hb dX2_start_16 rfl (lv_at hl 1 rfl) ?_
  refine z_gI F hw h1 zc1 9 (by decide) rfl zf2_19 dX2_start_17 ?_
  refine z_pI F hw h0 zc2 3 (by decide) rfl zf2_24 rfl rfl rfl dX2_start_20 (fun H locs M_4 eM_4 hw => ?_)
  have hd := zbd_eq eM_4 hd
  refine lv_aload_n hx hb dX2_start_23 rfl (lv_at hl 0 rfl) ?_
  refine lv_aload_n hx hb dX2_start_24 rfl (lv_at hl 1 rfl) ?_
  refine z_gI F hw h1 zc1 10 (by decide) rfl zf2_25 dX2_start_25 ?_
  refine z_pI F hw h0 zc2 4 (by decide) rfl zf2_28 rfl rfl rfl dX2_start_28 (fun H locs M_5 eM_5 hw => ?_)
  have hd := zbd_eq eM_5 hd
  exact z_vret F hr hlk hw (Option.some.inj hd) dX2_start_31

def zjX2_step_93 (sh : zShp) (k0 : Nat) (p1 : Int32)  (M : zMem) : Option (zMem) :=
  zbd (zpI M k0 1 (zrem ((zI M k0 1) + (1 : Int32)) (8 : Int32))) fun M_1 =>
  some M_1
def zjX2_step_78 (sh : zShp) (k0 : Nat) (p1 : Int32)  (s0 : Int32) (M : zMem) : Option (zMem) :=
  zbd (zpI M k0 0 (zmax (0 : Int32) ((zI M k0 0) - s0))) fun M_2 =>
  zjX2_step_93 sh k0 p1 M_2
def zX2_step (sh : zShp) (k0 : Nat) (p1 : Int32) (M : zMem) : Option (zMem) :=
  zbd ((((zI M k0 0) * (zI M k0 4)) / (100 : Int32))) fun v_3 =>
  if p1 ≤ (zI M k0 0) then (
  if (zI M k0 2) ≤ (zI M k0 1) then (
  zjX2_step_78 sh k0 p1 (((zI M k0 0) * (zI M k0 4)) / (1000 : Int32)) M)
  else (
  zjX2_step_78 sh k0 p1 (((zI M k0 3) + v_3) / (10 : Int32)) M))
  else (
  zbd (zpI M k0 0 ((zI M k0 0) + (((zI M k0 3) - v_3) / (10 : Int32)))) fun M_6 =>
  zjX2_step_93 sh k0 p1 M_6)
set_option maxHeartbeats 4000000 in
set_option maxRecDepth 100000 in
theorem ztX2_step (l : Launch) (D : va_G) (cy : Nat → ClassId) (sh : zShp) (ad : Nat → Nat) {k0 : Nat} {p1 : Int32} (h0 : zT sh k0 2) {M : zMem} {M1 : zMem} (hd : zX2_step sh k0 p1 M = some M1) : zCV l yX2_step cX2_step 4 { frames := 1, cells := 0, slots := 0, locals := 21 } [.ref (ad k0), .int p1] D cy sh ad M M1 := by
  refine zcv_of (by decide) (Nat.le_of_ble_eq_true rfl) (fun p e s m below meth c ls F hr hlk hl hw => ?_)
  have hx := F.1.1
  have hb := F.1.2.1
  have hl : lv_has ls 4 [(0, .ref (ad k0)), (1, .int p1)] := hl
  have J93 : ∀ (M : zMem) (H : Heap) (locs : List Loc) (ls : Array Slot), lv_has ls 4 [(0, .ref (ad k0))] → zWd D cy sh ad s M H locs → zjX2_step_93 sh k0 p1  M = some M1 → W p l e { frames := 1, cells := 0, slots := 0, locals := 21 } s m ([.ref (ad k0), .int p1] : List Value).toArray below meth c H locs 0 0 (zQV below D cy sh ad s [.ref (ad k0), .int p1] M1) (F0 m 93 ls []) := by
    intro  M H locs ls hl hw hd
    unfold zjX2_step_93 at hd
    refine lv_aload_n hx hb dX2_step_93 rfl (lv_at hl 0 rfl) ?_
    refine lv_aload_n hx hb dX2_step_94 rfl (lv_at hl 0 rfl) ?_
    refine z_gI F hw h0 zc2 1 (by decide) rfl zf2_13 dX2_step_95 ?_
    refine lv_iconst (v := (1 : Int32)) hx hb dX2_step_98 (by decide) ?_
    refine lv_iadd hx hb dX2_step_99 ?_
    refine lv_bipush (v := (8 : Int32)) hx hb dX2_step_100 (by decide) ?_
    refine z_irem hx hb dX2_step_102 (by decide) ?_
    refine z_pI F hw h0 zc2 1 (by decide) rfl zf2_13 rfl rfl rfl dX2_step_103 (fun H locs M_1 eM_1 hw => ?_)
    have hd := zbd_eq eM_1 hd
    exact z_vret F hr hlk hw (Option.some.inj hd) dX2_step_106
  have J78 : ∀ (s0 : Int32) (M : zMem) (H : Heap) (locs : List Loc) (ls : Array Slot), lv_has ls 4 [(0, .ref (ad k0))] → zWd D cy sh ad s M H locs → zjX2_step_78 sh k0 p1  s0 M = some M1 → W p l e { frames := 1, cells := 0, slots := 0, locals := 21 } s m ([.ref (ad k0), .int p1] : List Value).toArray below meth c H locs 0 0 (zQV below D cy sh ad s [.ref (ad k0), .int p1] M1) (F0 m 78 ls [.int s0]) := by
    intro  s0 M H locs ls hl hw hd
    unfold zjX2_step_78 at hd
    refine lv_istore_n (lv' := [(3, .int s0), (0, .ref (ad k0))]) hx hb dX2_step_78 rfl hl (by decide) rfl (fun ls hl => ?_)
    refine lv_aload_n hx hb dX2_step_79 rfl (lv_at hl 1 rfl) ?_
    refine lv_iconst (v := (0 : Int32)) hx hb dX2_step_80 (by decide) ?_
    refine lv_aload_n hx hb dX2_step_81 rfl (lv_at hl 1 rfl) ?_
    refine z_gI F hw h0 zc2 0 (by decide) rfl zf2_7 dX2_step_82 ?_
    refine lv_iload_n hx hb dX2_step_85 rfl (lv_at hl 0 rfl) ?_
    refine lv_isub hx hb dX2_step_86 ?_
    refine z_mmax F hl.1 zk2_29 (by decide) (Nat.le_of_ble_eq_true rfl) dX2_step_87 ?_
    refine z_pI F hw h0 zc2 0 (by decide) rfl zf2_7 rfl rfl rfl dX2_step_90 (fun H locs M_2 eM_2 hw => ?_)
    have hd := zbd_eq eM_2 hd
    exact J93 _ _ _ _ (lv_sub hl [1] rfl) hw hd
  unfold zX2_step at hd
  refine lv_aload_n hx hb dX2_step_0 rfl (lv_at hl 0 rfl) ?_
  refine z_gI F hw h0 zc2 0 (by decide) rfl zf2_7 dX2_step_1 ?_
  refine lv_aload_n hx hb dX2_step_4 rfl (lv_at hl 0 rfl) ?_
  refine z_gI F hw h0 zc2 4 (by decide) rfl zf2_28 dX2_step_5 ?_
  refine lv_imul hx hb dX2_step_8 ?_
  refine lv_bipush (v := (100 : Int32)) hx hb dX2_step_9 (by decide) ?_
  refine lv_idiv hx hb dX2_step_11 (by decide) ?_
  refine lv_topi (fun v_3 ev_3 => ?_)
  have hd := zbd_eq ev_3 hd
  refine lv_istore_n (lv' := [(2, .int v_3), (0, .ref (ad k0)), (1, .int p1)]) hx hb dX2_step_12 rfl hl (by decide) rfl (fun ls hl => ?_)
  refine lv_aload_n hx hb dX2_step_13 rfl (lv_at hl 1 rfl) ?_
  refine z_gI F hw h0 zc2 0 (by decide) rfl zf2_7 dX2_step_14 ?_
  refine lv_iload_n hx hb dX2_step_17 rfl (lv_at hl 2 rfl) ?_
  refine lv_icmp_ge (tgt := 42) hx hb dX2_step_18 (by decide) (fun c_4 => ?_) (fun c_4 => ?_)
  · have hd := zif_pos c_4 hd
    refine lv_aload_n hx hb dX2_step_42 rfl (lv_at hl 1 rfl) ?_
    refine z_gI F hw h0 zc2 1 (by decide) rfl zf2_13 dX2_step_43 ?_
    refine lv_aload_n hx hb dX2_step_46 rfl (lv_at hl 1 rfl) ?_
    refine z_gI F hw h0 zc2 2 (by decide) rfl zf2_16 dX2_step_47 ?_
    refine lv_icmp_ge (tgt := 65) hx hb dX2_step_50 (by decide) (fun c_5 => ?_) (fun c_5 => ?_)
    · have hd := zif_pos c_5 hd
      refine lv_aload_n hx hb dX2_step_65 rfl (lv_at hl 1 rfl) ?_
      refine z_gI F hw h0 zc2 0 (by decide) rfl zf2_7 dX2_step_66 ?_
      refine lv_aload_n hx hb dX2_step_69 rfl (lv_at hl 1 rfl) ?_
      refine z_gI F hw h0 zc2 4 (by decide) rfl zf2_28 dX2_step_70 ?_
      refine lv_imul hx hb dX2_step_73 ?_
      refine lv_sipush (v := (1000 : Int32)) hx hb dX2_step_74 (by decide) ?_
      refine lv_idiv hx hb dX2_step_77 (by decide) ?_
      exact J78 _ _ _ _ _ (lv_sub hl [1] rfl) hw hd
    · have hd := zif_neg c_5 hd
      refine lv_aload_n hx hb dX2_step_53 rfl (lv_at hl 1 rfl) ?_
      refine z_gI F hw h0 zc2 3 (by decide) rfl zf2_24 dX2_step_54 ?_
      refine lv_iload_n hx hb dX2_step_57 rfl (lv_at hl 0 rfl) ?_
      refine lv_iadd hx hb dX2_step_58 ?_
      refine lv_bipush (v := (10 : Int32)) hx hb dX2_step_59 (by decide) ?_
      refine lv_idiv hx hb dX2_step_61 (by decide) ?_
      refine lv_goto (tgt := 78) hx hb dX2_step_62 (by decide) ?_
      exact J78 _ _ _ _ _ (lv_sub hl [1] rfl) hw hd
  · have hd := zif_neg c_4 hd
    refine lv_aload_n hx hb dX2_step_21 rfl (lv_at hl 1 rfl) ?_
    refine lv_dup hx hb dX2_step_22 rfl ?_
    refine z_gI F hw h0 zc2 0 (by decide) rfl zf2_7 dX2_step_23 ?_
    refine lv_aload_n hx hb dX2_step_26 rfl (lv_at hl 1 rfl) ?_
    refine z_gI F hw h0 zc2 3 (by decide) rfl zf2_24 dX2_step_27 ?_
    refine lv_iload_n hx hb dX2_step_30 rfl (lv_at hl 0 rfl) ?_
    refine lv_isub hx hb dX2_step_31 ?_
    refine lv_bipush (v := (10 : Int32)) hx hb dX2_step_32 (by decide) ?_
    refine lv_idiv hx hb dX2_step_34 (by decide) ?_
    refine lv_iadd hx hb dX2_step_35 ?_
    refine z_pI F hw h0 zc2 0 (by decide) rfl zf2_7 rfl rfl rfl dX2_step_36 (fun H locs M_6 eM_6 hw => ?_)
    have hd := zbd_eq eM_6 hd
    refine lv_goto (tgt := 93) hx hb dX2_step_39 (by decide) ?_
    exact J93 _ _ _ _ (lv_sub hl [1] rfl) hw hd

def zX7_copyFrom (sh : zShp) (k0 : Nat) (k1 : Nat) (M : zMem) : Option (zMem) :=
  zbd (zpI M k0 0 (zI M k1 0)) fun M_1 =>
  zbd (zpI M_1 k0 1 (zI M_1 k1 1)) fun M_2 =>
  zbd (zpI M_2 k0 2 (zI M_2 k1 2)) fun M_3 =>
  zbd (zpI M_3 k0 3 (zI M_3 k1 3)) fun M_4 =>
  zbd (zpI M_4 k0 4 (zI M_4 k1 4)) fun M_5 =>
  zbd (zpI M_5 k0 5 (zI M_5 k1 5)) fun M_6 =>
  some M_6
set_option maxHeartbeats 4000000 in
set_option maxRecDepth 100000 in
theorem ztX7_copyFrom (l : Launch) (D : va_G) (cy : Nat → ClassId) (sh : zShp) (ad : Nat → Nat) {k0 : Nat} {k1 : Nat} (h0 : zT sh k0 7) (h1 : zT sh k1 7) {M : zMem} {M1 : zMem} (hd : zX7_copyFrom sh k0 k1 M = some M1) : zCV l yX7_copyFrom cX7_copyFrom 2 { frames := 0, cells := 0, slots := 0, locals := 0 } [.ref (ad k0), .ref (ad k1)] D cy sh ad M M1 := by
  refine zcv_of (by decide) (Nat.le_of_ble_eq_true rfl) (fun p e s m below meth c ls F hr hlk hl hw => ?_)
  have hx := F.1.1
  have hb := F.1.2.1
  have hl : lv_has ls 2 [(0, .ref (ad k0)), (1, .ref (ad k1))] := hl
  unfold zX7_copyFrom at hd
  refine lv_aload_n hx hb dX7_copyFrom_0 rfl (lv_at hl 0 rfl) ?_
  refine lv_aload_n hx hb dX7_copyFrom_1 rfl (lv_at hl 1 rfl) ?_
  refine z_gI F hw h1 zc7 0 (by decide) rfl zf7_22 dX7_copyFrom_2 ?_
  refine z_pI F hw h0 zc7 0 (by decide) rfl zf7_22 rfl rfl rfl dX7_copyFrom_5 (fun H locs M_1 eM_1 hw => ?_)
  have hd := zbd_eq eM_1 hd
  refine lv_aload_n hx hb dX7_copyFrom_8 rfl (lv_at hl 0 rfl) ?_
  refine lv_aload_n hx hb dX7_copyFrom_9 rfl (lv_at hl 1 rfl) ?_
  refine z_gI F hw h1 zc7 1 (by decide) rfl zf7_25 dX7_copyFrom_10 ?_
  refine z_pI F hw h0 zc7 1 (by decide) rfl zf7_25 rfl rfl rfl dX7_copyFrom_13 (fun H locs M_2 eM_2 hw => ?_)
  have hd := zbd_eq eM_2 hd
  refine lv_aload_n hx hb dX7_copyFrom_16 rfl (lv_at hl 0 rfl) ?_
  refine lv_aload_n hx hb dX7_copyFrom_17 rfl (lv_at hl 1 rfl) ?_
  refine z_gI F hw h1 zc7 2 (by decide) rfl zf7_28 dX7_copyFrom_18 ?_
  refine z_pI F hw h0 zc7 2 (by decide) rfl zf7_28 rfl rfl rfl dX7_copyFrom_21 (fun H locs M_3 eM_3 hw => ?_)
  have hd := zbd_eq eM_3 hd
  refine lv_aload_n hx hb dX7_copyFrom_24 rfl (lv_at hl 0 rfl) ?_
  refine lv_aload_n hx hb dX7_copyFrom_25 rfl (lv_at hl 1 rfl) ?_
  refine z_gI F hw h1 zc7 3 (by decide) rfl zf7_31 dX7_copyFrom_26 ?_
  refine z_pI F hw h0 zc7 3 (by decide) rfl zf7_31 rfl rfl rfl dX7_copyFrom_29 (fun H locs M_4 eM_4 hw => ?_)
  have hd := zbd_eq eM_4 hd
  refine lv_aload_n hx hb dX7_copyFrom_32 rfl (lv_at hl 0 rfl) ?_
  refine lv_aload_n hx hb dX7_copyFrom_33 rfl (lv_at hl 1 rfl) ?_
  refine z_gI F hw h1 zc7 4 (by decide) rfl zf7_15 dX7_copyFrom_34 ?_
  refine z_pI F hw h0 zc7 4 (by decide) rfl zf7_15 rfl rfl rfl dX7_copyFrom_37 (fun H locs M_5 eM_5 hw => ?_)
  have hd := zbd_eq eM_5 hd
  refine lv_aload_n hx hb dX7_copyFrom_40 rfl (lv_at hl 0 rfl) ?_
  refine lv_aload_n hx hb dX7_copyFrom_41 rfl (lv_at hl 1 rfl) ?_
  refine z_gI F hw h1 zc7 5 (by decide) rfl zf7_19 dX7_copyFrom_42 ?_
  refine z_pI F hw h0 zc7 5 (by decide) rfl zf7_19 rfl rfl rfl dX7_copyFrom_45 (fun H locs M_6 eM_6 hw => ?_)
  have hd := zbd_eq eM_6 hd
  exact z_vret F hr hlk hw (Option.some.inj hd) dX7_copyFrom_48

def zX5_copyFrom (sh : zShp) (k0 : Nat) (k1 : Nat) (M : zMem) : Option (zMem) :=
  zbd (zpI M k0 1 (zI M k1 1)) fun M_1 =>
  zgd (zcpok (0 : Int32) (0 : Int32) (Int32.ofNat (zlen sh (zR M_1 k0 0))) (zlen sh (zR M_1 k1 0)) (zlen sh (zR M_1 k0 0))) <|
  zbd (zpC M_1 (zR M_1 k1 0) (0 : Int32).toNatClampNeg (zR M_1 k0 0) (0 : Int32).toNatClampNeg (Int32.ofNat (zlen sh (zR M_1 k0 0))).toNatClampNeg) fun M_6 =>
  some M_6
set_option maxHeartbeats 4000000 in
set_option maxRecDepth 100000 in
theorem ztX5_copyFrom (l : Launch) (D : va_G) (cy : Nat → ClassId) (sh : zShp) (ad : Nat → Nat) {k0 : Nat} {k1 : Nat} (h0 : zT sh k0 5) (h1 : zT sh k1 5) {M : zMem} {M1 : zMem} (hd : zX5_copyFrom sh k0 k1 M = some M1) : zCV l yX5_copyFrom cX5_copyFrom 2 { frames := 1, cells := 0, slots := 0, locals := 26 } [.ref (ad k0), .ref (ad k1)] D cy sh ad M M1 := by
  refine zcv_of (by decide) (Nat.le_of_ble_eq_true rfl) (fun p e s m below meth c ls F hr hlk hl hw => ?_)
  have hx := F.1.1
  have hb := F.1.2.1
  have hl : lv_has ls 2 [(0, .ref (ad k0)), (1, .ref (ad k1))] := hl
  unfold zX5_copyFrom at hd
  refine lv_aload_n hx hb dX5_copyFrom_0 rfl (lv_at hl 0 rfl) ?_
  refine lv_aload_n hx hb dX5_copyFrom_1 rfl (lv_at hl 1 rfl) ?_
  refine z_gI F hw h1 zc5 1 (by decide) rfl zf5_15 dX5_copyFrom_2 ?_
  refine z_pI F hw h0 zc5 1 (by decide) rfl zf5_15 rfl rfl rfl dX5_copyFrom_5 (fun H locs M_1 eM_1 hw => ?_)
  have hd := zbd_eq eM_1 hd
  refine lv_aload_n hx hb dX5_copyFrom_8 rfl (lv_at hl 1 rfl) ?_
  refine z_gR F hw h1 zc5 0 (by decide) rfl zf5_9 dX5_copyFrom_9 ?_
  have t_2 : zT sh (zR M_1 k1 0) 14 := hw.2.2.2.fld h1 0 14
  refine lv_iconst (v := (0 : Int32)) hx hb dX5_copyFrom_12 (by decide) ?_
  refine lv_aload_n hx hb dX5_copyFrom_13 rfl (lv_at hl 0 rfl) ?_
  refine z_gR F hw h0 zc5 0 (by decide) rfl zf5_9 dX5_copyFrom_14 ?_
  have t_3 : zT sh (zR M_1 k0 0) 14 := hw.2.2.2.fld h0 0 14
  refine lv_iconst (v := (0 : Int32)) hx hb dX5_copyFrom_17 (by decide) ?_
  refine lv_aload_n hx hb dX5_copyFrom_18 rfl (lv_at hl 0 rfl) ?_
  refine z_gR F hw h0 zc5 0 (by decide) rfl zf5_9 dX5_copyFrom_19 ?_
  have t_4 : zT sh (zR M_1 k0 0) 14 := hw.2.2.2.fld h0 0 14
  refine z_alen F hw t_4 (by decide) (t0 := 1) rfl dX5_copyFrom_22 ?_
  obtain ⟨g_5, hd⟩ := zgd_some hd
  refine z_copy F hw hl.1 t_2 t_3 zk5_27 zac1 zac2 zac3 g_5 (by decide) (Nat.le_of_ble_eq_true rfl) dX5_copyFrom_23 (fun H locs M_6 eM_6 hw => ?_)
  have hd := zbd_eq eM_6 hd
  exact z_vret F hr hlk hw (Option.some.inj hd) dX5_copyFrom_26

def zX4_copyFrom (sh : zShp) (k0 : Nat) (k1 : Nat) (M : zMem) : Option (zMem) :=
  zgd (zcpok (0 : Int32) (0 : Int32) (Int32.ofNat (zlen sh (zR M k0 0))) (zlen sh (zR M k1 0)) (zlen sh (zR M k0 0))) <|
  zbd (zpC M (zR M k1 0) (0 : Int32).toNatClampNeg (zR M k0 0) (0 : Int32).toNatClampNeg (Int32.ofNat (zlen sh (zR M k0 0))).toNatClampNeg) fun M_5 =>
  zgd (zcpok (0 : Int32) (0 : Int32) (Int32.ofNat (zlen sh (zR M_5 k0 1))) (zlen sh (zR M_5 k1 1)) (zlen sh (zR M_5 k0 1))) <|
  zbd (zpC M_5 (zR M_5 k1 1) (0 : Int32).toNatClampNeg (zR M_5 k0 1) (0 : Int32).toNatClampNeg (Int32.ofNat (zlen sh (zR M_5 k0 1))).toNatClampNeg) fun M_10 =>
  zob (zX5_copyFrom sh (zR M_10 k0 2) (zR M_10 k1 2) M_10) fun M_14 =>
  zbd (zpI M_14 k0 3 (zI M_14 k1 3)) fun M_15 =>
  zbd (zpI M_15 k0 4 (zI M_15 k1 4)) fun M_16 =>
  zbd (zpI M_16 k0 5 (zI M_16 k1 5)) fun M_17 =>
  zbd (zpI M_17 k0 6 (zI M_17 k1 6)) fun M_18 =>
  zbd (zpI M_18 k0 7 (zI M_18 k1 7)) fun M_19 =>
  zbd (zpI M_19 k0 8 (zI M_19 k1 8)) fun M_20 =>
  zbd (zpI M_20 k0 9 (zI M_20 k1 9)) fun M_21 =>
  some M_21
set_option maxHeartbeats 4000000 in
set_option maxRecDepth 100000 in
theorem ztX4_copyFrom (l : Launch) (D : va_G) (cy : Nat → ClassId) (sh : zShp) (ad : Nat → Nat) {k0 : Nat} {k1 : Nat} (h0 : zT sh k0 4) (h1 : zT sh k1 4) {M : zMem} {M1 : zMem} (hd : zX4_copyFrom sh k0 k1 M = some M1) : zCV l yX4_copyFrom cX4_copyFrom 2 { frames := 2, cells := 0, slots := 0, locals := 47 } [.ref (ad k0), .ref (ad k1)] D cy sh ad M M1 := by
  refine zcv_of (by decide) (Nat.le_of_ble_eq_true rfl) (fun p e s m below meth c ls F hr hlk hl hw => ?_)
  have hx := F.1.1
  have hb := F.1.2.1
  have hl : lv_has ls 2 [(0, .ref (ad k0)), (1, .ref (ad k1))] := hl
  unfold zX4_copyFrom at hd
  refine lv_aload_n hx hb dX4_copyFrom_0 rfl (lv_at hl 1 rfl) ?_
  refine z_gR F hw h1 zc4 0 (by decide) rfl zf4_9 dX4_copyFrom_1 ?_
  have t_1 : zT sh (zR M k1 0) 14 := hw.2.2.2.fld h1 0 14
  refine lv_iconst (v := (0 : Int32)) hx hb dX4_copyFrom_4 (by decide) ?_
  refine lv_aload_n hx hb dX4_copyFrom_5 rfl (lv_at hl 0 rfl) ?_
  refine z_gR F hw h0 zc4 0 (by decide) rfl zf4_9 dX4_copyFrom_6 ?_
  have t_2 : zT sh (zR M k0 0) 14 := hw.2.2.2.fld h0 0 14
  refine lv_iconst (v := (0 : Int32)) hx hb dX4_copyFrom_9 (by decide) ?_
  refine lv_aload_n hx hb dX4_copyFrom_10 rfl (lv_at hl 0 rfl) ?_
  refine z_gR F hw h0 zc4 0 (by decide) rfl zf4_9 dX4_copyFrom_11 ?_
  have t_3 : zT sh (zR M k0 0) 14 := hw.2.2.2.fld h0 0 14
  refine z_alen F hw t_3 (by decide) (t0 := 1) rfl dX4_copyFrom_14 ?_
  obtain ⟨g_4, hd⟩ := zgd_some hd
  refine z_copy F hw hl.1 t_1 t_2 zk4_120 zac1 zac2 zac3 g_4 (by decide) (Nat.le_of_ble_eq_true rfl) dX4_copyFrom_15 (fun H locs M_5 eM_5 hw => ?_)
  have hd := zbd_eq eM_5 hd
  refine lv_aload_n hx hb dX4_copyFrom_18 rfl (lv_at hl 1 rfl) ?_
  refine z_gR F hw h1 zc4 1 (by decide) rfl zf4_15 dX4_copyFrom_19 ?_
  have t_6 : zT sh (zR M_5 k1 1) 14 := hw.2.2.2.fld h1 1 14
  refine lv_iconst (v := (0 : Int32)) hx hb dX4_copyFrom_22 (by decide) ?_
  refine lv_aload_n hx hb dX4_copyFrom_23 rfl (lv_at hl 0 rfl) ?_
  refine z_gR F hw h0 zc4 1 (by decide) rfl zf4_15 dX4_copyFrom_24 ?_
  have t_7 : zT sh (zR M_5 k0 1) 14 := hw.2.2.2.fld h0 1 14
  refine lv_iconst (v := (0 : Int32)) hx hb dX4_copyFrom_27 (by decide) ?_
  refine lv_aload_n hx hb dX4_copyFrom_28 rfl (lv_at hl 0 rfl) ?_
  refine z_gR F hw h0 zc4 1 (by decide) rfl zf4_15 dX4_copyFrom_29 ?_
  have t_8 : zT sh (zR M_5 k0 1) 14 := hw.2.2.2.fld h0 1 14
  refine z_alen F hw t_8 (by decide) (t0 := 1) rfl dX4_copyFrom_32 ?_
  obtain ⟨g_9, hd⟩ := zgd_some hd
  refine z_copy F hw hl.1 t_6 t_7 zk4_120 zac1 zac2 zac3 g_9 (by decide) (Nat.le_of_ble_eq_true rfl) dX4_copyFrom_33 (fun H locs M_10 eM_10 hw => ?_)
  have hd := zbd_eq eM_10 hd
  refine lv_aload_n hx hb dX4_copyFrom_36 rfl (lv_at hl 0 rfl) ?_
  refine z_gR F hw h0 zc4 2 (by decide) rfl zf4_21 dX4_copyFrom_37 ?_
  have t_11 : zT sh (zR M_10 k0 2) 5 := hw.2.2.2.fld h0 2 5
  refine lv_aload_n hx hb dX4_copyFrom_40 rfl (lv_at hl 1 rfl) ?_
  refine z_gR F hw h1 zc4 2 (by decide) rfl zf4_21 dX4_copyFrom_41 ?_
  have t_12 : zT sh (zR M_10 k1 2) 5 := hw.2.2.2.fld h1 2 5
  obtain ⟨M_14, hc_13, hd⟩ := zob_some hd
  refine z_cvV F hw hl.1 (As := [.ref (ad (zR M_10 k1 2))]) (rest := []) (ztX5_copyFrom l D cy sh ad t_11 t_12 hc_13) zyX5_copyFrom t_11 zc5 zk4_126 ⟨rfl, rfl⟩ ⟨by decide, by decide⟩ rfl rfl (Nat.le_of_ble_eq_true rfl) dX4_copyFrom_44 (fun H locs hw => ?_)
  refine lv_aload_n hx hb dX4_copyFrom_47 rfl (lv_at hl 0 rfl) ?_
  refine lv_aload_n hx hb dX4_copyFrom_48 rfl (lv_at hl 1 rfl) ?_
  refine z_gI F hw h1 zc4 3 (by decide) rfl zf4_25 dX4_copyFrom_49 ?_
  refine z_pI F hw h0 zc4 3 (by decide) rfl zf4_25 rfl rfl rfl dX4_copyFrom_52 (fun H locs M_15 eM_15 hw => ?_)
  have hd := zbd_eq eM_15 hd
  refine lv_aload_n hx hb dX4_copyFrom_55 rfl (lv_at hl 0 rfl) ?_
  refine lv_aload_n hx hb dX4_copyFrom_56 rfl (lv_at hl 1 rfl) ?_
  refine z_gI F hw h1 zc4 4 (by decide) rfl zf4_29 dX4_copyFrom_57 ?_
  refine z_pI F hw h0 zc4 4 (by decide) rfl zf4_29 rfl rfl rfl dX4_copyFrom_60 (fun H locs M_16 eM_16 hw => ?_)
  have hd := zbd_eq eM_16 hd
  refine lv_aload_n hx hb dX4_copyFrom_63 rfl (lv_at hl 0 rfl) ?_
  refine lv_aload_n hx hb dX4_copyFrom_64 rfl (lv_at hl 1 rfl) ?_
  refine z_gI F hw h1 zc4 5 (by decide) rfl zf4_50 dX4_copyFrom_65 ?_
  refine z_pI F hw h0 zc4 5 (by decide) rfl zf4_50 rfl rfl rfl dX4_copyFrom_68 (fun H locs M_17 eM_17 hw => ?_)
  have hd := zbd_eq eM_17 hd
  refine lv_aload_n hx hb dX4_copyFrom_71 rfl (lv_at hl 0 rfl) ?_
  refine lv_aload_n hx hb dX4_copyFrom_72 rfl (lv_at hl 1 rfl) ?_
  refine z_gI F hw h1 zc4 6 (by decide) rfl zf4_66 dX4_copyFrom_73 ?_
  refine z_pI F hw h0 zc4 6 (by decide) rfl zf4_66 rfl rfl rfl dX4_copyFrom_76 (fun H locs M_18 eM_18 hw => ?_)
  have hd := zbd_eq eM_18 hd
  refine lv_aload_n hx hb dX4_copyFrom_79 rfl (lv_at hl 0 rfl) ?_
  refine lv_aload_n hx hb dX4_copyFrom_80 rfl (lv_at hl 1 rfl) ?_
  refine z_gI F hw h1 zc4 7 (by decide) rfl zf4_70 dX4_copyFrom_81 ?_
  refine z_pI F hw h0 zc4 7 (by decide) rfl zf4_70 rfl rfl rfl dX4_copyFrom_84 (fun H locs M_19 eM_19 hw => ?_)
  have hd := zbd_eq eM_19 hd
  refine lv_aload_n hx hb dX4_copyFrom_87 rfl (lv_at hl 0 rfl) ?_
  refine lv_aload_n hx hb dX4_copyFrom_88 rfl (lv_at hl 1 rfl) ?_
  refine z_gI F hw h1 zc4 8 (by decide) rfl zf4_98 dX4_copyFrom_89 ?_
  refine z_pI F hw h0 zc4 8 (by decide) rfl zf4_98 rfl rfl rfl dX4_copyFrom_92 (fun H locs M_20 eM_20 hw => ?_)
  have hd := zbd_eq eM_20 hd
  refine lv_aload_n hx hb dX4_copyFrom_95 rfl (lv_at hl 0 rfl) ?_
  refine lv_aload_n hx hb dX4_copyFrom_96 rfl (lv_at hl 1 rfl) ?_
  refine z_gI F hw h1 zc4 9 (by decide) rfl zf4_101 dX4_copyFrom_97 ?_
  refine z_pI F hw h0 zc4 9 (by decide) rfl zf4_101 rfl rfl rfl dX4_copyFrom_100 (fun H locs M_21 eM_21 hw => ?_)
  have hd := zbd_eq eM_21 hd
  exact z_vret F hr hlk hw (Option.some.inj hd) dX4_copyFrom_103

def zbX8_copyFrom_2 (sh : zShp) (k0 : Nat) (k1 : Nat)  (kk2 : Int32 → zMem → Option (zMem)) (x2 : Int32) (M : zMem) : Option (zMem) :=
  if (Int32.ofNat (zlen sh (zR M k0 0))) ≤ x2 then (
  zob (zX4_copyFrom sh (zR M k0 1) (zR M k1 1) M) fun M_6 =>
  zgd (zcpok (0 : Int32) (0 : Int32) (Int32.ofNat (zlen sh (zR M_6 k0 2))) (zlen sh (zR M_6 k1 2)) (zlen sh (zR M_6 k0 2))) <|
  zbd (zpC M_6 (zR M_6 k1 2) (0 : Int32).toNatClampNeg (zR M_6 k0 2) (0 : Int32).toNatClampNeg (Int32.ofNat (zlen sh (zR M_6 k0 2))).toNatClampNeg) fun M_11 =>
  zbd (zpI M_11 k0 4 (zI M_11 k1 4)) fun M_12 =>
  zbd (zpI M_12 k0 5 (zI M_12 k1 5)) fun M_13 =>
  zbd (zpI M_13 k0 6 (zI M_13 k1 6)) fun M_14 =>
  zbd (zpI M_14 k0 7 (zI M_14 k1 7)) fun M_15 =>
  zgd (zisB (zI M_15 k1 8)) <|
  zbd (zpI M_15 k0 8 (zI M_15 k1 8)) fun M_16 =>
  zgd (zisB (zI M_16 k1 9)) <|
  zbd (zpI M_16 k0 9 (zI M_16 k1 9)) fun M_18 =>
  zbd (zpI M_18 k0 10 (zI M_18 k1 10)) fun M_20 =>
  zbd (zpI M_20 k0 11 (zI M_20 k1 11)) fun M_21 =>
  zbd (zpI M_21 k0 12 (zI M_21 k1 12)) fun M_22 =>
  some M_22)
  else (
  zgd (zin x2 (zlen sh (zR M k0 0))) <|
  zgd (zin x2 (zlen sh (zR M k1 0))) <|
  zob (zX7_copyFrom sh (zR M (zR M k0 0) x2.toNatClampNeg) (zR M (zR M k1 0) x2.toNatClampNeg) M) fun M_30 =>
  kk2 (x2 + (1 : Int32)) M_30)
def zlX8_copyFrom_2 (sh : zShp) (k0 : Nat) (k1 : Nat)  : Nat → Int32 → zMem → Option (zMem)
  | 0 => fun _ _ => none
  | n + 1 => fun x2 M => zbX8_copyFrom_2 sh k0 k1  (zlX8_copyFrom_2 sh k0 k1  n) x2 M
def zX8_copyFrom (sh : zShp) (k0 : Nat) (k1 : Nat) (M : zMem) : Option (zMem) :=
  zlX8_copyFrom_2 sh k0 k1 zF (0 : Int32) M
set_option maxHeartbeats 4000000 in
set_option maxRecDepth 100000 in
theorem ztX8_copyFrom (l : Launch) (D : va_G) (cy : Nat → ClassId) (sh : zShp) (ad : Nat → Nat) {k0 : Nat} {k1 : Nat} (h0 : zT sh k0 8) (h1 : zT sh k1 8) {M : zMem} {M1 : zMem} (hd : zX8_copyFrom sh k0 k1 M = some M1) : zCV l yX8_copyFrom cX8_copyFrom 3 { frames := 3, cells := 0, slots := 0, locals := 68 } [.ref (ad k0), .ref (ad k1)] D cy sh ad M M1 := by
  refine zcv_of (by decide) (Nat.le_of_ble_eq_true rfl) (fun p e s m below meth c ls F hr hlk hl hw => ?_)
  have hx := F.1.1
  have hb := F.1.2.1
  have hl : lv_has ls 3 [(0, .ref (ad k0)), (1, .ref (ad k1))] := hl
  have L2 : ∀  (n : Nat), ∀ (x2 : Int32) (M : zMem) (H : Heap) (locs : List Loc) (ls : Array Slot), lv_has ls 3 [(0, .ref (ad k0)), (1, .ref (ad k1)), (2, .int x2)] → zWd D cy sh ad s M H locs → zlX8_copyFrom_2 sh k0 k1  n x2 M = some M1 → W p l e { frames := 3, cells := 0, slots := 0, locals := 68 } s m ([.ref (ad k0), .ref (ad k1)] : List Value).toArray below meth c H locs 0 0 (zQV below D cy sh ad s [.ref (ad k0), .ref (ad k1)] M1) (F0 m 2 ls []) := by
    intro  n
    induction n with
    | zero => intro x2 M H locs ls hl hw hd; exact (znone hd).elim
    | succ n hk2 =>
      intro x2 M H locs ls hl hw hd
      have hd : zbX8_copyFrom_2 sh k0 k1  (zlX8_copyFrom_2 sh k0 k1  n) x2 M = some M1 := hd
      unfold zbX8_copyFrom_2 at hd
      refine lv_iload_n hx hb dX8_copyFrom_2 rfl (lv_at hl 2 rfl) ?_
      refine lv_aload_n hx hb dX8_copyFrom_3 rfl (lv_at hl 0 rfl) ?_
      refine z_gR F hw h0 zc8 0 (by decide) rfl zf8_11 dX8_copyFrom_4 ?_
      have t_1 : zT sh (zR M k0 0) 18 := hw.2.2.2.fld h0 0 18
      refine z_alen F hw t_1 (by decide) (t0 := 5) rfl dX8_copyFrom_7 ?_
      refine lv_icmp_ge (tgt := 32) hx hb dX8_copyFrom_8 (by decide) (fun c_2 => ?_) (fun c_2 => ?_)
      · have hd := zif_pos c_2 hd
        refine lv_aload_n hx hb dX8_copyFrom_32 rfl (lv_at hl 0 rfl) ?_
        refine z_gR F hw h0 zc8 1 (by decide) rfl zf8_20 dX8_copyFrom_33 ?_
        have t_3 : zT sh (zR M k0 1) 4 := hw.2.2.2.fld h0 1 4
        refine lv_aload_n hx hb dX8_copyFrom_36 rfl (lv_at hl 1 rfl) ?_
        refine z_gR F hw h1 zc8 1 (by decide) rfl zf8_20 dX8_copyFrom_37 ?_
        have t_4 : zT sh (zR M k1 1) 4 := hw.2.2.2.fld h1 1 4
        obtain ⟨M_6, hc_5, hd⟩ := zob_some hd
        refine z_cvV F hw hl.1 (As := [.ref (ad (zR M k1 1))]) (rest := []) (ztX4_copyFrom l D cy sh ad t_3 t_4 hc_5) zyX4_copyFrom t_3 zc4 zk8_159 ⟨rfl, rfl⟩ ⟨by decide, by decide⟩ rfl rfl (Nat.le_of_ble_eq_true rfl) dX8_copyFrom_40 (fun H locs hw => ?_)
        refine lv_aload_n hx hb dX8_copyFrom_43 rfl (lv_at hl 1 rfl) ?_
        refine z_gR F hw h1 zc8 2 (by decide) rfl zf8_24 dX8_copyFrom_44 ?_
        have t_7 : zT sh (zR M_6 k1 2) 14 := hw.2.2.2.fld h1 2 14
        refine lv_iconst (v := (0 : Int32)) hx hb dX8_copyFrom_47 (by decide) ?_
        refine lv_aload_n hx hb dX8_copyFrom_48 rfl (lv_at hl 0 rfl) ?_
        refine z_gR F hw h0 zc8 2 (by decide) rfl zf8_24 dX8_copyFrom_49 ?_
        have t_8 : zT sh (zR M_6 k0 2) 14 := hw.2.2.2.fld h0 2 14
        refine lv_iconst (v := (0 : Int32)) hx hb dX8_copyFrom_52 (by decide) ?_
        refine lv_aload_n hx hb dX8_copyFrom_53 rfl (lv_at hl 0 rfl) ?_
        refine z_gR F hw h0 zc8 2 (by decide) rfl zf8_24 dX8_copyFrom_54 ?_
        have t_9 : zT sh (zR M_6 k0 2) 14 := hw.2.2.2.fld h0 2 14
        refine z_alen F hw t_9 (by decide) (t0 := 1) rfl dX8_copyFrom_57 ?_
        obtain ⟨g_10, hd⟩ := zgd_some hd
        refine z_copy F hw hl.1 t_7 t_8 zk8_85 zac1 zac2 zac3 g_10 (by decide) (Nat.le_of_ble_eq_true rfl) dX8_copyFrom_58 (fun H locs M_11 eM_11 hw => ?_)
        have hd := zbd_eq eM_11 hd
        refine lv_aload_n hx hb dX8_copyFrom_61 rfl (lv_at hl 0 rfl) ?_
        refine lv_aload_n hx hb dX8_copyFrom_62 rfl (lv_at hl 1 rfl) ?_
        refine z_gI F hw h1 zc8 4 (by decide) rfl zf8_58 dX8_copyFrom_63 ?_
        refine z_pI F hw h0 zc8 4 (by decide) rfl zf8_58 rfl rfl rfl dX8_copyFrom_66 (fun H locs M_12 eM_12 hw => ?_)
        have hd := zbd_eq eM_12 hd
        refine lv_aload_n hx hb dX8_copyFrom_69 rfl (lv_at hl 0 rfl) ?_
        refine lv_aload_n hx hb dX8_copyFrom_70 rfl (lv_at hl 1 rfl) ?_
        refine z_gI F hw h1 zc8 5 (by decide) rfl zf8_39 dX8_copyFrom_71 ?_
        refine z_pI F hw h0 zc8 5 (by decide) rfl zf8_39 rfl rfl rfl dX8_copyFrom_74 (fun H locs M_13 eM_13 hw => ?_)
        have hd := zbd_eq eM_13 hd
        refine lv_aload_n hx hb dX8_copyFrom_77 rfl (lv_at hl 0 rfl) ?_
        refine lv_aload_n hx hb dX8_copyFrom_78 rfl (lv_at hl 1 rfl) ?_
        refine z_gI F hw h1 zc8 6 (by decide) rfl zf8_42 dX8_copyFrom_79 ?_
        refine z_pI F hw h0 zc8 6 (by decide) rfl zf8_42 rfl rfl rfl dX8_copyFrom_82 (fun H locs M_14 eM_14 hw => ?_)
        have hd := zbd_eq eM_14 hd
        refine lv_aload_n hx hb dX8_copyFrom_85 rfl (lv_at hl 0 rfl) ?_
        refine lv_aload_n hx hb dX8_copyFrom_86 rfl (lv_at hl 1 rfl) ?_
        refine z_gI F hw h1 zc8 7 (by decide) rfl zf8_31 dX8_copyFrom_87 ?_
        refine z_pI F hw h0 zc8 7 (by decide) rfl zf8_31 rfl rfl rfl dX8_copyFrom_90 (fun H locs M_15 eM_15 hw => ?_)
        have hd := zbd_eq eM_15 hd
        refine lv_aload_n hx hb dX8_copyFrom_93 rfl (lv_at hl 0 rfl) ?_
        refine lv_aload_n hx hb dX8_copyFrom_94 rfl (lv_at hl 1 rfl) ?_
        refine z_gI F hw h1 zc8 8 (by decide) rfl zf8_48 dX8_copyFrom_95 ?_
        obtain ⟨g_17, hd⟩ := zgd_some hd
        refine z_pI F hw h0 zc8 8 (by decide) rfl zf8_48 rfl (zisB_nar g_17) (zisB_fit g_17) dX8_copyFrom_98 (fun H locs M_16 eM_16 hw => ?_)
        have hd := zbd_eq eM_16 hd
        refine lv_aload_n hx hb dX8_copyFrom_101 rfl (lv_at hl 0 rfl) ?_
        refine lv_aload_n hx hb dX8_copyFrom_102 rfl (lv_at hl 1 rfl) ?_
        refine z_gI F hw h1 zc8 9 (by decide) rfl zf8_52 dX8_copyFrom_103 ?_
        obtain ⟨g_19, hd⟩ := zgd_some hd
        refine z_pI F hw h0 zc8 9 (by decide) rfl zf8_52 rfl (zisB_nar g_19) (zisB_fit g_19) dX8_copyFrom_106 (fun H locs M_18 eM_18 hw => ?_)
        have hd := zbd_eq eM_18 hd
        refine lv_aload_n hx hb dX8_copyFrom_109 rfl (lv_at hl 0 rfl) ?_
        refine lv_aload_n hx hb dX8_copyFrom_110 rfl (lv_at hl 1 rfl) ?_
        refine z_gI F hw h1 zc8 10 (by decide) rfl zf8_55 dX8_copyFrom_111 ?_
        refine z_pI F hw h0 zc8 10 (by decide) rfl zf8_55 rfl rfl rfl dX8_copyFrom_114 (fun H locs M_20 eM_20 hw => ?_)
        have hd := zbd_eq eM_20 hd
        refine lv_aload_n hx hb dX8_copyFrom_117 rfl (lv_at hl 0 rfl) ?_
        refine lv_aload_n hx hb dX8_copyFrom_118 rfl (lv_at hl 1 rfl) ?_
        refine z_gI F hw h1 zc8 11 (by decide) rfl zf8_68 dX8_copyFrom_119 ?_
        refine z_pI F hw h0 zc8 11 (by decide) rfl zf8_68 rfl rfl rfl dX8_copyFrom_122 (fun H locs M_21 eM_21 hw => ?_)
        have hd := zbd_eq eM_21 hd
        refine lv_aload_n hx hb dX8_copyFrom_125 rfl (lv_at hl 0 rfl) ?_
        refine lv_aload_n hx hb dX8_copyFrom_126 rfl (lv_at hl 1 rfl) ?_
        refine z_gI F hw h1 zc8 12 (by decide) rfl zf8_71 dX8_copyFrom_127 ?_
        refine z_pI F hw h0 zc8 12 (by decide) rfl zf8_71 rfl rfl rfl dX8_copyFrom_130 (fun H locs M_22 eM_22 hw => ?_)
        have hd := zbd_eq eM_22 hd
        exact z_vret F hr hlk hw (Option.some.inj hd) dX8_copyFrom_133
      · have hd := zif_neg c_2 hd
        refine lv_aload_n hx hb dX8_copyFrom_11 rfl (lv_at hl 0 rfl) ?_
        refine z_gR F hw h0 zc8 0 (by decide) rfl zf8_11 dX8_copyFrom_12 ?_
        have t_23 : zT sh (zR M k0 0) 18 := hw.2.2.2.fld h0 0 18
        refine lv_iload_n hx hb dX8_copyFrom_15 rfl (lv_at hl 2 rfl) ?_
        obtain ⟨g_24, hd⟩ := zgd_some hd
        refine z_aald F hw t_23 (by decide) 5 rfl g_24 dX8_copyFrom_16 ?_
        have t_25 : zT sh (zR M (zR M k0 0) x2.toNatClampNeg) 7 := hw.2.2.2.arr t_23 _ 7 (zin_lt g_24)
        refine lv_aload_n hx hb dX8_copyFrom_17 rfl (lv_at hl 1 rfl) ?_
        refine z_gR F hw h1 zc8 0 (by decide) rfl zf8_11 dX8_copyFrom_18 ?_
        have t_26 : zT sh (zR M k1 0) 18 := hw.2.2.2.fld h1 0 18
        refine lv_iload_n hx hb dX8_copyFrom_21 rfl (lv_at hl 2 rfl) ?_
        obtain ⟨g_27, hd⟩ := zgd_some hd
        refine z_aald F hw t_26 (by decide) 5 rfl g_27 dX8_copyFrom_22 ?_
        have t_28 : zT sh (zR M (zR M k1 0) x2.toNatClampNeg) 7 := hw.2.2.2.arr t_26 _ 7 (zin_lt g_27)
        obtain ⟨M_30, hc_29, hd⟩ := zob_some hd
        refine z_cvV F hw hl.1 (As := [.ref (ad (zR M (zR M k1 0) x2.toNatClampNeg))]) (rest := []) (ztX7_copyFrom l D cy sh ad t_25 t_28 hc_29) zyX7_copyFrom t_25 zc7 zk8_156 ⟨rfl, rfl⟩ ⟨by decide, by decide⟩ rfl rfl (Nat.le_of_ble_eq_true rfl) dX8_copyFrom_23 (fun H locs hw => ?_)
        refine lv_iinc (v := (x2 + (1 : Int32))) (lv' := [(2, .int (x2 + (1 : Int32))), (0, .ref (ad k0)), (1, .ref (ad k1))]) hx hb dX8_copyFrom_26 hl (k := 2) rfl (ziinc (by decide)) (by decide) rfl (fun ls hl => ?_)
        refine lv_goto (tgt := 2) hx hb dX8_copyFrom_29 (by decide) ?_
        exact hk2 _ _ _ _ _ (lv_sub hl [1, 2, 0] rfl) hw hd
  unfold zX8_copyFrom at hd
  refine lv_iconst (v := (0 : Int32)) hx hb dX8_copyFrom_0 (by decide) ?_
  refine lv_istore_n (lv' := [(2, .int (0 : Int32)), (0, .ref (ad k0)), (1, .ref (ad k1))]) hx hb dX8_copyFrom_1 rfl hl (by decide) rfl (fun ls hl => ?_)
  exact L2 zF _ _ _ _ _ (lv_sub hl [1, 2, 0] rfl) hw hd

def zX3_keep (sh : zShp) (k0 : Nat) (k1 : Nat) (M : zMem) : Option (zMem) :=
  zgd (zin (zI M k0 1) (zlen sh (zR M k0 0))) <|
  zob (zX8_copyFrom sh (zR M (zR M k0 0) ((zI M k0 1).toNatClampNeg)) k1 M) fun M_5 =>
  zbd (zpI M_5 k0 1 (zrem ((zI M_5 k0 1) + (1 : Int32)) (10 : Int32))) fun M_6 =>
  zbd (zpI M_6 k0 2 (zmin (10 : Int32) ((zI M_6 k0 2) + (1 : Int32)))) fun M_7 =>
  some M_7
set_option maxHeartbeats 4000000 in
set_option maxRecDepth 100000 in
theorem ztX3_keep (l : Launch) (D : va_G) (cy : Nat → ClassId) (sh : zShp) (ad : Nat → Nat) {k0 : Nat} {k1 : Nat} (h0 : zT sh k0 3) (h1 : zT sh k1 8) {M : zMem} {M1 : zMem} (hd : zX3_keep sh k0 k1 M = some M1) : zCV l yX3_keep cX3_keep 2 { frames := 4, cells := 0, slots := 0, locals := 90 } [.ref (ad k0), .ref (ad k1)] D cy sh ad M M1 := by
  refine zcv_of (by decide) (Nat.le_of_ble_eq_true rfl) (fun p e s m below meth c ls F hr hlk hl hw => ?_)
  have hx := F.1.1
  have hb := F.1.2.1
  have hl : lv_has ls 2 [(0, .ref (ad k0)), (1, .ref (ad k1))] := hl
  unfold zX3_keep at hd
  refine lv_aload_n hx hb dX3_keep_0 rfl (lv_at hl 0 rfl) ?_
  refine z_gR F hw h0 zc3 0 (by decide) rfl zf3_11 dX3_keep_1 ?_
  have t_1 : zT sh (zR M k0 0) 19 := hw.2.2.2.fld h0 0 19
  refine lv_aload_n hx hb dX3_keep_4 rfl (lv_at hl 0 rfl) ?_
  refine z_gI F hw h0 zc3 1 (by decide) rfl zf3_18 dX3_keep_5 ?_
  obtain ⟨g_2, hd⟩ := zgd_some hd
  refine z_aald F hw t_1 (by decide) 6 rfl g_2 dX3_keep_8 ?_
  have t_3 : zT sh (zR M (zR M k0 0) ((zI M k0 1).toNatClampNeg)) 8 := hw.2.2.2.arr t_1 _ 8 (zin_lt g_2)
  refine lv_aload_n hx hb dX3_keep_9 rfl (lv_at hl 1 rfl) ?_
  obtain ⟨M_5, hc_4, hd⟩ := zob_some hd
  refine z_cvV F hw hl.1 (As := [.ref (ad k1)]) (rest := []) (ztX8_copyFrom l D cy sh ad t_3 h1 hc_4) zyX8_copyFrom t_3 zc8 zk3_22 ⟨rfl, rfl⟩ ⟨by decide, by decide⟩ rfl rfl (Nat.le_of_ble_eq_true rfl) dX3_keep_10 (fun H locs hw => ?_)
  refine lv_aload_n hx hb dX3_keep_13 rfl (lv_at hl 0 rfl) ?_
  refine lv_aload_n hx hb dX3_keep_14 rfl (lv_at hl 0 rfl) ?_
  refine z_gI F hw h0 zc3 1 (by decide) rfl zf3_18 dX3_keep_15 ?_
  refine lv_iconst (v := (1 : Int32)) hx hb dX3_keep_18 (by decide) ?_
  refine lv_iadd hx hb dX3_keep_19 ?_
  refine lv_bipush (v := (10 : Int32)) hx hb dX3_keep_20 (by decide) ?_
  refine z_irem hx hb dX3_keep_22 (by decide) ?_
  refine z_pI F hw h0 zc3 1 (by decide) rfl zf3_18 rfl rfl rfl dX3_keep_23 (fun H locs M_6 eM_6 hw => ?_)
  have hd := zbd_eq eM_6 hd
  refine lv_aload_n hx hb dX3_keep_26 rfl (lv_at hl 0 rfl) ?_
  refine lv_bipush (v := (10 : Int32)) hx hb dX3_keep_27 (by decide) ?_
  refine lv_aload_n hx hb dX3_keep_29 rfl (lv_at hl 0 rfl) ?_
  refine z_gI F hw h0 zc3 2 (by decide) rfl zf3_26 dX3_keep_30 ?_
  refine lv_iconst (v := (1 : Int32)) hx hb dX3_keep_33 (by decide) ?_
  refine lv_iadd hx hb dX3_keep_34 ?_
  refine z_mmin F hl.1 zk3_29 (by decide) (Nat.le_of_ble_eq_true rfl) dX3_keep_35 ?_
  refine z_pI F hw h0 zc3 2 (by decide) rfl zf3_26 rfl rfl rfl dX3_keep_38 (fun H locs M_7 eM_7 hw => ?_)
  have hd := zbd_eq eM_7 hd
  exact z_vret F hr hlk hw (Option.some.inj hd) dX3_keep_41

def zjX3_takeBack_46 (sh : zShp) (k0 : Nat) (k1 : Nat)  (M : zMem) : Option (zMem) :=
  some M
def zX3_takeBack (sh : zShp) (k0 : Nat) (k1 : Nat) (M : zMem) : Option (zMem) :=
  if (zI M k0 2) ≤ 0 then (
  zjX3_takeBack_46 sh k0 k1 M)
  else (
  zbd (zpI M k0 1 (zrem (((zI M k0 1) + (10 : Int32)) - (1 : Int32)) (10 : Int32))) fun M_2 =>
  zbd (zpI M_2 k0 2 ((zI M_2 k0 2) - (1 : Int32))) fun M_3 =>
  zgd (zin (zI M_3 k0 1) (zlen sh (zR M_3 k0 0))) <|
  zob (zX8_copyFrom sh k1 (zR M_3 (zR M_3 k0 0) ((zI M_3 k0 1).toNatClampNeg)) M_3) fun M_8 =>
  zjX3_takeBack_46 sh k0 k1 M_8)
set_option maxHeartbeats 4000000 in
set_option maxRecDepth 100000 in
theorem ztX3_takeBack (l : Launch) (D : va_G) (cy : Nat → ClassId) (sh : zShp) (ad : Nat → Nat) {k0 : Nat} {k1 : Nat} (h0 : zT sh k0 3) (h1 : zT sh k1 8) {M : zMem} {M1 : zMem} (hd : zX3_takeBack sh k0 k1 M = some M1) : zCV l yX3_takeBack cX3_takeBack 2 { frames := 4, cells := 0, slots := 0, locals := 90 } [.ref (ad k0), .ref (ad k1)] D cy sh ad M M1 := by
  refine zcv_of (by decide) (Nat.le_of_ble_eq_true rfl) (fun p e s m below meth c ls F hr hlk hl hw => ?_)
  have hx := F.1.1
  have hb := F.1.2.1
  have hl : lv_has ls 2 [(0, .ref (ad k0)), (1, .ref (ad k1))] := hl
  have J46 : ∀ (M : zMem) (H : Heap) (locs : List Loc) (ls : Array Slot), lv_has ls 2 [] → zWd D cy sh ad s M H locs → zjX3_takeBack_46 sh k0 k1  M = some M1 → W p l e { frames := 4, cells := 0, slots := 0, locals := 90 } s m ([.ref (ad k0), .ref (ad k1)] : List Value).toArray below meth c H locs 0 0 (zQV below D cy sh ad s [.ref (ad k0), .ref (ad k1)] M1) (F0 m 46 ls []) := by
    intro  M H locs ls hl hw hd
    unfold zjX3_takeBack_46 at hd
    exact z_vret F hr hlk hw (Option.some.inj hd) dX3_takeBack_46
  unfold zX3_takeBack at hd
  refine lv_aload_n hx hb dX3_takeBack_0 rfl (lv_at hl 0 rfl) ?_
  refine z_gI F hw h0 zc3 2 (by decide) rfl zf3_26 dX3_takeBack_1 ?_
  refine lv_if_le (tgt := 46) hx hb dX3_takeBack_4 (by decide) (fun c_1 => ?_) (fun c_1 => ?_)
  · have hd := zif_pos c_1 hd
    exact J46 _ _ _ _ (lv_sub hl [] rfl) hw hd
  · have hd := zif_neg c_1 hd
    refine lv_aload_n hx hb dX3_takeBack_7 rfl (lv_at hl 0 rfl) ?_
    refine lv_aload_n hx hb dX3_takeBack_8 rfl (lv_at hl 0 rfl) ?_
    refine z_gI F hw h0 zc3 1 (by decide) rfl zf3_18 dX3_takeBack_9 ?_
    refine lv_bipush (v := (10 : Int32)) hx hb dX3_takeBack_12 (by decide) ?_
    refine lv_iadd hx hb dX3_takeBack_14 ?_
    refine lv_iconst (v := (1 : Int32)) hx hb dX3_takeBack_15 (by decide) ?_
    refine lv_isub hx hb dX3_takeBack_16 ?_
    refine lv_bipush (v := (10 : Int32)) hx hb dX3_takeBack_17 (by decide) ?_
    refine z_irem hx hb dX3_takeBack_19 (by decide) ?_
    refine z_pI F hw h0 zc3 1 (by decide) rfl zf3_18 rfl rfl rfl dX3_takeBack_20 (fun H locs M_2 eM_2 hw => ?_)
    have hd := zbd_eq eM_2 hd
    refine lv_aload_n hx hb dX3_takeBack_23 rfl (lv_at hl 0 rfl) ?_
    refine lv_dup hx hb dX3_takeBack_24 rfl ?_
    refine z_gI F hw h0 zc3 2 (by decide) rfl zf3_26 dX3_takeBack_25 ?_
    refine lv_iconst (v := (1 : Int32)) hx hb dX3_takeBack_28 (by decide) ?_
    refine lv_isub hx hb dX3_takeBack_29 ?_
    refine z_pI F hw h0 zc3 2 (by decide) rfl zf3_26 rfl rfl rfl dX3_takeBack_30 (fun H locs M_3 eM_3 hw => ?_)
    have hd := zbd_eq eM_3 hd
    refine lv_aload_n hx hb dX3_takeBack_33 rfl (lv_at hl 1 rfl) ?_
    refine lv_aload_n hx hb dX3_takeBack_34 rfl (lv_at hl 0 rfl) ?_
    refine z_gR F hw h0 zc3 0 (by decide) rfl zf3_11 dX3_takeBack_35 ?_
    have t_4 : zT sh (zR M_3 k0 0) 19 := hw.2.2.2.fld h0 0 19
    refine lv_aload_n hx hb dX3_takeBack_38 rfl (lv_at hl 0 rfl) ?_
    refine z_gI F hw h0 zc3 1 (by decide) rfl zf3_18 dX3_takeBack_39 ?_
    obtain ⟨g_5, hd⟩ := zgd_some hd
    refine z_aald F hw t_4 (by decide) 6 rfl g_5 dX3_takeBack_42 ?_
    have t_6 : zT sh (zR M_3 (zR M_3 k0 0) ((zI M_3 k0 1).toNatClampNeg)) 8 := hw.2.2.2.arr t_4 _ 8 (zin_lt g_5)
    obtain ⟨M_8, hc_7, hd⟩ := zob_some hd
    refine z_cvV F hw hl.1 (As := [.ref (ad (zR M_3 (zR M_3 k0 0) ((zI M_3 k0 1).toNatClampNeg)))]) (rest := []) (ztX8_copyFrom l D cy sh ad h1 t_6 hc_7) zyX8_copyFrom h1 zc8 zk3_22 ⟨rfl, rfl⟩ ⟨by decide, by decide⟩ rfl rfl (Nat.le_of_ble_eq_true rfl) dX3_takeBack_43 (fun H locs hw => ?_)
    exact J46 _ _ _ _ (lv_sub hl [] rfl) hw hd

def zX4_wayOf (sh : zShp) (k0 : Nat) (p1 : Int32) (M : zMem) : Option (Int32) :=
  zgd (zin p1 (zlen sh (zR M k0 1))) <|
  some (zabs (zI M (zR M k0 1) p1.toNatClampNeg))
set_option maxHeartbeats 4000000 in
set_option maxRecDepth 100000 in
theorem ztX4_wayOf (l : Launch) (D : va_G) (cy : Nat → ClassId) (sh : zShp) (ad : Nat → Nat) {k0 : Nat} {p1 : Int32} (h0 : zT sh k0 4) {M : zMem} {r : Int32} (hd : zX4_wayOf sh k0 p1 M = some r) : zCI l yX4_wayOf cX4_wayOf 2 .int { frames := 1, cells := 0, slots := 0, locals := 21 } [.ref (ad k0), .int p1] D cy sh ad M r M := by
  refine zci_of (by decide) (Nat.le_of_ble_eq_true rfl) (fun p e s m below meth c ls F hr hlk hl hw => ?_)
  have hx := F.1.1
  have hb := F.1.2.1
  have hl : lv_has ls 2 [(0, .ref (ad k0)), (1, .int p1)] := hl
  unfold zX4_wayOf at hd
  refine lv_aload_n hx hb dX4_wayOf_0 rfl (lv_at hl 0 rfl) ?_
  refine z_gR F hw h0 zc4 1 (by decide) rfl zf4_15 dX4_wayOf_1 ?_
  have t_1 : zT sh (zR M k0 1) 14 := hw.2.2.2.fld h0 1 14
  refine lv_iload_n hx hb dX4_wayOf_4 rfl (lv_at hl 1 rfl) ?_
  obtain ⟨g_2, hd⟩ := zgd_some hd
  refine z_iald F hw t_1 g_2 dX4_wayOf_5 ?_
  refine z_mabs F hl.1 zk4_104 (by decide) (Nat.le_of_ble_eq_true rfl) dX4_wayOf_6 ?_
  exact z_iret F hr hlk hw (Option.some.inj hd) rfl dX4_wayOf_9

def zjX4_findLimits_119 (sh : zShp) (k0 : Nat) (k1 : Nat) (kk20 : Int32 → zMem → Option (zMem)) (x2 : Int32) (M : zMem) : Option (zMem) :=
  kk20 (x2 + (1 : Int32)) M
def zbX4_findLimits_20 (sh : zShp) (k0 : Nat) (k1 : Nat)  (kk20 : Int32 → zMem → Option (zMem)) (x2 : Int32) (M : zMem) : Option (zMem) :=
  if (zI M k1 6) ≤ x2 then (
  some M)
  else (
  zob (zX4_wayOf sh k0 x2 M) fun r_3 =>
  if r_3 ≤ 0 then (
  zjX4_findLimits_119 sh k0 k1 kk20 x2 M)
  else (
  zgd (zin x2 (zlen sh (zR M k1 0))) <|
  zgd (znz r_3) <|
  zbd (zpI M k0 5 (zmin (zI M k0 5) (((zI M (zR M (zR M k1 0) x2.toNatClampNeg) 1) * (zI M k0 4)) / r_3))) fun M_9 =>
  zgd (zin x2 (zlen sh (zR M_9 k1 0))) <|
  zgd (znz r_3) <|
  zbd (zpI M_9 k0 6 (zmin (zI M_9 k0 6) (((zI M_9 (zR M_9 (zR M_9 k1 0) x2.toNatClampNeg) 2) * (zI M_9 k0 4)) / r_3))) fun M_14 =>
  zgd (zin x2 (zlen sh (zR M_14 k1 0))) <|
  zgd (znz r_3) <|
  zbd (zpI M_14 k0 7 (zmin (zI M_14 k0 7) (((zI M_14 (zR M_14 (zR M_14 k1 0) x2.toNatClampNeg) 3) * (zI M_14 k0 4)) / r_3))) fun M_19 =>
  zjX4_findLimits_119 sh k0 k1 kk20 x2 M_19))
def zlX4_findLimits_20 (sh : zShp) (k0 : Nat) (k1 : Nat)  : Nat → Int32 → zMem → Option (zMem)
  | 0 => fun _ _ => none
  | n + 1 => fun x2 M => zbX4_findLimits_20 sh k0 k1  (zlX4_findLimits_20 sh k0 k1  n) x2 M
def zX4_findLimits (sh : zShp) (k0 : Nat) (k1 : Nat) (M : zMem) : Option (zMem) :=
  zbd (zpI M k0 5 (60 : Int32)) fun M_20 =>
  zbd (zpI M_20 k0 6 (30 : Int32)) fun M_21 =>
  zbd (zpI M_21 k0 7 (10 : Int32)) fun M_22 =>
  zlX4_findLimits_20 sh k0 k1 zF (0 : Int32) M_22
set_option maxHeartbeats 4000000 in
set_option maxRecDepth 100000 in
theorem ztX4_findLimits (l : Launch) (D : va_G) (cy : Nat → ClassId) (sh : zShp) (ad : Nat → Nat) {k0 : Nat} {k1 : Nat} (h0 : zT sh k0 4) (h1 : zT sh k1 1) {M : zMem} {M1 : zMem} (hd : zX4_findLimits sh k0 k1 M = some M1) : zCV l yX4_findLimits cX4_findLimits 4 { frames := 2, cells := 0, slots := 0, locals := 42 } [.ref (ad k0), .ref (ad k1)] D cy sh ad M M1 := by
  refine zcv_of (by decide) (Nat.le_of_ble_eq_true rfl) (fun p e s m below meth c ls F hr hlk hl hw => ?_)
  have hx := F.1.1
  have hb := F.1.2.1
  have hl : lv_has ls 4 [(0, .ref (ad k0)), (1, .ref (ad k1))] := hl
  have J119 : ∀ (kk20 : Int32 → zMem → Option (zMem)) (hk20 : ∀ (x2 : Int32) (M : zMem) (H : Heap) (locs : List Loc) (ls : Array Slot), lv_has ls 4 [(0, .ref (ad k0)), (1, .ref (ad k1)), (2, .int x2)] → zWd D cy sh ad s M H locs → kk20 x2 M = some M1 → W p l e { frames := 2, cells := 0, slots := 0, locals := 42 } s m ([.ref (ad k0), .ref (ad k1)] : List Value).toArray below meth c H locs 0 0 (zQV below D cy sh ad s [.ref (ad k0), .ref (ad k1)] M1) (F0 m 20 ls [])), ∀ (x2 : Int32) (M : zMem) (H : Heap) (locs : List Loc) (ls : Array Slot), lv_has ls 4 [(0, .ref (ad k0)), (1, .ref (ad k1)), (2, .int x2)] → zWd D cy sh ad s M H locs → zjX4_findLimits_119 sh k0 k1 kk20 x2 M = some M1 → W p l e { frames := 2, cells := 0, slots := 0, locals := 42 } s m ([.ref (ad k0), .ref (ad k1)] : List Value).toArray below meth c H locs 0 0 (zQV below D cy sh ad s [.ref (ad k0), .ref (ad k1)] M1) (F0 m 119 ls []) := by
    intro kk20 hk20 x2 M H locs ls hl hw hd
    unfold zjX4_findLimits_119 at hd
    refine lv_iinc (v := (x2 + (1 : Int32))) (lv' := [(2, .int (x2 + (1 : Int32))), (0, .ref (ad k0)), (1, .ref (ad k1))]) hx hb dX4_findLimits_119 hl (k := 2) rfl (ziinc (by decide)) (by decide) rfl (fun ls hl => ?_)
    refine lv_goto (tgt := 20) hx hb dX4_findLimits_122 (by decide) ?_
    exact hk20 _ _ _ _ _ (lv_sub hl [1, 2, 0] rfl) hw hd
  have L20 : ∀  (n : Nat), ∀ (x2 : Int32) (M : zMem) (H : Heap) (locs : List Loc) (ls : Array Slot), lv_has ls 4 [(0, .ref (ad k0)), (1, .ref (ad k1)), (2, .int x2)] → zWd D cy sh ad s M H locs → zlX4_findLimits_20 sh k0 k1  n x2 M = some M1 → W p l e { frames := 2, cells := 0, slots := 0, locals := 42 } s m ([.ref (ad k0), .ref (ad k1)] : List Value).toArray below meth c H locs 0 0 (zQV below D cy sh ad s [.ref (ad k0), .ref (ad k1)] M1) (F0 m 20 ls []) := by
    intro  n
    induction n with
    | zero => intro x2 M H locs ls hl hw hd; exact (znone hd).elim
    | succ n hk20 =>
      intro x2 M H locs ls hl hw hd
      have hd : zbX4_findLimits_20 sh k0 k1  (zlX4_findLimits_20 sh k0 k1  n) x2 M = some M1 := hd
      unfold zbX4_findLimits_20 at hd
      refine lv_iload_n hx hb dX4_findLimits_20 rfl (lv_at hl 2 rfl) ?_
      refine lv_aload_n hx hb dX4_findLimits_21 rfl (lv_at hl 1 rfl) ?_
      refine z_gI F hw h1 zc1 6 (by decide) rfl zf4_37 dX4_findLimits_22 ?_
      refine lv_icmp_ge (tgt := 125) hx hb dX4_findLimits_25 (by decide) (fun c_1 => ?_) (fun c_1 => ?_)
      · have hd := zif_pos c_1 hd
        exact z_vret F hr hlk hw (Option.some.inj hd) dX4_findLimits_125
      · have hd := zif_neg c_1 hd
        refine lv_aload_n hx hb dX4_findLimits_28 rfl (lv_at hl 0 rfl) ?_
        refine lv_iload_n hx hb dX4_findLimits_29 rfl (lv_at hl 2 rfl) ?_
        obtain ⟨r_3, hc_2, hd⟩ := zob_some hd
        refine z_cvI F hw hl.1 (As := [.int x2]) (rest := []) (ztX4_wayOf l D cy sh ad h0 hc_2) zyX4_wayOf h0 zc4 zk4_42 ⟨rfl, rfl⟩ ⟨by decide, by decide⟩ rfl rfl (Nat.le_of_ble_eq_true rfl) dX4_findLimits_30 (fun H locs hw => ?_)
        refine lv_istore_n (lv' := [(3, .int r_3), (0, .ref (ad k0)), (1, .ref (ad k1)), (2, .int x2)]) hx hb dX4_findLimits_33 rfl hl (by decide) rfl (fun ls hl => ?_)
        refine lv_iload_n hx hb dX4_findLimits_34 rfl (lv_at hl 0 rfl) ?_
        refine lv_if_le (tgt := 119) hx hb dX4_findLimits_35 (by decide) (fun c_4 => ?_) (fun c_4 => ?_)
        · have hd := zif_pos c_4 hd
          exact J119 _ hk20 _ _ _ _ _ (lv_sub hl [1, 2, 3] rfl) hw hd
        · have hd := zif_neg c_4 hd
          refine lv_aload_n hx hb dX4_findLimits_38 rfl (lv_at hl 1 rfl) ?_
          refine lv_aload_n hx hb dX4_findLimits_39 rfl (lv_at hl 1 rfl) ?_
          refine z_gI F hw h0 zc4 5 (by decide) rfl zf4_50 dX4_findLimits_40 ?_
          refine lv_aload_n hx hb dX4_findLimits_43 rfl (lv_at hl 2 rfl) ?_
          refine z_gR F hw h1 zc1 0 (by decide) rfl zf4_57 dX4_findLimits_44 ?_
          have t_5 : zT sh (zR M k1 0) 17 := hw.2.2.2.fld h1 0 17
          refine lv_iload_n hx hb dX4_findLimits_47 rfl (lv_at hl 3 rfl) ?_
          obtain ⟨g_6, hd⟩ := zgd_some hd
          refine z_aald F hw t_5 (by decide) 4 rfl g_6 dX4_findLimits_48 ?_
          have t_7 : zT sh (zR M (zR M k1 0) x2.toNatClampNeg) 0 := hw.2.2.2.arr t_5 _ 0 (zin_lt g_6)
          refine z_gI F hw t_7 zc0 1 (by decide) rfl zf4_75 dX4_findLimits_49 ?_
          refine lv_aload_n hx hb dX4_findLimits_52 rfl (lv_at hl 1 rfl) ?_
          refine z_gI F hw h0 zc4 4 (by decide) rfl zf4_29 dX4_findLimits_53 ?_
          refine lv_imul hx hb dX4_findLimits_56 ?_
          refine lv_iload_n hx hb dX4_findLimits_57 rfl (lv_at hl 0 rfl) ?_
          obtain ⟨g_8, hd⟩ := zgd_some hd
          refine lv_idiv hx hb dX4_findLimits_58 (znz_ne g_8) ?_
          refine z_mmin F hl.1 zk4_76 (by decide) (Nat.le_of_ble_eq_true rfl) dX4_findLimits_59 ?_
          refine z_pI F hw h0 zc4 5 (by decide) rfl zf4_50 rfl rfl rfl dX4_findLimits_62 (fun H locs M_9 eM_9 hw => ?_)
          have hd := zbd_eq eM_9 hd
          refine lv_aload_n hx hb dX4_findLimits_65 rfl (lv_at hl 1 rfl) ?_
          refine lv_aload_n hx hb dX4_findLimits_66 rfl (lv_at hl 1 rfl) ?_
          refine z_gI F hw h0 zc4 6 (by decide) rfl zf4_66 dX4_findLimits_67 ?_
          refine lv_aload_n hx hb dX4_findLimits_70 rfl (lv_at hl 2 rfl) ?_
          refine z_gR F hw h1 zc1 0 (by decide) rfl zf4_57 dX4_findLimits_71 ?_
          have t_10 : zT sh (zR M_9 k1 0) 17 := hw.2.2.2.fld h1 0 17
          refine lv_iload_n hx hb dX4_findLimits_74 rfl (lv_at hl 3 rfl) ?_
          obtain ⟨g_11, hd⟩ := zgd_some hd
          refine z_aald F hw t_10 (by decide) 4 rfl g_11 dX4_findLimits_75 ?_
          have t_12 : zT sh (zR M_9 (zR M_9 k1 0) x2.toNatClampNeg) 0 := hw.2.2.2.arr t_10 _ 0 (zin_lt g_11)
          refine z_gI F hw t_12 zc0 2 (by decide) rfl zf4_61 dX4_findLimits_76 ?_
          refine lv_aload_n hx hb dX4_findLimits_79 rfl (lv_at hl 1 rfl) ?_
          refine z_gI F hw h0 zc4 4 (by decide) rfl zf4_29 dX4_findLimits_80 ?_
          refine lv_imul hx hb dX4_findLimits_83 ?_
          refine lv_iload_n hx hb dX4_findLimits_84 rfl (lv_at hl 0 rfl) ?_
          obtain ⟨g_13, hd⟩ := zgd_some hd
          refine lv_idiv hx hb dX4_findLimits_85 (znz_ne g_13) ?_
          refine z_mmin F hl.1 zk4_76 (by decide) (Nat.le_of_ble_eq_true rfl) dX4_findLimits_86 ?_
          refine z_pI F hw h0 zc4 6 (by decide) rfl zf4_66 rfl rfl rfl dX4_findLimits_89 (fun H locs M_14 eM_14 hw => ?_)
          have hd := zbd_eq eM_14 hd
          refine lv_aload_n hx hb dX4_findLimits_92 rfl (lv_at hl 1 rfl) ?_
          refine lv_aload_n hx hb dX4_findLimits_93 rfl (lv_at hl 1 rfl) ?_
          refine z_gI F hw h0 zc4 7 (by decide) rfl zf4_70 dX4_findLimits_94 ?_
          refine lv_aload_n hx hb dX4_findLimits_97 rfl (lv_at hl 2 rfl) ?_
          refine z_gR F hw h1 zc1 0 (by decide) rfl zf4_57 dX4_findLimits_98 ?_
          have t_15 : zT sh (zR M_14 k1 0) 17 := hw.2.2.2.fld h1 0 17
          refine lv_iload_n hx hb dX4_findLimits_101 rfl (lv_at hl 3 rfl) ?_
          obtain ⟨g_16, hd⟩ := zgd_some hd
          refine z_aald F hw t_15 (by decide) 4 rfl g_16 dX4_findLimits_102 ?_
          have t_17 : zT sh (zR M_14 (zR M_14 k1 0) x2.toNatClampNeg) 0 := hw.2.2.2.arr t_15 _ 0 (zin_lt g_16)
          refine z_gI F hw t_17 zc0 3 (by decide) rfl zf4_67 dX4_findLimits_103 ?_
          refine lv_aload_n hx hb dX4_findLimits_106 rfl (lv_at hl 1 rfl) ?_
          refine z_gI F hw h0 zc4 4 (by decide) rfl zf4_29 dX4_findLimits_107 ?_
          refine lv_imul hx hb dX4_findLimits_110 ?_
          refine lv_iload_n hx hb dX4_findLimits_111 rfl (lv_at hl 0 rfl) ?_
          obtain ⟨g_18, hd⟩ := zgd_some hd
          refine lv_idiv hx hb dX4_findLimits_112 (znz_ne g_18) ?_
          refine z_mmin F hl.1 zk4_76 (by decide) (Nat.le_of_ble_eq_true rfl) dX4_findLimits_113 ?_
          refine z_pI F hw h0 zc4 7 (by decide) rfl zf4_70 rfl rfl rfl dX4_findLimits_116 (fun H locs M_19 eM_19 hw => ?_)
          have hd := zbd_eq eM_19 hd
          exact J119 _ hk20 _ _ _ _ _ (lv_sub hl [1, 2, 3] rfl) hw hd
  unfold zX4_findLimits at hd
  refine lv_aload_n hx hb dX4_findLimits_0 rfl (lv_at hl 0 rfl) ?_
  refine lv_bipush (v := (60 : Int32)) hx hb dX4_findLimits_1 (by decide) ?_
  refine z_pI F hw h0 zc4 5 (by decide) rfl zf4_50 rfl rfl rfl dX4_findLimits_3 (fun H locs M_20 eM_20 hw => ?_)
  have hd := zbd_eq eM_20 hd
  refine lv_aload_n hx hb dX4_findLimits_6 rfl (lv_at hl 0 rfl) ?_
  refine lv_bipush (v := (30 : Int32)) hx hb dX4_findLimits_7 (by decide) ?_
  refine z_pI F hw h0 zc4 6 (by decide) rfl zf4_66 rfl rfl rfl dX4_findLimits_9 (fun H locs M_21 eM_21 hw => ?_)
  have hd := zbd_eq eM_21 hd
  refine lv_aload_n hx hb dX4_findLimits_12 rfl (lv_at hl 0 rfl) ?_
  refine lv_bipush (v := (10 : Int32)) hx hb dX4_findLimits_13 (by decide) ?_
  refine z_pI F hw h0 zc4 7 (by decide) rfl zf4_70 rfl rfl rfl dX4_findLimits_15 (fun H locs M_22 eM_22 hw => ?_)
  have hd := zbd_eq eM_22 hd
  refine lv_iconst (v := (0 : Int32)) hx hb dX4_findLimits_18 (by decide) ?_
  refine lv_istore_n (lv' := [(2, .int (0 : Int32)), (0, .ref (ad k0)), (1, .ref (ad k1))]) hx hb dX4_findLimits_19 rfl hl (by decide) rfl (fun ls hl => ?_)
  exact L20 zF _ _ _ _ _ (lv_sub hl [1, 2, 0] rfl) hw hd

def zjX5_nextGain_73 (sh : zShp) (p0 : Int32) (p1 : Int32) (p2 : Int32) (p3 : Int32) (M : zMem) (kk10 : Int32 → Option (Int32)) (x4 : Int32) : Option (Int32) :=
  kk10 (x4 + (-1 : Int32))
def zbX5_nextGain_10 (sh : zShp) (p0 : Int32) (p1 : Int32) (p2 : Int32) (p3 : Int32) (M : zMem)  (kk10 : Int32 → Option (Int32)) (x4 : Int32) : Option (Int32) :=
  if x4 < (-1 : Int32) then (
  some (0 : Int32))
  else (
  zgd (znz p3) <|
  zbd (((((p1 + (x4 * p3)) + p3) - (1 : Int32)) / p3)) fun v_3 =>
  zbd (((v_3 * (p1 + (x4 * p3))) - (p3 * ((v_3 * (v_3 - (1 : Int32))) / (2 : Int32))))) fun v_4 =>
  if (p1 + (x4 * p3)) ≤ 0 then (
  zjX5_nextGain_73 sh p0 p1 p2 p3 M kk10 x4)
  else (
  if p2 < (p1 + (x4 * p3)) then (
  zjX5_nextGain_73 sh p0 p1 p2 p3 M kk10 x4)
  else (
  if p0 < v_4 then (
  zjX5_nextGain_73 sh p0 p1 p2 p3 M kk10 x4)
  else (
  some (p1 + (x4 * p3))))))
def zlX5_nextGain_10 (sh : zShp) (p0 : Int32) (p1 : Int32) (p2 : Int32) (p3 : Int32) (M : zMem)  : Nat → Int32 → Option (Int32)
  | 0 => fun _ => none
  | n + 1 => fun x4 => zbX5_nextGain_10 sh p0 p1 p2 p3 M  (zlX5_nextGain_10 sh p0 p1 p2 p3 M  n) x4
def zX5_nextGain (sh : zShp) (p0 : Int32) (p1 : Int32) (p2 : Int32) (p3 : Int32) (M : zMem) : Option (Int32) :=
  if (1 : Int32) ≤ p3 then (
  zlX5_nextGain_10 sh p0 p1 p2 p3 M zF (1 : Int32))
  else (
  some (0 : Int32))
set_option maxHeartbeats 4000000 in
set_option maxRecDepth 100000 in
theorem ztX5_nextGain (l : Launch) (D : va_G) (cy : Nat → ClassId) (sh : zShp) (ad : Nat → Nat) {p0 : Int32} {p1 : Int32} {p2 : Int32} {p3 : Int32}  {M : zMem} {r : Int32} (hd : zX5_nextGain sh p0 p1 p2 p3 M = some r) : zCI l yX5_nextGain cX5_nextGain 8 .int { frames := 0, cells := 0, slots := 0, locals := 0 } [.int p0, .int p1, .int p2, .int p3] D cy sh ad M r M := by
  refine zci_of (by decide) (Nat.le_of_ble_eq_true rfl) (fun p e s m below meth c ls F hr hlk hl hw => ?_)
  have hx := F.1.1
  have hb := F.1.2.1
  have hl : lv_has ls 8 [(0, .int p0), (1, .int p1), (2, .int p2), (3, .int p3)] := hl
  have J73 : ∀ (kk10 : Int32 → Option (Int32)) (hk10 : ∀ (x4 : Int32) (H : Heap) (locs : List Loc) (ls : Array Slot), lv_has ls 8 [(0, .int p0), (1, .int p1), (2, .int p2), (3, .int p3), (4, .int x4)] → zWd D cy sh ad s M H locs → kk10 x4 = some r → W p l e { frames := 0, cells := 0, slots := 0, locals := 0 } s m ([.int p0, .int p1, .int p2, .int p3] : List Value).toArray below meth c H locs 0 0 (zQI below D cy sh ad s [.int p0, .int p1, .int p2, .int p3] r M) (F0 m 10 ls [])), ∀ (x4 : Int32) (H : Heap) (locs : List Loc) (ls : Array Slot), lv_has ls 8 [(0, .int p0), (1, .int p1), (2, .int p2), (3, .int p3), (4, .int x4)] → zWd D cy sh ad s M H locs → zjX5_nextGain_73 sh p0 p1 p2 p3 M kk10 x4 = some r → W p l e { frames := 0, cells := 0, slots := 0, locals := 0 } s m ([.int p0, .int p1, .int p2, .int p3] : List Value).toArray below meth c H locs 0 0 (zQI below D cy sh ad s [.int p0, .int p1, .int p2, .int p3] r M) (F0 m 73 ls []) := by
    intro kk10 hk10 x4 H locs ls hl hw hd
    unfold zjX5_nextGain_73 at hd
    refine lv_iinc (v := (x4 + (-1 : Int32))) (lv' := [(4, .int (x4 + (-1 : Int32))), (0, .int p0), (1, .int p1), (2, .int p2), (3, .int p3)]) hx hb dX5_nextGain_73 hl (k := 4) rfl (ziinc (by decide)) (by decide) rfl (fun ls hl => ?_)
    refine lv_goto (tgt := 10) hx hb dX5_nextGain_76 (by decide) ?_
    exact hk10 _ _ _ _ (lv_sub hl [1, 2, 3, 4, 0] rfl) hw hd
  have L10 : ∀  (n : Nat), ∀ (x4 : Int32) (H : Heap) (locs : List Loc) (ls : Array Slot), lv_has ls 8 [(0, .int p0), (1, .int p1), (2, .int p2), (3, .int p3), (4, .int x4)] → zWd D cy sh ad s M H locs → zlX5_nextGain_10 sh p0 p1 p2 p3 M  n x4 = some r → W p l e { frames := 0, cells := 0, slots := 0, locals := 0 } s m ([.int p0, .int p1, .int p2, .int p3] : List Value).toArray below meth c H locs 0 0 (zQI below D cy sh ad s [.int p0, .int p1, .int p2, .int p3] r M) (F0 m 10 ls []) := by
    intro  n
    induction n with
    | zero => intro x4 H locs ls hl hw hd; exact (znone hd).elim
    | succ n hk10 =>
      intro x4 H locs ls hl hw hd
      have hd : zbX5_nextGain_10 sh p0 p1 p2 p3 M  (zlX5_nextGain_10 sh p0 p1 p2 p3 M  n) x4 = some r := hd
      unfold zbX5_nextGain_10 at hd
      refine lv_iload hx hb dX5_nextGain_10 (lv_at hl 4 rfl) ?_
      refine lv_iconst (v := (-1 : Int32)) hx hb dX5_nextGain_12 (by decide) ?_
      refine lv_icmp_lt (tgt := 79) hx hb dX5_nextGain_13 (by decide) (fun c_1 => ?_) (fun c_1 => ?_)
      · have hd := zif_pos c_1 hd
        refine lv_iconst (v := (0 : Int32)) hx hb dX5_nextGain_79 (by decide) ?_
        exact z_iret F hr hlk hw (Option.some.inj hd) rfl dX5_nextGain_80
      · have hd := zif_neg c_1 hd
        refine lv_iload_n hx hb dX5_nextGain_16 rfl (lv_at hl 1 rfl) ?_
        refine lv_iload hx hb dX5_nextGain_17 (lv_at hl 4 rfl) ?_
        refine lv_iload_n hx hb dX5_nextGain_19 rfl (lv_at hl 3 rfl) ?_
        refine lv_imul hx hb dX5_nextGain_20 ?_
        refine lv_iadd hx hb dX5_nextGain_21 ?_
        refine lv_istore (lv' := [(5, .int (p1 + (x4 * p3))), (0, .int p0), (1, .int p1), (2, .int p2), (3, .int p3), (4, .int x4)]) hx hb dX5_nextGain_22 hl (by decide) rfl (fun ls hl => ?_)
        refine lv_iload hx hb dX5_nextGain_24 (lv_at hl 0 rfl) ?_
        refine lv_iload_n hx hb dX5_nextGain_26 rfl (lv_at hl 4 rfl) ?_
        refine lv_iadd hx hb dX5_nextGain_27 ?_
        refine lv_iconst (v := (1 : Int32)) hx hb dX5_nextGain_28 (by decide) ?_
        refine lv_isub hx hb dX5_nextGain_29 ?_
        refine lv_iload_n hx hb dX5_nextGain_30 rfl (lv_at hl 4 rfl) ?_
        obtain ⟨g_2, hd⟩ := zgd_some hd
        refine lv_idiv hx hb dX5_nextGain_31 (znz_ne g_2) ?_
        refine lv_topi (fun v_3 ev_3 => ?_)
        have hd := zbd_eq ev_3 hd
        refine lv_istore (lv' := [(6, .int v_3), (5, .int (p1 + (x4 * p3))), (0, .int p0), (1, .int p1), (2, .int p2), (3, .int p3), (4, .int x4)]) hx hb dX5_nextGain_32 hl (by decide) rfl (fun ls hl => ?_)
        refine lv_iload hx hb dX5_nextGain_34 (lv_at hl 0 rfl) ?_
        refine lv_iload hx hb dX5_nextGain_36 (lv_at hl 1 rfl) ?_
        refine lv_imul hx hb dX5_nextGain_38 ?_
        refine lv_iload_n hx hb dX5_nextGain_39 rfl (lv_at hl 5 rfl) ?_
        refine lv_iload hx hb dX5_nextGain_40 (lv_at hl 0 rfl) ?_
        refine lv_iload hx hb dX5_nextGain_42 (lv_at hl 0 rfl) ?_
        refine lv_iconst (v := (1 : Int32)) hx hb dX5_nextGain_44 (by decide) ?_
        refine lv_isub hx hb dX5_nextGain_45 ?_
        refine lv_imul hx hb dX5_nextGain_46 ?_
        refine lv_iconst (v := (2 : Int32)) hx hb dX5_nextGain_47 (by decide) ?_
        refine lv_idiv hx hb dX5_nextGain_48 (by decide) ?_
        refine lv_imul hx hb dX5_nextGain_49 ?_
        refine lv_isub hx hb dX5_nextGain_50 ?_
        refine lv_topi (fun v_4 ev_4 => ?_)
        have hd := zbd_eq ev_4 hd
        refine lv_istore (lv' := [(7, .int v_4), (6, .int v_3), (5, .int (p1 + (x4 * p3))), (0, .int p0), (1, .int p1), (2, .int p2), (3, .int p3), (4, .int x4)]) hx hb dX5_nextGain_51 hl (by decide) rfl (fun ls hl => ?_)
        refine lv_iload hx hb dX5_nextGain_53 (lv_at hl 2 rfl) ?_
        refine lv_if_le (tgt := 73) hx hb dX5_nextGain_55 (by decide) (fun c_5 => ?_) (fun c_5 => ?_)
        · have hd := zif_pos c_5 hd
          exact J73 _ hk10 _ _ _ _ (lv_sub hl [3, 4, 5, 6, 7] rfl) hw hd
        · have hd := zif_neg c_5 hd
          refine lv_iload hx hb dX5_nextGain_58 (lv_at hl 2 rfl) ?_
          refine lv_iload_n hx hb dX5_nextGain_60 rfl (lv_at hl 5 rfl) ?_
          refine lv_icmp_gt (tgt := 73) hx hb dX5_nextGain_61 (by decide) (fun c_6 => ?_) (fun c_6 => ?_)
          · have hd := zif_pos c_6 hd
            exact J73 _ hk10 _ _ _ _ (lv_sub hl [3, 4, 5, 6, 7] rfl) hw hd
          · have hd := zif_neg c_6 hd
            refine lv_iload hx hb dX5_nextGain_64 (lv_at hl 0 rfl) ?_
            refine lv_iload_n hx hb dX5_nextGain_66 rfl (lv_at hl 3 rfl) ?_
            refine lv_icmp_gt (tgt := 73) hx hb dX5_nextGain_67 (by decide) (fun c_7 => ?_) (fun c_7 => ?_)
            · have hd := zif_pos c_7 hd
              exact J73 _ hk10 _ _ _ _ (lv_sub hl [3, 4, 5, 6, 7] rfl) hw hd
            · have hd := zif_neg c_7 hd
              refine lv_iload hx hb dX5_nextGain_70 (lv_at hl 2 rfl) ?_
              exact z_iret F hr hlk hw (Option.some.inj hd) rfl dX5_nextGain_72
  unfold zX5_nextGain at hd
  refine lv_iload_n hx hb dX5_nextGain_0 rfl (lv_at hl 3 rfl) ?_
  refine lv_iconst (v := (1 : Int32)) hx hb dX5_nextGain_1 (by decide) ?_
  refine lv_icmp_ge (tgt := 7) hx hb dX5_nextGain_2 (by decide) (fun c_8 => ?_) (fun c_8 => ?_)
  · have hd := zif_pos c_8 hd
    refine lv_iconst (v := (1 : Int32)) hx hb dX5_nextGain_7 (by decide) ?_
    refine lv_istore (lv' := [(4, .int (1 : Int32)), (0, .int p0), (1, .int p1), (2, .int p2), (3, .int p3)]) hx hb dX5_nextGain_8 hl (by decide) rfl (fun ls hl => ?_)
    exact L10 zF _ _ _ _ (lv_sub hl [1, 2, 3, 4, 0] rfl) hw hd
  · have hd := zif_neg c_8 hd
    refine lv_iconst (v := (0 : Int32)) hx hb dX5_nextGain_5 (by decide) ?_
    exact z_iret F hr hlk hw (Option.some.inj hd) rfl dX5_nextGain_6

def zbX5_build_11 (sh : zShp) (k0 : Nat) (p1 : Int32) (p2 : Int32) (p3 : Int32)  (kk11 : Int32 → Int32 → zMem → Option (zMem)) (x4 : Int32) (x5 : Int32) (M : zMem) : Option (zMem) :=
  if (60 : Int32) ≤ (zI M k0 1) then (
  some M)
  else (
  zob (zX5_nextGain sh (p1 - x4) x5 p2 p3 M) fun r_3 =>
  if r_3 = 0 then (
  some M)
  else (
  zgd (zin (zI M k0 1) (zlen sh (zR M k0 0))) <|
  zgd (zin ((zI M k0 1) + (1 : Int32)) (zlen sh (zR M k0 0))) <|
  zbd (zpI M (zR M k0 0) (((zI M k0 1) + (1 : Int32)).toNatClampNeg) ((zI M (zR M k0 0) ((zI M k0 1).toNatClampNeg)) + (x4 + r_3))) fun M_9 =>
  zbd (zpI M_9 k0 1 ((zI M_9 k0 1) + (1 : Int32))) fun M_10 =>
  kk11 (x4 + r_3) r_3 M_10))
def zlX5_build_11 (sh : zShp) (k0 : Nat) (p1 : Int32) (p2 : Int32) (p3 : Int32)  : Nat → Int32 → Int32 → zMem → Option (zMem)
  | 0 => fun _ _ _ => none
  | n + 1 => fun x4 x5 M => zbX5_build_11 sh k0 p1 p2 p3  (zlX5_build_11 sh k0 p1 p2 p3  n) x4 x5 M
def zX5_build (sh : zShp) (k0 : Nat) (p1 : Int32) (p2 : Int32) (p3 : Int32) (M : zMem) : Option (zMem) :=
  zbd (zpI M k0 1 (0 : Int32)) fun M_11 =>
  zlX5_build_11 sh k0 p1 p2 p3 zF (0 : Int32) (0 : Int32) M_11
set_option maxHeartbeats 4000000 in
set_option maxRecDepth 100000 in
theorem ztX5_build (l : Launch) (D : va_G) (cy : Nat → ClassId) (sh : zShp) (ad : Nat → Nat) {k0 : Nat} {p1 : Int32} {p2 : Int32} {p3 : Int32} (h0 : zT sh k0 5) {M : zMem} {M1 : zMem} (hd : zX5_build sh k0 p1 p2 p3 M = some M1) : zCV l yX5_build cX5_build 6 { frames := 1, cells := 0, slots := 0, locals := 27 } [.ref (ad k0), .int p1, .int p2, .int p3] D cy sh ad M M1 := by
  refine zcv_of (by decide) (Nat.le_of_ble_eq_true rfl) (fun p e s m below meth c ls F hr hlk hl hw => ?_)
  have hx := F.1.1
  have hb := F.1.2.1
  have hl : lv_has ls 6 [(0, .ref (ad k0)), (1, .int p1), (2, .int p2), (3, .int p3)] := hl
  have L11 : ∀  (n : Nat), ∀ (x4 : Int32) (x5 : Int32) (M : zMem) (H : Heap) (locs : List Loc) (ls : Array Slot), lv_has ls 6 [(0, .ref (ad k0)), (1, .int p1), (2, .int p2), (3, .int p3), (4, .int x4), (5, .int x5)] → zWd D cy sh ad s M H locs → zlX5_build_11 sh k0 p1 p2 p3  n x4 x5 M = some M1 → W p l e { frames := 1, cells := 0, slots := 0, locals := 27 } s m ([.ref (ad k0), .int p1, .int p2, .int p3] : List Value).toArray below meth c H locs 0 0 (zQV below D cy sh ad s [.ref (ad k0), .int p1, .int p2, .int p3] M1) (F0 m 11 ls []) := by
    intro  n
    induction n with
    | zero => intro x4 x5 M H locs ls hl hw hd; exact (znone hd).elim
    | succ n hk11 =>
      intro x4 x5 M H locs ls hl hw hd
      have hd : zbX5_build_11 sh k0 p1 p2 p3  (zlX5_build_11 sh k0 p1 p2 p3  n) x4 x5 M = some M1 := hd
      unfold zbX5_build_11 at hd
      refine lv_aload_n hx hb dX5_build_11 rfl (lv_at hl 0 rfl) ?_
      refine z_gI F hw h0 zc5 1 (by decide) rfl zf5_15 dX5_build_12 ?_
      refine lv_bipush (v := (60 : Int32)) hx hb dX5_build_15 (by decide) ?_
      refine lv_icmp_ge (tgt := 82) hx hb dX5_build_17 (by decide) (fun c_1 => ?_) (fun c_1 => ?_)
      · have hd := zif_pos c_1 hd
        exact z_vret F hr hlk hw (Option.some.inj hd) dX5_build_82
      · have hd := zif_neg c_1 hd
        refine lv_iload_n hx hb dX5_build_20 rfl (lv_at hl 1 rfl) ?_
        refine lv_iload hx hb dX5_build_21 (lv_at hl 4 rfl) ?_
        refine lv_isub hx hb dX5_build_23 ?_
        refine lv_iload hx hb dX5_build_24 (lv_at hl 5 rfl) ?_
        refine lv_iload_n hx hb dX5_build_26 rfl (lv_at hl 2 rfl) ?_
        refine lv_iload_n hx hb dX5_build_27 rfl (lv_at hl 3 rfl) ?_
        obtain ⟨r_3, hc_2, hd⟩ := zob_some hd
        refine z_csI F hw hl.1 (As := [.int (p1 - x4), .int x5, .int p2, .int p3]) (rest := []) (ztX5_nextGain l D cy sh ad  hc_2) zyX5_nextGain zk5_19 ⟨rfl, rfl⟩ ⟨by decide, by decide⟩ rfl rfl (Nat.le_of_ble_eq_true rfl) dX5_build_28 (fun H locs hw => ?_)
        refine lv_istore (lv' := [(5, .int r_3), (0, .ref (ad k0)), (1, .int p1), (2, .int p2), (3, .int p3), (4, .int x4)]) hx hb dX5_build_31 hl (by decide) rfl (fun ls hl => ?_)
        refine lv_iload hx hb dX5_build_33 (lv_at hl 0 rfl) ?_
        refine lv_if_ne (tgt := 39) hx hb dX5_build_35 (by decide) (fun c_4 => ?_) (fun c_4 => ?_)
        · have hd := zif_neg c_4 hd
          refine lv_iload hx hb dX5_build_39 (lv_at hl 5 rfl) ?_
          refine lv_iload hx hb dX5_build_41 (lv_at hl 0 rfl) ?_
          refine lv_iadd hx hb dX5_build_43 ?_
          refine lv_istore (lv' := [(4, .int (x4 + r_3)), (5, .int r_3), (0, .ref (ad k0)), (1, .int p1), (2, .int p2), (3, .int p3)]) hx hb dX5_build_44 hl (by decide) rfl (fun ls hl => ?_)
          refine lv_aload_n hx hb dX5_build_46 rfl (lv_at hl 2 rfl) ?_
          refine z_gR F hw h0 zc5 0 (by decide) rfl zf5_9 dX5_build_47 ?_
          have t_5 : zT sh (zR M k0 0) 14 := hw.2.2.2.fld h0 0 14
          refine lv_aload_n hx hb dX5_build_50 rfl (lv_at hl 2 rfl) ?_
          refine z_gI F hw h0 zc5 1 (by decide) rfl zf5_15 dX5_build_51 ?_
          refine lv_iconst (v := (1 : Int32)) hx hb dX5_build_54 (by decide) ?_
          refine lv_iadd hx hb dX5_build_55 ?_
          refine lv_aload_n hx hb dX5_build_56 rfl (lv_at hl 2 rfl) ?_
          refine z_gR F hw h0 zc5 0 (by decide) rfl zf5_9 dX5_build_57 ?_
          have t_6 : zT sh (zR M k0 0) 14 := hw.2.2.2.fld h0 0 14
          refine lv_aload_n hx hb dX5_build_60 rfl (lv_at hl 2 rfl) ?_
          refine z_gI F hw h0 zc5 1 (by decide) rfl zf5_15 dX5_build_61 ?_
          obtain ⟨g_7, hd⟩ := zgd_some hd
          refine z_iald F hw t_6 g_7 dX5_build_64 ?_
          refine lv_iload hx hb dX5_build_65 (lv_at hl 0 rfl) ?_
          refine lv_iadd hx hb dX5_build_67 ?_
          obtain ⟨g_8, hd⟩ := zgd_some hd
          refine z_iast F hw t_5 g_8 dX5_build_68 (fun H locs M_9 eM_9 hw => ?_)
          have hd := zbd_eq eM_9 hd
          refine lv_aload_n hx hb dX5_build_69 rfl (lv_at hl 2 rfl) ?_
          refine lv_dup hx hb dX5_build_70 rfl ?_
          refine z_gI F hw h0 zc5 1 (by decide) rfl zf5_15 dX5_build_71 ?_
          refine lv_iconst (v := (1 : Int32)) hx hb dX5_build_74 (by decide) ?_
          refine lv_iadd hx hb dX5_build_75 ?_
          refine z_pI F hw h0 zc5 1 (by decide) rfl zf5_15 rfl rfl rfl dX5_build_76 (fun H locs M_10 eM_10 hw => ?_)
          have hd := zbd_eq eM_10 hd
          refine lv_goto (tgt := 11) hx hb dX5_build_79 (by decide) ?_
          exact hk11 _ _ _ _ _ _ (lv_sub hl [2, 3, 4, 5, 0, 1] rfl) hw hd
        · have hd := zif_pos c_4 hd
          exact z_vret F hr hlk hw (Option.some.inj hd) dX5_build_38
  unfold zX5_build at hd
  refine lv_iconst (v := (0 : Int32)) hx hb dX5_build_0 (by decide) ?_
  refine lv_istore (lv' := [(4, .int (0 : Int32)), (0, .ref (ad k0)), (1, .int p1), (2, .int p2), (3, .int p3)]) hx hb dX5_build_1 hl (by decide) rfl (fun ls hl => ?_)
  refine lv_iconst (v := (0 : Int32)) hx hb dX5_build_3 (by decide) ?_
  refine lv_istore (lv' := [(5, .int (0 : Int32)), (4, .int (0 : Int32)), (0, .ref (ad k0)), (1, .int p1), (2, .int p2), (3, .int p3)]) hx hb dX5_build_4 hl (by decide) rfl (fun ls hl => ?_)
  refine lv_aload_n hx hb dX5_build_6 rfl (lv_at hl 2 rfl) ?_
  refine lv_iconst (v := (0 : Int32)) hx hb dX5_build_7 (by decide) ?_
  refine z_pI F hw h0 zc5 1 (by decide) rfl zf5_15 rfl rfl rfl dX5_build_8 (fun H locs M_11 eM_11 hw => ?_)
  have hd := zbd_eq eM_11 hd
  exact L11 zF _ _ _ _ _ _ (lv_sub hl [2, 3, 4, 5, 1, 0] rfl) hw hd

def zjX5_speedIn_33 (sh : zShp) (k0 : Nat) (p1 : Int32) (M : zMem)  (s0 : Int32) : Option (Int32) :=
  some s0
def zjX5_speedIn_32 (sh : zShp) (k0 : Nat) (p1 : Int32) (M : zMem)   : Option (Int32) :=
  zjX5_speedIn_33 sh k0 p1 M (0 : Int32)
def zX5_speedIn (sh : zShp) (k0 : Nat) (p1 : Int32) (M : zMem) : Option (Int32) :=
  if p1 < (1 : Int32) then (
  zjX5_speedIn_32 sh k0 p1 M)
  else (
  if (Int32.ofNat (zlen sh (zR M k0 0))) ≤ p1 then (
  zjX5_speedIn_32 sh k0 p1 M)
  else (
  zgd (zin p1 (zlen sh (zR M k0 0))) <|
  zgd (zin (p1 - (1 : Int32)) (zlen sh (zR M k0 0))) <|
  zjX5_speedIn_33 sh k0 p1 M ((zI M (zR M k0 0) p1.toNatClampNeg) - (zI M (zR M k0 0) ((p1 - (1 : Int32)).toNatClampNeg)))))
set_option maxHeartbeats 4000000 in
set_option maxRecDepth 100000 in
theorem ztX5_speedIn (l : Launch) (D : va_G) (cy : Nat → ClassId) (sh : zShp) (ad : Nat → Nat) {k0 : Nat} {p1 : Int32} (h0 : zT sh k0 5) {M : zMem} {r : Int32} (hd : zX5_speedIn sh k0 p1 M = some r) : zCI l yX5_speedIn cX5_speedIn 2 .int { frames := 0, cells := 0, slots := 0, locals := 0 } [.ref (ad k0), .int p1] D cy sh ad M r M := by
  refine zci_of (by decide) (Nat.le_of_ble_eq_true rfl) (fun p e s m below meth c ls F hr hlk hl hw => ?_)
  have hx := F.1.1
  have hb := F.1.2.1
  have hl : lv_has ls 2 [(0, .ref (ad k0)), (1, .int p1)] := hl
  have J33 : ∀ (s0 : Int32) (H : Heap) (locs : List Loc) (ls : Array Slot), lv_has ls 2 [] → zWd D cy sh ad s M H locs → zjX5_speedIn_33 sh k0 p1 M  s0 = some r → W p l e { frames := 0, cells := 0, slots := 0, locals := 0 } s m ([.ref (ad k0), .int p1] : List Value).toArray below meth c H locs 0 0 (zQI below D cy sh ad s [.ref (ad k0), .int p1] r M) (F0 m 33 ls [.int s0]) := by
    intro  s0 H locs ls hl hw hd
    unfold zjX5_speedIn_33 at hd
    exact z_iret F hr hlk hw (Option.some.inj hd) rfl dX5_speedIn_33
  have J32 : ∀  (H : Heap) (locs : List Loc) (ls : Array Slot), lv_has ls 2 [] → zWd D cy sh ad s M H locs → zjX5_speedIn_32 sh k0 p1 M   = some r → W p l e { frames := 0, cells := 0, slots := 0, locals := 0 } s m ([.ref (ad k0), .int p1] : List Value).toArray below meth c H locs 0 0 (zQI below D cy sh ad s [.ref (ad k0), .int p1] r M) (F0 m 32 ls []) := by
    intro  H locs ls hl hw hd
    unfold zjX5_speedIn_32 at hd
    refine lv_iconst (v := (0 : Int32)) hx hb dX5_speedIn_32 (by decide) ?_
    exact J33 _ _ _ _ (lv_sub hl [] rfl) hw hd
  unfold zX5_speedIn at hd
  refine lv_iload_n hx hb dX5_speedIn_0 rfl (lv_at hl 1 rfl) ?_
  refine lv_iconst (v := (1 : Int32)) hx hb dX5_speedIn_1 (by decide) ?_
  refine lv_icmp_lt (tgt := 32) hx hb dX5_speedIn_2 (by decide) (fun c_1 => ?_) (fun c_1 => ?_)
  · have hd := zif_pos c_1 hd
    exact J32 _ _ _ (lv_sub hl [] rfl) hw hd
  · have hd := zif_neg c_1 hd
    refine lv_iload_n hx hb dX5_speedIn_5 rfl (lv_at hl 1 rfl) ?_
    refine lv_aload_n hx hb dX5_speedIn_6 rfl (lv_at hl 0 rfl) ?_
    refine z_gR F hw h0 zc5 0 (by decide) rfl zf5_9 dX5_speedIn_7 ?_
    have t_2 : zT sh (zR M k0 0) 14 := hw.2.2.2.fld h0 0 14
    refine z_alen F hw t_2 (by decide) (t0 := 1) rfl dX5_speedIn_10 ?_
    refine lv_icmp_ge (tgt := 32) hx hb dX5_speedIn_11 (by decide) (fun c_3 => ?_) (fun c_3 => ?_)
    · have hd := zif_pos c_3 hd
      exact J32 _ _ _ (lv_sub hl [] rfl) hw hd
    · have hd := zif_neg c_3 hd
      refine lv_aload_n hx hb dX5_speedIn_14 rfl (lv_at hl 0 rfl) ?_
      refine z_gR F hw h0 zc5 0 (by decide) rfl zf5_9 dX5_speedIn_15 ?_
      have t_4 : zT sh (zR M k0 0) 14 := hw.2.2.2.fld h0 0 14
      refine lv_iload_n hx hb dX5_speedIn_18 rfl (lv_at hl 1 rfl) ?_
      obtain ⟨g_5, hd⟩ := zgd_some hd
      refine z_iald F hw t_4 g_5 dX5_speedIn_19 ?_
      refine lv_aload_n hx hb dX5_speedIn_20 rfl (lv_at hl 0 rfl) ?_
      refine z_gR F hw h0 zc5 0 (by decide) rfl zf5_9 dX5_speedIn_21 ?_
      have t_6 : zT sh (zR M k0 0) 14 := hw.2.2.2.fld h0 0 14
      refine lv_iload_n hx hb dX5_speedIn_24 rfl (lv_at hl 1 rfl) ?_
      refine lv_iconst (v := (1 : Int32)) hx hb dX5_speedIn_25 (by decide) ?_
      refine lv_isub hx hb dX5_speedIn_26 ?_
      obtain ⟨g_7, hd⟩ := zgd_some hd
      refine z_iald F hw t_6 g_7 dX5_speedIn_27 ?_
      refine lv_isub hx hb dX5_speedIn_28 ?_
      refine lv_goto (tgt := 33) hx hb dX5_speedIn_29 (by decide) ?_
      exact J33 _ _ _ _ (lv_sub hl [] rfl) hw hd

def zX5_reached (sh : zShp) (k0 : Nat) (M : zMem) : Option (Int32) :=
  zob (zX5_speedIn sh k0 (zI M k0 1) M) fun r_2 =>
  some r_2
set_option maxHeartbeats 4000000 in
set_option maxRecDepth 100000 in
theorem ztX5_reached (l : Launch) (D : va_G) (cy : Nat → ClassId) (sh : zShp) (ad : Nat → Nat) {k0 : Nat} (h0 : zT sh k0 5) {M : zMem} {r : Int32} (hd : zX5_reached sh k0 M = some r) : zCI l yX5_reached cX5_reached 1 .int { frames := 1, cells := 0, slots := 0, locals := 21 } [.ref (ad k0)] D cy sh ad M r M := by
  refine zci_of (by decide) (Nat.le_of_ble_eq_true rfl) (fun p e s m below meth c ls F hr hlk hl hw => ?_)
  have hx := F.1.1
  have hb := F.1.2.1
  have hl : lv_has ls 1 [(0, .ref (ad k0))] := hl
  unfold zX5_reached at hd
  refine lv_aload_n hx hb dX5_reached_0 rfl (lv_at hl 0 rfl) ?_
  refine lv_aload_n hx hb dX5_reached_1 rfl (lv_at hl 0 rfl) ?_
  refine z_gI F hw h0 zc5 1 (by decide) rfl zf5_15 dX5_reached_2 ?_
  obtain ⟨r_2, hc_1, hd⟩ := zob_some hd
  refine z_cvI F hw hl.1 (As := [.int (zI M k0 1)]) (rest := []) (ztX5_speedIn l D cy sh ad h0 hc_1) zyX5_speedIn h0 zc5 zk5_23 ⟨rfl, rfl⟩ ⟨by decide, by decide⟩ rfl rfl (Nat.le_of_ble_eq_true rfl) dX5_reached_5 (fun H locs hw => ?_)
  exact z_iret F hr hlk hw (Option.some.inj hd) rfl dX5_reached_8

def zX5_micros (sh : zShp) (k0 : Nat) (M : zMem) : Option (Int32) :=
  zgd (zin (zI M k0 1) (zlen sh (zR M k0 0))) <|
  some (zI M (zR M k0 0) ((zI M k0 1).toNatClampNeg))
set_option maxHeartbeats 4000000 in
set_option maxRecDepth 100000 in
theorem ztX5_micros (l : Launch) (D : va_G) (cy : Nat → ClassId) (sh : zShp) (ad : Nat → Nat) {k0 : Nat} (h0 : zT sh k0 5) {M : zMem} {r : Int32} (hd : zX5_micros sh k0 M = some r) : zCI l yX5_micros cX5_micros 1 .int { frames := 0, cells := 0, slots := 0, locals := 0 } [.ref (ad k0)] D cy sh ad M r M := by
  refine zci_of (by decide) (Nat.le_of_ble_eq_true rfl) (fun p e s m below meth c ls F hr hlk hl hw => ?_)
  have hx := F.1.1
  have hb := F.1.2.1
  have hl : lv_has ls 1 [(0, .ref (ad k0))] := hl
  unfold zX5_micros at hd
  refine lv_aload_n hx hb dX5_micros_0 rfl (lv_at hl 0 rfl) ?_
  refine z_gR F hw h0 zc5 0 (by decide) rfl zf5_9 dX5_micros_1 ?_
  have t_1 : zT sh (zR M k0 0) 14 := hw.2.2.2.fld h0 0 14
  refine lv_aload_n hx hb dX5_micros_4 rfl (lv_at hl 0 rfl) ?_
  refine z_gI F hw h0 zc5 1 (by decide) rfl zf5_15 dX5_micros_5 ?_
  obtain ⟨g_2, hd⟩ := zgd_some hd
  refine z_iald F hw t_1 g_2 dX5_micros_8 ?_
  exact z_iret F hr hlk hw (Option.some.inj hd) rfl dX5_micros_9

def zjX4_takeTop_52 (sh : zShp) (k0 : Nat) (k1 : Nat) (p2 : Int32)  (M : zMem) : Option (Int32 × zMem) :=
  some ((0 : Int32), M)
def zX4_takeTop (sh : zShp) (k0 : Nat) (k1 : Nat) (p2 : Int32) (M : zMem) : Option (Int32 × zMem) :=
  zob (zX5_build sh (zR M k0 2) p2 (zI M k0 6) (zI M k0 7) M) fun M_3 =>
  zob (zX5_reached sh (zR M_3 k0 2) M_3) fun r_6 =>
  zob (zX5_micros sh (zR M_3 k0 2) M_3) fun r_9 =>
  if (zI M_3 k0 4) < ((2 : Int32) * r_9) then (
  zjX4_takeTop_52 sh k0 k1 p2 M_3)
  else (
  zob (zX1_bandsOver sh k1 (zI M_3 k0 3) r_6 M_3) fun r_12 =>
  if r_12 ≤ 0 then (
  zob (zX5_micros sh (zR M_3 k0 2) M_3) fun r_16 =>
  zbd (zpI M_3 k0 8 ((zI M_3 k0 4) - ((2 : Int32) * r_16))) fun M_17 =>
  zgd (znz (zmax (1 : Int32) r_6)) <|
  zbd (zpI M_17 k0 9 ((((zI M_17 k0 8) + (zmax (1 : Int32) r_6)) - (1 : Int32)) / (zmax (1 : Int32) r_6))) fun M_19 =>
  some ((1 : Int32), M_19))
  else (
  zjX4_takeTop_52 sh k0 k1 p2 M_3))
set_option maxHeartbeats 4000000 in
set_option maxRecDepth 100000 in
theorem ztX4_takeTop (l : Launch) (D : va_G) (cy : Nat → ClassId) (sh : zShp) (ad : Nat → Nat) {k0 : Nat} {k1 : Nat} {p2 : Int32} (h0 : zT sh k0 4) (h1 : zT sh k1 1) {M : zMem} {r : Int32} {M1 : zMem} (hd : zX4_takeTop sh k0 k1 p2 M = some (r, M1)) : zCI l yX4_takeTop cX4_takeTop 5 .boolean { frames := 2, cells := 0, slots := 0, locals := 52 } [.ref (ad k0), .ref (ad k1), .int p2] D cy sh ad M r M1 := by
  refine zci_of (by decide) (Nat.le_of_ble_eq_true rfl) (fun p e s m below meth c ls F hr hlk hl hw => ?_)
  have hx := F.1.1
  have hb := F.1.2.1
  have hl : lv_has ls 5 [(0, .ref (ad k0)), (1, .ref (ad k1)), (2, .int p2)] := hl
  have J52 : ∀ (M : zMem) (H : Heap) (locs : List Loc) (ls : Array Slot), lv_has ls 5 [] → zWd D cy sh ad s M H locs → zjX4_takeTop_52 sh k0 k1 p2  M = some (r, M1) → W p l e { frames := 2, cells := 0, slots := 0, locals := 52 } s m ([.ref (ad k0), .ref (ad k1), .int p2] : List Value).toArray below meth c H locs 0 0 (zQI below D cy sh ad s [.ref (ad k0), .ref (ad k1), .int p2] r M1) (F0 m 52 ls []) := by
    intro  M H locs ls hl hw hd
    unfold zjX4_takeTop_52 at hd
    refine lv_iconst (v := (0 : Int32)) hx hb dX4_takeTop_52 (by decide) ?_
    exact z_zret F hr hlk hw (by decide) (zpr1 hd) (zpr2 hd) dX4_takeTop_53
  unfold zX4_takeTop at hd
  refine lv_aload_n hx hb dX4_takeTop_0 rfl (lv_at hl 0 rfl) ?_
  refine z_gR F hw h0 zc4 2 (by decide) rfl zf4_21 dX4_takeTop_1 ?_
  have t_1 : zT sh (zR M k0 2) 5 := hw.2.2.2.fld h0 2 5
  refine lv_iload_n hx hb dX4_takeTop_4 rfl (lv_at hl 2 rfl) ?_
  refine lv_aload_n hx hb dX4_takeTop_5 rfl (lv_at hl 0 rfl) ?_
  refine z_gI F hw h0 zc4 6 (by decide) rfl zf4_66 dX4_takeTop_6 ?_
  refine lv_aload_n hx hb dX4_takeTop_9 rfl (lv_at hl 0 rfl) ?_
  refine z_gI F hw h0 zc4 7 (by decide) rfl zf4_70 dX4_takeTop_10 ?_
  obtain ⟨M_3, hc_2, hd⟩ := zob_some hd
  refine z_cvV F hw hl.1 (As := [.int p2, .int (zI M k0 6), .int (zI M k0 7)]) (rest := []) (ztX5_build l D cy sh ad t_1 hc_2) zyX5_build t_1 zc5 zk4_82 ⟨rfl, rfl⟩ ⟨by decide, by decide⟩ rfl rfl (Nat.le_of_ble_eq_true rfl) dX4_takeTop_13 (fun H locs hw => ?_)
  refine lv_aload_n hx hb dX4_takeTop_16 rfl (lv_at hl 0 rfl) ?_
  refine z_gR F hw h0 zc4 2 (by decide) rfl zf4_21 dX4_takeTop_17 ?_
  have t_4 : zT sh (zR M_3 k0 2) 5 := hw.2.2.2.fld h0 2 5
  obtain ⟨r_6, hc_5, hd⟩ := zob_some hd
  refine z_cvI F hw hl.1 (As := []) (rest := []) (ztX5_reached l D cy sh ad t_4 hc_5) zyX5_reached t_4 zc5 zk4_86 ⟨rfl, rfl⟩ ⟨by decide, by decide⟩ rfl rfl (Nat.le_of_ble_eq_true rfl) dX4_takeTop_20 (fun H locs hw => ?_)
  refine lv_istore_n (lv' := [(3, .int r_6), (0, .ref (ad k0)), (1, .ref (ad k1)), (2, .int p2)]) hx hb dX4_takeTop_23 rfl hl (by decide) rfl (fun ls hl => ?_)
  refine lv_iconst (v := (2 : Int32)) hx hb dX4_takeTop_24 (by decide) ?_
  refine lv_aload_n hx hb dX4_takeTop_25 rfl (lv_at hl 1 rfl) ?_
  refine z_gR F hw h0 zc4 2 (by decide) rfl zf4_21 dX4_takeTop_26 ?_
  have t_7 : zT sh (zR M_3 k0 2) 5 := hw.2.2.2.fld h0 2 5
  obtain ⟨r_9, hc_8, hd⟩ := zob_some hd
  refine z_cvI F hw hl.1 (As := []) (rest := [.int (2 : Int32)]) (ztX5_micros l D cy sh ad t_7 hc_8) zyX5_micros t_7 zc5 zk4_89 ⟨rfl, rfl⟩ ⟨by decide, by decide⟩ rfl rfl (Nat.le_of_ble_eq_true rfl) dX4_takeTop_29 (fun H locs hw => ?_)
  refine lv_imul hx hb dX4_takeTop_32 ?_
  refine lv_aload_n hx hb dX4_takeTop_33 rfl (lv_at hl 1 rfl) ?_
  refine z_gI F hw h0 zc4 4 (by decide) rfl zf4_29 dX4_takeTop_34 ?_
  refine lv_icmp_gt (tgt := 52) hx hb dX4_takeTop_37 (by decide) (fun c_10 => ?_) (fun c_10 => ?_)
  · have hd := zif_pos c_10 hd
    exact J52 _ _ _ _ (lv_sub hl [] rfl) hw hd
  · have hd := zif_neg c_10 hd
    refine lv_aload_n hx hb dX4_takeTop_40 rfl (lv_at hl 2 rfl) ?_
    refine lv_aload_n hx hb dX4_takeTop_41 rfl (lv_at hl 1 rfl) ?_
    refine z_gI F hw h0 zc4 3 (by decide) rfl zf4_25 dX4_takeTop_42 ?_
    refine lv_iload_n hx hb dX4_takeTop_45 rfl (lv_at hl 0 rfl) ?_
    obtain ⟨r_12, hc_11, hd⟩ := zob_some hd
    refine z_cvI F hw hl.1 (As := [.int (zI M_3 k0 3), .int r_6]) (rest := []) (ztX1_bandsOver l D cy sh ad h1 hc_11) zyX1_bandsOver h1 zc1 zk4_92 ⟨rfl, rfl⟩ ⟨by decide, by decide⟩ rfl rfl (Nat.le_of_ble_eq_true rfl) dX4_takeTop_46 (fun H locs hw => ?_)
    refine lv_if_le (tgt := 54) hx hb dX4_takeTop_49 (by decide) (fun c_13 => ?_) (fun c_13 => ?_)
    · have hd := zif_pos c_13 hd
      refine lv_iconst (v := (1 : Int32)) hx hb dX4_takeTop_54 (by decide) ?_
      refine lv_iload_n hx hb dX4_takeTop_55 rfl (lv_at hl 0 rfl) ?_
      refine z_mmax F hl.1 zk4_95 (by decide) (Nat.le_of_ble_eq_true rfl) dX4_takeTop_56 ?_
      refine lv_istore (lv' := [(4, .int (zmax (1 : Int32) r_6)), (3, .int r_6), (0, .ref (ad k0)), (1, .ref (ad k1)), (2, .int p2)]) hx hb dX4_takeTop_59 hl (by decide) rfl (fun ls hl => ?_)
      refine lv_aload_n hx hb dX4_takeTop_61 rfl (lv_at hl 2 rfl) ?_
      refine lv_aload_n hx hb dX4_takeTop_62 rfl (lv_at hl 2 rfl) ?_
      refine z_gI F hw h0 zc4 4 (by decide) rfl zf4_29 dX4_takeTop_63 ?_
      refine lv_iconst (v := (2 : Int32)) hx hb dX4_takeTop_66 (by decide) ?_
      refine lv_aload_n hx hb dX4_takeTop_67 rfl (lv_at hl 2 rfl) ?_
      refine z_gR F hw h0 zc4 2 (by decide) rfl zf4_21 dX4_takeTop_68 ?_
      have t_14 : zT sh (zR M_3 k0 2) 5 := hw.2.2.2.fld h0 2 5
      obtain ⟨r_16, hc_15, hd⟩ := zob_some hd
      refine z_cvI F hw hl.1 (As := []) (rest := [.int (2 : Int32), .int (zI M_3 k0 4), .ref (ad k0)]) (ztX5_micros l D cy sh ad t_14 hc_15) zyX5_micros t_14 zc5 zk4_89 ⟨rfl, rfl⟩ ⟨by decide, by decide⟩ rfl rfl (Nat.le_of_ble_eq_true rfl) dX4_takeTop_71 (fun H locs hw => ?_)
      refine lv_imul hx hb dX4_takeTop_74 ?_
      refine lv_isub hx hb dX4_takeTop_75 ?_
      refine z_pI F hw h0 zc4 8 (by decide) rfl zf4_98 rfl rfl rfl dX4_takeTop_76 (fun H locs M_17 eM_17 hw => ?_)
      have hd := zbd_eq eM_17 hd
      refine lv_aload_n hx hb dX4_takeTop_79 rfl (lv_at hl 2 rfl) ?_
      refine lv_aload_n hx hb dX4_takeTop_80 rfl (lv_at hl 2 rfl) ?_
      refine z_gI F hw h0 zc4 8 (by decide) rfl zf4_98 dX4_takeTop_81 ?_
      refine lv_iload hx hb dX4_takeTop_84 (lv_at hl 0 rfl) ?_
      refine lv_iadd hx hb dX4_takeTop_86 ?_
      refine lv_iconst (v := (1 : Int32)) hx hb dX4_takeTop_87 (by decide) ?_
      refine lv_isub hx hb dX4_takeTop_88 ?_
      refine lv_iload hx hb dX4_takeTop_89 (lv_at hl 0 rfl) ?_
      obtain ⟨g_18, hd⟩ := zgd_some hd
      refine lv_idiv hx hb dX4_takeTop_91 (znz_ne g_18) ?_
      refine z_pI F hw h0 zc4 9 (by decide) rfl zf4_101 rfl rfl rfl dX4_takeTop_92 (fun H locs M_19 eM_19 hw => ?_)
      have hd := zbd_eq eM_19 hd
      refine lv_iconst (v := (1 : Int32)) hx hb dX4_takeTop_95 (by decide) ?_
      exact z_zret F hr hlk hw (by decide) (zpr1 hd) (zpr2 hd) dX4_takeTop_96
    · have hd := zif_neg c_13 hd
      exact J52 _ _ _ _ (lv_sub hl [] rfl) hw hd

def zbX4_plan_120 (sh : zShp) (k0 : Nat) (k1 : Nat) (k2 : Nat) (k3 : Nat)  (kk120 : Int32 → zMem → Option (Int32 × zMem)) (x4 : Int32) (M : zMem) : Option (Int32 × zMem) :=
  if x4 < 0 then (
  some ((0 : Int32), M))
  else (
  zob2 (zX4_takeTop sh k0 k3 x4 M) fun r_3 M_4 =>
  if r_3 = 0 then (
  kk120 (x4 + (-1 : Int32)) M_4)
  else (
  some ((1 : Int32), M_4)))
def zlX4_plan_120 (sh : zShp) (k0 : Nat) (k1 : Nat) (k2 : Nat) (k3 : Nat)  : Nat → Int32 → zMem → Option (Int32 × zMem)
  | 0 => fun _ _ => none
  | n + 1 => fun x4 M => zbX4_plan_120 sh k0 k1 k2 k3  (zlX4_plan_120 sh k0 k1 k2 k3  n) x4 M
def zjX4_plan_94 (sh : zShp) (k0 : Nat) (k1 : Nat) (k2 : Nat) (k3 : Nat) (kk13 : Int32 → zMem → Option (Int32 × zMem)) (x4 : Int32) (M : zMem) : Option (Int32 × zMem) :=
  kk13 (x4 + (1 : Int32)) M
def zjX4_plan_64 (sh : zShp) (k0 : Nat) (k1 : Nat) (k2 : Nat) (k3 : Nat) (kk13 : Int32 → zMem → Option (Int32 × zMem)) (x4 : Int32) (s0 : Nat) (s1 : Int32) (s2 : Int32) (M : zMem) : Option (Int32 × zMem) :=
  zgd (zin s1 (zlen sh s0)) <|
  zbd (zpI M s0 (s1.toNatClampNeg) s2) fun M_7 =>
  zob (zX4_wayOf sh k0 x4 M_7) fun r_9 =>
  if r_9 ≤ (zI M_7 k0 4) then (
  zjX4_plan_94 sh k0 k1 k2 k3 kk13 x4 M_7)
  else (
  zob (zX4_wayOf sh k0 x4 M_7) fun r_12 =>
  zbd (zpI M_7 k0 4 r_12) fun M_13 =>
  zbd (zpI M_13 k0 3 x4) fun M_14 =>
  zjX4_plan_94 sh k0 k1 k2 k3 kk13 x4 M_14)
def zbX4_plan_13 (sh : zShp) (k0 : Nat) (k1 : Nat) (k2 : Nat) (k3 : Nat)  (kk13 : Int32 → zMem → Option (Int32 × zMem)) (x4 : Int32) (M : zMem) : Option (Int32 × zMem) :=
  if (3 : Int32) ≤ x4 then (
  if (zI M k0 4) = 0 then (
  some ((0 : Int32), M))
  else (
  zob (zX4_findLimits sh k0 k3 M) fun M_18 =>
  zlX4_plan_120 sh k0 k1 k2 k3 zF (zI M_18 k0 5) M_18))
  else (
  zgd (zin x4 (zlen sh k1)) <|
  zgd (zin x4 (zlen sh (zR M k0 0))) <|
  zbd (zpI M (zR M k0 0) (x4.toNatClampNeg) (zI M (zR M k1 x4.toNatClampNeg) 0)) fun M_23 =>
  if (zI M_23 k3 6) ≤ x4 then (
  zjX4_plan_64 sh k0 k1 k2 k3 kk13 x4 (zR M_23 k0 1) x4 (0 : Int32) M_23)
  else (
  zgd (zin x4 (zlen sh k2)) <|
  zgd (zin x4 (zlen sh (zR M_23 k0 0))) <|
  zjX4_plan_64 sh k0 k1 k2 k3 kk13 x4 (zR M_23 k0 1) x4 ((zI M_23 k2 x4.toNatClampNeg) - (zI M_23 (zR M_23 k0 0) x4.toNatClampNeg)) M_23))
def zlX4_plan_13 (sh : zShp) (k0 : Nat) (k1 : Nat) (k2 : Nat) (k3 : Nat)  : Nat → Int32 → zMem → Option (Int32 × zMem)
  | 0 => fun _ _ => none
  | n + 1 => fun x4 M => zbX4_plan_13 sh k0 k1 k2 k3  (zlX4_plan_13 sh k0 k1 k2 k3  n) x4 M
def zX4_plan (sh : zShp) (k0 : Nat) (k1 : Nat) (k2 : Nat) (k3 : Nat) (M : zMem) : Option (Int32 × zMem) :=
  zbd (zpI M k0 3 (0 : Int32)) fun M_29 =>
  zbd (zpI M_29 k0 4 (0 : Int32)) fun M_30 =>
  zlX4_plan_13 sh k0 k1 k2 k3 zF (0 : Int32) M_30
set_option maxHeartbeats 4000000 in
set_option maxRecDepth 100000 in
theorem ztX4_plan (l : Launch) (D : va_G) (cy : Nat → ClassId) (sh : zShp) (ad : Nat → Nat) {k0 : Nat} {k1 : Nat} {k2 : Nat} {k3 : Nat} (h0 : zT sh k0 4) (h1 : zT sh k1 18) (h2 : zT sh k2 14) (h3 : zT sh k3 1) {M : zMem} {r : Int32} {M1 : zMem} (hd : zX4_plan sh k0 k1 k2 k3 M = some (r, M1)) : zCI l yX4_plan cX4_plan 5 .boolean { frames := 3, cells := 0, slots := 0, locals := 76 } [.ref (ad k0), .ref (ad k1), .ref (ad k2), .ref (ad k3)] D cy sh ad M r M1 := by
  refine zci_of (by decide) (Nat.le_of_ble_eq_true rfl) (fun p e s m below meth c ls F hr hlk hl hw => ?_)
  have hx := F.1.1
  have hb := F.1.2.1
  have hl : lv_has ls 5 [(0, .ref (ad k0)), (1, .ref (ad k1)), (2, .ref (ad k2)), (3, .ref (ad k3))] := hl
  have L120 : ∀  (n : Nat), ∀ (x4 : Int32) (M : zMem) (H : Heap) (locs : List Loc) (ls : Array Slot), lv_has ls 5 [(0, .ref (ad k0)), (3, .ref (ad k3)), (4, .int x4)] → zWd D cy sh ad s M H locs → zlX4_plan_120 sh k0 k1 k2 k3  n x4 M = some (r, M1) → W p l e { frames := 3, cells := 0, slots := 0, locals := 76 } s m ([.ref (ad k0), .ref (ad k1), .ref (ad k2), .ref (ad k3)] : List Value).toArray below meth c H locs 0 0 (zQI below D cy sh ad s [.ref (ad k0), .ref (ad k1), .ref (ad k2), .ref (ad k3)] r M1) (F0 m 120 ls []) := by
    intro  n
    induction n with
    | zero => intro x4 M H locs ls hl hw hd; exact (znone hd).elim
    | succ n hk120 =>
      intro x4 M H locs ls hl hw hd
      have hd : zbX4_plan_120 sh k0 k1 k2 k3  (zlX4_plan_120 sh k0 k1 k2 k3  n) x4 M = some (r, M1) := hd
      unfold zbX4_plan_120 at hd
      refine lv_iload hx hb dX4_plan_120 (lv_at hl 2 rfl) ?_
      refine lv_if_lt (tgt := 143) hx hb dX4_plan_122 (by decide) (fun c_1 => ?_) (fun c_1 => ?_)
      · have hd := zif_pos c_1 hd
        refine lv_iconst (v := (0 : Int32)) hx hb dX4_plan_143 (by decide) ?_
        exact z_zret F hr hlk hw (by decide) (zpr1 hd) (zpr2 hd) dX4_plan_144
      · have hd := zif_neg c_1 hd
        refine lv_aload_n hx hb dX4_plan_125 rfl (lv_at hl 0 rfl) ?_
        refine lv_aload_n hx hb dX4_plan_126 rfl (lv_at hl 1 rfl) ?_
        refine lv_iload hx hb dX4_plan_127 (lv_at hl 2 rfl) ?_
        obtain ⟨r_3, M_4, hc_2, hd⟩ := zob2_some hd
        refine z_cvI F hw hl.1 (As := [.ref (ad k3), .int x4]) (rest := []) (ztX4_takeTop l D cy sh ad h0 h3 hc_2) zyX4_takeTop h0 zc4 zk4_53 ⟨rfl, rfl⟩ ⟨by decide, by decide⟩ rfl rfl (Nat.le_of_ble_eq_true rfl) dX4_plan_129 (fun H locs hw => ?_)
        refine lv_if_eq (tgt := 137) hx hb dX4_plan_132 (by decide) (fun c_5 => ?_) (fun c_5 => ?_)
        · have hd := zif_pos c_5 hd
          refine lv_iinc (v := (x4 + (-1 : Int32))) (lv' := [(4, .int (x4 + (-1 : Int32))), (0, .ref (ad k0)), (3, .ref (ad k3))]) hx hb dX4_plan_137 hl (k := 2) rfl (ziinc (by decide)) (by decide) rfl (fun ls hl => ?_)
          refine lv_goto (tgt := 120) hx hb dX4_plan_140 (by decide) ?_
          exact hk120 _ _ _ _ _ (lv_sub hl [1, 2, 0] rfl) hw hd
        · have hd := zif_neg c_5 hd
          refine lv_iconst (v := (1 : Int32)) hx hb dX4_plan_135 (by decide) ?_
          exact z_zret F hr hlk hw (by decide) (zpr1 hd) (zpr2 hd) dX4_plan_136
  have J94 : ∀ (kk13 : Int32 → zMem → Option (Int32 × zMem)) (hk13 : ∀ (x4 : Int32) (M : zMem) (H : Heap) (locs : List Loc) (ls : Array Slot), lv_has ls 5 [(0, .ref (ad k0)), (1, .ref (ad k1)), (2, .ref (ad k2)), (3, .ref (ad k3)), (4, .int x4)] → zWd D cy sh ad s M H locs → kk13 x4 M = some (r, M1) → W p l e { frames := 3, cells := 0, slots := 0, locals := 76 } s m ([.ref (ad k0), .ref (ad k1), .ref (ad k2), .ref (ad k3)] : List Value).toArray below meth c H locs 0 0 (zQI below D cy sh ad s [.ref (ad k0), .ref (ad k1), .ref (ad k2), .ref (ad k3)] r M1) (F0 m 13 ls [])), ∀ (x4 : Int32) (M : zMem) (H : Heap) (locs : List Loc) (ls : Array Slot), lv_has ls 5 [(0, .ref (ad k0)), (1, .ref (ad k1)), (2, .ref (ad k2)), (3, .ref (ad k3)), (4, .int x4)] → zWd D cy sh ad s M H locs → zjX4_plan_94 sh k0 k1 k2 k3 kk13 x4 M = some (r, M1) → W p l e { frames := 3, cells := 0, slots := 0, locals := 76 } s m ([.ref (ad k0), .ref (ad k1), .ref (ad k2), .ref (ad k3)] : List Value).toArray below meth c H locs 0 0 (zQI below D cy sh ad s [.ref (ad k0), .ref (ad k1), .ref (ad k2), .ref (ad k3)] r M1) (F0 m 94 ls []) := by
    intro kk13 hk13 x4 M H locs ls hl hw hd
    unfold zjX4_plan_94 at hd
    refine lv_iinc (v := (x4 + (1 : Int32))) (lv' := [(4, .int (x4 + (1 : Int32))), (0, .ref (ad k0)), (1, .ref (ad k1)), (2, .ref (ad k2)), (3, .ref (ad k3))]) hx hb dX4_plan_94 hl (k := 4) rfl (ziinc (by decide)) (by decide) rfl (fun ls hl => ?_)
    refine lv_goto (tgt := 13) hx hb dX4_plan_97 (by decide) ?_
    exact hk13 _ _ _ _ _ (lv_sub hl [1, 2, 3, 4, 0] rfl) hw hd
  have J64 : ∀ (kk13 : Int32 → zMem → Option (Int32 × zMem)) (hk13 : ∀ (x4 : Int32) (M : zMem) (H : Heap) (locs : List Loc) (ls : Array Slot), lv_has ls 5 [(0, .ref (ad k0)), (1, .ref (ad k1)), (2, .ref (ad k2)), (3, .ref (ad k3)), (4, .int x4)] → zWd D cy sh ad s M H locs → kk13 x4 M = some (r, M1) → W p l e { frames := 3, cells := 0, slots := 0, locals := 76 } s m ([.ref (ad k0), .ref (ad k1), .ref (ad k2), .ref (ad k3)] : List Value).toArray below meth c H locs 0 0 (zQI below D cy sh ad s [.ref (ad k0), .ref (ad k1), .ref (ad k2), .ref (ad k3)] r M1) (F0 m 13 ls [])), ∀ (x4 : Int32) (s0 : Nat) (s1 : Int32) (s2 : Int32) (ts0 : zT sh s0 14) (M : zMem) (H : Heap) (locs : List Loc) (ls : Array Slot), lv_has ls 5 [(0, .ref (ad k0)), (1, .ref (ad k1)), (2, .ref (ad k2)), (3, .ref (ad k3)), (4, .int x4)] → zWd D cy sh ad s M H locs → zjX4_plan_64 sh k0 k1 k2 k3 kk13 x4 s0 s1 s2 M = some (r, M1) → W p l e { frames := 3, cells := 0, slots := 0, locals := 76 } s m ([.ref (ad k0), .ref (ad k1), .ref (ad k2), .ref (ad k3)] : List Value).toArray below meth c H locs 0 0 (zQI below D cy sh ad s [.ref (ad k0), .ref (ad k1), .ref (ad k2), .ref (ad k3)] r M1) (F0 m 64 ls [.int s2, .int s1, .ref (ad s0)]) := by
    intro kk13 hk13 x4 s0 s1 s2 ts0 M H locs ls hl hw hd
    unfold zjX4_plan_64 at hd
    obtain ⟨g_6, hd⟩ := zgd_some hd
    refine z_iast F hw ts0 g_6 dX4_plan_64 (fun H locs M_7 eM_7 hw => ?_)
    have hd := zbd_eq eM_7 hd
    refine lv_aload_n hx hb dX4_plan_65 rfl (lv_at hl 0 rfl) ?_
    refine lv_iload hx hb dX4_plan_66 (lv_at hl 4 rfl) ?_
    obtain ⟨r_9, hc_8, hd⟩ := zob_some hd
    refine z_cvI F hw hl.1 (As := [.int x4]) (rest := []) (ztX4_wayOf l D cy sh ad h0 hc_8) zyX4_wayOf h0 zc4 zk4_42 ⟨rfl, rfl⟩ ⟨by decide, by decide⟩ rfl rfl (Nat.le_of_ble_eq_true rfl) dX4_plan_68 (fun H locs hw => ?_)
    refine lv_aload_n hx hb dX4_plan_71 rfl (lv_at hl 0 rfl) ?_
    refine z_gI F hw h0 zc4 4 (by decide) rfl zf4_29 dX4_plan_72 ?_
    refine lv_icmp_le (tgt := 94) hx hb dX4_plan_75 (by decide) (fun c_10 => ?_) (fun c_10 => ?_)
    · have hd := zif_pos c_10 hd
      exact J94 _ hk13 _ _ _ _ _ (lv_sub hl [0, 1, 2, 3, 4] rfl) hw hd
    · have hd := zif_neg c_10 hd
      refine lv_aload_n hx hb dX4_plan_78 rfl (lv_at hl 0 rfl) ?_
      refine lv_aload_n hx hb dX4_plan_79 rfl (lv_at hl 0 rfl) ?_
      refine lv_iload hx hb dX4_plan_80 (lv_at hl 4 rfl) ?_
      obtain ⟨r_12, hc_11, hd⟩ := zob_some hd
      refine z_cvI F hw hl.1 (As := [.int x4]) (rest := [.ref (ad k0)]) (ztX4_wayOf l D cy sh ad h0 hc_11) zyX4_wayOf h0 zc4 zk4_42 ⟨rfl, rfl⟩ ⟨by decide, by decide⟩ rfl rfl (Nat.le_of_ble_eq_true rfl) dX4_plan_82 (fun H locs hw => ?_)
      refine z_pI F hw h0 zc4 4 (by decide) rfl zf4_29 rfl rfl rfl dX4_plan_85 (fun H locs M_13 eM_13 hw => ?_)
      have hd := zbd_eq eM_13 hd
      refine lv_aload_n hx hb dX4_plan_88 rfl (lv_at hl 0 rfl) ?_
      refine lv_iload hx hb dX4_plan_89 (lv_at hl 4 rfl) ?_
      refine z_pI F hw h0 zc4 3 (by decide) rfl zf4_25 rfl rfl rfl dX4_plan_91 (fun H locs M_14 eM_14 hw => ?_)
      have hd := zbd_eq eM_14 hd
      exact J94 _ hk13 _ _ _ _ _ (lv_sub hl [0, 1, 2, 3, 4] rfl) hw hd
  have L13 : ∀  (n : Nat), ∀ (x4 : Int32) (M : zMem) (H : Heap) (locs : List Loc) (ls : Array Slot), lv_has ls 5 [(0, .ref (ad k0)), (1, .ref (ad k1)), (2, .ref (ad k2)), (3, .ref (ad k3)), (4, .int x4)] → zWd D cy sh ad s M H locs → zlX4_plan_13 sh k0 k1 k2 k3  n x4 M = some (r, M1) → W p l e { frames := 3, cells := 0, slots := 0, locals := 76 } s m ([.ref (ad k0), .ref (ad k1), .ref (ad k2), .ref (ad k3)] : List Value).toArray below meth c H locs 0 0 (zQI below D cy sh ad s [.ref (ad k0), .ref (ad k1), .ref (ad k2), .ref (ad k3)] r M1) (F0 m 13 ls []) := by
    intro  n
    induction n with
    | zero => intro x4 M H locs ls hl hw hd; exact (znone hd).elim
    | succ n hk13 =>
      intro x4 M H locs ls hl hw hd
      have hd : zbX4_plan_13 sh k0 k1 k2 k3  (zlX4_plan_13 sh k0 k1 k2 k3  n) x4 M = some (r, M1) := hd
      unfold zbX4_plan_13 at hd
      refine lv_iload hx hb dX4_plan_13 (lv_at hl 4 rfl) ?_
      refine lv_iconst (v := (3 : Int32)) hx hb dX4_plan_15 (by decide) ?_
      refine lv_icmp_ge (tgt := 100) hx hb dX4_plan_16 (by decide) (fun c_15 => ?_) (fun c_15 => ?_)
      · have hd := zif_pos c_15 hd
        refine lv_aload_n hx hb dX4_plan_100 rfl (lv_at hl 0 rfl) ?_
        refine z_gI F hw h0 zc4 4 (by decide) rfl zf4_29 dX4_plan_101 ?_
        refine lv_if_ne (tgt := 109) hx hb dX4_plan_104 (by decide) (fun c_16 => ?_) (fun c_16 => ?_)
        · have hd := zif_neg c_16 hd
          refine lv_aload_n hx hb dX4_plan_109 rfl (lv_at hl 0 rfl) ?_
          refine lv_aload_n hx hb dX4_plan_110 rfl (lv_at hl 3 rfl) ?_
          obtain ⟨M_18, hc_17, hd⟩ := zob_some hd
          refine z_cvV F hw hl.1 (As := [.ref (ad k3)]) (rest := []) (ztX4_findLimits l D cy sh ad h0 h3 hc_17) zyX4_findLimits h0 zc4 zk4_46 ⟨rfl, rfl⟩ ⟨by decide, by decide⟩ rfl rfl (Nat.le_of_ble_eq_true rfl) dX4_plan_111 (fun H locs hw => ?_)
          refine lv_aload_n hx hb dX4_plan_114 rfl (lv_at hl 0 rfl) ?_
          refine z_gI F hw h0 zc4 5 (by decide) rfl zf4_50 dX4_plan_115 ?_
          refine lv_istore (lv' := [(4, .int (zI M_18 k0 5)), (0, .ref (ad k0)), (1, .ref (ad k1)), (2, .ref (ad k2)), (3, .ref (ad k3))]) hx hb dX4_plan_118 hl (by decide) rfl (fun ls hl => ?_)
          exact L120 zF _ _ _ _ _ (lv_sub hl [1, 4, 0] rfl) hw hd
        · have hd := zif_pos c_16 hd
          refine lv_iconst (v := (0 : Int32)) hx hb dX4_plan_107 (by decide) ?_
          exact z_zret F hr hlk hw (by decide) (zpr1 hd) (zpr2 hd) dX4_plan_108
      · have hd := zif_neg c_15 hd
        refine lv_aload_n hx hb dX4_plan_19 rfl (lv_at hl 0 rfl) ?_
        refine z_gR F hw h0 zc4 0 (by decide) rfl zf4_9 dX4_plan_20 ?_
        have t_19 : zT sh (zR M k0 0) 14 := hw.2.2.2.fld h0 0 14
        refine lv_iload hx hb dX4_plan_23 (lv_at hl 4 rfl) ?_
        refine lv_aload_n hx hb dX4_plan_25 rfl (lv_at hl 1 rfl) ?_
        refine lv_iload hx hb dX4_plan_26 (lv_at hl 4 rfl) ?_
        obtain ⟨g_20, hd⟩ := zgd_some hd
        refine z_aald F hw h1 (by decide) 5 rfl g_20 dX4_plan_28 ?_
        have t_21 : zT sh (zR M k1 x4.toNatClampNeg) 7 := hw.2.2.2.arr h1 _ 7 (zin_lt g_20)
        refine z_gI F hw t_21 zc7 0 (by decide) rfl zf4_32 dX4_plan_29 ?_
        obtain ⟨g_22, hd⟩ := zgd_some hd
        refine z_iast F hw t_19 g_22 dX4_plan_32 (fun H locs M_23 eM_23 hw => ?_)
        have hd := zbd_eq eM_23 hd
        refine lv_aload_n hx hb dX4_plan_33 rfl (lv_at hl 0 rfl) ?_
        refine z_gR F hw h0 zc4 1 (by decide) rfl zf4_15 dX4_plan_34 ?_
        have t_24 : zT sh (zR M_23 k0 1) 14 := hw.2.2.2.fld h0 1 14
        refine lv_iload hx hb dX4_plan_37 (lv_at hl 4 rfl) ?_
        refine lv_iload hx hb dX4_plan_39 (lv_at hl 4 rfl) ?_
        refine lv_aload_n hx hb dX4_plan_41 rfl (lv_at hl 3 rfl) ?_
        refine z_gI F hw h3 zc1 6 (by decide) rfl zf4_37 dX4_plan_42 ?_
        refine lv_icmp_ge (tgt := 63) hx hb dX4_plan_45 (by decide) (fun c_25 => ?_) (fun c_25 => ?_)
        · have hd := zif_pos c_25 hd
          refine lv_iconst (v := (0 : Int32)) hx hb dX4_plan_63 (by decide) ?_
          exact J64 _ hk13 _ _ _ _ t_24 _ _ _ _ (lv_sub hl [0, 1, 2, 3, 4] rfl) hw hd
        · have hd := zif_neg c_25 hd
          refine lv_aload_n hx hb dX4_plan_48 rfl (lv_at hl 2 rfl) ?_
          refine lv_iload hx hb dX4_plan_49 (lv_at hl 4 rfl) ?_
          obtain ⟨g_26, hd⟩ := zgd_some hd
          refine z_iald F hw h2 g_26 dX4_plan_51 ?_
          refine lv_aload_n hx hb dX4_plan_52 rfl (lv_at hl 0 rfl) ?_
          refine z_gR F hw h0 zc4 0 (by decide) rfl zf4_9 dX4_plan_53 ?_
          have t_27 : zT sh (zR M_23 k0 0) 14 := hw.2.2.2.fld h0 0 14
          refine lv_iload hx hb dX4_plan_56 (lv_at hl 4 rfl) ?_
          obtain ⟨g_28, hd⟩ := zgd_some hd
          refine z_iald F hw t_27 g_28 dX4_plan_58 ?_
          refine lv_isub hx hb dX4_plan_59 ?_
          refine lv_goto (tgt := 64) hx hb dX4_plan_60 (by decide) ?_
          exact J64 _ hk13 _ _ _ _ t_24 _ _ _ _ (lv_sub hl [0, 1, 2, 3, 4] rfl) hw hd
  unfold zX4_plan at hd
  refine lv_aload_n hx hb dX4_plan_0 rfl (lv_at hl 0 rfl) ?_
  refine lv_iconst (v := (0 : Int32)) hx hb dX4_plan_1 (by decide) ?_
  refine z_pI F hw h0 zc4 3 (by decide) rfl zf4_25 rfl rfl rfl dX4_plan_2 (fun H locs M_29 eM_29 hw => ?_)
  have hd := zbd_eq eM_29 hd
  refine lv_aload_n hx hb dX4_plan_5 rfl (lv_at hl 0 rfl) ?_
  refine lv_iconst (v := (0 : Int32)) hx hb dX4_plan_6 (by decide) ?_
  refine z_pI F hw h0 zc4 4 (by decide) rfl zf4_29 rfl rfl rfl dX4_plan_7 (fun H locs M_30 eM_30 hw => ?_)
  have hd := zbd_eq eM_30 hd
  refine lv_iconst (v := (0 : Int32)) hx hb dX4_plan_10 (by decide) ?_
  refine lv_istore (lv' := [(4, .int (0 : Int32)), (0, .ref (ad k0)), (1, .ref (ad k1)), (2, .ref (ad k2)), (3, .ref (ad k3))]) hx hb dX4_plan_11 hl (by decide) rfl (fun ls hl => ?_)
  exact L13 zF _ _ _ _ _ (lv_sub hl [1, 2, 3, 4, 0] rfl) hw hd
