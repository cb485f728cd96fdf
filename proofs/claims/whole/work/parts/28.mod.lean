theorem dX12_till_0 : decode cX12_till 0 = .ok (.iconst 0, 1) := by decide +kernel
theorem dX12_till_1 : decode cX12_till 1 = .ok (.istore_n 2, 1) := by decide +kernel
theorem dX12_till_2 : decode cX12_till 2 = .ok (.iload_n 0, 1) := by decide +kernel
theorem dX12_till_3 : decode cX12_till 3 = .ok (.istore_n 3, 1) := by decide +kernel
theorem dX12_till_4 : decode cX12_till 4 = .ok (.iload_n 3, 1) := by decide +kernel
theorem dX12_till_5 : decode cX12_till 5 = .ok (.ifCond .le 14, 3) := by decide +kernel
theorem dX12_till_8 : decode cX12_till 8 = .ok (.iload_n 2, 1) := by decide +kernel
theorem dX12_till_9 : decode cX12_till 9 = .ok (.iload_n 3, 1) := by decide +kernel
theorem dX12_till_10 : decode cX12_till 10 = .ok (.iadd, 1) := by decide +kernel
theorem dX12_till_11 : decode cX12_till 11 = .ok (.istore_n 2, 1) := by decide +kernel
theorem dX12_till_12 : decode cX12_till 12 = .ok (.iload_n 3, 1) := by decide +kernel
theorem dX12_till_13 : decode cX12_till 13 = .ok (.iload_n 1, 1) := by decide +kernel
theorem dX12_till_14 : decode cX12_till 14 = .ok (.isub, 1) := by decide +kernel
theorem dX12_till_15 : decode cX12_till 15 = .ok (.istore_n 3, 1) := by decide +kernel
theorem dX12_till_16 : decode cX12_till 16 = .ok (.goto (-12), 3) := by decide +kernel
theorem dX12_till_19 : decode cX12_till 19 = .ok (.iload_n 2, 1) := by decide +kernel
theorem dX12_till_20 : decode cX12_till 20 = .ok (.ireturn, 1) := by decide +kernel
theorem dX12_laysRamp_0 : decode cX12_laysRamp 0 = .ok (.aload_n 0, 1) := by decide +kernel
theorem dX12_laysRamp_1 : decode cX12_laysRamp 1 = .ok (.iconst 0, 1) := by decide +kernel
theorem dX12_laysRamp_2 : decode cX12_laysRamp 2 = .ok (.putfield 286, 3) := by decide +kernel
theorem dX12_laysRamp_5 : decode cX12_laysRamp 5 = .ok (.iconst 0, 1) := by decide +kernel
theorem dX12_laysRamp_6 : decode cX12_laysRamp 6 = .ok (.istore 4, 2) := by decide +kernel
theorem dX12_laysRamp_8 : decode cX12_laysRamp 8 = .ok (.iconst 0, 1) := by decide +kernel
theorem dX12_laysRamp_9 : decode cX12_laysRamp 9 = .ok (.istore 5, 2) := by decide +kernel
theorem dX12_laysRamp_11 : decode cX12_laysRamp 11 = .ok (.iconst 1, 1) := by decide +kernel
theorem dX12_laysRamp_12 : decode cX12_laysRamp 12 = .ok (.istore 6, 2) := by decide +kernel
theorem dX12_laysRamp_14 : decode cX12_laysRamp 14 = .ok (.iload 6, 2) := by decide +kernel
theorem dX12_laysRamp_16 : decode cX12_laysRamp 16 = .ok (.ifCond .eq 113, 3) := by decide +kernel
theorem dX12_laysRamp_19 : decode cX12_laysRamp 19 = .ok (.iconst 0, 1) := by decide +kernel
theorem dX12_laysRamp_20 : decode cX12_laysRamp 20 = .ok (.istore 7, 2) := by decide +kernel
theorem dX12_laysRamp_22 : decode cX12_laysRamp 22 = .ok (.iload 5, 2) := by decide +kernel
theorem dX12_laysRamp_24 : decode cX12_laysRamp 24 = .ok (.iload_n 3, 1) := by decide +kernel
theorem dX12_laysRamp_25 : decode cX12_laysRamp 25 = .ok (.isub, 1) := by decide +kernel
theorem dX12_laysRamp_26 : decode cX12_laysRamp 26 = .ok (.istore 8, 2) := by decide +kernel
theorem dX12_laysRamp_28 : decode cX12_laysRamp 28 = .ok (.iload 8, 2) := by decide +kernel
theorem dX12_laysRamp_30 : decode cX12_laysRamp 30 = .ok (.iload 5, 2) := by decide +kernel
theorem dX12_laysRamp_32 : decode cX12_laysRamp 32 = .ok (.iload_n 3, 1) := by decide +kernel
theorem dX12_laysRamp_33 : decode cX12_laysRamp 33 = .ok (.iadd, 1) := by decide +kernel
theorem dX12_laysRamp_34 : decode cX12_laysRamp 34 = .ok (.if_icmp .gt 40, 3) := by decide +kernel
theorem dX12_laysRamp_37 : decode cX12_laysRamp 37 = .ok (.iload 8, 2) := by decide +kernel
theorem dX12_laysRamp_39 : decode cX12_laysRamp 39 = .ok (.iload_n 2, 1) := by decide +kernel
theorem dX12_laysRamp_40 : decode cX12_laysRamp 40 = .ok (.if_icmp .gt 25, 3) := by decide +kernel
theorem dX12_laysRamp_43 : decode cX12_laysRamp 43 = .ok (.iload 8, 2) := by decide +kernel
theorem dX12_laysRamp_45 : decode cX12_laysRamp 45 = .ok (.ifCond .le 20, 3) := by decide +kernel
theorem dX12_laysRamp_48 : decode cX12_laysRamp 48 = .ok (.iload 4, 2) := by decide +kernel
theorem dX12_laysRamp_50 : decode cX12_laysRamp 50 = .ok (.iload 8, 2) := by decide +kernel
theorem dX12_laysRamp_52 : decode cX12_laysRamp 52 = .ok (.iload_n 3, 1) := by decide +kernel
theorem dX12_laysRamp_53 : decode cX12_laysRamp 53 = .ok (.invokestatic 289, 3) := by decide +kernel
theorem dX12_laysRamp_56 : decode cX12_laysRamp 56 = .ok (.iadd, 1) := by decide +kernel
theorem dX12_laysRamp_57 : decode cX12_laysRamp 57 = .ok (.iload_n 1, 1) := by decide +kernel
theorem dX12_laysRamp_58 : decode cX12_laysRamp 58 = .ok (.if_icmp .gt 7, 3) := by decide +kernel
theorem dX12_laysRamp_61 : decode cX12_laysRamp 61 = .ok (.iload 8, 2) := by decide +kernel
theorem dX12_laysRamp_63 : decode cX12_laysRamp 63 = .ok (.istore 7, 2) := by decide +kernel
theorem dX12_laysRamp_65 : decode cX12_laysRamp 65 = .ok (.iload 8, 2) := by decide +kernel
theorem dX12_laysRamp_67 : decode cX12_laysRamp 67 = .ok (.iload_n 3, 1) := by decide +kernel
theorem dX12_laysRamp_68 : decode cX12_laysRamp 68 = .ok (.iadd, 1) := by decide +kernel
theorem dX12_laysRamp_69 : decode cX12_laysRamp 69 = .ok (.istore 8, 2) := by decide +kernel
theorem dX12_laysRamp_71 : decode cX12_laysRamp 71 = .ok (.goto (-43), 3) := by decide +kernel
theorem dX12_laysRamp_74 : decode cX12_laysRamp 74 = .ok (.iload 7, 2) := by decide +kernel
theorem dX12_laysRamp_76 : decode cX12_laysRamp 76 = .ok (.ifCond .le 7, 3) := by decide +kernel
theorem dX12_laysRamp_79 : decode cX12_laysRamp 79 = .ok (.iconst 1, 1) := by decide +kernel
theorem dX12_laysRamp_80 : decode cX12_laysRamp 80 = .ok (.goto 4, 3) := by decide +kernel
theorem dX12_laysRamp_83 : decode cX12_laysRamp 83 = .ok (.iconst 0, 1) := by decide +kernel
theorem dX12_laysRamp_84 : decode cX12_laysRamp 84 = .ok (.istore 6, 2) := by decide +kernel
theorem dX12_laysRamp_86 : decode cX12_laysRamp 86 = .ok (.iload 6, 2) := by decide +kernel
theorem dX12_laysRamp_88 : decode cX12_laysRamp 88 = .ok (.ifCond .ne 6, 3) := by decide +kernel
theorem dX12_laysRamp_91 : decode cX12_laysRamp 91 = .ok (.goto (-77), 3) := by decide +kernel
theorem dX12_laysRamp_94 : decode cX12_laysRamp 94 = .ok (.iload 7, 2) := by decide +kernel
theorem dX12_laysRamp_96 : decode cX12_laysRamp 96 = .ok (.istore 5, 2) := by decide +kernel
theorem dX12_laysRamp_98 : decode cX12_laysRamp 98 = .ok (.iload 4, 2) := by decide +kernel
theorem dX12_laysRamp_100 : decode cX12_laysRamp 100 = .ok (.iload 5, 2) := by decide +kernel
theorem dX12_laysRamp_102 : decode cX12_laysRamp 102 = .ok (.iadd, 1) := by decide +kernel
theorem dX12_laysRamp_103 : decode cX12_laysRamp 103 = .ok (.istore 4, 2) := by decide +kernel
theorem dX12_laysRamp_105 : decode cX12_laysRamp 105 = .ok (.aload_n 0, 1) := by decide +kernel
theorem dX12_laysRamp_106 : decode cX12_laysRamp 106 = .ok (.getfield 58, 3) := by decide +kernel
theorem dX12_laysRamp_109 : decode cX12_laysRamp 109 = .ok (.aload_n 0, 1) := by decide +kernel
theorem dX12_laysRamp_110 : decode cX12_laysRamp 110 = .ok (.getfield 286, 3) := by decide +kernel
theorem dX12_laysRamp_113 : decode cX12_laysRamp 113 = .ok (.iload 4, 2) := by decide +kernel
theorem dX12_laysRamp_115 : decode cX12_laysRamp 115 = .ok (.iastore, 1) := by decide +kernel
theorem dX12_laysRamp_116 : decode cX12_laysRamp 116 = .ok (.aload_n 0, 1) := by decide +kernel
theorem dX12_laysRamp_117 : decode cX12_laysRamp 117 = .ok (.dup, 1) := by decide +kernel
theorem dX12_laysRamp_118 : decode cX12_laysRamp 118 = .ok (.getfield 286, 3) := by decide +kernel
theorem dX12_laysRamp_121 : decode cX12_laysRamp 121 = .ok (.iconst 1, 1) := by decide +kernel
theorem dX12_laysRamp_122 : decode cX12_laysRamp 122 = .ok (.iadd, 1) := by decide +kernel
theorem dX12_laysRamp_123 : decode cX12_laysRamp 123 = .ok (.putfield 286, 3) := by decide +kernel
theorem dX12_laysRamp_126 : decode cX12_laysRamp 126 = .ok (.goto (-112), 3) := by decide +kernel
theorem dX12_laysRamp_129 : decode cX12_laysRamp 129 = .ok (.return_, 1) := by decide +kernel
theorem dX12_reached_0 : decode cX12_reached 0 = .ok (.aload_n 0, 1) := by decide +kernel
theorem dX12_reached_1 : decode cX12_reached 1 = .ok (.getfield 286, 3) := by decide +kernel
theorem dX12_reached_4 : decode cX12_reached 4 = .ok (.ifCond .ne 7, 3) := by decide +kernel
theorem dX12_reached_7 : decode cX12_reached 7 = .ok (.iconst 0, 1) := by decide +kernel
theorem dX12_reached_8 : decode cX12_reached 8 = .ok (.goto 14, 3) := by decide +kernel
theorem dX12_reached_11 : decode cX12_reached 11 = .ok (.aload_n 0, 1) := by decide +kernel
theorem dX12_reached_12 : decode cX12_reached 12 = .ok (.getfield 58, 3) := by decide +kernel
theorem dX12_reached_15 : decode cX12_reached 15 = .ok (.aload_n 0, 1) := by decide +kernel
theorem dX12_reached_16 : decode cX12_reached 16 = .ok (.getfield 286, 3) := by decide +kernel
theorem dX12_reached_19 : decode cX12_reached 19 = .ok (.iconst 1, 1) := by decide +kernel
theorem dX12_reached_20 : decode cX12_reached 20 = .ok (.isub, 1) := by decide +kernel
theorem dX12_reached_21 : decode cX12_reached 21 = .ok (.iaload, 1) := by decide +kernel
theorem dX12_reached_22 : decode cX12_reached 22 = .ok (.ireturn, 1) := by decide +kernel
theorem dX12_rampSum_0 : decode cX12_rampSum 0 = .ok (.iconst 0, 1) := by decide +kernel
theorem dX12_rampSum_1 : decode cX12_rampSum 1 = .ok (.istore_n 1, 1) := by decide +kernel
theorem dX12_rampSum_2 : decode cX12_rampSum 2 = .ok (.iconst 0, 1) := by decide +kernel
theorem dX12_rampSum_3 : decode cX12_rampSum 3 = .ok (.istore_n 2, 1) := by decide +kernel
theorem dX12_rampSum_4 : decode cX12_rampSum 4 = .ok (.iload_n 2, 1) := by decide +kernel
theorem dX12_rampSum_5 : decode cX12_rampSum 5 = .ok (.aload_n 0, 1) := by decide +kernel
theorem dX12_rampSum_6 : decode cX12_rampSum 6 = .ok (.getfield 286, 3) := by decide +kernel
theorem dX12_rampSum_9 : decode cX12_rampSum 9 = .ok (.if_icmp .ge 18, 3) := by decide +kernel
theorem dX12_rampSum_12 : decode cX12_rampSum 12 = .ok (.iload_n 1, 1) := by decide +kernel
theorem dX12_rampSum_13 : decode cX12_rampSum 13 = .ok (.aload_n 0, 1) := by decide +kernel
theorem dX12_rampSum_14 : decode cX12_rampSum 14 = .ok (.getfield 58, 3) := by decide +kernel
theorem dX12_rampSum_17 : decode cX12_rampSum 17 = .ok (.iload_n 2, 1) := by decide +kernel
theorem dX12_rampSum_18 : decode cX12_rampSum 18 = .ok (.iaload, 1) := by decide +kernel
theorem dX12_rampSum_19 : decode cX12_rampSum 19 = .ok (.iadd, 1) := by decide +kernel
theorem dX12_rampSum_20 : decode cX12_rampSum 20 = .ok (.istore_n 1, 1) := by decide +kernel
theorem dX12_rampSum_21 : decode cX12_rampSum 21 = .ok (.iinc 2 1, 3) := by decide +kernel
theorem dX12_rampSum_24 : decode cX12_rampSum 24 = .ok (.goto (-20), 3) := by decide +kernel
theorem dX12_rampSum_27 : decode cX12_rampSum 27 = .ok (.iload_n 1, 1) := by decide +kernel
theorem dX12_rampSum_28 : decode cX12_rampSum 28 = .ok (.ireturn, 1) := by decide +kernel
theorem dX12_isRamp_0 : decode cX12_isRamp 0 = .ok (.iload_n 0, 1) := by decide +kernel
theorem dX12_isRamp_1 : decode cX12_isRamp 1 = .ok (.i2l, 1) := by decide +kernel
theorem dX12_isRamp_2 : decode cX12_isRamp 2 = .ok (.lconst 0, 1) := by decide +kernel
theorem dX12_isRamp_3 : decode cX12_isRamp 3 = .ok (.ldc2_w 292, 3) := by decide +kernel
theorem dX12_isRamp_6 : decode cX12_isRamp 6 = .ok (.invokestatic 91, 3) := by decide +kernel
theorem dX12_isRamp_9 : decode cX12_isRamp 9 = .ok (.ifCond .eq 31, 3) := by decide +kernel
theorem dX12_isRamp_12 : decode cX12_isRamp 12 = .ok (.iload_n 1, 1) := by decide +kernel
theorem dX12_isRamp_13 : decode cX12_isRamp 13 = .ok (.i2l, 1) := by decide +kernel
theorem dX12_isRamp_14 : decode cX12_isRamp 14 = .ok (.lconst 1, 1) := by decide +kernel
theorem dX12_isRamp_15 : decode cX12_isRamp 15 = .ok (.ldc2_w 294, 3) := by decide +kernel
theorem dX12_isRamp_18 : decode cX12_isRamp 18 = .ok (.invokestatic 91, 3) := by decide +kernel
theorem dX12_isRamp_21 : decode cX12_isRamp 21 = .ok (.ifCond .eq 19, 3) := by decide +kernel
theorem dX12_isRamp_24 : decode cX12_isRamp 24 = .ok (.iload_n 2, 1) := by decide +kernel
theorem dX12_isRamp_25 : decode cX12_isRamp 25 = .ok (.i2l, 1) := by decide +kernel
theorem dX12_isRamp_26 : decode cX12_isRamp 26 = .ok (.lconst 1, 1) := by decide +kernel
theorem dX12_isRamp_27 : decode cX12_isRamp 27 = .ok (.ldc2_w 296, 3) := by decide +kernel
theorem dX12_isRamp_30 : decode cX12_isRamp 30 = .ok (.invokestatic 91, 3) := by decide +kernel
theorem dX12_isRamp_33 : decode cX12_isRamp 33 = .ok (.ifCond .eq 7, 3) := by decide +kernel
theorem dX12_isRamp_36 : decode cX12_isRamp 36 = .ok (.iconst 1, 1) := by decide +kernel
theorem dX12_isRamp_37 : decode cX12_isRamp 37 = .ok (.goto 4, 3) := by decide +kernel
theorem dX12_isRamp_40 : decode cX12_isRamp 40 = .ok (.iconst 0, 1) := by decide +kernel
theorem dX12_isRamp_41 : decode cX12_isRamp 41 = .ok (.ireturn, 1) := by decide +kernel
theorem dX12_ramp_0 : decode cX12_ramp 0 = .ok (.iload_n 1, 1) := by decide +kernel
theorem dX12_ramp_1 : decode cX12_ramp 1 = .ok (.iload_n 2, 1) := by decide +kernel
theorem dX12_ramp_2 : decode cX12_ramp 2 = .ok (.iload_n 3, 1) := by decide +kernel
theorem dX12_ramp_3 : decode cX12_ramp 3 = .ok (.invokestatic 298, 3) := by decide +kernel
theorem dX12_ramp_6 : decode cX12_ramp 6 = .ok (.ifCond .ne 5, 3) := by decide +kernel
theorem dX12_ramp_9 : decode cX12_ramp 9 = .ok (.iconst (-1), 1) := by decide +kernel
theorem dX12_ramp_10 : decode cX12_ramp 10 = .ok (.ireturn, 1) := by decide +kernel
theorem dX12_ramp_11 : decode cX12_ramp 11 = .ok (.aload_n 0, 1) := by decide +kernel
theorem dX12_ramp_12 : decode cX12_ramp 12 = .ok (.iload_n 1, 1) := by decide +kernel
theorem dX12_ramp_13 : decode cX12_ramp 13 = .ok (.iload_n 2, 1) := by decide +kernel
theorem dX12_ramp_14 : decode cX12_ramp 14 = .ok (.iload_n 3, 1) := by decide +kernel
theorem dX12_ramp_15 : decode cX12_ramp 15 = .ok (.invokevirtual 302, 3) := by decide +kernel
theorem dX12_ramp_18 : decode cX12_ramp 18 = .ok (.iload 4, 2) := by decide +kernel
theorem dX12_ramp_20 : decode cX12_ramp 20 = .ok (.ifCond .ne 10, 3) := by decide +kernel
theorem dX12_ramp_23 : decode cX12_ramp 23 = .ok (.aload_n 0, 1) := by decide +kernel
theorem dX12_ramp_24 : decode cX12_ramp 24 = .ok (.getfield 286, 3) := by decide +kernel
theorem dX12_ramp_27 : decode cX12_ramp 27 = .ok (.goto 30, 3) := by decide +kernel
theorem dX12_ramp_30 : decode cX12_ramp 30 = .ok (.iload 4, 2) := by decide +kernel
theorem dX12_ramp_32 : decode cX12_ramp 32 = .ok (.iconst 1, 1) := by decide +kernel
theorem dX12_ramp_33 : decode cX12_ramp 33 = .ok (.if_icmp .ne 10, 3) := by decide +kernel
theorem dX12_ramp_36 : decode cX12_ramp 36 = .ok (.aload_n 0, 1) := by decide +kernel
theorem dX12_ramp_37 : decode cX12_ramp 37 = .ok (.invokevirtual 306, 3) := by decide +kernel
theorem dX12_ramp_40 : decode cX12_ramp 40 = .ok (.goto 17, 3) := by decide +kernel
theorem dX12_ramp_43 : decode cX12_ramp 43 = .ok (.iload 4, 2) := by decide +kernel
theorem dX12_ramp_45 : decode cX12_ramp 45 = .ok (.iconst 2, 1) := by decide +kernel
theorem dX12_ramp_46 : decode cX12_ramp 46 = .ok (.if_icmp .ne 10, 3) := by decide +kernel
theorem dX12_ramp_49 : decode cX12_ramp 49 = .ok (.aload_n 0, 1) := by decide +kernel
theorem dX12_ramp_50 : decode cX12_ramp 50 = .ok (.invokevirtual 309, 3) := by decide +kernel
theorem dX12_ramp_53 : decode cX12_ramp 53 = .ok (.goto 4, 3) := by decide +kernel
theorem dX12_ramp_56 : decode cX12_ramp 56 = .ok (.iconst (-1), 1) := by decide +kernel
theorem dX12_ramp_57 : decode cX12_ramp 57 = .ok (.ireturn, 1) := by decide +kernel
theorem dX12_rampAt_0 : decode cX12_rampAt 0 = .ok (.iload_n 1, 1) := by decide +kernel
theorem dX12_rampAt_1 : decode cX12_rampAt 1 = .ok (.iload_n 2, 1) := by decide +kernel
theorem dX12_rampAt_2 : decode cX12_rampAt 2 = .ok (.iload_n 3, 1) := by decide +kernel
theorem dX12_rampAt_3 : decode cX12_rampAt 3 = .ok (.invokestatic 298, 3) := by decide +kernel
theorem dX12_rampAt_6 : decode cX12_rampAt 6 = .ok (.ifCond .ne 5, 3) := by decide +kernel
theorem dX12_rampAt_9 : decode cX12_rampAt 9 = .ok (.iconst (-1), 1) := by decide +kernel
theorem dX12_rampAt_10 : decode cX12_rampAt 10 = .ok (.ireturn, 1) := by decide +kernel
theorem dX12_rampAt_11 : decode cX12_rampAt 11 = .ok (.aload_n 0, 1) := by decide +kernel
theorem dX12_rampAt_12 : decode cX12_rampAt 12 = .ok (.iload_n 1, 1) := by decide +kernel
theorem dX12_rampAt_13 : decode cX12_rampAt 13 = .ok (.iload_n 2, 1) := by decide +kernel
theorem dX12_rampAt_14 : decode cX12_rampAt 14 = .ok (.iload_n 3, 1) := by decide +kernel
theorem dX12_rampAt_15 : decode cX12_rampAt 15 = .ok (.invokevirtual 302, 3) := by decide +kernel
theorem dX12_rampAt_18 : decode cX12_rampAt 18 = .ok (.iload 4, 2) := by decide +kernel
theorem dX12_rampAt_20 : decode cX12_rampAt 20 = .ok (.i2l, 1) := by decide +kernel
theorem dX12_rampAt_21 : decode cX12_rampAt 21 = .ok (.lconst 1, 1) := by decide +kernel
theorem dX12_rampAt_22 : decode cX12_rampAt 22 = .ok (.aload_n 0, 1) := by decide +kernel
theorem dX12_rampAt_23 : decode cX12_rampAt 23 = .ok (.getfield 286, 3) := by decide +kernel
theorem dX12_rampAt_26 : decode cX12_rampAt 26 = .ok (.i2l, 1) := by decide +kernel
theorem dX12_rampAt_27 : decode cX12_rampAt 27 = .ok (.invokestatic 91, 3) := by decide +kernel
theorem dX12_rampAt_30 : decode cX12_rampAt 30 = .ok (.ifCond .eq 15, 3) := by decide +kernel
theorem dX12_rampAt_33 : decode cX12_rampAt 33 = .ok (.aload_n 0, 1) := by decide +kernel
theorem dX12_rampAt_34 : decode cX12_rampAt 34 = .ok (.getfield 58, 3) := by decide +kernel
theorem dX12_rampAt_37 : decode cX12_rampAt 37 = .ok (.iload 4, 2) := by decide +kernel
theorem dX12_rampAt_39 : decode cX12_rampAt 39 = .ok (.iconst 1, 1) := by decide +kernel
theorem dX12_rampAt_40 : decode cX12_rampAt 40 = .ok (.isub, 1) := by decide +kernel
theorem dX12_rampAt_41 : decode cX12_rampAt 41 = .ok (.iaload, 1) := by decide +kernel
theorem dX12_rampAt_42 : decode cX12_rampAt 42 = .ok (.goto 4, 3) := by decide +kernel
theorem dX12_rampAt_45 : decode cX12_rampAt 45 = .ok (.iconst (-1), 1) := by decide +kernel
theorem dX12_rampAt_46 : decode cX12_rampAt 46 = .ok (.ireturn, 1) := by decide +kernel
theorem dX12_bandsAt_0 : decode cX12_bandsAt 0 = .ok (.iconst 0, 1) := by decide +kernel
theorem dX12_bandsAt_1 : decode cX12_bandsAt 1 = .ok (.istore_n 3, 1) := by decide +kernel
theorem dX12_bandsAt_2 : decode cX12_bandsAt 2 = .ok (.iconst 0, 1) := by decide +kernel
theorem dX12_bandsAt_3 : decode cX12_bandsAt 3 = .ok (.istore 4, 2) := by decide +kernel
theorem dX12_bandsAt_5 : decode cX12_bandsAt 5 = .ok (.iload 4, 2) := by decide +kernel
theorem dX12_bandsAt_7 : decode cX12_bandsAt 7 = .ok (.aload_n 0, 1) := by decide +kernel
theorem dX12_bandsAt_8 : decode cX12_bandsAt 8 = .ok (.getfield 243, 3) := by decide +kernel
theorem dX12_bandsAt_11 : decode cX12_bandsAt 11 = .ok (.if_icmp .ge 65, 3) := by decide +kernel
theorem dX12_bandsAt_14 : decode cX12_bandsAt 14 = .ok (.iload_n 3, 1) := by decide +kernel
theorem dX12_bandsAt_15 : decode cX12_bandsAt 15 = .ok (.aload_n 0, 1) := by decide +kernel
theorem dX12_bandsAt_16 : decode cX12_bandsAt 16 = .ok (.getfield 33, 3) := by decide +kernel
theorem dX12_bandsAt_19 : decode cX12_bandsAt 19 = .ok (.iconst 3, 1) := by decide +kernel
theorem dX12_bandsAt_20 : decode cX12_bandsAt 20 = .ok (.iload 4, 2) := by decide +kernel
theorem dX12_bandsAt_22 : decode cX12_bandsAt 22 = .ok (.imul, 1) := by decide +kernel
theorem dX12_bandsAt_23 : decode cX12_bandsAt 23 = .ok (.iaload, 1) := by decide +kernel
theorem dX12_bandsAt_24 : decode cX12_bandsAt 24 = .ok (.iload_n 1, 1) := by decide +kernel
theorem dX12_bandsAt_25 : decode cX12_bandsAt 25 = .ok (.if_icmp .ne 39, 3) := by decide +kernel
theorem dX12_bandsAt_28 : decode cX12_bandsAt 28 = .ok (.iload_n 2, 1) := by decide +kernel
theorem dX12_bandsAt_29 : decode cX12_bandsAt 29 = .ok (.i2l, 1) := by decide +kernel
theorem dX12_bandsAt_30 : decode cX12_bandsAt 30 = .ok (.aload_n 0, 1) := by decide +kernel
theorem dX12_bandsAt_31 : decode cX12_bandsAt 31 = .ok (.getfield 33, 3) := by decide +kernel
theorem dX12_bandsAt_34 : decode cX12_bandsAt 34 = .ok (.iconst 3, 1) := by decide +kernel
theorem dX12_bandsAt_35 : decode cX12_bandsAt 35 = .ok (.iload 4, 2) := by decide +kernel
theorem dX12_bandsAt_37 : decode cX12_bandsAt 37 = .ok (.imul, 1) := by decide +kernel
theorem dX12_bandsAt_38 : decode cX12_bandsAt 38 = .ok (.iconst 1, 1) := by decide +kernel
theorem dX12_bandsAt_39 : decode cX12_bandsAt 39 = .ok (.iadd, 1) := by decide +kernel
theorem dX12_bandsAt_40 : decode cX12_bandsAt 40 = .ok (.iaload, 1) := by decide +kernel
theorem dX12_bandsAt_41 : decode cX12_bandsAt 41 = .ok (.i2l, 1) := by decide +kernel
theorem dX12_bandsAt_42 : decode cX12_bandsAt 42 = .ok (.aload_n 0, 1) := by decide +kernel
theorem dX12_bandsAt_43 : decode cX12_bandsAt 43 = .ok (.getfield 33, 3) := by decide +kernel
theorem dX12_bandsAt_46 : decode cX12_bandsAt 46 = .ok (.iconst 3, 1) := by decide +kernel
theorem dX12_bandsAt_47 : decode cX12_bandsAt 47 = .ok (.iload 4, 2) := by decide +kernel
theorem dX12_bandsAt_49 : decode cX12_bandsAt 49 = .ok (.imul, 1) := by decide +kernel
theorem dX12_bandsAt_50 : decode cX12_bandsAt 50 = .ok (.iconst 2, 1) := by decide +kernel
theorem dX12_bandsAt_51 : decode cX12_bandsAt 51 = .ok (.iadd, 1) := by decide +kernel
theorem dX12_bandsAt_52 : decode cX12_bandsAt 52 = .ok (.iaload, 1) := by decide +kernel
theorem dX12_bandsAt_53 : decode cX12_bandsAt 53 = .ok (.i2l, 1) := by decide +kernel
theorem dX12_bandsAt_54 : decode cX12_bandsAt 54 = .ok (.invokestatic 91, 3) := by decide +kernel
theorem dX12_bandsAt_57 : decode cX12_bandsAt 57 = .ok (.ifCond .eq 7, 3) := by decide +kernel
theorem dX12_bandsAt_60 : decode cX12_bandsAt 60 = .ok (.iconst 1, 1) := by decide +kernel
theorem dX12_bandsAt_61 : decode cX12_bandsAt 61 = .ok (.goto 4, 3) := by decide +kernel
theorem dX12_bandsAt_64 : decode cX12_bandsAt 64 = .ok (.iconst 0, 1) := by decide +kernel
theorem dX12_bandsAt_65 : decode cX12_bandsAt 65 = .ok (.invokestatic 279, 3) := by decide +kernel
theorem dX12_bandsAt_68 : decode cX12_bandsAt 68 = .ok (.iadd, 1) := by decide +kernel
theorem dX12_bandsAt_69 : decode cX12_bandsAt 69 = .ok (.istore_n 3, 1) := by decide +kernel
theorem dX12_bandsAt_70 : decode cX12_bandsAt 70 = .ok (.iinc 4 1, 3) := by decide +kernel
theorem dX12_bandsAt_73 : decode cX12_bandsAt 73 = .ok (.goto (-68), 3) := by decide +kernel
theorem dX12_bandsAt_76 : decode cX12_bandsAt 76 = .ok (.iload_n 3, 1) := by decide +kernel
theorem dX12_bandsAt_77 : decode cX12_bandsAt 77 = .ok (.ireturn, 1) := by decide +kernel
theorem dX12_isAxis_0 : decode cX12_isAxis 0 = .ok (.iload_n 1, 1) := by decide +kernel
theorem dX12_isAxis_1 : decode cX12_isAxis 1 = .ok (.i2l, 1) := by decide +kernel
theorem dX12_isAxis_2 : decode cX12_isAxis 2 = .ok (.lconst 0, 1) := by decide +kernel
theorem dX12_isAxis_3 : decode cX12_isAxis 3 = .ok (.aload_n 0, 1) := by decide +kernel
theorem dX12_isAxis_4 : decode cX12_isAxis 4 = .ok (.getfield 240, 3) := by decide +kernel
theorem dX12_isAxis_7 : decode cX12_isAxis 7 = .ok (.iconst 1, 1) := by decide +kernel
theorem dX12_isAxis_8 : decode cX12_isAxis 8 = .ok (.isub, 1) := by decide +kernel
theorem dX12_isAxis_9 : decode cX12_isAxis 9 = .ok (.i2l, 1) := by decide +kernel
theorem dX12_isAxis_10 : decode cX12_isAxis 10 = .ok (.invokestatic 91, 3) := by decide +kernel
theorem dX12_isAxis_13 : decode cX12_isAxis 13 = .ok (.ireturn, 1) := by decide +kernel
theorem dX12_bands_0 : decode cX12_bands 0 = .ok (.aload_n 0, 1) := by decide +kernel
theorem dX12_bands_1 : decode cX12_bands 1 = .ok (.iload_n 1, 1) := by decide +kernel
theorem dX12_bands_2 : decode cX12_bands 2 = .ok (.invokevirtual 312, 3) := by decide +kernel
theorem dX12_bands_5 : decode cX12_bands 5 = .ok (.ifCond .eq 24, 3) := by decide +kernel
theorem dX12_bands_8 : decode cX12_bands 8 = .ok (.iload_n 2, 1) := by decide +kernel
theorem dX12_bands_9 : decode cX12_bands 9 = .ok (.i2l, 1) := by decide +kernel
theorem dX12_bands_10 : decode cX12_bands 10 = .ok (.lconst 1, 1) := by decide +kernel
theorem dX12_bands_11 : decode cX12_bands 11 = .ok (.ldc2_w 292, 3) := by decide +kernel
theorem dX12_bands_14 : decode cX12_bands 14 = .ok (.invokestatic 91, 3) := by decide +kernel
theorem dX12_bands_17 : decode cX12_bands 17 = .ok (.ifCond .eq 12, 3) := by decide +kernel
theorem dX12_bands_20 : decode cX12_bands 20 = .ok (.aload_n 0, 1) := by decide +kernel
theorem dX12_bands_21 : decode cX12_bands 21 = .ok (.iload_n 1, 1) := by decide +kernel
theorem dX12_bands_22 : decode cX12_bands 22 = .ok (.iload_n 2, 1) := by decide +kernel
theorem dX12_bands_23 : decode cX12_bands 23 = .ok (.invokevirtual 315, 3) := by decide +kernel
theorem dX12_bands_26 : decode cX12_bands 26 = .ok (.goto 4, 3) := by decide +kernel
theorem dX12_bands_29 : decode cX12_bands 29 = .ok (.iconst (-1), 1) := by decide +kernel
theorem dX12_bands_30 : decode cX12_bands 30 = .ok (.ireturn, 1) := by decide +kernel
theorem dX12_laysTop_0 : decode cX12_laysTop 0 = .ok (.iload_n 3, 1) := by decide +kernel
theorem dX12_laysTop_1 : decode cX12_laysTop 1 = .ok (.istore 6, 2) := by decide +kernel
theorem dX12_laysTop_3 : decode cX12_laysTop 3 = .ok (.aload_n 0, 1) := by decide +kernel
theorem dX12_laysTop_4 : decode cX12_laysTop 4 = .ok (.iload 6, 2) := by decide +kernel
theorem dX12_laysTop_6 : decode cX12_laysTop 6 = .ok (.iload 4, 2) := by decide +kernel
theorem dX12_laysTop_8 : decode cX12_laysTop 8 = .ok (.iload 5, 2) := by decide +kernel
theorem dX12_laysTop_10 : decode cX12_laysTop 10 = .ok (.invokevirtual 302, 3) := by decide +kernel
theorem dX12_laysTop_13 : decode cX12_laysTop 13 = .ok (.iload 6, 2) := by decide +kernel
theorem dX12_laysTop_15 : decode cX12_laysTop 15 = .ok (.ifCond .le 48, 3) := by decide +kernel
theorem dX12_laysTop_18 : decode cX12_laysTop 18 = .ok (.iconst 2, 1) := by decide +kernel
theorem dX12_laysTop_19 : decode cX12_laysTop 19 = .ok (.aload_n 0, 1) := by decide +kernel
theorem dX12_laysTop_20 : decode cX12_laysTop 20 = .ok (.invokevirtual 309, 3) := by decide +kernel
theorem dX12_laysTop_23 : decode cX12_laysTop 23 = .ok (.imul, 1) := by decide +kernel
theorem dX12_laysTop_24 : decode cX12_laysTop 24 = .ok (.iload_n 2, 1) := by decide +kernel
theorem dX12_laysTop_25 : decode cX12_laysTop 25 = .ok (.if_icmp .gt 22, 3) := by decide +kernel
theorem dX12_laysTop_28 : decode cX12_laysTop 28 = .ok (.aload_n 0, 1) := by decide +kernel
theorem dX12_laysTop_29 : decode cX12_laysTop 29 = .ok (.invokevirtual 306, 3) := by decide +kernel
theorem dX12_laysTop_32 : decode cX12_laysTop 32 = .ok (.ifCond .le 31, 3) := by decide +kernel
theorem dX12_laysTop_35 : decode cX12_laysTop 35 = .ok (.aload_n 0, 1) := by decide +kernel
theorem dX12_laysTop_36 : decode cX12_laysTop 36 = .ok (.iload_n 1, 1) := by decide +kernel
theorem dX12_laysTop_37 : decode cX12_laysTop 37 = .ok (.aload_n 0, 1) := by decide +kernel
theorem dX12_laysTop_38 : decode cX12_laysTop 38 = .ok (.invokevirtual 306, 3) := by decide +kernel
theorem dX12_laysTop_41 : decode cX12_laysTop 41 = .ok (.invokevirtual 315, 3) := by decide +kernel
theorem dX12_laysTop_44 : decode cX12_laysTop 44 = .ok (.ifCond .le 19, 3) := by decide +kernel
theorem dX12_laysTop_47 : decode cX12_laysTop 47 = .ok (.iinc 6 (-1), 3) := by decide +kernel
theorem dX12_laysTop_50 : decode cX12_laysTop 50 = .ok (.aload_n 0, 1) := by decide +kernel
theorem dX12_laysTop_51 : decode cX12_laysTop 51 = .ok (.iload 6, 2) := by decide +kernel
theorem dX12_laysTop_53 : decode cX12_laysTop 53 = .ok (.iload 4, 2) := by decide +kernel
theorem dX12_laysTop_55 : decode cX12_laysTop 55 = .ok (.iload 5, 2) := by decide +kernel
theorem dX12_laysTop_57 : decode cX12_laysTop 57 = .ok (.invokevirtual 302, 3) := by decide +kernel
theorem dX12_laysTop_60 : decode cX12_laysTop 60 = .ok (.goto (-47), 3) := by decide +kernel
theorem dX12_laysTop_63 : decode cX12_laysTop 63 = .ok (.return_, 1) := by decide +kernel
theorem dX12_evenTicks_0 : decode cX12_evenTicks 0 = .ok (.iload_n 1, 1) := by decide +kernel
theorem dX12_evenTicks_1 : decode cX12_evenTicks 1 = .ok (.iconst 1, 1) := by decide +kernel
theorem dX12_evenTicks_2 : decode cX12_evenTicks 2 = .ok (.aload_n 0, 1) := by decide +kernel
theorem dX12_evenTicks_3 : decode cX12_evenTicks 3 = .ok (.invokevirtual 306, 3) := by decide +kernel
theorem dX12_evenTicks_6 : decode cX12_evenTicks 6 = .ok (.invokestatic 318, 3) := by decide +kernel
theorem dX12_evenTicks_9 : decode cX12_evenTicks 9 = .ok (.iadd, 1) := by decide +kernel
theorem dX12_evenTicks_10 : decode cX12_evenTicks 10 = .ok (.iconst 1, 1) := by decide +kernel
theorem dX12_evenTicks_11 : decode cX12_evenTicks 11 = .ok (.isub, 1) := by decide +kernel
theorem dX12_evenTicks_12 : decode cX12_evenTicks 12 = .ok (.iconst 1, 1) := by decide +kernel
theorem dX12_evenTicks_13 : decode cX12_evenTicks 13 = .ok (.aload_n 0, 1) := by decide +kernel
theorem dX12_evenTicks_14 : decode cX12_evenTicks 14 = .ok (.invokevirtual 306, 3) := by decide +kernel
theorem dX12_evenTicks_17 : decode cX12_evenTicks 17 = .ok (.invokestatic 318, 3) := by decide +kernel
theorem dX12_evenTicks_20 : decode cX12_evenTicks 20 = .ok (.idiv, 1) := by decide +kernel
theorem dX12_evenTicks_21 : decode cX12_evenTicks 21 = .ok (.ireturn, 1) := by decide +kernel
theorem dX12_axisAt_0 : decode cX12_axisAt 0 = .ok (.aload_n 0, 1) := by decide +kernel
theorem dX12_axisAt_1 : decode cX12_axisAt 1 = .ok (.getfield 7, 3) := by decide +kernel
theorem dX12_axisAt_4 : decode cX12_axisAt 4 = .ok (.bipush 48, 2) := by decide +kernel
theorem dX12_axisAt_6 : decode cX12_axisAt 6 = .ok (.bipush 6, 2) := by decide +kernel
theorem dX12_axisAt_8 : decode cX12_axisAt 8 = .ok (.iload_n 1, 1) := by decide +kernel
theorem dX12_axisAt_9 : decode cX12_axisAt 9 = .ok (.imul, 1) := by decide +kernel
theorem dX12_axisAt_10 : decode cX12_axisAt 10 = .ok (.iadd, 1) := by decide +kernel
theorem dX12_axisAt_11 : decode cX12_axisAt 11 = .ok (.iload_n 2, 1) := by decide +kernel
theorem dX12_axisAt_12 : decode cX12_axisAt 12 = .ok (.iadd, 1) := by decide +kernel
theorem dX12_axisAt_13 : decode cX12_axisAt 13 = .ok (.iaload, 1) := by decide +kernel
theorem dX12_axisAt_14 : decode cX12_axisAt 14 = .ok (.ireturn, 1) := by decide +kernel
theorem dX12_setsAxis_0 : decode cX12_setsAxis 0 = .ok (.aload_n 0, 1) := by decide +kernel
theorem dX12_setsAxis_1 : decode cX12_setsAxis 1 = .ok (.getfield 7, 3) := by decide +kernel
theorem dX12_setsAxis_4 : decode cX12_setsAxis 4 = .ok (.bipush 48, 2) := by decide +kernel
theorem dX12_setsAxis_6 : decode cX12_setsAxis 6 = .ok (.bipush 6, 2) := by decide +kernel
theorem dX12_setsAxis_8 : decode cX12_setsAxis 8 = .ok (.iload_n 1, 1) := by decide +kernel
theorem dX12_setsAxis_9 : decode cX12_setsAxis 9 = .ok (.imul, 1) := by decide +kernel
theorem dX12_setsAxis_10 : decode cX12_setsAxis 10 = .ok (.iadd, 1) := by decide +kernel
theorem dX12_setsAxis_11 : decode cX12_setsAxis 11 = .ok (.iload_n 2, 1) := by decide +kernel
theorem dX12_setsAxis_12 : decode cX12_setsAxis 12 = .ok (.iadd, 1) := by decide +kernel
theorem dX12_setsAxis_13 : decode cX12_setsAxis 13 = .ok (.iload_n 3, 1) := by decide +kernel
theorem dX12_setsAxis_14 : decode cX12_setsAxis 14 = .ok (.iastore, 1) := by decide +kernel
theorem dX12_setsAxis_15 : decode cX12_setsAxis 15 = .ok (.return_, 1) := by decide +kernel
theorem dX12_one_0 : decode cX12_one 0 = .ok (.iload_n 3, 1) := by decide +kernel
theorem dX12_one_1 : decode cX12_one 1 = .ok (.ifCond .ne 7, 3) := by decide +kernel
theorem dX12_one_4 : decode cX12_one 4 = .ok (.iload_n 0, 1) := by decide +kernel
theorem dX12_one_5 : decode cX12_one 5 = .ok (.goto 13, 3) := by decide +kernel
theorem dX12_one_8 : decode cX12_one 8 = .ok (.iload_n 3, 1) := by decide +kernel
theorem dX12_one_9 : decode cX12_one 9 = .ok (.iconst 1, 1) := by decide +kernel
theorem dX12_one_10 : decode cX12_one 10 = .ok (.if_icmp .ne 7, 3) := by decide +kernel
theorem dX12_one_13 : decode cX12_one 13 = .ok (.iload_n 1, 1) := by decide +kernel
theorem dX12_one_14 : decode cX12_one 14 = .ok (.goto 4, 3) := by decide +kernel
theorem dX12_one_17 : decode cX12_one 17 = .ok (.iload_n 2, 1) := by decide +kernel
theorem dX12_one_18 : decode cX12_one 18 = .ok (.ireturn, 1) := by decide +kernel
theorem dX12_areRight_0 : decode cX12_areRight 0 = .ok (.iconst 0, 1) := by decide +kernel
theorem dX12_areRight_1 : decode cX12_areRight 1 = .ok (.istore 4, 2) := by decide +kernel
theorem dX12_areRight_3 : decode cX12_areRight 3 = .ok (.iload 4, 2) := by decide +kernel
theorem dX12_areRight_5 : decode cX12_areRight 5 = .ok (.aload_n 0, 1) := by decide +kernel
theorem dX12_areRight_6 : decode cX12_areRight 6 = .ok (.getfield 240, 3) := by decide +kernel
theorem dX12_areRight_9 : decode cX12_areRight 9 = .ok (.if_icmp .ge 32, 3) := by decide +kernel
theorem dX12_areRight_12 : decode cX12_areRight 12 = .ok (.iload_n 1, 1) := by decide +kernel
theorem dX12_areRight_13 : decode cX12_areRight 13 = .ok (.iload_n 2, 1) := by decide +kernel
theorem dX12_areRight_14 : decode cX12_areRight 14 = .ok (.iload_n 3, 1) := by decide +kernel
theorem dX12_areRight_15 : decode cX12_areRight 15 = .ok (.iload 4, 2) := by decide +kernel
theorem dX12_areRight_17 : decode cX12_areRight 17 = .ok (.invokestatic 321, 3) := by decide +kernel
theorem dX12_areRight_20 : decode cX12_areRight 20 = .ok (.i2l, 1) := by decide +kernel
theorem dX12_areRight_21 : decode cX12_areRight 21 = .ok (.ldc2_w 325, 3) := by decide +kernel
theorem dX12_areRight_24 : decode cX12_areRight 24 = .ok (.ldc2_w 327, 3) := by decide +kernel
theorem dX12_areRight_27 : decode cX12_areRight 27 = .ok (.invokestatic 91, 3) := by decide +kernel
theorem dX12_areRight_30 : decode cX12_areRight 30 = .ok (.ifCond .ne 5, 3) := by decide +kernel
theorem dX12_areRight_33 : decode cX12_areRight 33 = .ok (.iconst 0, 1) := by decide +kernel
theorem dX12_areRight_34 : decode cX12_areRight 34 = .ok (.ireturn, 1) := by decide +kernel
theorem dX12_areRight_35 : decode cX12_areRight 35 = .ok (.iinc 4 1, 3) := by decide +kernel
theorem dX12_areRight_38 : decode cX12_areRight 38 = .ok (.goto (-35), 3) := by decide +kernel
theorem dX12_areRight_41 : decode cX12_areRight 41 = .ok (.aload_n 0, 1) := by decide +kernel
theorem dX12_areRight_42 : decode cX12_areRight 42 = .ok (.getfield 240, 3) := by decide +kernel
theorem dX12_areRight_45 : decode cX12_areRight 45 = .ok (.ifCond .le 7, 3) := by decide +kernel
theorem dX12_areRight_48 : decode cX12_areRight 48 = .ok (.iconst 1, 1) := by decide +kernel
theorem dX12_areRight_49 : decode cX12_areRight 49 = .ok (.goto 4, 3) := by decide +kernel
theorem dX12_areRight_52 : decode cX12_areRight 52 = .ok (.iconst 0, 1) := by decide +kernel
theorem dX12_areRight_53 : decode cX12_areRight 53 = .ok (.ireturn, 1) := by decide +kernel
theorem dX12_least_0 : decode cX12_least 0 = .ok (.iconst 0, 1) := by decide +kernel
theorem dX12_least_1 : decode cX12_least 1 = .ok (.istore_n 2, 1) := by decide +kernel
theorem dX12_least_2 : decode cX12_least 2 = .ok (.iconst 0, 1) := by decide +kernel
theorem dX12_least_3 : decode cX12_least 3 = .ok (.istore_n 3, 1) := by decide +kernel
theorem dX12_least_4 : decode cX12_least 4 = .ok (.iload_n 3, 1) := by decide +kernel
theorem dX12_least_5 : decode cX12_least 5 = .ok (.aload_n 0, 1) := by decide +kernel
theorem dX12_least_6 : decode cX12_least 6 = .ok (.getfield 240, 3) := by decide +kernel
theorem dX12_least_9 : decode cX12_least 9 = .ok (.if_icmp .ge 69, 3) := by decide +kernel
theorem dX12_least_12 : decode cX12_least 12 = .ok (.aload_n 0, 1) := by decide +kernel
theorem dX12_least_13 : decode cX12_least 13 = .ok (.getfield 61, 3) := by decide +kernel
theorem dX12_least_16 : decode cX12_least 16 = .ok (.iload_n 3, 1) := by decide +kernel
theorem dX12_least_17 : decode cX12_least 17 = .ok (.iaload, 1) := by decide +kernel
theorem dX12_least_18 : decode cX12_least 18 = .ok (.ifCond .ne 6, 3) := by decide +kernel
theorem dX12_least_21 : decode cX12_least 21 = .ok (.goto 51, 3) := by decide +kernel
theorem dX12_least_24 : decode cX12_least 24 = .ok (.aload_n 0, 1) := by decide +kernel
theorem dX12_least_25 : decode cX12_least 25 = .ok (.getfield 27, 3) := by decide +kernel
theorem dX12_least_28 : decode cX12_least 28 = .ok (.bipush 6, 2) := by decide +kernel
theorem dX12_least_30 : decode cX12_least 30 = .ok (.iload_n 3, 1) := by decide +kernel
theorem dX12_least_31 : decode cX12_least 31 = .ok (.imul, 1) := by decide +kernel
theorem dX12_least_32 : decode cX12_least 32 = .ok (.iload_n 1, 1) := by decide +kernel
theorem dX12_least_33 : decode cX12_least 33 = .ok (.iadd, 1) := by decide +kernel
theorem dX12_least_34 : decode cX12_least 34 = .ok (.iaload, 1) := by decide +kernel
theorem dX12_least_35 : decode cX12_least 35 = .ok (.i2l, 1) := by decide +kernel
theorem dX12_least_36 : decode cX12_least 36 = .ok (.aload_n 0, 1) := by decide +kernel
theorem dX12_least_37 : decode cX12_least 37 = .ok (.getfield 329, 3) := by decide +kernel
theorem dX12_least_40 : decode cX12_least 40 = .ok (.i2l, 1) := by decide +kernel
theorem dX12_least_41 : decode cX12_least 41 = .ok (.lmul, 1) := by decide +kernel
theorem dX12_least_42 : decode cX12_least 42 = .ok (.aload_n 0, 1) := by decide +kernel
theorem dX12_least_43 : decode cX12_least 43 = .ok (.getfield 61, 3) := by decide +kernel
theorem dX12_least_46 : decode cX12_least 46 = .ok (.iload_n 3, 1) := by decide +kernel
theorem dX12_least_47 : decode cX12_least 47 = .ok (.iaload, 1) := by decide +kernel
theorem dX12_least_48 : decode cX12_least 48 = .ok (.invokestatic 273, 3) := by decide +kernel
theorem dX12_least_51 : decode cX12_least 51 = .ok (.i2l, 1) := by decide +kernel
theorem dX12_least_52 : decode cX12_least 52 = .ok (.ldiv, 1) := by decide +kernel
theorem dX12_least_53 : decode cX12_least 53 = .ok (.l2i, 1) := by decide +kernel
theorem dX12_least_54 : decode cX12_least 54 = .ok (.istore 4, 2) := by decide +kernel
theorem dX12_least_56 : decode cX12_least 56 = .ok (.iload_n 2, 1) := by decide +kernel
theorem dX12_least_57 : decode cX12_least 57 = .ok (.ifCond .ne 8, 3) := by decide +kernel
theorem dX12_least_60 : decode cX12_least 60 = .ok (.iload 4, 2) := by decide +kernel
theorem dX12_least_62 : decode cX12_least 62 = .ok (.goto 9, 3) := by decide +kernel
theorem dX12_least_65 : decode cX12_least 65 = .ok (.iload_n 2, 1) := by decide +kernel
theorem dX12_least_66 : decode cX12_least 66 = .ok (.iload 4, 2) := by decide +kernel
theorem dX12_least_68 : decode cX12_least 68 = .ok (.invokestatic 332, 3) := by decide +kernel
theorem dX12_least_71 : decode cX12_least 71 = .ok (.istore_n 2, 1) := by decide +kernel
theorem dX12_least_72 : decode cX12_least 72 = .ok (.iinc 3 1, 3) := by decide +kernel
theorem dX12_least_75 : decode cX12_least 75 = .ok (.goto (-71), 3) := by decide +kernel
theorem dX12_least_78 : decode cX12_least 78 = .ok (.iload_n 2, 1) := by decide +kernel
theorem dX12_least_79 : decode cX12_least 79 = .ok (.ireturn, 1) := by decide +kernel
theorem dX12_plans_0 : decode cX12_plans 0 = .ok (.aload_n 0, 1) := by decide +kernel
theorem dX12_plans_1 : decode cX12_plans 1 = .ok (.iconst 0, 1) := by decide +kernel
theorem dX12_plans_2 : decode cX12_plans 2 = .ok (.putfield 335, 3) := by decide +kernel
theorem dX12_plans_5 : decode cX12_plans 5 = .ok (.iconst 0, 1) := by decide +kernel
theorem dX12_plans_6 : decode cX12_plans 6 = .ok (.istore 4, 2) := by decide +kernel
theorem dX12_plans_8 : decode cX12_plans 8 = .ok (.iload 4, 2) := by decide +kernel
theorem dX12_plans_10 : decode cX12_plans 10 = .ok (.iconst 3, 1) := by decide +kernel
theorem dX12_plans_11 : decode cX12_plans 11 = .ok (.if_icmp .ge 45, 3) := by decide +kernel
theorem dX12_plans_14 : decode cX12_plans 14 = .ok (.aload_n 0, 1) := by decide +kernel
theorem dX12_plans_15 : decode cX12_plans 15 = .ok (.getfield 61, 3) := by decide +kernel
theorem dX12_plans_18 : decode cX12_plans 18 = .ok (.iload 4, 2) := by decide +kernel
theorem dX12_plans_20 : decode cX12_plans 20 = .ok (.iload 4, 2) := by decide +kernel
theorem dX12_plans_22 : decode cX12_plans 22 = .ok (.aload_n 0, 1) := by decide +kernel
theorem dX12_plans_23 : decode cX12_plans 23 = .ok (.getfield 240, 3) := by decide +kernel
theorem dX12_plans_26 : decode cX12_plans 26 = .ok (.if_icmp .ge 22, 3) := by decide +kernel
theorem dX12_plans_29 : decode cX12_plans 29 = .ok (.iload_n 1, 1) := by decide +kernel
theorem dX12_plans_30 : decode cX12_plans 30 = .ok (.iload_n 2, 1) := by decide +kernel
theorem dX12_plans_31 : decode cX12_plans 31 = .ok (.iload_n 3, 1) := by decide +kernel
theorem dX12_plans_32 : decode cX12_plans 32 = .ok (.iload 4, 2) := by decide +kernel
theorem dX12_plans_34 : decode cX12_plans 34 = .ok (.invokestatic 321, 3) := by decide +kernel
theorem dX12_plans_37 : decode cX12_plans 37 = .ok (.aload_n 0, 1) := by decide +kernel
theorem dX12_plans_38 : decode cX12_plans 38 = .ok (.iload 4, 2) := by decide +kernel
theorem dX12_plans_40 : decode cX12_plans 40 = .ok (.iconst 0, 1) := by decide +kernel
theorem dX12_plans_41 : decode cX12_plans 41 = .ok (.invokevirtual 338, 3) := by decide +kernel
theorem dX12_plans_44 : decode cX12_plans 44 = .ok (.isub, 1) := by decide +kernel
theorem dX12_plans_45 : decode cX12_plans 45 = .ok (.goto 4, 3) := by decide +kernel
theorem dX12_plans_48 : decode cX12_plans 48 = .ok (.iconst 0, 1) := by decide +kernel
theorem dX12_plans_49 : decode cX12_plans 49 = .ok (.iastore, 1) := by decide +kernel
theorem dX12_plans_50 : decode cX12_plans 50 = .ok (.iinc 4 1, 3) := by decide +kernel
theorem dX12_plans_53 : decode cX12_plans 53 = .ok (.goto (-45), 3) := by decide +kernel
theorem dX12_plans_56 : decode cX12_plans 56 = .ok (.iconst 1, 1) := by decide +kernel
theorem dX12_plans_57 : decode cX12_plans 57 = .ok (.istore 4, 2) := by decide +kernel
theorem dX12_plans_59 : decode cX12_plans 59 = .ok (.iload 4, 2) := by decide +kernel
theorem dX12_plans_61 : decode cX12_plans 61 = .ok (.iconst 3, 1) := by decide +kernel
theorem dX12_plans_62 : decode cX12_plans 62 = .ok (.if_icmp .ge 40, 3) := by decide +kernel
theorem dX12_plans_65 : decode cX12_plans 65 = .ok (.aload_n 0, 1) := by decide +kernel
theorem dX12_plans_66 : decode cX12_plans 66 = .ok (.getfield 61, 3) := by decide +kernel
theorem dX12_plans_69 : decode cX12_plans 69 = .ok (.iload 4, 2) := by decide +kernel
theorem dX12_plans_71 : decode cX12_plans 71 = .ok (.iaload, 1) := by decide +kernel
theorem dX12_plans_72 : decode cX12_plans 72 = .ok (.invokestatic 273, 3) := by decide +kernel
theorem dX12_plans_75 : decode cX12_plans 75 = .ok (.aload_n 0, 1) := by decide +kernel
theorem dX12_plans_76 : decode cX12_plans 76 = .ok (.getfield 61, 3) := by decide +kernel
theorem dX12_plans_79 : decode cX12_plans 79 = .ok (.aload_n 0, 1) := by decide +kernel
theorem dX12_plans_80 : decode cX12_plans 80 = .ok (.getfield 335, 3) := by decide +kernel
theorem dX12_plans_83 : decode cX12_plans 83 = .ok (.iaload, 1) := by decide +kernel
theorem dX12_plans_84 : decode cX12_plans 84 = .ok (.invokestatic 273, 3) := by decide +kernel
theorem dX12_plans_87 : decode cX12_plans 87 = .ok (.if_icmp .le 9, 3) := by decide +kernel
theorem dX12_plans_90 : decode cX12_plans 90 = .ok (.aload_n 0, 1) := by decide +kernel
theorem dX12_plans_91 : decode cX12_plans 91 = .ok (.iload 4, 2) := by decide +kernel
theorem dX12_plans_93 : decode cX12_plans 93 = .ok (.putfield 335, 3) := by decide +kernel
theorem dX12_plans_96 : decode cX12_plans 96 = .ok (.iinc 4 1, 3) := by decide +kernel
theorem dX12_plans_99 : decode cX12_plans 99 = .ok (.goto (-40), 3) := by decide +kernel
theorem dX12_plans_102 : decode cX12_plans 102 = .ok (.aload_n 0, 1) := by decide +kernel
theorem dX12_plans_103 : decode cX12_plans 103 = .ok (.aload_n 0, 1) := by decide +kernel
theorem dX12_plans_104 : decode cX12_plans 104 = .ok (.getfield 61, 3) := by decide +kernel
theorem dX12_plans_107 : decode cX12_plans 107 = .ok (.aload_n 0, 1) := by decide +kernel
theorem dX12_plans_108 : decode cX12_plans 108 = .ok (.getfield 335, 3) := by decide +kernel
theorem dX12_plans_111 : decode cX12_plans 111 = .ok (.iaload, 1) := by decide +kernel
theorem dX12_plans_112 : decode cX12_plans 112 = .ok (.invokestatic 273, 3) := by decide +kernel
theorem dX12_plans_115 : decode cX12_plans 115 = .ok (.putfield 329, 3) := by decide +kernel
theorem dX12_plans_118 : decode cX12_plans 118 = .ok (.aload_n 0, 1) := by decide +kernel
theorem dX12_plans_119 : decode cX12_plans 119 = .ok (.getfield 329, 3) := by decide +kernel
theorem dX12_plans_122 : decode cX12_plans 122 = .ok (.ifCond .ne 5, 3) := by decide +kernel
theorem dX12_plans_125 : decode cX12_plans 125 = .ok (.iconst 0, 1) := by decide +kernel
theorem dX12_plans_126 : decode cX12_plans 126 = .ok (.ireturn, 1) := by decide +kernel
theorem dX12_plans_127 : decode cX12_plans 127 = .ok (.aload_n 0, 1) := by decide +kernel
theorem dX12_plans_128 : decode cX12_plans 128 = .ok (.aload_n 0, 1) := by decide +kernel
theorem dX12_plans_129 : decode cX12_plans 129 = .ok (.iconst 0, 1) := by decide +kernel
theorem dX12_plans_130 : decode cX12_plans 130 = .ok (.invokevirtual 341, 3) := by decide +kernel
theorem dX12_plans_133 : decode cX12_plans 133 = .ok (.putfield 344, 3) := by decide +kernel
theorem dX12_plans_136 : decode cX12_plans 136 = .ok (.aload_n 0, 1) := by decide +kernel
theorem dX12_plans_137 : decode cX12_plans 137 = .ok (.aload_n 0, 1) := by decide +kernel
theorem dX12_plans_138 : decode cX12_plans 138 = .ok (.iconst 1, 1) := by decide +kernel
theorem dX12_plans_139 : decode cX12_plans 139 = .ok (.invokevirtual 341, 3) := by decide +kernel
theorem dX12_plans_142 : decode cX12_plans 142 = .ok (.putfield 347, 3) := by decide +kernel
theorem dX12_plans_145 : decode cX12_plans 145 = .ok (.aload_n 0, 1) := by decide +kernel
theorem dX12_plans_146 : decode cX12_plans 146 = .ok (.aload_n 0, 1) := by decide +kernel
theorem dX12_plans_147 : decode cX12_plans 147 = .ok (.iconst 2, 1) := by decide +kernel
theorem dX12_plans_148 : decode cX12_plans 148 = .ok (.invokevirtual 341, 3) := by decide +kernel
theorem dX12_plans_151 : decode cX12_plans 151 = .ok (.putfield 350, 3) := by decide +kernel
theorem dX12_plans_154 : decode cX12_plans 154 = .ok (.aload_n 0, 1) := by decide +kernel
theorem dX12_plans_155 : decode cX12_plans 155 = .ok (.aload_n 0, 1) := by decide +kernel
theorem dX12_plans_156 : decode cX12_plans 156 = .ok (.getfield 335, 3) := by decide +kernel
theorem dX12_plans_159 : decode cX12_plans 159 = .ok (.aload_n 0, 1) := by decide +kernel
theorem dX12_plans_160 : decode cX12_plans 160 = .ok (.getfield 329, 3) := by decide +kernel
theorem dX12_plans_163 : decode cX12_plans 163 = .ok (.aload_n 0, 1) := by decide +kernel
theorem dX12_plans_164 : decode cX12_plans 164 = .ok (.getfield 344, 3) := by decide +kernel
theorem dX12_plans_167 : decode cX12_plans 167 = .ok (.aload_n 0, 1) := by decide +kernel
theorem dX12_plans_168 : decode cX12_plans 168 = .ok (.getfield 347, 3) := by decide +kernel
theorem dX12_plans_171 : decode cX12_plans 171 = .ok (.aload_n 0, 1) := by decide +kernel
theorem dX12_plans_172 : decode cX12_plans 172 = .ok (.getfield 350, 3) := by decide +kernel
theorem dX12_plans_175 : decode cX12_plans 175 = .ok (.invokevirtual 353, 3) := by decide +kernel
theorem dX12_plans_178 : decode cX12_plans 178 = .ok (.aload_n 0, 1) := by decide +kernel
theorem dX12_plans_179 : decode cX12_plans 179 = .ok (.aload_n 0, 1) := by decide +kernel
theorem dX12_plans_180 : decode cX12_plans 180 = .ok (.getfield 329, 3) := by decide +kernel
theorem dX12_plans_183 : decode cX12_plans 183 = .ok (.iconst 2, 1) := by decide +kernel
theorem dX12_plans_184 : decode cX12_plans 184 = .ok (.aload_n 0, 1) := by decide +kernel
theorem dX12_plans_185 : decode cX12_plans 185 = .ok (.invokevirtual 309, 3) := by decide +kernel
theorem dX12_plans_188 : decode cX12_plans 188 = .ok (.imul, 1) := by decide +kernel
theorem dX12_plans_189 : decode cX12_plans 189 = .ok (.isub, 1) := by decide +kernel
theorem dX12_plans_190 : decode cX12_plans 190 = .ok (.putfield 357, 3) := by decide +kernel
theorem dX12_plans_193 : decode cX12_plans 193 = .ok (.aload_n 0, 1) := by decide +kernel
theorem dX12_plans_194 : decode cX12_plans 194 = .ok (.aload_n 0, 1) := by decide +kernel
theorem dX12_plans_195 : decode cX12_plans 195 = .ok (.aload_n 0, 1) := by decide +kernel
theorem dX12_plans_196 : decode cX12_plans 196 = .ok (.getfield 357, 3) := by decide +kernel
theorem dX12_plans_199 : decode cX12_plans 199 = .ok (.invokevirtual 360, 3) := by decide +kernel
theorem dX12_plans_202 : decode cX12_plans 202 = .ok (.putfield 363, 3) := by decide +kernel
theorem dX12_plans_205 : decode cX12_plans 205 = .ok (.iconst 1, 1) := by decide +kernel
theorem dX12_plans_206 : decode cX12_plans 206 = .ok (.ireturn, 1) := by decide +kernel
theorem dX12_canGo_0 : decode cX12_canGo 0 = .ok (.aload_n 0, 1) := by decide +kernel
theorem dX12_canGo_1 : decode cX12_canGo 1 = .ok (.iload_n 1, 1) := by decide +kernel
theorem dX12_canGo_2 : decode cX12_canGo 2 = .ok (.iload_n 2, 1) := by decide +kernel
theorem dX12_canGo_3 : decode cX12_canGo 3 = .ok (.iload_n 3, 1) := by decide +kernel
theorem dX12_canGo_4 : decode cX12_canGo 4 = .ok (.invokevirtual 366, 3) := by decide +kernel
theorem dX12_canGo_7 : decode cX12_canGo 7 = .ok (.ifCond .eq 17, 3) := by decide +kernel
theorem dX12_canGo_10 : decode cX12_canGo 10 = .ok (.aload_n 0, 1) := by decide +kernel
theorem dX12_canGo_11 : decode cX12_canGo 11 = .ok (.iload_n 1, 1) := by decide +kernel
theorem dX12_canGo_12 : decode cX12_canGo 12 = .ok (.iload_n 2, 1) := by decide +kernel
theorem dX12_canGo_13 : decode cX12_canGo 13 = .ok (.iload_n 3, 1) := by decide +kernel
theorem dX12_canGo_14 : decode cX12_canGo 14 = .ok (.invokevirtual 369, 3) := by decide +kernel
theorem dX12_canGo_17 : decode cX12_canGo 17 = .ok (.ifCond .eq 7, 3) := by decide +kernel
theorem dX12_canGo_20 : decode cX12_canGo 20 = .ok (.iconst 1, 1) := by decide +kernel
theorem dX12_canGo_21 : decode cX12_canGo 21 = .ok (.goto 4, 3) := by decide +kernel
theorem dX12_canGo_24 : decode cX12_canGo 24 = .ok (.iconst 0, 1) := by decide +kernel
theorem dX12_canGo_25 : decode cX12_canGo 25 = .ok (.ireturn, 1) := by decide +kernel
theorem dX12_planTicks_0 : decode cX12_planTicks 0 = .ok (.iconst 2, 1) := by decide +kernel
theorem dX12_planTicks_1 : decode cX12_planTicks 1 = .ok (.aload_n 0, 1) := by decide +kernel
theorem dX12_planTicks_2 : decode cX12_planTicks 2 = .ok (.getfield 286, 3) := by decide +kernel
theorem dX12_planTicks_5 : decode cX12_planTicks 5 = .ok (.imul, 1) := by decide +kernel
theorem dX12_planTicks_6 : decode cX12_planTicks 6 = .ok (.aload_n 0, 1) := by decide +kernel
theorem dX12_planTicks_7 : decode cX12_planTicks 7 = .ok (.getfield 363, 3) := by decide +kernel
theorem dX12_planTicks_10 : decode cX12_planTicks 10 = .ok (.iadd, 1) := by decide +kernel
theorem dX12_planTicks_11 : decode cX12_planTicks 11 = .ok (.ireturn, 1) := by decide +kernel
theorem dX12_part_0 : decode cX12_part 0 = .ok (.iload_n 0, 1) := by decide +kernel
theorem dX12_part_1 : decode cX12_part 1 = .ok (.i2l, 1) := by decide +kernel
theorem dX12_part_2 : decode cX12_part 2 = .ok (.iload_n 1, 1) := by decide +kernel
theorem dX12_part_3 : decode cX12_part 3 = .ok (.i2l, 1) := by decide +kernel
theorem dX12_part_4 : decode cX12_part 4 = .ok (.lmul, 1) := by decide +kernel
theorem dX12_part_5 : decode cX12_part 5 = .ok (.iload_n 2, 1) := by decide +kernel
theorem dX12_part_6 : decode cX12_part 6 = .ok (.i2l, 1) := by decide +kernel
theorem dX12_part_7 : decode cX12_part 7 = .ok (.ldiv, 1) := by decide +kernel
theorem dX12_part_8 : decode cX12_part 8 = .ok (.l2i, 1) := by decide +kernel
theorem dX12_part_9 : decode cX12_part 9 = .ok (.ireturn, 1) := by decide +kernel
theorem dX12_speedOf_0 : decode cX12_speedOf 0 = .ok (.iload_n 1, 1) := by decide +kernel
theorem dX12_speedOf_1 : decode cX12_speedOf 1 = .ok (.aload_n 0, 1) := by decide +kernel
theorem dX12_speedOf_2 : decode cX12_speedOf 2 = .ok (.getfield 286, 3) := by decide +kernel
theorem dX12_speedOf_5 : decode cX12_speedOf 5 = .ok (.if_icmp .ge 10, 3) := by decide +kernel
theorem dX12_speedOf_8 : decode cX12_speedOf 8 = .ok (.aload_n 0, 1) := by decide +kernel
theorem dX12_speedOf_9 : decode cX12_speedOf 9 = .ok (.getfield 58, 3) := by decide +kernel
theorem dX12_speedOf_12 : decode cX12_speedOf 12 = .ok (.iload_n 1, 1) := by decide +kernel
theorem dX12_speedOf_13 : decode cX12_speedOf 13 = .ok (.iaload, 1) := by decide +kernel
theorem dX12_speedOf_14 : decode cX12_speedOf 14 = .ok (.ireturn, 1) := by decide +kernel
theorem dX12_speedOf_15 : decode cX12_speedOf 15 = .ok (.iload_n 1, 1) := by decide +kernel
theorem dX12_speedOf_16 : decode cX12_speedOf 16 = .ok (.aload_n 0, 1) := by decide +kernel
theorem dX12_speedOf_17 : decode cX12_speedOf 17 = .ok (.getfield 286, 3) := by decide +kernel
theorem dX12_speedOf_20 : decode cX12_speedOf 20 = .ok (.isub, 1) := by decide +kernel
theorem dX12_speedOf_21 : decode cX12_speedOf 21 = .ok (.istore_n 2, 1) := by decide +kernel
theorem dX12_speedOf_22 : decode cX12_speedOf 22 = .ok (.iload_n 2, 1) := by decide +kernel
theorem dX12_speedOf_23 : decode cX12_speedOf 23 = .ok (.aload_n 0, 1) := by decide +kernel
theorem dX12_speedOf_24 : decode cX12_speedOf 24 = .ok (.getfield 363, 3) := by decide +kernel
theorem dX12_speedOf_27 : decode cX12_speedOf 27 = .ok (.if_icmp .ge 33, 3) := by decide +kernel
theorem dX12_speedOf_30 : decode cX12_speedOf 30 = .ok (.aload_n 0, 1) := by decide +kernel
theorem dX12_speedOf_31 : decode cX12_speedOf 31 = .ok (.getfield 357, 3) := by decide +kernel
theorem dX12_speedOf_34 : decode cX12_speedOf 34 = .ok (.iload_n 2, 1) := by decide +kernel
theorem dX12_speedOf_35 : decode cX12_speedOf 35 = .ok (.iconst 1, 1) := by decide +kernel
theorem dX12_speedOf_36 : decode cX12_speedOf 36 = .ok (.iadd, 1) := by decide +kernel
theorem dX12_speedOf_37 : decode cX12_speedOf 37 = .ok (.aload_n 0, 1) := by decide +kernel
theorem dX12_speedOf_38 : decode cX12_speedOf 38 = .ok (.getfield 363, 3) := by decide +kernel
theorem dX12_speedOf_41 : decode cX12_speedOf 41 = .ok (.invokestatic 372, 3) := by decide +kernel
theorem dX12_speedOf_44 : decode cX12_speedOf 44 = .ok (.aload_n 0, 1) := by decide +kernel
theorem dX12_speedOf_45 : decode cX12_speedOf 45 = .ok (.getfield 357, 3) := by decide +kernel
theorem dX12_speedOf_48 : decode cX12_speedOf 48 = .ok (.iload_n 2, 1) := by decide +kernel
theorem dX12_speedOf_49 : decode cX12_speedOf 49 = .ok (.aload_n 0, 1) := by decide +kernel
theorem dX12_speedOf_50 : decode cX12_speedOf 50 = .ok (.getfield 363, 3) := by decide +kernel
theorem dX12_speedOf_53 : decode cX12_speedOf 53 = .ok (.invokestatic 372, 3) := by decide +kernel
theorem dX12_speedOf_56 : decode cX12_speedOf 56 = .ok (.isub, 1) := by decide +kernel
theorem dX12_speedOf_57 : decode cX12_speedOf 57 = .ok (.goto 21, 3) := by decide +kernel
theorem dX12_speedOf_60 : decode cX12_speedOf 60 = .ok (.aload_n 0, 1) := by decide +kernel
theorem dX12_speedOf_61 : decode cX12_speedOf 61 = .ok (.getfield 58, 3) := by decide +kernel
theorem dX12_speedOf_64 : decode cX12_speedOf 64 = .ok (.aload_n 0, 1) := by decide +kernel
theorem dX12_speedOf_65 : decode cX12_speedOf 65 = .ok (.getfield 286, 3) := by decide +kernel
theorem dX12_speedOf_68 : decode cX12_speedOf 68 = .ok (.iconst 1, 1) := by decide +kernel
theorem dX12_speedOf_69 : decode cX12_speedOf 69 = .ok (.isub, 1) := by decide +kernel
theorem dX12_speedOf_70 : decode cX12_speedOf 70 = .ok (.iload_n 2, 1) := by decide +kernel
theorem dX12_speedOf_71 : decode cX12_speedOf 71 = .ok (.aload_n 0, 1) := by decide +kernel
theorem dX12_speedOf_72 : decode cX12_speedOf 72 = .ok (.getfield 363, 3) := by decide +kernel
theorem dX12_speedOf_75 : decode cX12_speedOf 75 = .ok (.isub, 1) := by decide +kernel
theorem dX12_speedOf_76 : decode cX12_speedOf 76 = .ok (.isub, 1) := by decide +kernel
theorem dX12_speedOf_77 : decode cX12_speedOf 77 = .ok (.iaload, 1) := by decide +kernel
theorem dX12_speedOf_78 : decode cX12_speedOf 78 = .ok (.ireturn, 1) := by decide +kernel
theorem dX12_goneBy_0 : decode cX12_goneBy 0 = .ok (.ldc2_w 268, 3) := by decide +kernel
theorem dX12_goneBy_3 : decode cX12_goneBy 3 = .ok (.iload_n 0, 1) := by decide +kernel
theorem dX12_goneBy_4 : decode cX12_goneBy 4 = .ok (.i2l, 1) := by decide +kernel
theorem dX12_goneBy_5 : decode cX12_goneBy 5 = .ok (.lmul, 1) := by decide +kernel
theorem dX12_goneBy_6 : decode cX12_goneBy 6 = .ok (.iload_n 1, 1) := by decide +kernel
theorem dX12_goneBy_7 : decode cX12_goneBy 7 = .ok (.invokestatic 273, 3) := by decide +kernel
theorem dX12_goneBy_10 : decode cX12_goneBy 10 = .ok (.i2l, 1) := by decide +kernel
theorem dX12_goneBy_11 : decode cX12_goneBy 11 = .ok (.lmul, 1) := by decide +kernel
theorem dX12_goneBy_12 : decode cX12_goneBy 12 = .ok (.iload_n 2, 1) := by decide +kernel
theorem dX12_goneBy_13 : decode cX12_goneBy 13 = .ok (.i2l, 1) := by decide +kernel
theorem dX12_goneBy_14 : decode cX12_goneBy 14 = .ok (.ladd, 1) := by decide +kernel
theorem dX12_goneBy_15 : decode cX12_goneBy 15 = .ok (.ldc2_w 268, 3) := by decide +kernel
theorem dX12_goneBy_18 : decode cX12_goneBy 18 = .ok (.iload_n 2, 1) := by decide +kernel
theorem dX12_goneBy_19 : decode cX12_goneBy 19 = .ok (.i2l, 1) := by decide +kernel
theorem dX12_goneBy_20 : decode cX12_goneBy 20 = .ok (.lmul, 1) := by decide +kernel
theorem dX12_goneBy_21 : decode cX12_goneBy 21 = .ok (.ldiv, 1) := by decide +kernel
theorem dX12_goneBy_22 : decode cX12_goneBy 22 = .ok (.l2i, 1) := by decide +kernel
theorem dX12_goneBy_23 : decode cX12_goneBy 23 = .ok (.istore_n 3, 1) := by decide +kernel
theorem dX12_goneBy_24 : decode cX12_goneBy 24 = .ok (.iload_n 1, 1) := by decide +kernel
theorem dX12_goneBy_25 : decode cX12_goneBy 25 = .ok (.ifCond .ge 8, 3) := by decide +kernel
theorem dX12_goneBy_28 : decode cX12_goneBy 28 = .ok (.iload_n 3, 1) := by decide +kernel
theorem dX12_goneBy_29 : decode cX12_goneBy 29 = .ok (.ineg, 1) := by decide +kernel
theorem dX12_goneBy_30 : decode cX12_goneBy 30 = .ok (.goto 4, 3) := by decide +kernel
theorem dX12_goneBy_33 : decode cX12_goneBy 33 = .ok (.iload_n 3, 1) := by decide +kernel
theorem dX12_goneBy_34 : decode cX12_goneBy 34 = .ok (.ireturn, 1) := by decide +kernel
theorem dX12_bandTicks_0 : decode cX12_bandTicks 0 = .ok (.iconst 0, 1) := by decide +kernel
theorem dX12_bandTicks_1 : decode cX12_bandTicks 1 = .ok (.istore_n 1, 1) := by decide +kernel
theorem dX12_bandTicks_2 : decode cX12_bandTicks 2 = .ok (.iconst 0, 1) := by decide +kernel
theorem dX12_bandTicks_3 : decode cX12_bandTicks 3 = .ok (.istore_n 2, 1) := by decide +kernel
theorem dX12_bandTicks_4 : decode cX12_bandTicks 4 = .ok (.iload_n 2, 1) := by decide +kernel
theorem dX12_bandTicks_5 : decode cX12_bandTicks 5 = .ok (.aload_n 0, 1) := by decide +kernel
theorem dX12_bandTicks_6 : decode cX12_bandTicks 6 = .ok (.invokevirtual 378, 3) := by decide +kernel
theorem dX12_bandTicks_9 : decode cX12_bandTicks 9 = .ok (.if_icmp .ge 44, 3) := by decide +kernel
theorem dX12_bandTicks_12 : decode cX12_bandTicks 12 = .ok (.iload_n 1, 1) := by decide +kernel
theorem dX12_bandTicks_13 : decode cX12_bandTicks 13 = .ok (.aload_n 0, 1) := by decide +kernel
theorem dX12_bandTicks_14 : decode cX12_bandTicks 14 = .ok (.iload_n 2, 1) := by decide +kernel
theorem dX12_bandTicks_15 : decode cX12_bandTicks 15 = .ok (.invokevirtual 384, 3) := by decide +kernel
theorem dX12_bandTicks_18 : decode cX12_bandTicks 18 = .ok (.ifCond .le 23, 3) := by decide +kernel
theorem dX12_bandTicks_21 : decode cX12_bandTicks 21 = .ok (.aload_n 0, 1) := by decide +kernel
theorem dX12_bandTicks_22 : decode cX12_bandTicks 22 = .ok (.aload_n 0, 1) := by decide +kernel
theorem dX12_bandTicks_23 : decode cX12_bandTicks 23 = .ok (.getfield 335, 3) := by decide +kernel
theorem dX12_bandTicks_26 : decode cX12_bandTicks 26 = .ok (.aload_n 0, 1) := by decide +kernel
theorem dX12_bandTicks_27 : decode cX12_bandTicks 27 = .ok (.iload_n 2, 1) := by decide +kernel
theorem dX12_bandTicks_28 : decode cX12_bandTicks 28 = .ok (.invokevirtual 384, 3) := by decide +kernel
theorem dX12_bandTicks_31 : decode cX12_bandTicks 31 = .ok (.invokevirtual 315, 3) := by decide +kernel
theorem dX12_bandTicks_34 : decode cX12_bandTicks 34 = .ok (.ifCond .le 7, 3) := by decide +kernel
theorem dX12_bandTicks_37 : decode cX12_bandTicks 37 = .ok (.iconst 1, 1) := by decide +kernel
theorem dX12_bandTicks_38 : decode cX12_bandTicks 38 = .ok (.goto 4, 3) := by decide +kernel
theorem dX12_bandTicks_41 : decode cX12_bandTicks 41 = .ok (.iconst 0, 1) := by decide +kernel
theorem dX12_bandTicks_42 : decode cX12_bandTicks 42 = .ok (.invokestatic 279, 3) := by decide +kernel
theorem dX12_bandTicks_45 : decode cX12_bandTicks 45 = .ok (.iadd, 1) := by decide +kernel
theorem dX12_bandTicks_46 : decode cX12_bandTicks 46 = .ok (.istore_n 1, 1) := by decide +kernel
theorem dX12_bandTicks_47 : decode cX12_bandTicks 47 = .ok (.iinc 2 1, 3) := by decide +kernel
theorem dX12_bandTicks_50 : decode cX12_bandTicks 50 = .ok (.goto (-46), 3) := by decide +kernel
theorem dX12_bandTicks_53 : decode cX12_bandTicks 53 = .ok (.iload_n 1, 1) := by decide +kernel
theorem dX12_bandTicks_54 : decode cX12_bandTicks 54 = .ok (.ireturn, 1) := by decide +kernel
theorem dX12_path_0 : decode cX12_path 0 = .ok (.aload_n 0, 1) := by decide +kernel
theorem dX12_path_1 : decode cX12_path 1 = .ok (.iload_n 1, 1) := by decide +kernel
theorem dX12_path_2 : decode cX12_path 2 = .ok (.iload_n 2, 1) := by decide +kernel
theorem dX12_path_3 : decode cX12_path 3 = .ok (.iload_n 3, 1) := by decide +kernel
theorem dX12_path_4 : decode cX12_path 4 = .ok (.invokevirtual 375, 3) := by decide +kernel
theorem dX12_path_7 : decode cX12_path 7 = .ok (.ifCond .ne 5, 3) := by decide +kernel
theorem dX12_path_10 : decode cX12_path 10 = .ok (.iconst (-1), 1) := by decide +kernel
theorem dX12_path_11 : decode cX12_path 11 = .ok (.ireturn, 1) := by decide +kernel
theorem dX12_path_12 : decode cX12_path 12 = .ok (.iload 4, 2) := by decide +kernel
theorem dX12_path_14 : decode cX12_path 14 = .ok (.tableswitch 77 0 6 #[42, 47, 52, 57, 62, 67, 72], 42) := by decide +kernel
theorem dX12_path_56 : decode cX12_path 56 = .ok (.aload_n 0, 1) := by decide +kernel
theorem dX12_path_57 : decode cX12_path 57 = .ok (.invokevirtual 378, 3) := by decide +kernel
theorem dX12_path_60 : decode cX12_path 60 = .ok (.ireturn, 1) := by decide +kernel
theorem dX12_path_61 : decode cX12_path 61 = .ok (.aload_n 0, 1) := by decide +kernel
theorem dX12_path_62 : decode cX12_path 62 = .ok (.getfield 335, 3) := by decide +kernel
theorem dX12_path_65 : decode cX12_path 65 = .ok (.ireturn, 1) := by decide +kernel
theorem dX12_path_66 : decode cX12_path 66 = .ok (.aload_n 0, 1) := by decide +kernel
theorem dX12_path_67 : decode cX12_path 67 = .ok (.getfield 329, 3) := by decide +kernel
theorem dX12_path_70 : decode cX12_path 70 = .ok (.ireturn, 1) := by decide +kernel
theorem dX12_path_71 : decode cX12_path 71 = .ok (.aload_n 0, 1) := by decide +kernel
theorem dX12_path_72 : decode cX12_path 72 = .ok (.getfield 344, 3) := by decide +kernel
theorem dX12_path_75 : decode cX12_path 75 = .ok (.ireturn, 1) := by decide +kernel
theorem dX12_path_76 : decode cX12_path 76 = .ok (.aload_n 0, 1) := by decide +kernel
theorem dX12_path_77 : decode cX12_path 77 = .ok (.invokevirtual 306, 3) := by decide +kernel
theorem dX12_path_80 : decode cX12_path 80 = .ok (.ireturn, 1) := by decide +kernel
theorem dX12_path_81 : decode cX12_path 81 = .ok (.aload_n 0, 1) := by decide +kernel
theorem dX12_path_82 : decode cX12_path 82 = .ok (.getfield 286, 3) := by decide +kernel
theorem dX12_path_85 : decode cX12_path 85 = .ok (.ireturn, 1) := by decide +kernel
theorem dX12_path_86 : decode cX12_path 86 = .ok (.aload_n 0, 1) := by decide +kernel
theorem dX12_path_87 : decode cX12_path 87 = .ok (.invokevirtual 381, 3) := by decide +kernel
theorem dX12_path_90 : decode cX12_path 90 = .ok (.ireturn, 1) := by decide +kernel
theorem dX12_path_91 : decode cX12_path 91 = .ok (.iconst (-1), 1) := by decide +kernel
theorem dX12_path_92 : decode cX12_path 92 = .ok (.ireturn, 1) := by decide +kernel
def zbX12_till_4 (sh : zShp) (p0 : Int32) (p1 : Int32) (M : zMem)  (kk4 : Int32 → Int32 → Option (Int32)) (x2 : Int32) (x3 : Int32) : Option (Int32) :=
  if x3 ≤ 0 then (
  some x2)
  else (
  kk4 (x2 + x3) (x3 - p1))
def zlX12_till_4 (sh : zShp) (p0 : Int32) (p1 : Int32) (M : zMem)  : Nat → Int32 → Int32 → Option (Int32)
  | 0 => fun _ _ => none
  | n + 1 => fun x2 x3 => zbX12_till_4 sh p0 p1 M  (zlX12_till_4 sh p0 p1 M  n) x2 x3
def zX12_till (sh : zShp) (p0 : Int32) (p1 : Int32) (M : zMem) : Option (Int32) :=
  zlX12_till_4 sh p0 p1 M zF (0 : Int32) p0
set_option maxHeartbeats 4000000 in
set_option maxRecDepth 100000 in
theorem ztX12_till (l : Launch) (D : va_G) (cy : Nat → ClassId) (sh : zShp) (ad : Nat → Nat) {p0 : Int32} {p1 : Int32}  {M : zMem} {r : Int32} (hd : zX12_till sh p0 p1 M = some r) : zCI l yX12_till cX12_till 4 .int { frames := 0, cells := 0, slots := 0, locals := 0 } [.int p0, .int p1] D cy sh ad M r M := by
  refine zci_of (by decide) (Nat.le_of_ble_eq_true rfl) (fun p e s m below meth c ls F hr hlk hl hw => ?_)
  have hx := F.1.1
  have hb := F.1.2.1
  have hl : lv_has ls 4 [(0, .int p0), (1, .int p1)] := hl
  have L4 : ∀  (n : Nat), ∀ (x2 : Int32) (x3 : Int32) (H : Heap) (locs : List Loc) (ls : Array Slot), lv_has ls 4 [(1, .int p1), (2, .int x2), (3, .int x3)] → zWd D cy sh ad s M H locs → zlX12_till_4 sh p0 p1 M  n x2 x3 = some r → W p l e { frames := 0, cells := 0, slots := 0, locals := 0 } s m ([.int p0, .int p1] : List Value).toArray below meth c H locs 0 0 (zQI below D cy sh ad s [.int p0, .int p1] r M) (F0 m 4 ls []) := by
    intro  n
    induction n with
    | zero => intro x2 x3 H locs ls hl hw hd; exact (znone hd).elim
    | succ n hk4 =>
      intro x2 x3 H locs ls hl hw hd
      have hd : zbX12_till_4 sh p0 p1 M  (zlX12_till_4 sh p0 p1 M  n) x2 x3 = some r := hd
      unfold zbX12_till_4 at hd
      refine lv_iload_n hx hb dX12_till_4 rfl (lv_at hl 2 rfl) ?_
      refine lv_if_le (tgt := 19) hx hb dX12_till_5 (by decide) (fun c_1 => ?_) (fun c_1 => ?_)
      · have hd := zif_pos c_1 hd
        refine lv_iload_n hx hb dX12_till_19 rfl (lv_at hl 1 rfl) ?_
        exact z_iret F hr hlk hw (Option.some.inj hd) rfl dX12_till_20
      · have hd := zif_neg c_1 hd
        refine lv_iload_n hx hb dX12_till_8 rfl (lv_at hl 1 rfl) ?_
        refine lv_iload_n hx hb dX12_till_9 rfl (lv_at hl 2 rfl) ?_
        refine lv_iadd hx hb dX12_till_10 ?_
        refine lv_istore_n (lv' := [(2, .int (x2 + x3)), (1, .int p1), (3, .int x3)]) hx hb dX12_till_11 rfl hl (by decide) rfl (fun ls hl => ?_)
        refine lv_iload_n hx hb dX12_till_12 rfl (lv_at hl 2 rfl) ?_
        refine lv_iload_n hx hb dX12_till_13 rfl (lv_at hl 1 rfl) ?_
        refine lv_isub hx hb dX12_till_14 ?_
        refine lv_istore_n (lv' := [(3, .int (x3 - p1)), (2, .int (x2 + x3)), (1, .int p1)]) hx hb dX12_till_15 rfl hl (by decide) rfl (fun ls hl => ?_)
        refine lv_goto (tgt := 4) hx hb dX12_till_16 (by decide) ?_
        exact hk4 _ _ _ _ _ (lv_sub hl [2, 1, 0] rfl) hw hd
  unfold zX12_till at hd
  refine lv_iconst (v := (0 : Int32)) hx hb dX12_till_0 (by decide) ?_
  refine lv_istore_n (lv' := [(2, .int (0 : Int32)), (0, .int p0), (1, .int p1)]) hx hb dX12_till_1 rfl hl (by decide) rfl (fun ls hl => ?_)
  refine lv_iload_n hx hb dX12_till_2 rfl (lv_at hl 1 rfl) ?_
  refine lv_istore_n (lv' := [(3, .int p0), (2, .int (0 : Int32)), (0, .int p0), (1, .int p1)]) hx hb dX12_till_3 rfl hl (by decide) rfl (fun ls hl => ?_)
  exact L4 zF _ _ _ _ _ (lv_sub hl [3, 1, 0] rfl) hw hd

def zjX12_laysRamp_84 (sh : zShp) (k0 : Nat) (p1 : Int32) (p2 : Int32) (p3 : Int32) (kk14 : Int32 → Int32 → Int32 → zMem → Option (zMem)) (x4 : Int32) (x5 : Int32) (x7 : Int32) (s0 : Int32) (M : zMem) : Option (zMem) :=
  if s0 = 0 then (
  kk14 x4 x5 s0 M)
  else (
  zgd (zin (zI M k0 36) (zlen sh (zR M k0 35))) <|
  zbd (zpI M (zR M k0 35) ((zI M k0 36).toNatClampNeg) (x4 + x7)) fun M_4 =>
  zbd (zpI M_4 k0 36 ((zI M_4 k0 36) + (1 : Int32))) fun M_5 =>
  kk14 (x4 + x7) x7 s0 M_5)
def zjX12_laysRamp_65 (sh : zShp) (k0 : Nat) (p1 : Int32) (p2 : Int32) (p3 : Int32) (kk14 : Int32 → Int32 → Int32 → zMem → Option (zMem)) (kk28 : Int32 → Int32 → Int32 → Int32 → zMem → Option (zMem)) (x4 : Int32) (x5 : Int32) (x7 : Int32) (x8 : Int32) (M : zMem) : Option (zMem) :=
  kk28 x4 x5 x7 (x8 + p3) M
def zbX12_laysRamp_28 (sh : zShp) (k0 : Nat) (p1 : Int32) (p2 : Int32) (p3 : Int32) (kk14 : Int32 → Int32 → Int32 → zMem → Option (zMem)) (kk28 : Int32 → Int32 → Int32 → Int32 → zMem → Option (zMem)) (x4 : Int32) (x5 : Int32) (x7 : Int32) (x8 : Int32) (M : zMem) : Option (zMem) :=
  if (x5 + p3) < x8 then (
  if x7 ≤ 0 then (
  zjX12_laysRamp_84 sh k0 p1 p2 p3 kk14 x4 x5 x7 (0 : Int32) M)
  else (
  zjX12_laysRamp_84 sh k0 p1 p2 p3 kk14 x4 x5 x7 (1 : Int32) M))
  else (
  if p2 < x8 then (
  zjX12_laysRamp_65 sh k0 p1 p2 p3 kk14 kk28 x4 x5 x7 x8 M)
  else (
  if x8 ≤ 0 then (
  zjX12_laysRamp_65 sh k0 p1 p2 p3 kk14 kk28 x4 x5 x7 x8 M)
  else (
  zob (zX12_till sh x8 p3 M) fun r_11 =>
  if p1 < (x4 + r_11) then (
  zjX12_laysRamp_65 sh k0 p1 p2 p3 kk14 kk28 x4 x5 x7 x8 M)
  else (
  zjX12_laysRamp_65 sh k0 p1 p2 p3 kk14 kk28 x4 x5 x8 x8 M))))
def zlX12_laysRamp_28 (sh : zShp) (k0 : Nat) (p1 : Int32) (p2 : Int32) (p3 : Int32) (kk14 : Int32 → Int32 → Int32 → zMem → Option (zMem)) : Nat → Int32 → Int32 → Int32 → Int32 → zMem → Option (zMem)
  | 0 => fun _ _ _ _ _ => none
  | n + 1 => fun x4 x5 x7 x8 M => zbX12_laysRamp_28 sh k0 p1 p2 p3 kk14 (zlX12_laysRamp_28 sh k0 p1 p2 p3 kk14 n) x4 x5 x7 x8 M
def zbX12_laysRamp_14 (sh : zShp) (k0 : Nat) (p1 : Int32) (p2 : Int32) (p3 : Int32)  (kk14 : Int32 → Int32 → Int32 → zMem → Option (zMem)) (x4 : Int32) (x5 : Int32) (x6 : Int32) (M : zMem) : Option (zMem) :=
  if x6 = 0 then (
  some M)
  else (
  zlX12_laysRamp_28 sh k0 p1 p2 p3 kk14 zF x4 x5 (0 : Int32) (x5 - p3) M)
def zlX12_laysRamp_14 (sh : zShp) (k0 : Nat) (p1 : Int32) (p2 : Int32) (p3 : Int32)  : Nat → Int32 → Int32 → Int32 → zMem → Option (zMem)
  | 0 => fun _ _ _ _ => none
  | n + 1 => fun x4 x5 x6 M => zbX12_laysRamp_14 sh k0 p1 p2 p3  (zlX12_laysRamp_14 sh k0 p1 p2 p3  n) x4 x5 x6 M
def zX12_laysRamp (sh : zShp) (k0 : Nat) (p1 : Int32) (p2 : Int32) (p3 : Int32) (M : zMem) : Option (zMem) :=
  zbd (zpI M k0 36 (0 : Int32)) fun M_14 =>
  zlX12_laysRamp_14 sh k0 p1 p2 p3 zF (0 : Int32) (0 : Int32) (1 : Int32) M_14
set_option maxHeartbeats 4000000 in
set_option maxRecDepth 100000 in
theorem ztX12_laysRamp (l : Launch) (D : va_G) (cy : Nat → ClassId) (sh : zShp) (ad : Nat → Nat) {k0 : Nat} {p1 : Int32} {p2 : Int32} {p3 : Int32} (h0 : zT sh k0 12) {M : zMem} {M1 : zMem} (hd : zX12_laysRamp sh k0 p1 p2 p3 M = some M1) : zCV l yX12_laysRamp cX12_laysRamp 9 { frames := 1, cells := 0, slots := 0, locals := 23 } [.ref (ad k0), .int p1, .int p2, .int p3] D cy sh ad M M1 := by
  refine zcv_of (by decide) (Nat.le_of_ble_eq_true rfl) (fun p e s m below meth c ls F hr hlk hl hw => ?_)
  have hx := F.1.1
  have hb := F.1.2.1
  have hl : lv_has ls 9 [(0, .ref (ad k0)), (1, .int p1), (2, .int p2), (3, .int p3)] := hl
  have J84 : ∀ (kk14 : Int32 → Int32 → Int32 → zMem → Option (zMem)) (hk14 : ∀ (x4 : Int32) (x5 : Int32) (x6 : Int32) (M : zMem) (H : Heap) (locs : List Loc) (ls : Array Slot), lv_has ls 9 [(0, .ref (ad k0)), (1, .int p1), (2, .int p2), (3, .int p3), (4, .int x4), (5, .int x5), (6, .int x6)] → zWd D cy sh ad s M H locs → kk14 x4 x5 x6 M = some M1 → W p l e { frames := 1, cells := 0, slots := 0, locals := 23 } s m ([.ref (ad k0), .int p1, .int p2, .int p3] : List Value).toArray below meth c H locs 0 0 (zQV below D cy sh ad s [.ref (ad k0), .int p1, .int p2, .int p3] M1) (F0 m 14 ls [])), ∀ (x4 : Int32) (x5 : Int32) (x7 : Int32) (s0 : Int32) (M : zMem) (H : Heap) (locs : List Loc) (ls : Array Slot), lv_has ls 9 [(0, .ref (ad k0)), (1, .int p1), (2, .int p2), (3, .int p3), (4, .int x4), (5, .int x5), (7, .int x7)] → zWd D cy sh ad s M H locs → zjX12_laysRamp_84 sh k0 p1 p2 p3 kk14 x4 x5 x7 s0 M = some M1 → W p l e { frames := 1, cells := 0, slots := 0, locals := 23 } s m ([.ref (ad k0), .int p1, .int p2, .int p3] : List Value).toArray below meth c H locs 0 0 (zQV below D cy sh ad s [.ref (ad k0), .int p1, .int p2, .int p3] M1) (F0 m 84 ls [.int s0]) := by
    intro kk14 hk14 x4 x5 x7 s0 M H locs ls hl hw hd
    unfold zjX12_laysRamp_84 at hd
    refine lv_istore (lv' := [(6, .int s0), (0, .ref (ad k0)), (1, .int p1), (2, .int p2), (3, .int p3), (4, .int x4), (5, .int x5), (7, .int x7)]) hx hb dX12_laysRamp_84 hl (by decide) rfl (fun ls hl => ?_)
    refine lv_iload hx hb dX12_laysRamp_86 (lv_at hl 0 rfl) ?_
    refine lv_if_ne (tgt := 94) hx hb dX12_laysRamp_88 (by decide) (fun c_1 => ?_) (fun c_1 => ?_)
    · have hd := zif_neg c_1 hd
      refine lv_iload hx hb dX12_laysRamp_94 (lv_at hl 7 rfl) ?_
      refine lv_istore (lv' := [(5, .int x7), (6, .int s0), (0, .ref (ad k0)), (1, .int p1), (2, .int p2), (3, .int p3), (4, .int x4), (7, .int x7)]) hx hb dX12_laysRamp_96 hl (by decide) rfl (fun ls hl => ?_)
      refine lv_iload hx hb dX12_laysRamp_98 (lv_at hl 6 rfl) ?_
      refine lv_iload hx hb dX12_laysRamp_100 (lv_at hl 0 rfl) ?_
      refine lv_iadd hx hb dX12_laysRamp_102 ?_
      refine lv_istore (lv' := [(4, .int (x4 + x7)), (5, .int x7), (6, .int s0), (0, .ref (ad k0)), (1, .int p1), (2, .int p2), (3, .int p3), (7, .int x7)]) hx hb dX12_laysRamp_103 hl (by decide) rfl (fun ls hl => ?_)
      refine lv_aload_n hx hb dX12_laysRamp_105 rfl (lv_at hl 3 rfl) ?_
      refine z_gR F hw h0 zc12 35 (by decide) rfl zf12_58 dX12_laysRamp_106 ?_
      have t_2 : zT sh (zR M k0 35) 14 := hw.2.2.2.fld h0 35 14
      refine lv_aload_n hx hb dX12_laysRamp_109 rfl (lv_at hl 3 rfl) ?_
      refine z_gI F hw h0 zc12 36 (by decide) rfl zf12_286 dX12_laysRamp_110 ?_
      refine lv_iload hx hb dX12_laysRamp_113 (lv_at hl 0 rfl) ?_
      obtain ⟨g_3, hd⟩ := zgd_some hd
      refine z_iast F hw t_2 g_3 dX12_laysRamp_115 (fun H locs M_4 eM_4 hw => ?_)
      have hd := zbd_eq eM_4 hd
      refine lv_aload_n hx hb dX12_laysRamp_116 rfl (lv_at hl 3 rfl) ?_
      refine lv_dup hx hb dX12_laysRamp_117 rfl ?_
      refine z_gI F hw h0 zc12 36 (by decide) rfl zf12_286 dX12_laysRamp_118 ?_
      refine lv_iconst (v := (1 : Int32)) hx hb dX12_laysRamp_121 (by decide) ?_
      refine lv_iadd hx hb dX12_laysRamp_122 ?_
      refine z_pI F hw h0 zc12 36 (by decide) rfl zf12_286 rfl rfl rfl dX12_laysRamp_123 (fun H locs M_5 eM_5 hw => ?_)
      have hd := zbd_eq eM_5 hd
      refine lv_goto (tgt := 14) hx hb dX12_laysRamp_126 (by decide) ?_
      exact hk14 _ _ _ _ _ _ _ (lv_sub hl [3, 4, 5, 6, 0, 1, 2] rfl) hw hd
    · have hd := zif_pos c_1 hd
      refine lv_goto (tgt := 14) hx hb dX12_laysRamp_91 (by decide) ?_
      exact hk14 _ _ _ _ _ _ _ (lv_sub hl [1, 2, 3, 4, 5, 6, 0] rfl) hw hd
  have J65 : ∀ (kk14 : Int32 → Int32 → Int32 → zMem → Option (zMem)) (hk14 : ∀ (x4 : Int32) (x5 : Int32) (x6 : Int32) (M : zMem) (H : Heap) (locs : List Loc) (ls : Array Slot), lv_has ls 9 [(0, .ref (ad k0)), (1, .int p1), (2, .int p2), (3, .int p3), (4, .int x4), (5, .int x5), (6, .int x6)] → zWd D cy sh ad s M H locs → kk14 x4 x5 x6 M = some M1 → W p l e { frames := 1, cells := 0, slots := 0, locals := 23 } s m ([.ref (ad k0), .int p1, .int p2, .int p3] : List Value).toArray below meth c H locs 0 0 (zQV below D cy sh ad s [.ref (ad k0), .int p1, .int p2, .int p3] M1) (F0 m 14 ls [])) (kk28 : Int32 → Int32 → Int32 → Int32 → zMem → Option (zMem)) (hk28 : ∀ (x4 : Int32) (x5 : Int32) (x7 : Int32) (x8 : Int32) (M : zMem) (H : Heap) (locs : List Loc) (ls : Array Slot), lv_has ls 9 [(0, .ref (ad k0)), (1, .int p1), (2, .int p2), (3, .int p3), (4, .int x4), (5, .int x5), (7, .int x7), (8, .int x8)] → zWd D cy sh ad s M H locs → kk28 x4 x5 x7 x8 M = some M1 → W p l e { frames := 1, cells := 0, slots := 0, locals := 23 } s m ([.ref (ad k0), .int p1, .int p2, .int p3] : List Value).toArray below meth c H locs 0 0 (zQV below D cy sh ad s [.ref (ad k0), .int p1, .int p2, .int p3] M1) (F0 m 28 ls [])), ∀ (x4 : Int32) (x5 : Int32) (x7 : Int32) (x8 : Int32) (M : zMem) (H : Heap) (locs : List Loc) (ls : Array Slot), lv_has ls 9 [(0, .ref (ad k0)), (1, .int p1), (2, .int p2), (3, .int p3), (4, .int x4), (5, .int x5), (7, .int x7), (8, .int x8)] → zWd D cy sh ad s M H locs → zjX12_laysRamp_65 sh k0 p1 p2 p3 kk14 kk28 x4 x5 x7 x8 M = some M1 → W p l e { frames := 1, cells := 0, slots := 0, locals := 23 } s m ([.ref (ad k0), .int p1, .int p2, .int p3] : List Value).toArray below meth c H locs 0 0 (zQV below D cy sh ad s [.ref (ad k0), .int p1, .int p2, .int p3] M1) (F0 m 65 ls []) := by
    intro kk14 hk14 kk28 hk28 x4 x5 x7 x8 M H locs ls hl hw hd
    unfold zjX12_laysRamp_65 at hd
    refine lv_iload hx hb dX12_laysRamp_65 (lv_at hl 7 rfl) ?_
    refine lv_iload_n hx hb dX12_laysRamp_67 rfl (lv_at hl 3 rfl) ?_
    refine lv_iadd hx hb dX12_laysRamp_68 ?_
    refine lv_istore (lv' := [(8, .int (x8 + p3)), (0, .ref (ad k0)), (1, .int p1), (2, .int p2), (3, .int p3), (4, .int x4), (5, .int x5), (7, .int x7)]) hx hb dX12_laysRamp_69 hl (by decide) rfl (fun ls hl => ?_)
    refine lv_goto (tgt := 28) hx hb dX12_laysRamp_71 (by decide) ?_
    exact hk28 _ _ _ _ _ _ _ _ (lv_sub hl [1, 2, 3, 4, 5, 6, 7, 0] rfl) hw hd
  have L28 : ∀ (kk14 : Int32 → Int32 → Int32 → zMem → Option (zMem)) (hk14 : ∀ (x4 : Int32) (x5 : Int32) (x6 : Int32) (M : zMem) (H : Heap) (locs : List Loc) (ls : Array Slot), lv_has ls 9 [(0, .ref (ad k0)), (1, .int p1), (2, .int p2), (3, .int p3), (4, .int x4), (5, .int x5), (6, .int x6)] → zWd D cy sh ad s M H locs → kk14 x4 x5 x6 M = some M1 → W p l e { frames := 1, cells := 0, slots := 0, locals := 23 } s m ([.ref (ad k0), .int p1, .int p2, .int p3] : List Value).toArray below meth c H locs 0 0 (zQV below D cy sh ad s [.ref (ad k0), .int p1, .int p2, .int p3] M1) (F0 m 14 ls [])) (n : Nat), ∀ (x4 : Int32) (x5 : Int32) (x7 : Int32) (x8 : Int32) (M : zMem) (H : Heap) (locs : List Loc) (ls : Array Slot), lv_has ls 9 [(0, .ref (ad k0)), (1, .int p1), (2, .int p2), (3, .int p3), (4, .int x4), (5, .int x5), (7, .int x7), (8, .int x8)] → zWd D cy sh ad s M H locs → zlX12_laysRamp_28 sh k0 p1 p2 p3 kk14 n x4 x5 x7 x8 M = some M1 → W p l e { frames := 1, cells := 0, slots := 0, locals := 23 } s m ([.ref (ad k0), .int p1, .int p2, .int p3] : List Value).toArray below meth c H locs 0 0 (zQV below D cy sh ad s [.ref (ad k0), .int p1, .int p2, .int p3] M1) (F0 m 28 ls []) := by
    intro kk14 hk14 n
    induction n with
    | zero => intro x4 x5 x7 x8 M H locs ls hl hw hd; exact (znone hd).elim
    | succ n hk28 =>
      intro x4 x5 x7 x8 M H locs ls hl hw hd
      have hd : zbX12_laysRamp_28 sh k0 p1 p2 p3 kk14 (zlX12_laysRamp_28 sh k0 p1 p2 p3 kk14 n) x4 x5 x7 x8 M = some M1 := hd
      unfold zbX12_laysRamp_28 at hd
      refine lv_iload hx hb dX12_laysRamp_28 (lv_at hl 7 rfl) ?_
      refine lv_iload hx hb dX12_laysRamp_30 (lv_at hl 5 rfl) ?_
      refine lv_iload_n hx hb dX12_laysRamp_32 rfl (lv_at hl 3 rfl) ?_
      refine lv_iadd hx hb dX12_laysRamp_33 ?_
      refine lv_icmp_gt (tgt := 74) hx hb dX12_laysRamp_34 (by decide) (fun c_6 => ?_) (fun c_6 => ?_)
      · have hd := zif_pos c_6 hd
        refine lv_iload hx hb dX12_laysRamp_74 (lv_at hl 6 rfl) ?_
        refine lv_if_le (tgt := 83) hx hb dX12_laysRamp_76 (by decide) (fun c_7 => ?_) (fun c_7 => ?_)
        · have hd := zif_pos c_7 hd
          refine lv_iconst (v := (0 : Int32)) hx hb dX12_laysRamp_83 (by decide) ?_
          exact J84 _ hk14 _ _ _ _ _ _ _ _ (lv_sub hl [0, 1, 2, 3, 4, 5, 6] rfl) hw hd
        · have hd := zif_neg c_7 hd
          refine lv_iconst (v := (1 : Int32)) hx hb dX12_laysRamp_79 (by decide) ?_
          refine lv_goto (tgt := 84) hx hb dX12_laysRamp_80 (by decide) ?_
          exact J84 _ hk14 _ _ _ _ _ _ _ _ (lv_sub hl [0, 1, 2, 3, 4, 5, 6] rfl) hw hd
      · have hd := zif_neg c_6 hd
        refine lv_iload hx hb dX12_laysRamp_37 (lv_at hl 7 rfl) ?_
        refine lv_iload_n hx hb dX12_laysRamp_39 rfl (lv_at hl 2 rfl) ?_
        refine lv_icmp_gt (tgt := 65) hx hb dX12_laysRamp_40 (by decide) (fun c_8 => ?_) (fun c_8 => ?_)
        · have hd := zif_pos c_8 hd
          exact J65 _ hk14 _ hk28 _ _ _ _ _ _ _ _ (lv_sub hl [0, 1, 2, 3, 4, 5, 6, 7] rfl) hw hd
        · have hd := zif_neg c_8 hd
          refine lv_iload hx hb dX12_laysRamp_43 (lv_at hl 7 rfl) ?_
          refine lv_if_le (tgt := 65) hx hb dX12_laysRamp_45 (by decide) (fun c_9 => ?_) (fun c_9 => ?_)
          · have hd := zif_pos c_9 hd
            exact J65 _ hk14 _ hk28 _ _ _ _ _ _ _ _ (lv_sub hl [0, 1, 2, 3, 4, 5, 6, 7] rfl) hw hd
          · have hd := zif_neg c_9 hd
            refine lv_iload hx hb dX12_laysRamp_48 (lv_at hl 4 rfl) ?_
            refine lv_iload hx hb dX12_laysRamp_50 (lv_at hl 7 rfl) ?_
            refine lv_iload_n hx hb dX12_laysRamp_52 rfl (lv_at hl 3 rfl) ?_
            obtain ⟨r_11, hc_10, hd⟩ := zob_some hd
            refine z_csI F hw hl.1 (As := [.int x8, .int p3]) (rest := [.int x4]) (ztX12_till l D cy sh ad  hc_10) zyX12_till zk12_289 ⟨rfl, rfl⟩ ⟨by decide, by decide⟩ rfl rfl (Nat.le_of_ble_eq_true rfl) dX12_laysRamp_53 (fun H locs hw => ?_)
            refine lv_iadd hx hb dX12_laysRamp_56 ?_
            refine lv_iload_n hx hb dX12_laysRamp_57 rfl (lv_at hl 1 rfl) ?_
            refine lv_icmp_gt (tgt := 65) hx hb dX12_laysRamp_58 (by decide) (fun c_12 => ?_) (fun c_12 => ?_)
            · have hd := zif_pos c_12 hd
              exact J65 _ hk14 _ hk28 _ _ _ _ _ _ _ _ (lv_sub hl [0, 1, 2, 3, 4, 5, 6, 7] rfl) hw hd
            · have hd := zif_neg c_12 hd
              refine lv_iload hx hb dX12_laysRamp_61 (lv_at hl 7 rfl) ?_
              refine lv_istore (lv' := [(7, .int x8), (0, .ref (ad k0)), (1, .int p1), (2, .int p2), (3, .int p3), (4, .int x4), (5, .int x5), (8, .int x8)]) hx hb dX12_laysRamp_63 hl (by decide) rfl (fun ls hl => ?_)
              exact J65 _ hk14 _ hk28 _ _ _ _ _ _ _ _ (lv_sub hl [1, 2, 3, 4, 5, 6, 0, 7] rfl) hw hd
  have L14 : ∀  (n : Nat), ∀ (x4 : Int32) (x5 : Int32) (x6 : Int32) (M : zMem) (H : Heap) (locs : List Loc) (ls : Array Slot), lv_has ls 9 [(0, .ref (ad k0)), (1, .int p1), (2, .int p2), (3, .int p3), (4, .int x4), (5, .int x5), (6, .int x6)] → zWd D cy sh ad s M H locs → zlX12_laysRamp_14 sh k0 p1 p2 p3  n x4 x5 x6 M = some M1 → W p l e { frames := 1, cells := 0, slots := 0, locals := 23 } s m ([.ref (ad k0), .int p1, .int p2, .int p3] : List Value).toArray below meth c H locs 0 0 (zQV below D cy sh ad s [.ref (ad k0), .int p1, .int p2, .int p3] M1) (F0 m 14 ls []) := by
    intro  n
    induction n with
    | zero => intro x4 x5 x6 M H locs ls hl hw hd; exact (znone hd).elim
    | succ n hk14 =>
      intro x4 x5 x6 M H locs ls hl hw hd
      have hd : zbX12_laysRamp_14 sh k0 p1 p2 p3  (zlX12_laysRamp_14 sh k0 p1 p2 p3  n) x4 x5 x6 M = some M1 := hd
      unfold zbX12_laysRamp_14 at hd
      refine lv_iload hx hb dX12_laysRamp_14 (lv_at hl 6 rfl) ?_
      refine lv_if_eq (tgt := 129) hx hb dX12_laysRamp_16 (by decide) (fun c_13 => ?_) (fun c_13 => ?_)
      · have hd := zif_pos c_13 hd
        exact z_vret F hr hlk hw (Option.some.inj hd) dX12_laysRamp_129
      · have hd := zif_neg c_13 hd
        refine lv_iconst (v := (0 : Int32)) hx hb dX12_laysRamp_19 (by decide) ?_
        refine lv_istore (lv' := [(7, .int (0 : Int32)), (0, .ref (ad k0)), (1, .int p1), (2, .int p2), (3, .int p3), (4, .int x4), (5, .int x5), (6, .int x6)]) hx hb dX12_laysRamp_20 hl (by decide) rfl (fun ls hl => ?_)
        refine lv_iload hx hb dX12_laysRamp_22 (lv_at hl 6 rfl) ?_
        refine lv_iload_n hx hb dX12_laysRamp_24 rfl (lv_at hl 4 rfl) ?_
        refine lv_isub hx hb dX12_laysRamp_25 ?_
        refine lv_istore (lv' := [(8, .int (x5 - p3)), (7, .int (0 : Int32)), (0, .ref (ad k0)), (1, .int p1), (2, .int p2), (3, .int p3), (4, .int x4), (5, .int x5), (6, .int x6)]) hx hb dX12_laysRamp_26 hl (by decide) rfl (fun ls hl => ?_)
        exact L28 _ hk14 zF _ _ _ _ _ _ _ _ (lv_sub hl [2, 3, 4, 5, 6, 7, 1, 0] rfl) hw hd
  unfold zX12_laysRamp at hd
  refine lv_aload_n hx hb dX12_laysRamp_0 rfl (lv_at hl 0 rfl) ?_
  refine lv_iconst (v := (0 : Int32)) hx hb dX12_laysRamp_1 (by decide) ?_
  refine z_pI F hw h0 zc12 36 (by decide) rfl zf12_286 rfl rfl rfl dX12_laysRamp_2 (fun H locs M_14 eM_14 hw => ?_)
  have hd := zbd_eq eM_14 hd
  refine lv_iconst (v := (0 : Int32)) hx hb dX12_laysRamp_5 (by decide) ?_
  refine lv_istore (lv' := [(4, .int (0 : Int32)), (0, .ref (ad k0)), (1, .int p1), (2, .int p2), (3, .int p3)]) hx hb dX12_laysRamp_6 hl (by decide) rfl (fun ls hl => ?_)
  refine lv_iconst (v := (0 : Int32)) hx hb dX12_laysRamp_8 (by decide) ?_
  refine lv_istore (lv' := [(5, .int (0 : Int32)), (4, .int (0 : Int32)), (0, .ref (ad k0)), (1, .int p1), (2, .int p2), (3, .int p3)]) hx hb dX12_laysRamp_9 hl (by decide) rfl (fun ls hl => ?_)
  refine lv_iconst (v := (1 : Int32)) hx hb dX12_laysRamp_11 (by decide) ?_
  refine lv_istore (lv' := [(6, .int (1 : Int32)), (5, .int (0 : Int32)), (4, .int (0 : Int32)), (0, .ref (ad k0)), (1, .int p1), (2, .int p2), (3, .int p3)]) hx hb dX12_laysRamp_12 hl (by decide) rfl (fun ls hl => ?_)
  exact L14 zF _ _ _ _ _ _ _ (lv_sub hl [3, 4, 5, 6, 2, 1, 0] rfl) hw hd

def zjX12_reached_22 (sh : zShp) (k0 : Nat) (M : zMem)  (s0 : Int32) : Option (Int32) :=
  some s0
def zX12_reached (sh : zShp) (k0 : Nat) (M : zMem) : Option (Int32) :=
  if (zI M k0 36) = 0 then (
  zjX12_reached_22 sh k0 M (0 : Int32))
  else (
  zgd (zin ((zI M k0 36) - (1 : Int32)) (zlen sh (zR M k0 35))) <|
  zjX12_reached_22 sh k0 M (zI M (zR M k0 35) (((zI M k0 36) - (1 : Int32)).toNatClampNeg)))
set_option maxHeartbeats 4000000 in
set_option maxRecDepth 100000 in
theorem ztX12_reached (l : Launch) (D : va_G) (cy : Nat → ClassId) (sh : zShp) (ad : Nat → Nat) {k0 : Nat} (h0 : zT sh k0 12) {M : zMem} {r : Int32} (hd : zX12_reached sh k0 M = some r) : zCI l yX12_reached cX12_reached 1 .int { frames := 0, cells := 0, slots := 0, locals := 0 } [.ref (ad k0)] D cy sh ad M r M := by
  refine zci_of (by decide) (Nat.le_of_ble_eq_true rfl) (fun p e s m below meth c ls F hr hlk hl hw => ?_)
  have hx := F.1.1
  have hb := F.1.2.1
  have hl : lv_has ls 1 [(0, .ref (ad k0))] := hl
  have J22 : ∀ (s0 : Int32) (H : Heap) (locs : List Loc) (ls : Array Slot), lv_has ls 1 [] → zWd D cy sh ad s M H locs → zjX12_reached_22 sh k0 M  s0 = some r → W p l e { frames := 0, cells := 0, slots := 0, locals := 0 } s m ([.ref (ad k0)] : List Value).toArray below meth c H locs 0 0 (zQI below D cy sh ad s [.ref (ad k0)] r M) (F0 m 22 ls [.int s0]) := by
    intro  s0 H locs ls hl hw hd
    unfold zjX12_reached_22 at hd
    exact z_iret F hr hlk hw (Option.some.inj hd) rfl dX12_reached_22
  unfold zX12_reached at hd
  refine lv_aload_n hx hb dX12_reached_0 rfl (lv_at hl 0 rfl) ?_
  refine z_gI F hw h0 zc12 36 (by decide) rfl zf12_286 dX12_reached_1 ?_
  refine lv_if_ne (tgt := 11) hx hb dX12_reached_4 (by decide) (fun c_1 => ?_) (fun c_1 => ?_)
  · have hd := zif_neg c_1 hd
    refine lv_aload_n hx hb dX12_reached_11 rfl (lv_at hl 0 rfl) ?_
    refine z_gR F hw h0 zc12 35 (by decide) rfl zf12_58 dX12_reached_12 ?_
    have t_2 : zT sh (zR M k0 35) 14 := hw.2.2.2.fld h0 35 14
    refine lv_aload_n hx hb dX12_reached_15 rfl (lv_at hl 0 rfl) ?_
    refine z_gI F hw h0 zc12 36 (by decide) rfl zf12_286 dX12_reached_16 ?_
    refine lv_iconst (v := (1 : Int32)) hx hb dX12_reached_19 (by decide) ?_
    refine lv_isub hx hb dX12_reached_20 ?_
    obtain ⟨g_3, hd⟩ := zgd_some hd
    refine z_iald F hw t_2 g_3 dX12_reached_21 ?_
    exact J22 _ _ _ _ (lv_sub hl [] rfl) hw hd
  · have hd := zif_pos c_1 hd
    refine lv_iconst (v := (0 : Int32)) hx hb dX12_reached_7 (by decide) ?_
    refine lv_goto (tgt := 22) hx hb dX12_reached_8 (by decide) ?_
    exact J22 _ _ _ _ (lv_sub hl [] rfl) hw hd

def zbX12_rampSum_4 (sh : zShp) (k0 : Nat) (M : zMem)  (kk4 : Int32 → Int32 → Option (Int32)) (x1 : Int32) (x2 : Int32) : Option (Int32) :=
  if (zI M k0 36) ≤ x2 then (
  some x1)
  else (
  zgd (zin x2 (zlen sh (zR M k0 35))) <|
  zbd ((x1 + (zI M (zR M k0 35) x2.toNatClampNeg))) fun v_4 =>
  kk4 v_4 (x2 + (1 : Int32)))
def zlX12_rampSum_4 (sh : zShp) (k0 : Nat) (M : zMem)  : Nat → Int32 → Int32 → Option (Int32)
  | 0 => fun _ _ => none
  | n + 1 => fun x1 x2 => zbX12_rampSum_4 sh k0 M  (zlX12_rampSum_4 sh k0 M  n) x1 x2
def zX12_rampSum (sh : zShp) (k0 : Nat) (M : zMem) : Option (Int32) :=
  zlX12_rampSum_4 sh k0 M zF (0 : Int32) (0 : Int32)
set_option maxHeartbeats 4000000 in
set_option maxRecDepth 100000 in
theorem ztX12_rampSum (l : Launch) (D : va_G) (cy : Nat → ClassId) (sh : zShp) (ad : Nat → Nat) {k0 : Nat} (h0 : zT sh k0 12) {M : zMem} {r : Int32} (hd : zX12_rampSum sh k0 M = some r) : zCI l yX12_rampSum cX12_rampSum 3 .int { frames := 0, cells := 0, slots := 0, locals := 0 } [.ref (ad k0)] D cy sh ad M r M := by
  refine zci_of (by decide) (Nat.le_of_ble_eq_true rfl) (fun p e s m below meth c ls F hr hlk hl hw => ?_)
  have hx := F.1.1
  have hb := F.1.2.1
  have hl : lv_has ls 3 [(0, .ref (ad k0))] := hl
  have L4 : ∀  (n : Nat), ∀ (x1 : Int32) (x2 : Int32) (H : Heap) (locs : List Loc) (ls : Array Slot), lv_has ls 3 [(0, .ref (ad k0)), (1, .int x1), (2, .int x2)] → zWd D cy sh ad s M H locs → zlX12_rampSum_4 sh k0 M  n x1 x2 = some r → W p l e { frames := 0, cells := 0, slots := 0, locals := 0 } s m ([.ref (ad k0)] : List Value).toArray below meth c H locs 0 0 (zQI below D cy sh ad s [.ref (ad k0)] r M) (F0 m 4 ls []) := by
    intro  n
    induction n with
    | zero => intro x1 x2 H locs ls hl hw hd; exact (znone hd).elim
    | succ n hk4 =>
      intro x1 x2 H locs ls hl hw hd
      have hd : zbX12_rampSum_4 sh k0 M  (zlX12_rampSum_4 sh k0 M  n) x1 x2 = some r := hd
      unfold zbX12_rampSum_4 at hd
      refine lv_iload_n hx hb dX12_rampSum_4 rfl (lv_at hl 2 rfl) ?_
      refine lv_aload_n hx hb dX12_rampSum_5 rfl (lv_at hl 0 rfl) ?_
      refine z_gI F hw h0 zc12 36 (by decide) rfl zf12_286 dX12_rampSum_6 ?_
      refine lv_icmp_ge (tgt := 27) hx hb dX12_rampSum_9 (by decide) (fun c_1 => ?_) (fun c_1 => ?_)
      · have hd := zif_pos c_1 hd
        refine lv_iload_n hx hb dX12_rampSum_27 rfl (lv_at hl 1 rfl) ?_
        exact z_iret F hr hlk hw (Option.some.inj hd) rfl dX12_rampSum_28
      · have hd := zif_neg c_1 hd
        refine lv_iload_n hx hb dX12_rampSum_12 rfl (lv_at hl 1 rfl) ?_
        refine lv_aload_n hx hb dX12_rampSum_13 rfl (lv_at hl 0 rfl) ?_
        refine z_gR F hw h0 zc12 35 (by decide) rfl zf12_58 dX12_rampSum_14 ?_
        have t_2 : zT sh (zR M k0 35) 14 := hw.2.2.2.fld h0 35 14
        refine lv_iload_n hx hb dX12_rampSum_17 rfl (lv_at hl 2 rfl) ?_
        obtain ⟨g_3, hd⟩ := zgd_some hd
        refine z_iald F hw t_2 g_3 dX12_rampSum_18 ?_
        refine lv_iadd hx hb dX12_rampSum_19 ?_
        refine lv_topi (fun v_4 ev_4 => ?_)
        have hd := zbd_eq ev_4 hd
        refine lv_istore_n (lv' := [(1, .int v_4), (0, .ref (ad k0)), (2, .int x2)]) hx hb dX12_rampSum_20 rfl hl (by decide) rfl (fun ls hl => ?_)
        refine lv_iinc (v := (x2 + (1 : Int32))) (lv' := [(2, .int (x2 + (1 : Int32))), (1, .int v_4), (0, .ref (ad k0))]) hx hb dX12_rampSum_21 hl (k := 2) rfl (ziinc (by decide)) (by decide) rfl (fun ls hl => ?_)
        refine lv_goto (tgt := 4) hx hb dX12_rampSum_24 (by decide) ?_
        exact hk4 _ _ _ _ _ (lv_sub hl [2, 1, 0] rfl) hw hd
  unfold zX12_rampSum at hd
  refine lv_iconst (v := (0 : Int32)) hx hb dX12_rampSum_0 (by decide) ?_
  refine lv_istore_n (lv' := [(1, .int (0 : Int32)), (0, .ref (ad k0))]) hx hb dX12_rampSum_1 rfl hl (by decide) rfl (fun ls hl => ?_)
  refine lv_iconst (v := (0 : Int32)) hx hb dX12_rampSum_2 (by decide) ?_
  refine lv_istore_n (lv' := [(2, .int (0 : Int32)), (1, .int (0 : Int32)), (0, .ref (ad k0))]) hx hb dX12_rampSum_3 rfl hl (by decide) rfl (fun ls hl => ?_)
  exact L4 zF _ _ _ _ _ (lv_sub hl [2, 1, 0] rfl) hw hd

def zjX12_isRamp_41 (sh : zShp) (p0 : Int32) (p1 : Int32) (p2 : Int32) (M : zMem)  (s0 : Int32) : Option (Int32) :=
  zgd (zisB s0) <|
  some s0
def zjX12_isRamp_40 (sh : zShp) (p0 : Int32) (p1 : Int32) (p2 : Int32) (M : zMem)   : Option (Int32) :=
  zjX12_isRamp_41 sh p0 p1 p2 M (0 : Int32)
def zX12_isRamp (sh : zShp) (p0 : Int32) (p1 : Int32) (p2 : Int32) (M : zMem) : Option (Int32) :=
  zob (zX12_isIn sh (p0.toInt64) (0 : Int64) (60 : Int64) M) fun r_3 =>
  if r_3 = 0 then (
  zjX12_isRamp_40 sh p0 p1 p2 M)
  else (
  zob (zX12_isIn sh (p1.toInt64) (1 : Int64) (30 : Int64) M) fun r_6 =>
  if r_6 = 0 then (
  zjX12_isRamp_40 sh p0 p1 p2 M)
  else (
  zob (zX12_isIn sh (p2.toInt64) (1 : Int64) (10 : Int64) M) fun r_9 =>
  if r_9 = 0 then (
  zjX12_isRamp_40 sh p0 p1 p2 M)
  else (
  zjX12_isRamp_41 sh p0 p1 p2 M (1 : Int32))))
set_option maxHeartbeats 4000000 in
set_option maxRecDepth 100000 in
theorem ztX12_isRamp (l : Launch) (D : va_G) (cy : Nat → ClassId) (sh : zShp) (ad : Nat → Nat) {p0 : Int32} {p1 : Int32} {p2 : Int32}  {M : zMem} {r : Int32} (hd : zX12_isRamp sh p0 p1 p2 M = some r) : zCI l yX12_isRamp cX12_isRamp 3 .boolean { frames := 1, cells := 0, slots := 0, locals := 25 } [.int p0, .int p1, .int p2] D cy sh ad M r M := by
  refine zci_of (by decide) (Nat.le_of_ble_eq_true rfl) (fun p e s m below meth c ls F hr hlk hl hw => ?_)
  have hx := F.1.1
  have hb := F.1.2.1
  have hl : lv_has ls 3 [(0, .int p0), (1, .int p1), (2, .int p2)] := hl
  have J41 : ∀ (s0 : Int32) (H : Heap) (locs : List Loc) (ls : Array Slot), lv_has ls 3 [] → zWd D cy sh ad s M H locs → zjX12_isRamp_41 sh p0 p1 p2 M  s0 = some r → W p l e { frames := 1, cells := 0, slots := 0, locals := 25 } s m ([.int p0, .int p1, .int p2] : List Value).toArray below meth c H locs 0 0 (zQI below D cy sh ad s [.int p0, .int p1, .int p2] r M) (F0 m 41 ls [.int s0]) := by
    intro  s0 H locs ls hl hw hd
    unfold zjX12_isRamp_41 at hd
    obtain ⟨g_1, hd⟩ := zgd_some hd
    exact z_zret F hr hlk hw g_1 (Option.some.inj hd) rfl dX12_isRamp_41
  have J40 : ∀  (H : Heap) (locs : List Loc) (ls : Array Slot), lv_has ls 3 [] → zWd D cy sh ad s M H locs → zjX12_isRamp_40 sh p0 p1 p2 M   = some r → W p l e { frames := 1, cells := 0, slots := 0, locals := 25 } s m ([.int p0, .int p1, .int p2] : List Value).toArray below meth c H locs 0 0 (zQI below D cy sh ad s [.int p0, .int p1, .int p2] r M) (F0 m 40 ls []) := by
    intro  H locs ls hl hw hd
    unfold zjX12_isRamp_40 at hd
    refine lv_iconst (v := (0 : Int32)) hx hb dX12_isRamp_40 (by decide) ?_
    exact J41 _ _ _ _ (lv_sub hl [] rfl) hw hd
  unfold zX12_isRamp at hd
  refine lv_iload_n hx hb dX12_isRamp_0 rfl (lv_at hl 0 rfl) ?_
  refine lv_i2l (v := p0.toInt64) hx hb dX12_isRamp_1 rfl ?_
  refine lv_lconst (v := (0 : Int64)) hx hb dX12_isRamp_2 (by decide) ?_
  refine lv_ldc2 (v := (60 : Int64)) hx hb F.1.2.2.2.1 (F.1.2.2.2.2 _ zi12_292) dX12_isRamp_3 ?_
  obtain ⟨r_3, hc_2, hd⟩ := zob_some hd
  refine z_csI F hw hl.1 (As := [.long (p0.toInt64), .long (0 : Int64), .long (60 : Int64)]) (rest := []) (ztX12_isIn l D cy sh ad  hc_2) zyX12_isIn zk12_91 ⟨rfl, rfl⟩ ⟨by decide, by decide⟩ rfl rfl (Nat.le_of_ble_eq_true rfl) dX12_isRamp_6 (fun H locs hw => ?_)
  refine lv_if_eq (tgt := 40) hx hb dX12_isRamp_9 (by decide) (fun c_4 => ?_) (fun c_4 => ?_)
  · have hd := zif_pos c_4 hd
    exact J40 _ _ _ (lv_sub hl [] rfl) hw hd
  · have hd := zif_neg c_4 hd
    refine lv_iload_n hx hb dX12_isRamp_12 rfl (lv_at hl 1 rfl) ?_
    refine lv_i2l (v := p1.toInt64) hx hb dX12_isRamp_13 rfl ?_
    refine lv_lconst (v := (1 : Int64)) hx hb dX12_isRamp_14 (by decide) ?_
    refine lv_ldc2 (v := (30 : Int64)) hx hb F.1.2.2.2.1 (F.1.2.2.2.2 _ zi12_294) dX12_isRamp_15 ?_
    obtain ⟨r_6, hc_5, hd⟩ := zob_some hd
    refine z_csI F hw hl.1 (As := [.long (p1.toInt64), .long (1 : Int64), .long (30 : Int64)]) (rest := []) (ztX12_isIn l D cy sh ad  hc_5) zyX12_isIn zk12_91 ⟨rfl, rfl⟩ ⟨by decide, by decide⟩ rfl rfl (Nat.le_of_ble_eq_true rfl) dX12_isRamp_18 (fun H locs hw => ?_)
    refine lv_if_eq (tgt := 40) hx hb dX12_isRamp_21 (by decide) (fun c_7 => ?_) (fun c_7 => ?_)
    · have hd := zif_pos c_7 hd
      exact J40 _ _ _ (lv_sub hl [] rfl) hw hd
    · have hd := zif_neg c_7 hd
      refine lv_iload_n hx hb dX12_isRamp_24 rfl (lv_at hl 2 rfl) ?_
      refine lv_i2l (v := p2.toInt64) hx hb dX12_isRamp_25 rfl ?_
      refine lv_lconst (v := (1 : Int64)) hx hb dX12_isRamp_26 (by decide) ?_
      refine lv_ldc2 (v := (10 : Int64)) hx hb F.1.2.2.2.1 (F.1.2.2.2.2 _ zi12_296) dX12_isRamp_27 ?_
      obtain ⟨r_9, hc_8, hd⟩ := zob_some hd
      refine z_csI F hw hl.1 (As := [.long (p2.toInt64), .long (1 : Int64), .long (10 : Int64)]) (rest := []) (ztX12_isIn l D cy sh ad  hc_8) zyX12_isIn zk12_91 ⟨rfl, rfl⟩ ⟨by decide, by decide⟩ rfl rfl (Nat.le_of_ble_eq_true rfl) dX12_isRamp_30 (fun H locs hw => ?_)
      refine lv_if_eq (tgt := 40) hx hb dX12_isRamp_33 (by decide) (fun c_10 => ?_) (fun c_10 => ?_)
      · have hd := zif_pos c_10 hd
        exact J40 _ _ _ (lv_sub hl [] rfl) hw hd
      · have hd := zif_neg c_10 hd
        refine lv_iconst (v := (1 : Int32)) hx hb dX12_isRamp_36 (by decide) ?_
        refine lv_goto (tgt := 41) hx hb dX12_isRamp_37 (by decide) ?_
        exact J41 _ _ _ _ (lv_sub hl [] rfl) hw hd

def zjX12_ramp_57 (sh : zShp) (k0 : Nat) (p1 : Int32) (p2 : Int32) (p3 : Int32) (p4 : Int32)  (s0 : Int32) (M : zMem) : Option (Int32 × zMem) :=
  some (s0, M)
def zX12_ramp (sh : zShp) (k0 : Nat) (p1 : Int32) (p2 : Int32) (p3 : Int32) (p4 : Int32) (M : zMem) : Option (Int32 × zMem) :=
  zob (zX12_isRamp sh p1 p2 p3 M) fun r_2 =>
  if r_2 = 0 then (
  some ((-1 : Int32), M))
  else (
  zob (zX12_laysRamp sh k0 p1 p2 p3 M) fun M_5 =>
  if p4 = 0 then (
  zjX12_ramp_57 sh k0 p1 p2 p3 p4 (zI M_5 k0 36) M_5)
  else (
  if p4 = (1 : Int32) then (
  zob (zX12_reached sh k0 M_5) fun r_12 =>
  zjX12_ramp_57 sh k0 p1 p2 p3 p4 r_12 M_5)
  else (
  if p4 = (2 : Int32) then (
  zob (zX12_rampSum sh k0 M_5) fun r_10 =>
  zjX12_ramp_57 sh k0 p1 p2 p3 p4 r_10 M_5)
  else (
  zjX12_ramp_57 sh k0 p1 p2 p3 p4 (-1 : Int32) M_5))))
set_option maxHeartbeats 4000000 in
set_option maxRecDepth 100000 in
theorem ztX12_ramp (l : Launch) (D : va_G) (cy : Nat → ClassId) (sh : zShp) (ad : Nat → Nat) {k0 : Nat} {p1 : Int32} {p2 : Int32} {p3 : Int32} {p4 : Int32} (h0 : zT sh k0 12) {M : zMem} {r : Int32} {M1 : zMem} (hd : zX12_ramp sh k0 p1 p2 p3 p4 M = some (r, M1)) : zCI l yX12_ramp cX12_ramp 5 .int { frames := 2, cells := 0, slots := 0, locals := 51 } [.ref (ad k0), .int p1, .int p2, .int p3, .int p4] D cy sh ad M r M1 := by
  refine zci_of (by decide) (Nat.le_of_ble_eq_true rfl) (fun p e s m below meth c ls F hr hlk hl hw => ?_)
  have hx := F.1.1
  have hb := F.1.2.1
  have hl : lv_has ls 5 [(0, .ref (ad k0)), (1, .int p1), (2, .int p2), (3, .int p3), (4, .int p4)] := hl
  have J57 : ∀ (s0 : Int32) (M : zMem) (H : Heap) (locs : List Loc) (ls : Array Slot), lv_has ls 5 [] → zWd D cy sh ad s M H locs → zjX12_ramp_57 sh k0 p1 p2 p3 p4  s0 M = some (r, M1) → W p l e { frames := 2, cells := 0, slots := 0, locals := 51 } s m ([.ref (ad k0), .int p1, .int p2, .int p3, .int p4] : List Value).toArray below meth c H locs 0 0 (zQI below D cy sh ad s [.ref (ad k0), .int p1, .int p2, .int p3, .int p4] r M1) (F0 m 57 ls [.int s0]) := by
    intro  s0 M H locs ls hl hw hd
    unfold zjX12_ramp_57 at hd
    exact z_iret F hr hlk hw (zpr1 hd) (zpr2 hd) dX12_ramp_57
  unfold zX12_ramp at hd
  refine lv_iload_n hx hb dX12_ramp_0 rfl (lv_at hl 1 rfl) ?_
  refine lv_iload_n hx hb dX12_ramp_1 rfl (lv_at hl 2 rfl) ?_
  refine lv_iload_n hx hb dX12_ramp_2 rfl (lv_at hl 3 rfl) ?_
  obtain ⟨r_2, hc_1, hd⟩ := zob_some hd
  refine z_csI F hw hl.1 (As := [.int p1, .int p2, .int p3]) (rest := []) (ztX12_isRamp l D cy sh ad  hc_1) zyX12_isRamp zk12_298 ⟨rfl, rfl⟩ ⟨by decide, by decide⟩ rfl rfl (Nat.le_of_ble_eq_true rfl) dX12_ramp_3 (fun H locs hw => ?_)
  refine lv_if_ne (tgt := 11) hx hb dX12_ramp_6 (by decide) (fun c_3 => ?_) (fun c_3 => ?_)
  · have hd := zif_neg c_3 hd
    refine lv_aload_n hx hb dX12_ramp_11 rfl (lv_at hl 0 rfl) ?_
    refine lv_iload_n hx hb dX12_ramp_12 rfl (lv_at hl 1 rfl) ?_
    refine lv_iload_n hx hb dX12_ramp_13 rfl (lv_at hl 2 rfl) ?_
    refine lv_iload_n hx hb dX12_ramp_14 rfl (lv_at hl 3 rfl) ?_
    obtain ⟨M_5, hc_4, hd⟩ := zob_some hd
    refine z_cvV F hw hl.1 (As := [.int p1, .int p2, .int p3]) (rest := []) (ztX12_laysRamp l D cy sh ad h0 hc_4) zyX12_laysRamp h0 zc12 zk12_302 ⟨rfl, rfl⟩ ⟨by decide, by decide⟩ rfl rfl (Nat.le_of_ble_eq_true rfl) dX12_ramp_15 (fun H locs hw => ?_)
    refine lv_iload hx hb dX12_ramp_18 (lv_at hl 4 rfl) ?_
    refine lv_if_ne (tgt := 30) hx hb dX12_ramp_20 (by decide) (fun c_6 => ?_) (fun c_6 => ?_)
    · have hd := zif_neg c_6 hd
      refine lv_iload hx hb dX12_ramp_30 (lv_at hl 4 rfl) ?_
      refine lv_iconst (v := (1 : Int32)) hx hb dX12_ramp_32 (by decide) ?_
      refine lv_icmp_ne (tgt := 43) hx hb dX12_ramp_33 (by decide) (fun c_7 => ?_) (fun c_7 => ?_)
      · have hd := zif_neg c_7 hd
        refine lv_iload hx hb dX12_ramp_43 (lv_at hl 4 rfl) ?_
        refine lv_iconst (v := (2 : Int32)) hx hb dX12_ramp_45 (by decide) ?_
        refine lv_icmp_ne (tgt := 56) hx hb dX12_ramp_46 (by decide) (fun c_8 => ?_) (fun c_8 => ?_)
        · have hd := zif_neg c_8 hd
          refine lv_iconst (v := (-1 : Int32)) hx hb dX12_ramp_56 (by decide) ?_
          exact J57 _ _ _ _ _ (lv_sub hl [] rfl) hw hd
        · have hd := zif_pos c_8 hd
          refine lv_aload_n hx hb dX12_ramp_49 rfl (lv_at hl 0 rfl) ?_
          obtain ⟨r_10, hc_9, hd⟩ := zob_some hd
          refine z_cvI F hw hl.1 (As := []) (rest := []) (ztX12_rampSum l D cy sh ad h0 hc_9) zyX12_rampSum h0 zc12 zk12_309 ⟨rfl, rfl⟩ ⟨by decide, by decide⟩ rfl rfl (Nat.le_of_ble_eq_true rfl) dX12_ramp_50 (fun H locs hw => ?_)
          refine lv_goto (tgt := 57) hx hb dX12_ramp_53 (by decide) ?_
          exact J57 _ _ _ _ _ (lv_sub hl [] rfl) hw hd
      · have hd := zif_pos c_7 hd
        refine lv_aload_n hx hb dX12_ramp_36 rfl (lv_at hl 0 rfl) ?_
        obtain ⟨r_12, hc_11, hd⟩ := zob_some hd
        refine z_cvI F hw hl.1 (As := []) (rest := []) (ztX12_reached l D cy sh ad h0 hc_11) zyX12_reached h0 zc12 zk12_306 ⟨rfl, rfl⟩ ⟨by decide, by decide⟩ rfl rfl (Nat.le_of_ble_eq_true rfl) dX12_ramp_37 (fun H locs hw => ?_)
        refine lv_goto (tgt := 57) hx hb dX12_ramp_40 (by decide) ?_
        exact J57 _ _ _ _ _ (lv_sub hl [] rfl) hw hd
    · have hd := zif_pos c_6 hd
      refine lv_aload_n hx hb dX12_ramp_23 rfl (lv_at hl 0 rfl) ?_
      refine z_gI F hw h0 zc12 36 (by decide) rfl zf12_286 dX12_ramp_24 ?_
      refine lv_goto (tgt := 57) hx hb dX12_ramp_27 (by decide) ?_
      exact J57 _ _ _ _ _ (lv_sub hl [] rfl) hw hd
  · have hd := zif_pos c_3 hd
    refine lv_iconst (v := (-1 : Int32)) hx hb dX12_ramp_9 (by decide) ?_
    exact z_iret F hr hlk hw (zpr1 hd) (zpr2 hd) dX12_ramp_10

def zjX12_rampAt_46 (sh : zShp) (k0 : Nat) (p1 : Int32) (p2 : Int32) (p3 : Int32) (p4 : Int32)  (s0 : Int32) (M : zMem) : Option (Int32 × zMem) :=
  some (s0, M)
def zX12_rampAt (sh : zShp) (k0 : Nat) (p1 : Int32) (p2 : Int32) (p3 : Int32) (p4 : Int32) (M : zMem) : Option (Int32 × zMem) :=
  zob (zX12_isRamp sh p1 p2 p3 M) fun r_2 =>
  if r_2 = 0 then (
  some ((-1 : Int32), M))
  else (
  zob (zX12_laysRamp sh k0 p1 p2 p3 M) fun M_5 =>
  zob (zX12_isIn sh (p4.toInt64) (1 : Int64) ((zI M_5 k0 36).toInt64) M_5) fun r_7 =>
  if r_7 = 0 then (
  zjX12_rampAt_46 sh k0 p1 p2 p3 p4 (-1 : Int32) M_5)
  else (
  zgd (zin (p4 - (1 : Int32)) (zlen sh (zR M_5 k0 35))) <|
  zjX12_rampAt_46 sh k0 p1 p2 p3 p4 (zI M_5 (zR M_5 k0 35) ((p4 - (1 : Int32)).toNatClampNeg)) M_5))
set_option maxHeartbeats 4000000 in
set_option maxRecDepth 100000 in
theorem ztX12_rampAt (l : Launch) (D : va_G) (cy : Nat → ClassId) (sh : zShp) (ad : Nat → Nat) {k0 : Nat} {p1 : Int32} {p2 : Int32} {p3 : Int32} {p4 : Int32} (h0 : zT sh k0 12) {M : zMem} {r : Int32} {M1 : zMem} (hd : zX12_rampAt sh k0 p1 p2 p3 p4 M = some (r, M1)) : zCI l yX12_rampAt cX12_rampAt 5 .int { frames := 2, cells := 0, slots := 0, locals := 51 } [.ref (ad k0), .int p1, .int p2, .int p3, .int p4] D cy sh ad M r M1 := by
  refine zci_of (by decide) (Nat.le_of_ble_eq_true rfl) (fun p e s m below meth c ls F hr hlk hl hw => ?_)
  have hx := F.1.1
  have hb := F.1.2.1
  have hl : lv_has ls 5 [(0, .ref (ad k0)), (1, .int p1), (2, .int p2), (3, .int p3), (4, .int p4)] := hl
  have J46 : ∀ (s0 : Int32) (M : zMem) (H : Heap) (locs : List Loc) (ls : Array Slot), lv_has ls 5 [] → zWd D cy sh ad s M H locs → zjX12_rampAt_46 sh k0 p1 p2 p3 p4  s0 M = some (r, M1) → W p l e { frames := 2, cells := 0, slots := 0, locals := 51 } s m ([.ref (ad k0), .int p1, .int p2, .int p3, .int p4] : List Value).toArray below meth c H locs 0 0 (zQI below D cy sh ad s [.ref (ad k0), .int p1, .int p2, .int p3, .int p4] r M1) (F0 m 46 ls [.int s0]) := by
    intro  s0 M H locs ls hl hw hd
    unfold zjX12_rampAt_46 at hd
    exact z_iret F hr hlk hw (zpr1 hd) (zpr2 hd) dX12_rampAt_46
  unfold zX12_rampAt at hd
  refine lv_iload_n hx hb dX12_rampAt_0 rfl (lv_at hl 1 rfl) ?_
  refine lv_iload_n hx hb dX12_rampAt_1 rfl (lv_at hl 2 rfl) ?_
  refine lv_iload_n hx hb dX12_rampAt_2 rfl (lv_at hl 3 rfl) ?_
  obtain ⟨r_2, hc_1, hd⟩ := zob_some hd
  refine z_csI F hw hl.1 (As := [.int p1, .int p2, .int p3]) (rest := []) (ztX12_isRamp l D cy sh ad  hc_1) zyX12_isRamp zk12_298 ⟨rfl, rfl⟩ ⟨by decide, by decide⟩ rfl rfl (Nat.le_of_ble_eq_true rfl) dX12_rampAt_3 (fun H locs hw => ?_)
  refine lv_if_ne (tgt := 11) hx hb dX12_rampAt_6 (by decide) (fun c_3 => ?_) (fun c_3 => ?_)
  · have hd := zif_neg c_3 hd
    refine lv_aload_n hx hb dX12_rampAt_11 rfl (lv_at hl 0 rfl) ?_
    refine lv_iload_n hx hb dX12_rampAt_12 rfl (lv_at hl 1 rfl) ?_
    refine lv_iload_n hx hb dX12_rampAt_13 rfl (lv_at hl 2 rfl) ?_
    refine lv_iload_n hx hb dX12_rampAt_14 rfl (lv_at hl 3 rfl) ?_
    obtain ⟨M_5, hc_4, hd⟩ := zob_some hd
    refine z_cvV F hw hl.1 (As := [.int p1, .int p2, .int p3]) (rest := []) (ztX12_laysRamp l D cy sh ad h0 hc_4) zyX12_laysRamp h0 zc12 zk12_302 ⟨rfl, rfl⟩ ⟨by decide, by decide⟩ rfl rfl (Nat.le_of_ble_eq_true rfl) dX12_rampAt_15 (fun H locs hw => ?_)
    refine lv_iload hx hb dX12_rampAt_18 (lv_at hl 4 rfl) ?_
    refine lv_i2l (v := p4.toInt64) hx hb dX12_rampAt_20 rfl ?_
    refine lv_lconst (v := (1 : Int64)) hx hb dX12_rampAt_21 (by decide) ?_
    refine lv_aload_n hx hb dX12_rampAt_22 rfl (lv_at hl 0 rfl) ?_
    refine z_gI F hw h0 zc12 36 (by decide) rfl zf12_286 dX12_rampAt_23 ?_
    refine lv_i2l (v := (zI M_5 k0 36).toInt64) hx hb dX12_rampAt_26 rfl ?_
    obtain ⟨r_7, hc_6, hd⟩ := zob_some hd
    refine z_csI F hw hl.1 (As := [.long (p4.toInt64), .long (1 : Int64), .long ((zI M_5 k0 36).toInt64)]) (rest := []) (ztX12_isIn l D cy sh ad  hc_6) zyX12_isIn zk12_91 ⟨rfl, rfl⟩ ⟨by decide, by decide⟩ rfl rfl (Nat.le_of_ble_eq_true rfl) dX12_rampAt_27 (fun H locs hw => ?_)
    refine lv_if_eq (tgt := 45) hx hb dX12_rampAt_30 (by decide) (fun c_8 => ?_) (fun c_8 => ?_)
    · have hd := zif_pos c_8 hd
      refine lv_iconst (v := (-1 : Int32)) hx hb dX12_rampAt_45 (by decide) ?_
      exact J46 _ _ _ _ _ (lv_sub hl [] rfl) hw hd
    · have hd := zif_neg c_8 hd
      refine lv_aload_n hx hb dX12_rampAt_33 rfl (lv_at hl 0 rfl) ?_
      refine z_gR F hw h0 zc12 35 (by decide) rfl zf12_58 dX12_rampAt_34 ?_
      have t_9 : zT sh (zR M_5 k0 35) 14 := hw.2.2.2.fld h0 35 14
      refine lv_iload hx hb dX12_rampAt_37 (lv_at hl 4 rfl) ?_
      refine lv_iconst (v := (1 : Int32)) hx hb dX12_rampAt_39 (by decide) ?_
      refine lv_isub hx hb dX12_rampAt_40 ?_
      obtain ⟨g_10, hd⟩ := zgd_some hd
      refine z_iald F hw t_9 g_10 dX12_rampAt_41 ?_
      refine lv_goto (tgt := 46) hx hb dX12_rampAt_42 (by decide) ?_
      exact J46 _ _ _ _ _ (lv_sub hl [] rfl) hw hd
  · have hd := zif_pos c_3 hd
    refine lv_iconst (v := (-1 : Int32)) hx hb dX12_rampAt_9 (by decide) ?_
    exact z_iret F hr hlk hw (zpr1 hd) (zpr2 hd) dX12_rampAt_10

def zjX12_bandsAt_65 (sh : zShp) (k0 : Nat) (p1 : Int32) (p2 : Int32) (M : zMem) (kk5 : Int32 → Int32 → Option (Int32)) (x4 : Int32) (s0 : Int32) (s1 : Int32) : Option (Int32) :=
  zob (zX12_truth sh s1 M) fun r_2 =>
  kk5 (s0 + r_2) (x4 + (1 : Int32))
def zjX12_bandsAt_64 (sh : zShp) (k0 : Nat) (p1 : Int32) (p2 : Int32) (M : zMem) (kk5 : Int32 → Int32 → Option (Int32)) (x4 : Int32) (s0 : Int32) : Option (Int32) :=
  zjX12_bandsAt_65 sh k0 p1 p2 M kk5 x4 s0 (0 : Int32)
def zbX12_bandsAt_5 (sh : zShp) (k0 : Nat) (p1 : Int32) (p2 : Int32) (M : zMem)  (kk5 : Int32 → Int32 → Option (Int32)) (x3 : Int32) (x4 : Int32) : Option (Int32) :=
  if (zI M k0 24) ≤ x4 then (
  some x3)
  else (
  zgd (zin ((3 : Int32) * x4) (zlen sh (zR M k0 16))) <|
  if (zI M (zR M k0 16) (((3 : Int32) * x4).toNatClampNeg)) = p1 then (
  zgd (zin (((3 : Int32) * x4) + (1 : Int32)) (zlen sh (zR M k0 16))) <|
  zgd (zin (((3 : Int32) * x4) + (2 : Int32)) (zlen sh (zR M k0 16))) <|
  zob (zX12_isIn sh (p2.toInt64) ((zI M (zR M k0 16) ((((3 : Int32) * x4) + (1 : Int32)).toNatClampNeg)).toInt64) ((zI M (zR M k0 16) ((((3 : Int32) * x4) + (2 : Int32)).toNatClampNeg)).toInt64) M) fun r_12 =>
  if r_12 = 0 then (
  zjX12_bandsAt_64 sh k0 p1 p2 M kk5 x4 x3)
  else (
  zjX12_bandsAt_65 sh k0 p1 p2 M kk5 x4 x3 (1 : Int32)))
  else (
  zjX12_bandsAt_64 sh k0 p1 p2 M kk5 x4 x3))
def zlX12_bandsAt_5 (sh : zShp) (k0 : Nat) (p1 : Int32) (p2 : Int32) (M : zMem)  : Nat → Int32 → Int32 → Option (Int32)
  | 0 => fun _ _ => none
  | n + 1 => fun x3 x4 => zbX12_bandsAt_5 sh k0 p1 p2 M  (zlX12_bandsAt_5 sh k0 p1 p2 M  n) x3 x4
def zX12_bandsAt (sh : zShp) (k0 : Nat) (p1 : Int32) (p2 : Int32) (M : zMem) : Option (Int32) :=
  zlX12_bandsAt_5 sh k0 p1 p2 M zF (0 : Int32) (0 : Int32)
set_option maxHeartbeats 4000000 in
set_option maxRecDepth 100000 in
theorem ztX12_bandsAt (l : Launch) (D : va_G) (cy : Nat → ClassId) (sh : zShp) (ad : Nat → Nat) {k0 : Nat} {p1 : Int32} {p2 : Int32} (h0 : zT sh k0 12) {M : zMem} {r : Int32} (hd : zX12_bandsAt sh k0 p1 p2 M = some r) : zCI l yX12_bandsAt cX12_bandsAt 5 .int { frames := 1, cells := 0, slots := 0, locals := 25 } [.ref (ad k0), .int p1, .int p2] D cy sh ad M r M := by
  refine zci_of (by decide) (Nat.le_of_ble_eq_true rfl) (fun p e s m below meth c ls F hr hlk hl hw => ?_)
  have hx := F.1.1
  have hb := F.1.2.1
  have hl : lv_has ls 5 [(0, .ref (ad k0)), (1, .int p1), (2, .int p2)] := hl
  have J65 : ∀ (kk5 : Int32 → Int32 → Option (Int32)) (hk5 : ∀ (x3 : Int32) (x4 : Int32) (H : Heap) (locs : List Loc) (ls : Array Slot), lv_has ls 5 [(0, .ref (ad k0)), (1, .int p1), (2, .int p2), (3, .int x3), (4, .int x4)] → zWd D cy sh ad s M H locs → kk5 x3 x4 = some r → W p l e { frames := 1, cells := 0, slots := 0, locals := 25 } s m ([.ref (ad k0), .int p1, .int p2] : List Value).toArray below meth c H locs 0 0 (zQI below D cy sh ad s [.ref (ad k0), .int p1, .int p2] r M) (F0 m 5 ls [])), ∀ (x4 : Int32) (s0 : Int32) (s1 : Int32) (H : Heap) (locs : List Loc) (ls : Array Slot), lv_has ls 5 [(0, .ref (ad k0)), (1, .int p1), (2, .int p2), (4, .int x4)] → zWd D cy sh ad s M H locs → zjX12_bandsAt_65 sh k0 p1 p2 M kk5 x4 s0 s1 = some r → W p l e { frames := 1, cells := 0, slots := 0, locals := 25 } s m ([.ref (ad k0), .int p1, .int p2] : List Value).toArray below meth c H locs 0 0 (zQI below D cy sh ad s [.ref (ad k0), .int p1, .int p2] r M) (F0 m 65 ls [.int s1, .int s0]) := by
    intro kk5 hk5 x4 s0 s1 H locs ls hl hw hd
    unfold zjX12_bandsAt_65 at hd
    obtain ⟨r_2, hc_1, hd⟩ := zob_some hd
    refine z_csI F hw hl.1 (As := [.int s1]) (rest := [.int s0]) (ztX12_truth l D cy sh ad  hc_1) zyX12_truth zk12_279 ⟨rfl, rfl⟩ ⟨by decide, by decide⟩ rfl rfl (Nat.le_of_ble_eq_true rfl) dX12_bandsAt_65 (fun H locs hw => ?_)
    refine lv_iadd hx hb dX12_bandsAt_68 ?_
    refine lv_istore_n (lv' := [(3, .int (s0 + r_2)), (0, .ref (ad k0)), (1, .int p1), (2, .int p2), (4, .int x4)]) hx hb dX12_bandsAt_69 rfl hl (by decide) rfl (fun ls hl => ?_)
    refine lv_iinc (v := (x4 + (1 : Int32))) (lv' := [(4, .int (x4 + (1 : Int32))), (3, .int (s0 + r_2)), (0, .ref (ad k0)), (1, .int p1), (2, .int p2)]) hx hb dX12_bandsAt_70 hl (k := 4) rfl (ziinc (by decide)) (by decide) rfl (fun ls hl => ?_)
    refine lv_goto (tgt := 5) hx hb dX12_bandsAt_73 (by decide) ?_
    exact hk5 _ _ _ _ _ (lv_sub hl [2, 3, 4, 1, 0] rfl) hw hd
  have J64 : ∀ (kk5 : Int32 → Int32 → Option (Int32)) (hk5 : ∀ (x3 : Int32) (x4 : Int32) (H : Heap) (locs : List Loc) (ls : Array Slot), lv_has ls 5 [(0, .ref (ad k0)), (1, .int p1), (2, .int p2), (3, .int x3), (4, .int x4)] → zWd D cy sh ad s M H locs → kk5 x3 x4 = some r → W p l e { frames := 1, cells := 0, slots := 0, locals := 25 } s m ([.ref (ad k0), .int p1, .int p2] : List Value).toArray below meth c H locs 0 0 (zQI below D cy sh ad s [.ref (ad k0), .int p1, .int p2] r M) (F0 m 5 ls [])), ∀ (x4 : Int32) (s0 : Int32) (H : Heap) (locs : List Loc) (ls : Array Slot), lv_has ls 5 [(0, .ref (ad k0)), (1, .int p1), (2, .int p2), (4, .int x4)] → zWd D cy sh ad s M H locs → zjX12_bandsAt_64 sh k0 p1 p2 M kk5 x4 s0 = some r → W p l e { frames := 1, cells := 0, slots := 0, locals := 25 } s m ([.ref (ad k0), .int p1, .int p2] : List Value).toArray below meth c H locs 0 0 (zQI below D cy sh ad s [.ref (ad k0), .int p1, .int p2] r M) (F0 m 64 ls [.int s0]) := by
    intro kk5 hk5 x4 s0 H locs ls hl hw hd
    unfold zjX12_bandsAt_64 at hd
    refine lv_iconst (v := (0 : Int32)) hx hb dX12_bandsAt_64 (by decide) ?_
    exact J65 _ hk5 _ _ _ _ _ _ (lv_sub hl [0, 1, 2, 3] rfl) hw hd
  have L5 : ∀  (n : Nat), ∀ (x3 : Int32) (x4 : Int32) (H : Heap) (locs : List Loc) (ls : Array Slot), lv_has ls 5 [(0, .ref (ad k0)), (1, .int p1), (2, .int p2), (3, .int x3), (4, .int x4)] → zWd D cy sh ad s M H locs → zlX12_bandsAt_5 sh k0 p1 p2 M  n x3 x4 = some r → W p l e { frames := 1, cells := 0, slots := 0, locals := 25 } s m ([.ref (ad k0), .int p1, .int p2] : List Value).toArray below meth c H locs 0 0 (zQI below D cy sh ad s [.ref (ad k0), .int p1, .int p2] r M) (F0 m 5 ls []) := by
    intro  n
    induction n with
    | zero => intro x3 x4 H locs ls hl hw hd; exact (znone hd).elim
    | succ n hk5 =>
      intro x3 x4 H locs ls hl hw hd
      have hd : zbX12_bandsAt_5 sh k0 p1 p2 M  (zlX12_bandsAt_5 sh k0 p1 p2 M  n) x3 x4 = some r := hd
      unfold zbX12_bandsAt_5 at hd
      refine lv_iload hx hb dX12_bandsAt_5 (lv_at hl 4 rfl) ?_
      refine lv_aload_n hx hb dX12_bandsAt_7 rfl (lv_at hl 0 rfl) ?_
      refine z_gI F hw h0 zc12 24 (by decide) rfl zf12_243 dX12_bandsAt_8 ?_
      refine lv_icmp_ge (tgt := 76) hx hb dX12_bandsAt_11 (by decide) (fun c_3 => ?_) (fun c_3 => ?_)
      · have hd := zif_pos c_3 hd
        refine lv_iload_n hx hb dX12_bandsAt_76 rfl (lv_at hl 3 rfl) ?_
        exact z_iret F hr hlk hw (Option.some.inj hd) rfl dX12_bandsAt_77
      · have hd := zif_neg c_3 hd
        refine lv_iload_n hx hb dX12_bandsAt_14 rfl (lv_at hl 3 rfl) ?_
        refine lv_aload_n hx hb dX12_bandsAt_15 rfl (lv_at hl 0 rfl) ?_
        refine z_gR F hw h0 zc12 16 (by decide) rfl zf12_33 dX12_bandsAt_16 ?_
        have t_4 : zT sh (zR M k0 16) 14 := hw.2.2.2.fld h0 16 14
        refine lv_iconst (v := (3 : Int32)) hx hb dX12_bandsAt_19 (by decide) ?_
        refine lv_iload hx hb dX12_bandsAt_20 (lv_at hl 4 rfl) ?_
        refine lv_imul hx hb dX12_bandsAt_22 ?_
        obtain ⟨g_5, hd⟩ := zgd_some hd
        refine z_iald F hw t_4 g_5 dX12_bandsAt_23 ?_
        refine lv_iload_n hx hb dX12_bandsAt_24 rfl (lv_at hl 1 rfl) ?_
        refine lv_icmp_ne (tgt := 64) hx hb dX12_bandsAt_25 (by decide) (fun c_6 => ?_) (fun c_6 => ?_)
        · have hd := zif_neg c_6 hd
          exact J64 _ hk5 _ _ _ _ _ (lv_sub hl [0, 1, 2, 4] rfl) hw hd
        · have hd := zif_pos c_6 hd
          refine lv_iload_n hx hb dX12_bandsAt_28 rfl (lv_at hl 2 rfl) ?_
          refine lv_i2l (v := p2.toInt64) hx hb dX12_bandsAt_29 rfl ?_
          refine lv_aload_n hx hb dX12_bandsAt_30 rfl (lv_at hl 0 rfl) ?_
          refine z_gR F hw h0 zc12 16 (by decide) rfl zf12_33 dX12_bandsAt_31 ?_
          have t_7 : zT sh (zR M k0 16) 14 := hw.2.2.2.fld h0 16 14
          refine lv_iconst (v := (3 : Int32)) hx hb dX12_bandsAt_34 (by decide) ?_
          refine lv_iload hx hb dX12_bandsAt_35 (lv_at hl 4 rfl) ?_
          refine lv_imul hx hb dX12_bandsAt_37 ?_
          refine lv_iconst (v := (1 : Int32)) hx hb dX12_bandsAt_38 (by decide) ?_
          refine lv_iadd hx hb dX12_bandsAt_39 ?_
          obtain ⟨g_8, hd⟩ := zgd_some hd
          refine z_iald F hw t_7 g_8 dX12_bandsAt_40 ?_
          refine lv_i2l (v := (zI M (zR M k0 16) ((((3 : Int32) * x4) + (1 : Int32)).toNatClampNeg)).toInt64) hx hb dX12_bandsAt_41 rfl ?_
          refine lv_aload_n hx hb dX12_bandsAt_42 rfl (lv_at hl 0 rfl) ?_
          refine z_gR F hw h0 zc12 16 (by decide) rfl zf12_33 dX12_bandsAt_43 ?_
          have t_9 : zT sh (zR M k0 16) 14 := hw.2.2.2.fld h0 16 14
          refine lv_iconst (v := (3 : Int32)) hx hb dX12_bandsAt_46 (by decide) ?_
          refine lv_iload hx hb dX12_bandsAt_47 (lv_at hl 4 rfl) ?_
          refine lv_imul hx hb dX12_bandsAt_49 ?_
          refine lv_iconst (v := (2 : Int32)) hx hb dX12_bandsAt_50 (by decide) ?_
          refine lv_iadd hx hb dX12_bandsAt_51 ?_
          obtain ⟨g_10, hd⟩ := zgd_some hd
          refine z_iald F hw t_9 g_10 dX12_bandsAt_52 ?_
          refine lv_i2l (v := (zI M (zR M k0 16) ((((3 : Int32) * x4) + (2 : Int32)).toNatClampNeg)).toInt64) hx hb dX12_bandsAt_53 rfl ?_
          obtain ⟨r_12, hc_11, hd⟩ := zob_some hd
          refine z_csI F hw hl.1 (As := [.long (p2.toInt64), .long ((zI M (zR M k0 16) ((((3 : Int32) * x4) + (1 : Int32)).toNatClampNeg)).toInt64), .long ((zI M (zR M k0 16) ((((3 : Int32) * x4) + (2 : Int32)).toNatClampNeg)).toInt64)]) (rest := [.int x3]) (ztX12_isIn l D cy sh ad  hc_11) zyX12_isIn zk12_91 ⟨rfl, rfl⟩ ⟨by decide, by decide⟩ rfl rfl (Nat.le_of_ble_eq_true rfl) dX12_bandsAt_54 (fun H locs hw => ?_)
          refine lv_if_eq (tgt := 64) hx hb dX12_bandsAt_57 (by decide) (fun c_13 => ?_) (fun c_13 => ?_)
          · have hd := zif_pos c_13 hd
            exact J64 _ hk5 _ _ _ _ _ (lv_sub hl [0, 1, 2, 4] rfl) hw hd
          · have hd := zif_neg c_13 hd
            refine lv_iconst (v := (1 : Int32)) hx hb dX12_bandsAt_60 (by decide) ?_
            refine lv_goto (tgt := 65) hx hb dX12_bandsAt_61 (by decide) ?_
            exact J65 _ hk5 _ _ _ _ _ _ (lv_sub hl [0, 1, 2, 4] rfl) hw hd
  unfold zX12_bandsAt at hd
  refine lv_iconst (v := (0 : Int32)) hx hb dX12_bandsAt_0 (by decide) ?_
  refine lv_istore_n (lv' := [(3, .int (0 : Int32)), (0, .ref (ad k0)), (1, .int p1), (2, .int p2)]) hx hb dX12_bandsAt_1 rfl hl (by decide) rfl (fun ls hl => ?_)
  refine lv_iconst (v := (0 : Int32)) hx hb dX12_bandsAt_2 (by decide) ?_
  refine lv_istore (lv' := [(4, .int (0 : Int32)), (3, .int (0 : Int32)), (0, .ref (ad k0)), (1, .int p1), (2, .int p2)]) hx hb dX12_bandsAt_3 hl (by decide) rfl (fun ls hl => ?_)
  exact L5 zF _ _ _ _ _ (lv_sub hl [2, 3, 4, 1, 0] rfl) hw hd

def zX12_isAxis (sh : zShp) (k0 : Nat) (p1 : Int32) (M : zMem) : Option (Int32) :=
  zob (zX12_isIn sh (p1.toInt64) (0 : Int64) (((zI M k0 22) - (1 : Int32)).toInt64) M) fun r_2 =>
  zgd (zisB r_2) <|
  some r_2
set_option maxHeartbeats 4000000 in
set_option maxRecDepth 100000 in
theorem ztX12_isAxis (l : Launch) (D : va_G) (cy : Nat → ClassId) (sh : zShp) (ad : Nat → Nat) {k0 : Nat} {p1 : Int32} (h0 : zT sh k0 12) {M : zMem} {r : Int32} (hd : zX12_isAxis sh k0 p1 M = some r) : zCI l yX12_isAxis cX12_isAxis 2 .boolean { frames := 1, cells := 0, slots := 0, locals := 25 } [.ref (ad k0), .int p1] D cy sh ad M r M := by
  refine zci_of (by decide) (Nat.le_of_ble_eq_true rfl) (fun p e s m below meth c ls F hr hlk hl hw => ?_)
  have hx := F.1.1
  have hb := F.1.2.1
  have hl : lv_has ls 2 [(0, .ref (ad k0)), (1, .int p1)] := hl
  unfold zX12_isAxis at hd
  refine lv_iload_n hx hb dX12_isAxis_0 rfl (lv_at hl 1 rfl) ?_
  refine lv_i2l (v := p1.toInt64) hx hb dX12_isAxis_1 rfl ?_
  refine lv_lconst (v := (0 : Int64)) hx hb dX12_isAxis_2 (by decide) ?_
  refine lv_aload_n hx hb dX12_isAxis_3 rfl (lv_at hl 0 rfl) ?_
  refine z_gI F hw h0 zc12 22 (by decide) rfl zf12_240 dX12_isAxis_4 ?_
  refine lv_iconst (v := (1 : Int32)) hx hb dX12_isAxis_7 (by decide) ?_
  refine lv_isub hx hb dX12_isAxis_8 ?_
  refine lv_i2l (v := ((zI M k0 22) - (1 : Int32)).toInt64) hx hb dX12_isAxis_9 rfl ?_
  obtain ⟨r_2, hc_1, hd⟩ := zob_some hd
  refine z_csI F hw hl.1 (As := [.long (p1.toInt64), .long (0 : Int64), .long (((zI M k0 22) - (1 : Int32)).toInt64)]) (rest := []) (ztX12_isIn l D cy sh ad  hc_1) zyX12_isIn zk12_91 ⟨rfl, rfl⟩ ⟨by decide, by decide⟩ rfl rfl (Nat.le_of_ble_eq_true rfl) dX12_isAxis_10 (fun H locs hw => ?_)
  obtain ⟨g_3, hd⟩ := zgd_some hd
  exact z_zret F hr hlk hw g_3 (Option.some.inj hd) rfl dX12_isAxis_13

def zjX12_bands_30 (sh : zShp) (k0 : Nat) (p1 : Int32) (p2 : Int32) (M : zMem)  (s0 : Int32) : Option (Int32) :=
  some s0
def zjX12_bands_29 (sh : zShp) (k0 : Nat) (p1 : Int32) (p2 : Int32) (M : zMem)   : Option (Int32) :=
  zjX12_bands_30 sh k0 p1 p2 M (-1 : Int32)
def zX12_bands (sh : zShp) (k0 : Nat) (p1 : Int32) (p2 : Int32) (M : zMem) : Option (Int32) :=
  zob (zX12_isAxis sh k0 p1 M) fun r_2 =>
  if r_2 = 0 then (
  zjX12_bands_29 sh k0 p1 p2 M)
  else (
  zob (zX12_isIn sh (p2.toInt64) (1 : Int64) (60 : Int64) M) fun r_5 =>
  if r_5 = 0 then (
  zjX12_bands_29 sh k0 p1 p2 M)
  else (
  zob (zX12_bandsAt sh k0 p1 p2 M) fun r_8 =>
  zjX12_bands_30 sh k0 p1 p2 M r_8))
set_option maxHeartbeats 4000000 in
set_option maxRecDepth 100000 in
theorem ztX12_bands (l : Launch) (D : va_G) (cy : Nat → ClassId) (sh : zShp) (ad : Nat → Nat) {k0 : Nat} {p1 : Int32} {p2 : Int32} (h0 : zT sh k0 12) {M : zMem} {r : Int32} (hd : zX12_bands sh k0 p1 p2 M = some r) : zCI l yX12_bands cX12_bands 3 .int { frames := 2, cells := 0, slots := 0, locals := 49 } [.ref (ad k0), .int p1, .int p2] D cy sh ad M r M := by
  refine zci_of (by decide) (Nat.le_of_ble_eq_true rfl) (fun p e s m below meth c ls F hr hlk hl hw => ?_)
  have hx := F.1.1
  have hb := F.1.2.1
  have hl : lv_has ls 3 [(0, .ref (ad k0)), (1, .int p1), (2, .int p2)] := hl
  have J30 : ∀ (s0 : Int32) (H : Heap) (locs : List Loc) (ls : Array Slot), lv_has ls 3 [] → zWd D cy sh ad s M H locs → zjX12_bands_30 sh k0 p1 p2 M  s0 = some r → W p l e { frames := 2, cells := 0, slots := 0, locals := 49 } s m ([.ref (ad k0), .int p1, .int p2] : List Value).toArray below meth c H locs 0 0 (zQI below D cy sh ad s [.ref (ad k0), .int p1, .int p2] r M) (F0 m 30 ls [.int s0]) := by
    intro  s0 H locs ls hl hw hd
    unfold zjX12_bands_30 at hd
    exact z_iret F hr hlk hw (Option.some.inj hd) rfl dX12_bands_30
  have J29 : ∀  (H : Heap) (locs : List Loc) (ls : Array Slot), lv_has ls 3 [] → zWd D cy sh ad s M H locs → zjX12_bands_29 sh k0 p1 p2 M   = some r → W p l e { frames := 2, cells := 0, slots := 0, locals := 49 } s m ([.ref (ad k0), .int p1, .int p2] : List Value).toArray below meth c H locs 0 0 (zQI below D cy sh ad s [.ref (ad k0), .int p1, .int p2] r M) (F0 m 29 ls []) := by
    intro  H locs ls hl hw hd
    unfold zjX12_bands_29 at hd
    refine lv_iconst (v := (-1 : Int32)) hx hb dX12_bands_29 (by decide) ?_
    exact J30 _ _ _ _ (lv_sub hl [] rfl) hw hd
  unfold zX12_bands at hd
  refine lv_aload_n hx hb dX12_bands_0 rfl (lv_at hl 0 rfl) ?_
  refine lv_iload_n hx hb dX12_bands_1 rfl (lv_at hl 1 rfl) ?_
  obtain ⟨r_2, hc_1, hd⟩ := zob_some hd
  refine z_cvI F hw hl.1 (As := [.int p1]) (rest := []) (ztX12_isAxis l D cy sh ad h0 hc_1) zyX12_isAxis h0 zc12 zk12_312 ⟨rfl, rfl⟩ ⟨by decide, by decide⟩ rfl rfl (Nat.le_of_ble_eq_true rfl) dX12_bands_2 (fun H locs hw => ?_)
  refine lv_if_eq (tgt := 29) hx hb dX12_bands_5 (by decide) (fun c_3 => ?_) (fun c_3 => ?_)
  · have hd := zif_pos c_3 hd
    exact J29 _ _ _ (lv_sub hl [] rfl) hw hd
  · have hd := zif_neg c_3 hd
    refine lv_iload_n hx hb dX12_bands_8 rfl (lv_at hl 2 rfl) ?_
    refine lv_i2l (v := p2.toInt64) hx hb dX12_bands_9 rfl ?_
    refine lv_lconst (v := (1 : Int64)) hx hb dX12_bands_10 (by decide) ?_
    refine lv_ldc2 (v := (60 : Int64)) hx hb F.1.2.2.2.1 (F.1.2.2.2.2 _ zi12_292) dX12_bands_11 ?_
    obtain ⟨r_5, hc_4, hd⟩ := zob_some hd
    refine z_csI F hw hl.1 (As := [.long (p2.toInt64), .long (1 : Int64), .long (60 : Int64)]) (rest := []) (ztX12_isIn l D cy sh ad  hc_4) zyX12_isIn zk12_91 ⟨rfl, rfl⟩ ⟨by decide, by decide⟩ rfl rfl (Nat.le_of_ble_eq_true rfl) dX12_bands_14 (fun H locs hw => ?_)
    refine lv_if_eq (tgt := 29) hx hb dX12_bands_17 (by decide) (fun c_6 => ?_) (fun c_6 => ?_)
    · have hd := zif_pos c_6 hd
      exact J29 _ _ _ (lv_sub hl [] rfl) hw hd
    · have hd := zif_neg c_6 hd
      refine lv_aload_n hx hb dX12_bands_20 rfl (lv_at hl 0 rfl) ?_
      refine lv_iload_n hx hb dX12_bands_21 rfl (lv_at hl 1 rfl) ?_
      refine lv_iload_n hx hb dX12_bands_22 rfl (lv_at hl 2 rfl) ?_
      obtain ⟨r_8, hc_7, hd⟩ := zob_some hd
      refine z_cvI F hw hl.1 (As := [.int p1, .int p2]) (rest := []) (ztX12_bandsAt l D cy sh ad h0 hc_7) zyX12_bandsAt h0 zc12 zk12_315 ⟨rfl, rfl⟩ ⟨by decide, by decide⟩ rfl rfl (Nat.le_of_ble_eq_true rfl) dX12_bands_23 (fun H locs hw => ?_)
      refine lv_goto (tgt := 30) hx hb dX12_bands_26 (by decide) ?_
      exact J30 _ _ _ _ (lv_sub hl [] rfl) hw hd

def zjX12_laysTop_63 (sh : zShp) (k0 : Nat) (p1 : Int32) (p2 : Int32) (p3 : Int32) (p4 : Int32) (p5 : Int32)  (M : zMem) : Option (zMem) :=
  some M
def zjX12_laysTop_47 (sh : zShp) (k0 : Nat) (p1 : Int32) (p2 : Int32) (p3 : Int32) (p4 : Int32) (p5 : Int32) (kk13 : Int32 → zMem → Option (zMem)) (x6 : Int32) (M : zMem) : Option (zMem) :=
  zob (zX12_laysRamp sh k0 (x6 + (-1 : Int32)) p4 p5 M) fun M_2 =>
  kk13 (x6 + (-1 : Int32)) M_2
def zbX12_laysTop_13 (sh : zShp) (k0 : Nat) (p1 : Int32) (p2 : Int32) (p3 : Int32) (p4 : Int32) (p5 : Int32)  (kk13 : Int32 → zMem → Option (zMem)) (x6 : Int32) (M : zMem) : Option (zMem) :=
  if x6 ≤ 0 then (
  zjX12_laysTop_63 sh k0 p1 p2 p3 p4 p5 M)
  else (
  zob (zX12_rampSum sh k0 M) fun r_5 =>
  if p2 < ((2 : Int32) * r_5) then (
  zjX12_laysTop_47 sh k0 p1 p2 p3 p4 p5 kk13 x6 M)
  else (
  zob (zX12_reached sh k0 M) fun r_8 =>
  if r_8 ≤ 0 then (
  zjX12_laysTop_63 sh k0 p1 p2 p3 p4 p5 M)
  else (
  zob (zX12_reached sh k0 M) fun r_11 =>
  zob (zX12_bandsAt sh k0 p1 r_11 M) fun r_13 =>
  if r_13 ≤ 0 then (
  zjX12_laysTop_63 sh k0 p1 p2 p3 p4 p5 M)
  else (
  zjX12_laysTop_47 sh k0 p1 p2 p3 p4 p5 kk13 x6 M))))
def zlX12_laysTop_13 (sh : zShp) (k0 : Nat) (p1 : Int32) (p2 : Int32) (p3 : Int32) (p4 : Int32) (p5 : Int32)  : Nat → Int32 → zMem → Option (zMem)
  | 0 => fun _ _ => none
  | n + 1 => fun x6 M => zbX12_laysTop_13 sh k0 p1 p2 p3 p4 p5  (zlX12_laysTop_13 sh k0 p1 p2 p3 p4 p5  n) x6 M
def zX12_laysTop (sh : zShp) (k0 : Nat) (p1 : Int32) (p2 : Int32) (p3 : Int32) (p4 : Int32) (p5 : Int32) (M : zMem) : Option (zMem) :=
  zob (zX12_laysRamp sh k0 p3 p4 p5 M) fun M_16 =>
  zlX12_laysTop_13 sh k0 p1 p2 p3 p4 p5 zF p3 M_16
set_option maxHeartbeats 4000000 in
set_option maxRecDepth 100000 in
theorem ztX12_laysTop (l : Launch) (D : va_G) (cy : Nat → ClassId) (sh : zShp) (ad : Nat → Nat) {k0 : Nat} {p1 : Int32} {p2 : Int32} {p3 : Int32} {p4 : Int32} {p5 : Int32} (h0 : zT sh k0 12) {M : zMem} {M1 : zMem} (hd : zX12_laysTop sh k0 p1 p2 p3 p4 p5 M = some M1) : zCV l yX12_laysTop cX12_laysTop 7 { frames := 2, cells := 0, slots := 0, locals := 51 } [.ref (ad k0), .int p1, .int p2, .int p3, .int p4, .int p5] D cy sh ad M M1 := by
  refine zcv_of (by decide) (Nat.le_of_ble_eq_true rfl) (fun p e s m below meth c ls F hr hlk hl hw => ?_)
  have hx := F.1.1
  have hb := F.1.2.1
  have hl : lv_has ls 7 [(0, .ref (ad k0)), (1, .int p1), (2, .int p2), (3, .int p3), (4, .int p4), (5, .int p5)] := hl
  have J63 : ∀ (M : zMem) (H : Heap) (locs : List Loc) (ls : Array Slot), lv_has ls 7 [] → zWd D cy sh ad s M H locs → zjX12_laysTop_63 sh k0 p1 p2 p3 p4 p5  M = some M1 → W p l e { frames := 2, cells := 0, slots := 0, locals := 51 } s m ([.ref (ad k0), .int p1, .int p2, .int p3, .int p4, .int p5] : List Value).toArray below meth c H locs 0 0 (zQV below D cy sh ad s [.ref (ad k0), .int p1, .int p2, .int p3, .int p4, .int p5] M1) (F0 m 63 ls []) := by
    intro  M H locs ls hl hw hd
    unfold zjX12_laysTop_63 at hd
    exact z_vret F hr hlk hw (Option.some.inj hd) dX12_laysTop_63
  have J47 : ∀ (kk13 : Int32 → zMem → Option (zMem)) (hk13 : ∀ (x6 : Int32) (M : zMem) (H : Heap) (locs : List Loc) (ls : Array Slot), lv_has ls 7 [(0, .ref (ad k0)), (1, .int p1), (2, .int p2), (4, .int p4), (5, .int p5), (6, .int x6)] → zWd D cy sh ad s M H locs → kk13 x6 M = some M1 → W p l e { frames := 2, cells := 0, slots := 0, locals := 51 } s m ([.ref (ad k0), .int p1, .int p2, .int p3, .int p4, .int p5] : List Value).toArray below meth c H locs 0 0 (zQV below D cy sh ad s [.ref (ad k0), .int p1, .int p2, .int p3, .int p4, .int p5] M1) (F0 m 13 ls [])), ∀ (x6 : Int32) (M : zMem) (H : Heap) (locs : List Loc) (ls : Array Slot), lv_has ls 7 [(0, .ref (ad k0)), (1, .int p1), (2, .int p2), (4, .int p4), (5, .int p5), (6, .int x6)] → zWd D cy sh ad s M H locs → zjX12_laysTop_47 sh k0 p1 p2 p3 p4 p5 kk13 x6 M = some M1 → W p l e { frames := 2, cells := 0, slots := 0, locals := 51 } s m ([.ref (ad k0), .int p1, .int p2, .int p3, .int p4, .int p5] : List Value).toArray below meth c H locs 0 0 (zQV below D cy sh ad s [.ref (ad k0), .int p1, .int p2, .int p3, .int p4, .int p5] M1) (F0 m 47 ls []) := by
    intro kk13 hk13 x6 M H locs ls hl hw hd
    unfold zjX12_laysTop_47 at hd
    refine lv_iinc (v := (x6 + (-1 : Int32))) (lv' := [(6, .int (x6 + (-1 : Int32))), (0, .ref (ad k0)), (1, .int p1), (2, .int p2), (4, .int p4), (5, .int p5)]) hx hb dX12_laysTop_47 hl (k := 5) rfl (ziinc (by decide)) (by decide) rfl (fun ls hl => ?_)
    refine lv_aload_n hx hb dX12_laysTop_50 rfl (lv_at hl 1 rfl) ?_
    refine lv_iload hx hb dX12_laysTop_51 (lv_at hl 0 rfl) ?_
    refine lv_iload hx hb dX12_laysTop_53 (lv_at hl 4 rfl) ?_
    refine lv_iload hx hb dX12_laysTop_55 (lv_at hl 5 rfl) ?_
    obtain ⟨M_2, hc_1, hd⟩ := zob_some hd
    refine z_cvV F hw hl.1 (As := [.int (x6 + (-1 : Int32)), .int p4, .int p5]) (rest := []) (ztX12_laysRamp l D cy sh ad h0 hc_1) zyX12_laysRamp h0 zc12 zk12_302 ⟨rfl, rfl⟩ ⟨by decide, by decide⟩ rfl rfl (Nat.le_of_ble_eq_true rfl) dX12_laysTop_57 (fun H locs hw => ?_)
    refine lv_goto (tgt := 13) hx hb dX12_laysTop_60 (by decide) ?_
    exact hk13 _ _ _ _ _ (lv_sub hl [1, 2, 3, 4, 5, 0] rfl) hw hd
  have L13 : ∀  (n : Nat), ∀ (x6 : Int32) (M : zMem) (H : Heap) (locs : List Loc) (ls : Array Slot), lv_has ls 7 [(0, .ref (ad k0)), (1, .int p1), (2, .int p2), (4, .int p4), (5, .int p5), (6, .int x6)] → zWd D cy sh ad s M H locs → zlX12_laysTop_13 sh k0 p1 p2 p3 p4 p5  n x6 M = some M1 → W p l e { frames := 2, cells := 0, slots := 0, locals := 51 } s m ([.ref (ad k0), .int p1, .int p2, .int p3, .int p4, .int p5] : List Value).toArray below meth c H locs 0 0 (zQV below D cy sh ad s [.ref (ad k0), .int p1, .int p2, .int p3, .int p4, .int p5] M1) (F0 m 13 ls []) := by
    intro  n
    induction n with
    | zero => intro x6 M H locs ls hl hw hd; exact (znone hd).elim
    | succ n hk13 =>
      intro x6 M H locs ls hl hw hd
      have hd : zbX12_laysTop_13 sh k0 p1 p2 p3 p4 p5  (zlX12_laysTop_13 sh k0 p1 p2 p3 p4 p5  n) x6 M = some M1 := hd
      unfold zbX12_laysTop_13 at hd
      refine lv_iload hx hb dX12_laysTop_13 (lv_at hl 5 rfl) ?_
      refine lv_if_le (tgt := 63) hx hb dX12_laysTop_15 (by decide) (fun c_3 => ?_) (fun c_3 => ?_)
      · have hd := zif_pos c_3 hd
        exact J63 _ _ _ _ (lv_sub hl [] rfl) hw hd
      · have hd := zif_neg c_3 hd
        refine lv_iconst (v := (2 : Int32)) hx hb dX12_laysTop_18 (by decide) ?_
        refine lv_aload_n hx hb dX12_laysTop_19 rfl (lv_at hl 0 rfl) ?_
        obtain ⟨r_5, hc_4, hd⟩ := zob_some hd
        refine z_cvI F hw hl.1 (As := []) (rest := [.int (2 : Int32)]) (ztX12_rampSum l D cy sh ad h0 hc_4) zyX12_rampSum h0 zc12 zk12_309 ⟨rfl, rfl⟩ ⟨by decide, by decide⟩ rfl rfl (Nat.le_of_ble_eq_true rfl) dX12_laysTop_20 (fun H locs hw => ?_)
        refine lv_imul hx hb dX12_laysTop_23 ?_
        refine lv_iload_n hx hb dX12_laysTop_24 rfl (lv_at hl 2 rfl) ?_
        refine lv_icmp_gt (tgt := 47) hx hb dX12_laysTop_25 (by decide) (fun c_6 => ?_) (fun c_6 => ?_)
        · have hd := zif_pos c_6 hd
          exact J47 _ hk13 _ _ _ _ _ (lv_sub hl [0, 1, 2, 3, 4, 5] rfl) hw hd
        · have hd := zif_neg c_6 hd
          refine lv_aload_n hx hb dX12_laysTop_28 rfl (lv_at hl 0 rfl) ?_
          obtain ⟨r_8, hc_7, hd⟩ := zob_some hd
          refine z_cvI F hw hl.1 (As := []) (rest := []) (ztX12_reached l D cy sh ad h0 hc_7) zyX12_reached h0 zc12 zk12_306 ⟨rfl, rfl⟩ ⟨by decide, by decide⟩ rfl rfl (Nat.le_of_ble_eq_true rfl) dX12_laysTop_29 (fun H locs hw => ?_)
          refine lv_if_le (tgt := 63) hx hb dX12_laysTop_32 (by decide) (fun c_9 => ?_) (fun c_9 => ?_)
          · have hd := zif_pos c_9 hd
            exact J63 _ _ _ _ (lv_sub hl [] rfl) hw hd
          · have hd := zif_neg c_9 hd
            refine lv_aload_n hx hb dX12_laysTop_35 rfl (lv_at hl 0 rfl) ?_
            refine lv_iload_n hx hb dX12_laysTop_36 rfl (lv_at hl 1 rfl) ?_
            refine lv_aload_n hx hb dX12_laysTop_37 rfl (lv_at hl 0 rfl) ?_
            obtain ⟨r_11, hc_10, hd⟩ := zob_some hd
            refine z_cvI F hw hl.1 (As := []) (rest := [.int p1, .ref (ad k0)]) (ztX12_reached l D cy sh ad h0 hc_10) zyX12_reached h0 zc12 zk12_306 ⟨rfl, rfl⟩ ⟨by decide, by decide⟩ rfl rfl (Nat.le_of_ble_eq_true rfl) dX12_laysTop_38 (fun H locs hw => ?_)
            obtain ⟨r_13, hc_12, hd⟩ := zob_some hd
            refine z_cvI F hw hl.1 (As := [.int p1, .int r_11]) (rest := []) (ztX12_bandsAt l D cy sh ad h0 hc_12) zyX12_bandsAt h0 zc12 zk12_315 ⟨rfl, rfl⟩ ⟨by decide, by decide⟩ rfl rfl (Nat.le_of_ble_eq_true rfl) dX12_laysTop_41 (fun H locs hw => ?_)
            refine lv_if_le (tgt := 63) hx hb dX12_laysTop_44 (by decide) (fun c_14 => ?_) (fun c_14 => ?_)
            · have hd := zif_pos c_14 hd
              exact J63 _ _ _ _ (lv_sub hl [] rfl) hw hd
            · have hd := zif_neg c_14 hd
              exact J47 _ hk13 _ _ _ _ _ (lv_sub hl [0, 1, 2, 3, 4, 5] rfl) hw hd
  unfold zX12_laysTop at hd
  refine lv_iload_n hx hb dX12_laysTop_0 rfl (lv_at hl 3 rfl) ?_
  refine lv_istore (lv' := [(6, .int p3), (0, .ref (ad k0)), (1, .int p1), (2, .int p2), (3, .int p3), (4, .int p4), (5, .int p5)]) hx hb dX12_laysTop_1 hl (by decide) rfl (fun ls hl => ?_)
  refine lv_aload_n hx hb dX12_laysTop_3 rfl (lv_at hl 1 rfl) ?_
  refine lv_iload hx hb dX12_laysTop_4 (lv_at hl 0 rfl) ?_
  refine lv_iload hx hb dX12_laysTop_6 (lv_at hl 5 rfl) ?_
  refine lv_iload hx hb dX12_laysTop_8 (lv_at hl 6 rfl) ?_
  obtain ⟨M_16, hc_15, hd⟩ := zob_some hd
  refine z_cvV F hw hl.1 (As := [.int p3, .int p4, .int p5]) (rest := []) (ztX12_laysRamp l D cy sh ad h0 hc_15) zyX12_laysRamp h0 zc12 zk12_302 ⟨rfl, rfl⟩ ⟨by decide, by decide⟩ rfl rfl (Nat.le_of_ble_eq_true rfl) dX12_laysTop_10 (fun H locs hw => ?_)
  exact L13 zF _ _ _ _ _ (lv_sub hl [1, 2, 3, 5, 6, 0] rfl) hw hd

def zX12_evenTicks (sh : zShp) (k0 : Nat) (p1 : Int32) (M : zMem) : Option (Int32) :=
  zob (zX12_reached sh k0 M) fun r_2 =>
  zob (zX12_greater sh (1 : Int32) r_2 M) fun r_4 =>
  zob (zX12_reached sh k0 M) fun r_6 =>
  zob (zX12_greater sh (1 : Int32) r_6 M) fun r_8 =>
  zgd (znz r_8) <|
  some (((p1 + r_4) - (1 : Int32)) / r_8)
set_option maxHeartbeats 4000000 in
set_option maxRecDepth 100000 in
theorem ztX12_evenTicks (l : Launch) (D : va_G) (cy : Nat → ClassId) (sh : zShp) (ad : Nat → Nat) {k0 : Nat} {p1 : Int32} (h0 : zT sh k0 12) {M : zMem} {r : Int32} (hd : zX12_evenTicks sh k0 p1 M = some r) : zCI l yX12_evenTicks cX12_evenTicks 2 .int { frames := 1, cells := 0, slots := 0, locals := 21 } [.ref (ad k0), .int p1] D cy sh ad M r M := by
  refine zci_of (by decide) (Nat.le_of_ble_eq_true rfl) (fun p e s m below meth c ls F hr hlk hl hw => ?_)
  have hx := F.1.1
  have hb := F.1.2.1
  have hl : lv_has ls 2 [(0, .ref (ad k0)), (1, .int p1)] := hl
  unfold zX12_evenTicks at hd
  refine lv_iload_n hx hb dX12_evenTicks_0 rfl (lv_at hl 1 rfl) ?_
  refine lv_iconst (v := (1 : Int32)) hx hb dX12_evenTicks_1 (by decide) ?_
  refine lv_aload_n hx hb dX12_evenTicks_2 rfl (lv_at hl 0 rfl) ?_
  obtain ⟨r_2, hc_1, hd⟩ := zob_some hd
  refine z_cvI F hw hl.1 (As := []) (rest := [.int (1 : Int32), .int p1]) (ztX12_reached l D cy sh ad h0 hc_1) zyX12_reached h0 zc12 zk12_306 ⟨rfl, rfl⟩ ⟨by decide, by decide⟩ rfl rfl (Nat.le_of_ble_eq_true rfl) dX12_evenTicks_3 (fun H locs hw => ?_)
  obtain ⟨r_4, hc_3, hd⟩ := zob_some hd
  refine z_csI F hw hl.1 (As := [.int (1 : Int32), .int r_2]) (rest := [.int p1]) (ztX12_greater l D cy sh ad  hc_3) zyX12_greater zk12_318 ⟨rfl, rfl⟩ ⟨by decide, by decide⟩ rfl rfl (Nat.le_of_ble_eq_true rfl) dX12_evenTicks_6 (fun H locs hw => ?_)
  refine lv_iadd hx hb dX12_evenTicks_9 ?_
  refine lv_iconst (v := (1 : Int32)) hx hb dX12_evenTicks_10 (by decide) ?_
  refine lv_isub hx hb dX12_evenTicks_11 ?_
  refine lv_iconst (v := (1 : Int32)) hx hb dX12_evenTicks_12 (by decide) ?_
  refine lv_aload_n hx hb dX12_evenTicks_13 rfl (lv_at hl 0 rfl) ?_
  obtain ⟨r_6, hc_5, hd⟩ := zob_some hd
  refine z_cvI F hw hl.1 (As := []) (rest := [.int (1 : Int32), .int ((p1 + r_4) - (1 : Int32))]) (ztX12_reached l D cy sh ad h0 hc_5) zyX12_reached h0 zc12 zk12_306 ⟨rfl, rfl⟩ ⟨by decide, by decide⟩ rfl rfl (Nat.le_of_ble_eq_true rfl) dX12_evenTicks_14 (fun H locs hw => ?_)
  obtain ⟨r_8, hc_7, hd⟩ := zob_some hd
  refine z_csI F hw hl.1 (As := [.int (1 : Int32), .int r_6]) (rest := [.int ((p1 + r_4) - (1 : Int32))]) (ztX12_greater l D cy sh ad  hc_7) zyX12_greater zk12_318 ⟨rfl, rfl⟩ ⟨by decide, by decide⟩ rfl rfl (Nat.le_of_ble_eq_true rfl) dX12_evenTicks_17 (fun H locs hw => ?_)
  obtain ⟨g_9, hd⟩ := zgd_some hd
  refine lv_idiv hx hb dX12_evenTicks_20 (znz_ne g_9) ?_
  exact z_iret F hr hlk hw (Option.some.inj hd) rfl dX12_evenTicks_21

def zX12_axisAt (sh : zShp) (k0 : Nat) (p1 : Int32) (p2 : Int32) (M : zMem) : Option (Int32) :=
  zgd (zin (((48 : Int32) + ((6 : Int32) * p1)) + p2) (zlen sh (zR M k0 0))) <|
  some (zI M (zR M k0 0) ((((48 : Int32) + ((6 : Int32) * p1)) + p2).toNatClampNeg))
set_option maxHeartbeats 4000000 in
set_option maxRecDepth 100000 in
theorem ztX12_axisAt (l : Launch) (D : va_G) (cy : Nat → ClassId) (sh : zShp) (ad : Nat → Nat) {k0 : Nat} {p1 : Int32} {p2 : Int32} (h0 : zT sh k0 12) {M : zMem} {r : Int32} (hd : zX12_axisAt sh k0 p1 p2 M = some r) : zCI l yX12_axisAt cX12_axisAt 3 .int { frames := 0, cells := 0, slots := 0, locals := 0 } [.ref (ad k0), .int p1, .int p2] D cy sh ad M r M := by
  refine zci_of (by decide) (Nat.le_of_ble_eq_true rfl) (fun p e s m below meth c ls F hr hlk hl hw => ?_)
  have hx := F.1.1
  have hb := F.1.2.1
  have hl : lv_has ls 3 [(0, .ref (ad k0)), (1, .int p1), (2, .int p2)] := hl
  unfold zX12_axisAt at hd
  refine lv_aload_n hx hb dX12_axisAt_0 rfl (lv_at hl 0 rfl) ?_
  refine z_gR F hw h0 zc12 0 (by decide) rfl zf12_7 dX12_axisAt_1 ?_
  have t_1 : zT sh (zR M k0 0) 14 := hw.2.2.2.fld h0 0 14
  refine lv_bipush (v := (48 : Int32)) hx hb dX12_axisAt_4 (by decide) ?_
  refine lv_bipush (v := (6 : Int32)) hx hb dX12_axisAt_6 (by decide) ?_
  refine lv_iload_n hx hb dX12_axisAt_8 rfl (lv_at hl 1 rfl) ?_
  refine lv_imul hx hb dX12_axisAt_9 ?_
  refine lv_iadd hx hb dX12_axisAt_10 ?_
  refine lv_iload_n hx hb dX12_axisAt_11 rfl (lv_at hl 2 rfl) ?_
  refine lv_iadd hx hb dX12_axisAt_12 ?_
  obtain ⟨g_2, hd⟩ := zgd_some hd
  refine z_iald F hw t_1 g_2 dX12_axisAt_13 ?_
  exact z_iret F hr hlk hw (Option.some.inj hd) rfl dX12_axisAt_14

def zX12_setsAxis (sh : zShp) (k0 : Nat) (p1 : Int32) (p2 : Int32) (p3 : Int32) (M : zMem) : Option (zMem) :=
  zgd (zin (((48 : Int32) + ((6 : Int32) * p1)) + p2) (zlen sh (zR M k0 0))) <|
  zbd (zpI M (zR M k0 0) ((((48 : Int32) + ((6 : Int32) * p1)) + p2).toNatClampNeg) p3) fun M_3 =>
  some M_3
set_option maxHeartbeats 4000000 in
set_option maxRecDepth 100000 in
theorem ztX12_setsAxis (l : Launch) (D : va_G) (cy : Nat → ClassId) (sh : zShp) (ad : Nat → Nat) {k0 : Nat} {p1 : Int32} {p2 : Int32} {p3 : Int32} (h0 : zT sh k0 12) {M : zMem} {M1 : zMem} (hd : zX12_setsAxis sh k0 p1 p2 p3 M = some M1) : zCV l yX12_setsAxis cX12_setsAxis 4 { frames := 0, cells := 0, slots := 0, locals := 0 } [.ref (ad k0), .int p1, .int p2, .int p3] D cy sh ad M M1 := by
  refine zcv_of (by decide) (Nat.le_of_ble_eq_true rfl) (fun p e s m below meth c ls F hr hlk hl hw => ?_)
  have hx := F.1.1
  have hb := F.1.2.1
  have hl : lv_has ls 4 [(0, .ref (ad k0)), (1, .int p1), (2, .int p2), (3, .int p3)] := hl
  unfold zX12_setsAxis at hd
  refine lv_aload_n hx hb dX12_setsAxis_0 rfl (lv_at hl 0 rfl) ?_
  refine z_gR F hw h0 zc12 0 (by decide) rfl zf12_7 dX12_setsAxis_1 ?_
  have t_1 : zT sh (zR M k0 0) 14 := hw.2.2.2.fld h0 0 14
  refine lv_bipush (v := (48 : Int32)) hx hb dX12_setsAxis_4 (by decide) ?_
  refine lv_bipush (v := (6 : Int32)) hx hb dX12_setsAxis_6 (by decide) ?_
  refine lv_iload_n hx hb dX12_setsAxis_8 rfl (lv_at hl 1 rfl) ?_
  refine lv_imul hx hb dX12_setsAxis_9 ?_
  refine lv_iadd hx hb dX12_setsAxis_10 ?_
  refine lv_iload_n hx hb dX12_setsAxis_11 rfl (lv_at hl 2 rfl) ?_
  refine lv_iadd hx hb dX12_setsAxis_12 ?_
  refine lv_iload_n hx hb dX12_setsAxis_13 rfl (lv_at hl 3 rfl) ?_
  obtain ⟨g_2, hd⟩ := zgd_some hd
  refine z_iast F hw t_1 g_2 dX12_setsAxis_14 (fun H locs M_3 eM_3 hw => ?_)
  have hd := zbd_eq eM_3 hd
  exact z_vret F hr hlk hw (Option.some.inj hd) dX12_setsAxis_15

def zjX12_one_18 (sh : zShp) (p0 : Int32) (p1 : Int32) (p2 : Int32) (p3 : Int32) (M : zMem)  (s0 : Int32) : Option (Int32) :=
  some s0
def zX12_one (sh : zShp) (p0 : Int32) (p1 : Int32) (p2 : Int32) (p3 : Int32) (M : zMem) : Option (Int32) :=
  if p3 = 0 then (
  zjX12_one_18 sh p0 p1 p2 p3 M p0)
  else (
  if p3 = (1 : Int32) then (
  zjX12_one_18 sh p0 p1 p2 p3 M p1)
  else (
  zjX12_one_18 sh p0 p1 p2 p3 M p2))
set_option maxHeartbeats 4000000 in
set_option maxRecDepth 100000 in
theorem ztX12_one (l : Launch) (D : va_G) (cy : Nat → ClassId) (sh : zShp) (ad : Nat → Nat) {p0 : Int32} {p1 : Int32} {p2 : Int32} {p3 : Int32}  {M : zMem} {r : Int32} (hd : zX12_one sh p0 p1 p2 p3 M = some r) : zCI l yX12_one cX12_one 4 .int { frames := 0, cells := 0, slots := 0, locals := 0 } [.int p0, .int p1, .int p2, .int p3] D cy sh ad M r M := by
  refine zci_of (by decide) (Nat.le_of_ble_eq_true rfl) (fun p e s m below meth c ls F hr hlk hl hw => ?_)
  have hx := F.1.1
  have hb := F.1.2.1
  have hl : lv_has ls 4 [(0, .int p0), (1, .int p1), (2, .int p2), (3, .int p3)] := hl
  have J18 : ∀ (s0 : Int32) (H : Heap) (locs : List Loc) (ls : Array Slot), lv_has ls 4 [] → zWd D cy sh ad s M H locs → zjX12_one_18 sh p0 p1 p2 p3 M  s0 = some r → W p l e { frames := 0, cells := 0, slots := 0, locals := 0 } s m ([.int p0, .int p1, .int p2, .int p3] : List Value).toArray below meth c H locs 0 0 (zQI below D cy sh ad s [.int p0, .int p1, .int p2, .int p3] r M) (F0 m 18 ls [.int s0]) := by
    intro  s0 H locs ls hl hw hd
    unfold zjX12_one_18 at hd
    exact z_iret F hr hlk hw (Option.some.inj hd) rfl dX12_one_18
  unfold zX12_one at hd
  refine lv_iload_n hx hb dX12_one_0 rfl (lv_at hl 3 rfl) ?_
  refine lv_if_ne (tgt := 8) hx hb dX12_one_1 (by decide) (fun c_1 => ?_) (fun c_1 => ?_)
  · have hd := zif_neg c_1 hd
    refine lv_iload_n hx hb dX12_one_8 rfl (lv_at hl 3 rfl) ?_
    refine lv_iconst (v := (1 : Int32)) hx hb dX12_one_9 (by decide) ?_
    refine lv_icmp_ne (tgt := 17) hx hb dX12_one_10 (by decide) (fun c_2 => ?_) (fun c_2 => ?_)
    · have hd := zif_neg c_2 hd
      refine lv_iload_n hx hb dX12_one_17 rfl (lv_at hl 2 rfl) ?_
      exact J18 _ _ _ _ (lv_sub hl [] rfl) hw hd
    · have hd := zif_pos c_2 hd
      refine lv_iload_n hx hb dX12_one_13 rfl (lv_at hl 1 rfl) ?_
      refine lv_goto (tgt := 18) hx hb dX12_one_14 (by decide) ?_
      exact J18 _ _ _ _ (lv_sub hl [] rfl) hw hd
  · have hd := zif_pos c_1 hd
    refine lv_iload_n hx hb dX12_one_4 rfl (lv_at hl 0 rfl) ?_
    refine lv_goto (tgt := 18) hx hb dX12_one_5 (by decide) ?_
    exact J18 _ _ _ _ (lv_sub hl [] rfl) hw hd

def zjX12_areRight_53 (sh : zShp) (k0 : Nat) (p1 : Int32) (p2 : Int32) (p3 : Int32) (M : zMem)  (s0 : Int32) : Option (Int32) :=
  zgd (zisB s0) <|
  some s0
def zbX12_areRight_3 (sh : zShp) (k0 : Nat) (p1 : Int32) (p2 : Int32) (p3 : Int32) (M : zMem)  (kk3 : Int32 → Option (Int32)) (x4 : Int32) : Option (Int32) :=
  if (zI M k0 22) ≤ x4 then (
  if (zI M k0 22) ≤ 0 then (
  zjX12_areRight_53 sh k0 p1 p2 p3 M (0 : Int32))
  else (
  zjX12_areRight_53 sh k0 p1 p2 p3 M (1 : Int32)))
  else (
  zob (zX12_one sh p1 p2 p3 x4 M) fun r_5 =>
  zob (zX12_isIn sh (r_5.toInt64) (-30000 : Int64) (30000 : Int64) M) fun r_7 =>
  if r_7 = 0 then (
  some (0 : Int32))
  else (
  kk3 (x4 + (1 : Int32))))
def zlX12_areRight_3 (sh : zShp) (k0 : Nat) (p1 : Int32) (p2 : Int32) (p3 : Int32) (M : zMem)  : Nat → Int32 → Option (Int32)
  | 0 => fun _ => none
  | n + 1 => fun x4 => zbX12_areRight_3 sh k0 p1 p2 p3 M  (zlX12_areRight_3 sh k0 p1 p2 p3 M  n) x4
def zX12_areRight (sh : zShp) (k0 : Nat) (p1 : Int32) (p2 : Int32) (p3 : Int32) (M : zMem) : Option (Int32) :=
  zlX12_areRight_3 sh k0 p1 p2 p3 M zF (0 : Int32)
set_option maxHeartbeats 4000000 in
set_option maxRecDepth 100000 in
theorem ztX12_areRight (l : Launch) (D : va_G) (cy : Nat → ClassId) (sh : zShp) (ad : Nat → Nat) {k0 : Nat} {p1 : Int32} {p2 : Int32} {p3 : Int32} (h0 : zT sh k0 12) {M : zMem} {r : Int32} (hd : zX12_areRight sh k0 p1 p2 p3 M = some r) : zCI l yX12_areRight cX12_areRight 5 .boolean { frames := 1, cells := 0, slots := 0, locals := 25 } [.ref (ad k0), .int p1, .int p2, .int p3] D cy sh ad M r M := by
  refine zci_of (by decide) (Nat.le_of_ble_eq_true rfl) (fun p e s m below meth c ls F hr hlk hl hw => ?_)
  have hx := F.1.1
  have hb := F.1.2.1
  have hl : lv_has ls 5 [(0, .ref (ad k0)), (1, .int p1), (2, .int p2), (3, .int p3)] := hl
  have J53 : ∀ (s0 : Int32) (H : Heap) (locs : List Loc) (ls : Array Slot), lv_has ls 5 [] → zWd D cy sh ad s M H locs → zjX12_areRight_53 sh k0 p1 p2 p3 M  s0 = some r → W p l e { frames := 1, cells := 0, slots := 0, locals := 25 } s m ([.ref (ad k0), .int p1, .int p2, .int p3] : List Value).toArray below meth c H locs 0 0 (zQI below D cy sh ad s [.ref (ad k0), .int p1, .int p2, .int p3] r M) (F0 m 53 ls [.int s0]) := by
    intro  s0 H locs ls hl hw hd
    unfold zjX12_areRight_53 at hd
    obtain ⟨g_1, hd⟩ := zgd_some hd
    exact z_zret F hr hlk hw g_1 (Option.some.inj hd) rfl dX12_areRight_53
  have L3 : ∀  (n : Nat), ∀ (x4 : Int32) (H : Heap) (locs : List Loc) (ls : Array Slot), lv_has ls 5 [(0, .ref (ad k0)), (1, .int p1), (2, .int p2), (3, .int p3), (4, .int x4)] → zWd D cy sh ad s M H locs → zlX12_areRight_3 sh k0 p1 p2 p3 M  n x4 = some r → W p l e { frames := 1, cells := 0, slots := 0, locals := 25 } s m ([.ref (ad k0), .int p1, .int p2, .int p3] : List Value).toArray below meth c H locs 0 0 (zQI below D cy sh ad s [.ref (ad k0), .int p1, .int p2, .int p3] r M) (F0 m 3 ls []) := by
    intro  n
    induction n with
    | zero => intro x4 H locs ls hl hw hd; exact (znone hd).elim
    | succ n hk3 =>
      intro x4 H locs ls hl hw hd
      have hd : zbX12_areRight_3 sh k0 p1 p2 p3 M  (zlX12_areRight_3 sh k0 p1 p2 p3 M  n) x4 = some r := hd
      unfold zbX12_areRight_3 at hd
      refine lv_iload hx hb dX12_areRight_3 (lv_at hl 4 rfl) ?_
      refine lv_aload_n hx hb dX12_areRight_5 rfl (lv_at hl 0 rfl) ?_
      refine z_gI F hw h0 zc12 22 (by decide) rfl zf12_240 dX12_areRight_6 ?_
      refine lv_icmp_ge (tgt := 41) hx hb dX12_areRight_9 (by decide) (fun c_2 => ?_) (fun c_2 => ?_)
      · have hd := zif_pos c_2 hd
        refine lv_aload_n hx hb dX12_areRight_41 rfl (lv_at hl 0 rfl) ?_
        refine z_gI F hw h0 zc12 22 (by decide) rfl zf12_240 dX12_areRight_42 ?_
        refine lv_if_le (tgt := 52) hx hb dX12_areRight_45 (by decide) (fun c_3 => ?_) (fun c_3 => ?_)
        · have hd := zif_pos c_3 hd
          refine lv_iconst (v := (0 : Int32)) hx hb dX12_areRight_52 (by decide) ?_
          exact J53 _ _ _ _ (lv_sub hl [] rfl) hw hd
        · have hd := zif_neg c_3 hd
          refine lv_iconst (v := (1 : Int32)) hx hb dX12_areRight_48 (by decide) ?_
          refine lv_goto (tgt := 53) hx hb dX12_areRight_49 (by decide) ?_
          exact J53 _ _ _ _ (lv_sub hl [] rfl) hw hd
      · have hd := zif_neg c_2 hd
        refine lv_iload_n hx hb dX12_areRight_12 rfl (lv_at hl 1 rfl) ?_
        refine lv_iload_n hx hb dX12_areRight_13 rfl (lv_at hl 2 rfl) ?_
        refine lv_iload_n hx hb dX12_areRight_14 rfl (lv_at hl 3 rfl) ?_
        refine lv_iload hx hb dX12_areRight_15 (lv_at hl 4 rfl) ?_
        obtain ⟨r_5, hc_4, hd⟩ := zob_some hd
        refine z_csI F hw hl.1 (As := [.int p1, .int p2, .int p3, .int x4]) (rest := []) (ztX12_one l D cy sh ad  hc_4) zyX12_one zk12_321 ⟨rfl, rfl⟩ ⟨by decide, by decide⟩ rfl rfl (Nat.le_of_ble_eq_true rfl) dX12_areRight_17 (fun H locs hw => ?_)
        refine lv_i2l (v := r_5.toInt64) hx hb dX12_areRight_20 rfl ?_
        refine lv_ldc2 (v := (-30000 : Int64)) hx hb F.1.2.2.2.1 (F.1.2.2.2.2 _ zi12_325) dX12_areRight_21 ?_
        refine lv_ldc2 (v := (30000 : Int64)) hx hb F.1.2.2.2.1 (F.1.2.2.2.2 _ zi12_327) dX12_areRight_24 ?_
        obtain ⟨r_7, hc_6, hd⟩ := zob_some hd
        refine z_csI F hw hl.1 (As := [.long (r_5.toInt64), .long (-30000 : Int64), .long (30000 : Int64)]) (rest := []) (ztX12_isIn l D cy sh ad  hc_6) zyX12_isIn zk12_91 ⟨rfl, rfl⟩ ⟨by decide, by decide⟩ rfl rfl (Nat.le_of_ble_eq_true rfl) dX12_areRight_27 (fun H locs hw => ?_)
        refine lv_if_ne (tgt := 35) hx hb dX12_areRight_30 (by decide) (fun c_8 => ?_) (fun c_8 => ?_)
        · have hd := zif_neg c_8 hd
          refine lv_iinc (v := (x4 + (1 : Int32))) (lv' := [(4, .int (x4 + (1 : Int32))), (0, .ref (ad k0)), (1, .int p1), (2, .int p2), (3, .int p3)]) hx hb dX12_areRight_35 hl (k := 4) rfl (ziinc (by decide)) (by decide) rfl (fun ls hl => ?_)
          refine lv_goto (tgt := 3) hx hb dX12_areRight_38 (by decide) ?_
          exact hk3 _ _ _ _ (lv_sub hl [1, 2, 3, 4, 0] rfl) hw hd
        · have hd := zif_pos c_8 hd
          refine lv_iconst (v := (0 : Int32)) hx hb dX12_areRight_33 (by decide) ?_
          exact z_zret F hr hlk hw (by decide) (Option.some.inj hd) rfl dX12_areRight_34
  unfold zX12_areRight at hd
  refine lv_iconst (v := (0 : Int32)) hx hb dX12_areRight_0 (by decide) ?_
  refine lv_istore (lv' := [(4, .int (0 : Int32)), (0, .ref (ad k0)), (1, .int p1), (2, .int p2), (3, .int p3)]) hx hb dX12_areRight_1 hl (by decide) rfl (fun ls hl => ?_)
  exact L3 zF _ _ _ _ (lv_sub hl [1, 2, 3, 4, 0] rfl) hw hd

def zjX12_least_72 (sh : zShp) (k0 : Nat) (p1 : Int32) (M : zMem) (kk4 : Int32 → Int32 → Option (Int32)) (x2 : Int32) (x3 : Int32) : Option (Int32) :=
  kk4 x2 (x3 + (1 : Int32))
def zjX12_least_71 (sh : zShp) (k0 : Nat) (p1 : Int32) (M : zMem) (kk4 : Int32 → Int32 → Option (Int32)) (x3 : Int32) (s0 : Int32) : Option (Int32) :=
  zjX12_least_72 sh k0 p1 M kk4 s0 x3
def zbX12_least_4 (sh : zShp) (k0 : Nat) (p1 : Int32) (M : zMem)  (kk4 : Int32 → Int32 → Option (Int32)) (x2 : Int32) (x3 : Int32) : Option (Int32) :=
  if (zI M k0 22) ≤ x3 then (
  some x2)
  else (
  zgd (zin x3 (zlen sh (zR M k0 37))) <|
  if (zI M (zR M k0 37) x3.toNatClampNeg) = 0 then (
  zjX12_least_72 sh k0 p1 M kk4 x2 x3)
  else (
  zgd (zin (((6 : Int32) * x3) + p1) (zlen sh (zR M k0 14))) <|
  zgd (zin x3 (zlen sh (zR M k0 37))) <|
  zob (zX12_size sh (zI M (zR M k0 37) x3.toNatClampNeg) M) fun r_10 =>
  zgd (znzL (r_10.toInt64)) <|
  zbd ((((((zI M (zR M k0 14) ((((6 : Int32) * x3) + p1).toNatClampNeg)).toInt64) * ((zI M k0 39).toInt64)) / (r_10.toInt64)).toInt32)) fun v_12 =>
  if x2 = 0 then (
  zjX12_least_71 sh k0 p1 M kk4 x3 v_12)
  else (
  zob (zX12_lesser sh x2 v_12 M) fun r_15 =>
  zjX12_least_71 sh k0 p1 M kk4 x3 r_15)))
def zlX12_least_4 (sh : zShp) (k0 : Nat) (p1 : Int32) (M : zMem)  : Nat → Int32 → Int32 → Option (Int32)
  | 0 => fun _ _ => none
  | n + 1 => fun x2 x3 => zbX12_least_4 sh k0 p1 M  (zlX12_least_4 sh k0 p1 M  n) x2 x3
def zX12_least (sh : zShp) (k0 : Nat) (p1 : Int32) (M : zMem) : Option (Int32) :=
  zlX12_least_4 sh k0 p1 M zF (0 : Int32) (0 : Int32)
set_option maxHeartbeats 4000000 in
set_option maxRecDepth 100000 in
theorem ztX12_least (l : Launch) (D : va_G) (cy : Nat → ClassId) (sh : zShp) (ad : Nat → Nat) {k0 : Nat} {p1 : Int32} (h0 : zT sh k0 12) {M : zMem} {r : Int32} (hd : zX12_least sh k0 p1 M = some r) : zCI l yX12_least cX12_least 5 .int { frames := 1, cells := 0, slots := 0, locals := 21 } [.ref (ad k0), .int p1] D cy sh ad M r M := by
  refine zci_of (by decide) (Nat.le_of_ble_eq_true rfl) (fun p e s m below meth c ls F hr hlk hl hw => ?_)
  have hx := F.1.1
  have hb := F.1.2.1
  have hl : lv_has ls 5 [(0, .ref (ad k0)), (1, .int p1)] := hl
  have J72 : ∀ (kk4 : Int32 → Int32 → Option (Int32)) (hk4 : ∀ (x2 : Int32) (x3 : Int32) (H : Heap) (locs : List Loc) (ls : Array Slot), lv_has ls 5 [(0, .ref (ad k0)), (1, .int p1), (2, .int x2), (3, .int x3)] → zWd D cy sh ad s M H locs → kk4 x2 x3 = some r → W p l e { frames := 1, cells := 0, slots := 0, locals := 21 } s m ([.ref (ad k0), .int p1] : List Value).toArray below meth c H locs 0 0 (zQI below D cy sh ad s [.ref (ad k0), .int p1] r M) (F0 m 4 ls [])), ∀ (x2 : Int32) (x3 : Int32) (H : Heap) (locs : List Loc) (ls : Array Slot), lv_has ls 5 [(0, .ref (ad k0)), (1, .int p1), (2, .int x2), (3, .int x3)] → zWd D cy sh ad s M H locs → zjX12_least_72 sh k0 p1 M kk4 x2 x3 = some r → W p l e { frames := 1, cells := 0, slots := 0, locals := 21 } s m ([.ref (ad k0), .int p1] : List Value).toArray below meth c H locs 0 0 (zQI below D cy sh ad s [.ref (ad k0), .int p1] r M) (F0 m 72 ls []) := by
    intro kk4 hk4 x2 x3 H locs ls hl hw hd
    unfold zjX12_least_72 at hd
    refine lv_iinc (v := (x3 + (1 : Int32))) (lv' := [(3, .int (x3 + (1 : Int32))), (0, .ref (ad k0)), (1, .int p1), (2, .int x2)]) hx hb dX12_least_72 hl (k := 3) rfl (ziinc (by decide)) (by decide) rfl (fun ls hl => ?_)
    refine lv_goto (tgt := 4) hx hb dX12_least_75 (by decide) ?_
    exact hk4 _ _ _ _ _ (lv_sub hl [1, 2, 3, 0] rfl) hw hd
  have J71 : ∀ (kk4 : Int32 → Int32 → Option (Int32)) (hk4 : ∀ (x2 : Int32) (x3 : Int32) (H : Heap) (locs : List Loc) (ls : Array Slot), lv_has ls 5 [(0, .ref (ad k0)), (1, .int p1), (2, .int x2), (3, .int x3)] → zWd D cy sh ad s M H locs → kk4 x2 x3 = some r → W p l e { frames := 1, cells := 0, slots := 0, locals := 21 } s m ([.ref (ad k0), .int p1] : List Value).toArray below meth c H locs 0 0 (zQI below D cy sh ad s [.ref (ad k0), .int p1] r M) (F0 m 4 ls [])), ∀ (x3 : Int32) (s0 : Int32) (H : Heap) (locs : List Loc) (ls : Array Slot), lv_has ls 5 [(0, .ref (ad k0)), (1, .int p1), (3, .int x3)] → zWd D cy sh ad s M H locs → zjX12_least_71 sh k0 p1 M kk4 x3 s0 = some r → W p l e { frames := 1, cells := 0, slots := 0, locals := 21 } s m ([.ref (ad k0), .int p1] : List Value).toArray below meth c H locs 0 0 (zQI below D cy sh ad s [.ref (ad k0), .int p1] r M) (F0 m 71 ls [.int s0]) := by
    intro kk4 hk4 x3 s0 H locs ls hl hw hd
    unfold zjX12_least_71 at hd
    refine lv_istore_n (lv' := [(2, .int s0), (0, .ref (ad k0)), (1, .int p1), (3, .int x3)]) hx hb dX12_least_71 rfl hl (by decide) rfl (fun ls hl => ?_)
    exact J72 _ hk4 _ _ _ _ _ (lv_sub hl [1, 2, 0, 3] rfl) hw hd
  have L4 : ∀  (n : Nat), ∀ (x2 : Int32) (x3 : Int32) (H : Heap) (locs : List Loc) (ls : Array Slot), lv_has ls 5 [(0, .ref (ad k0)), (1, .int p1), (2, .int x2), (3, .int x3)] → zWd D cy sh ad s M H locs → zlX12_least_4 sh k0 p1 M  n x2 x3 = some r → W p l e { frames := 1, cells := 0, slots := 0, locals := 21 } s m ([.ref (ad k0), .int p1] : List Value).toArray below meth c H locs 0 0 (zQI below D cy sh ad s [.ref (ad k0), .int p1] r M) (F0 m 4 ls []) := by
    intro  n
    induction n with
    | zero => intro x2 x3 H locs ls hl hw hd; exact (znone hd).elim
    | succ n hk4 =>
      intro x2 x3 H locs ls hl hw hd
      have hd : zbX12_least_4 sh k0 p1 M  (zlX12_least_4 sh k0 p1 M  n) x2 x3 = some r := hd
      unfold zbX12_least_4 at hd
      refine lv_iload_n hx hb dX12_least_4 rfl (lv_at hl 3 rfl) ?_
      refine lv_aload_n hx hb dX12_least_5 rfl (lv_at hl 0 rfl) ?_
      refine z_gI F hw h0 zc12 22 (by decide) rfl zf12_240 dX12_least_6 ?_
      refine lv_icmp_ge (tgt := 78) hx hb dX12_least_9 (by decide) (fun c_1 => ?_) (fun c_1 => ?_)
      · have hd := zif_pos c_1 hd
        refine lv_iload_n hx hb dX12_least_78 rfl (lv_at hl 2 rfl) ?_
        exact z_iret F hr hlk hw (Option.some.inj hd) rfl dX12_least_79
      · have hd := zif_neg c_1 hd
        refine lv_aload_n hx hb dX12_least_12 rfl (lv_at hl 0 rfl) ?_
        refine z_gR F hw h0 zc12 37 (by decide) rfl zf12_61 dX12_least_13 ?_
        have t_2 : zT sh (zR M k0 37) 14 := hw.2.2.2.fld h0 37 14
        refine lv_iload_n hx hb dX12_least_16 rfl (lv_at hl 3 rfl) ?_
        obtain ⟨g_3, hd⟩ := zgd_some hd
        refine z_iald F hw t_2 g_3 dX12_least_17 ?_
        refine lv_if_ne (tgt := 24) hx hb dX12_least_18 (by decide) (fun c_4 => ?_) (fun c_4 => ?_)
        · have hd := zif_neg c_4 hd
          refine lv_aload_n hx hb dX12_least_24 rfl (lv_at hl 0 rfl) ?_
          refine z_gR F hw h0 zc12 14 (by decide) rfl zf12_27 dX12_least_25 ?_
          have t_5 : zT sh (zR M k0 14) 14 := hw.2.2.2.fld h0 14 14
          refine lv_bipush (v := (6 : Int32)) hx hb dX12_least_28 (by decide) ?_
          refine lv_iload_n hx hb dX12_least_30 rfl (lv_at hl 3 rfl) ?_
          refine lv_imul hx hb dX12_least_31 ?_
          refine lv_iload_n hx hb dX12_least_32 rfl (lv_at hl 1 rfl) ?_
          refine lv_iadd hx hb dX12_least_33 ?_
          obtain ⟨g_6, hd⟩ := zgd_some hd
          refine z_iald F hw t_5 g_6 dX12_least_34 ?_
          refine lv_i2l (v := (zI M (zR M k0 14) ((((6 : Int32) * x3) + p1).toNatClampNeg)).toInt64) hx hb dX12_least_35 rfl ?_
          refine lv_aload_n hx hb dX12_least_36 rfl (lv_at hl 0 rfl) ?_
          refine z_gI F hw h0 zc12 39 (by decide) rfl zf12_329 dX12_least_37 ?_
          refine lv_i2l (v := (zI M k0 39).toInt64) hx hb dX12_least_40 rfl ?_
          refine lv_lmul hx hb dX12_least_41 ?_
          refine lv_aload_n hx hb dX12_least_42 rfl (lv_at hl 0 rfl) ?_
          refine z_gR F hw h0 zc12 37 (by decide) rfl zf12_61 dX12_least_43 ?_
          have t_7 : zT sh (zR M k0 37) 14 := hw.2.2.2.fld h0 37 14
          refine lv_iload_n hx hb dX12_least_46 rfl (lv_at hl 3 rfl) ?_
          obtain ⟨g_8, hd⟩ := zgd_some hd
          refine z_iald F hw t_7 g_8 dX12_least_47 ?_
          obtain ⟨r_10, hc_9, hd⟩ := zob_some hd
          refine z_csI F hw hl.1 (As := [.int (zI M (zR M k0 37) x3.toNatClampNeg)]) (rest := [.long (((zI M (zR M k0 14) ((((6 : Int32) * x3) + p1).toNatClampNeg)).toInt64) * ((zI M k0 39).toInt64))]) (ztX12_size l D cy sh ad  hc_9) zyX12_size zk12_273 ⟨rfl, rfl⟩ ⟨by decide, by decide⟩ rfl rfl (Nat.le_of_ble_eq_true rfl) dX12_least_48 (fun H locs hw => ?_)
          refine lv_i2l (v := r_10.toInt64) hx hb dX12_least_51 rfl ?_
          obtain ⟨g_11, hd⟩ := zgd_some hd
          refine lv_ldiv hx hb dX12_least_52 (znzL_ne g_11) ?_
          refine lv_l2i (v := ((((zI M (zR M k0 14) ((((6 : Int32) * x3) + p1).toNatClampNeg)).toInt64) * ((zI M k0 39).toInt64)) / (r_10.toInt64)).toInt32) hx hb dX12_least_53 rfl ?_
          refine lv_topi (fun v_12 ev_12 => ?_)
          have hd := zbd_eq ev_12 hd
          refine lv_istore (lv' := [(4, .int v_12), (0, .ref (ad k0)), (1, .int p1), (2, .int x2), (3, .int x3)]) hx hb dX12_least_54 hl (by decide) rfl (fun ls hl => ?_)
          refine lv_iload_n hx hb dX12_least_56 rfl (lv_at hl 3 rfl) ?_
          refine lv_if_ne (tgt := 65) hx hb dX12_least_57 (by decide) (fun c_13 => ?_) (fun c_13 => ?_)
          · have hd := zif_neg c_13 hd
            refine lv_iload_n hx hb dX12_least_65 rfl (lv_at hl 3 rfl) ?_
            refine lv_iload hx hb dX12_least_66 (lv_at hl 0 rfl) ?_
            obtain ⟨r_15, hc_14, hd⟩ := zob_some hd
            refine z_csI F hw hl.1 (As := [.int x2, .int v_12]) (rest := []) (ztX12_lesser l D cy sh ad  hc_14) zyX12_lesser zk12_332 ⟨rfl, rfl⟩ ⟨by decide, by decide⟩ rfl rfl (Nat.le_of_ble_eq_true rfl) dX12_least_68 (fun H locs hw => ?_)
            exact J71 _ hk4 _ _ _ _ _ (lv_sub hl [1, 2, 4] rfl) hw hd
          · have hd := zif_pos c_13 hd
            refine lv_iload hx hb dX12_least_60 (lv_at hl 0 rfl) ?_
            refine lv_goto (tgt := 71) hx hb dX12_least_62 (by decide) ?_
            exact J71 _ hk4 _ _ _ _ _ (lv_sub hl [1, 2, 4] rfl) hw hd
        · have hd := zif_pos c_4 hd
          refine lv_goto (tgt := 72) hx hb dX12_least_21 (by decide) ?_
          exact J72 _ hk4 _ _ _ _ _ (lv_sub hl [0, 1, 2, 3] rfl) hw hd
  unfold zX12_least at hd
  refine lv_iconst (v := (0 : Int32)) hx hb dX12_least_0 (by decide) ?_
  refine lv_istore_n (lv' := [(2, .int (0 : Int32)), (0, .ref (ad k0)), (1, .int p1)]) hx hb dX12_least_1 rfl hl (by decide) rfl (fun ls hl => ?_)
  refine lv_iconst (v := (0 : Int32)) hx hb dX12_least_2 (by decide) ?_
  refine lv_istore_n (lv' := [(3, .int (0 : Int32)), (2, .int (0 : Int32)), (0, .ref (ad k0)), (1, .int p1)]) hx hb dX12_least_3 rfl hl (by decide) rfl (fun ls hl => ?_)
  exact L4 zF _ _ _ _ _ (lv_sub hl [2, 3, 1, 0] rfl) hw hd

def zjX12_plans_96 (sh : zShp) (k0 : Nat) (p1 : Int32) (p2 : Int32) (p3 : Int32) (kk59 : Int32 → zMem → Option (Int32 × zMem)) (x4 : Int32) (M : zMem) : Option (Int32 × zMem) :=
  kk59 (x4 + (1 : Int32)) M
def zbX12_plans_59 (sh : zShp) (k0 : Nat) (p1 : Int32) (p2 : Int32) (p3 : Int32)  (kk59 : Int32 → zMem → Option (Int32 × zMem)) (x4 : Int32) (M : zMem) : Option (Int32 × zMem) :=
  if (3 : Int32) ≤ x4 then (
  zgd (zin (zI M k0 38) (zlen sh (zR M k0 37))) <|
  zob (zX12_size sh (zI M (zR M k0 37) ((zI M k0 38).toNatClampNeg)) M) fun r_5 =>
  zbd (zpI M k0 39 r_5) fun M_6 =>
  if (zI M_6 k0 39) = 0 then (
  some ((0 : Int32), M_6))
  else (
  zob (zX12_least sh k0 (0 : Int32) M_6) fun r_9 =>
  zbd (zpI M_6 k0 40 r_9) fun M_10 =>
  zob (zX12_least sh k0 (1 : Int32) M_10) fun r_12 =>
  zbd (zpI M_10 k0 41 r_12) fun M_13 =>
  zob (zX12_least sh k0 (2 : Int32) M_13) fun r_15 =>
  zbd (zpI M_13 k0 42 r_15) fun M_16 =>
  zob (zX12_laysTop sh k0 (zI M_16 k0 38) (zI M_16 k0 39) (zI M_16 k0 40) (zI M_16 k0 41) (zI M_16 k0 42) M_16) fun M_18 =>
  zob (zX12_rampSum sh k0 M_18) fun r_20 =>
  zbd (zpI M_18 k0 43 ((zI M_18 k0 39) - ((2 : Int32) * r_20))) fun M_21 =>
  zob (zX12_evenTicks sh k0 (zI M_21 k0 43) M_21) fun r_23 =>
  zbd (zpI M_21 k0 44 r_23) fun M_24 =>
  some ((1 : Int32), M_24)))
  else (
  zgd (zin x4 (zlen sh (zR M k0 37))) <|
  zob (zX12_size sh (zI M (zR M k0 37) x4.toNatClampNeg) M) fun r_28 =>
  zgd (zin (zI M k0 38) (zlen sh (zR M k0 37))) <|
  zob (zX12_size sh (zI M (zR M k0 37) ((zI M k0 38).toNatClampNeg)) M) fun r_32 =>
  if r_28 ≤ r_32 then (
  zjX12_plans_96 sh k0 p1 p2 p3 kk59 x4 M)
  else (
  zbd (zpI M k0 38 x4) fun M_34 =>
  zjX12_plans_96 sh k0 p1 p2 p3 kk59 x4 M_34))
def zlX12_plans_59 (sh : zShp) (k0 : Nat) (p1 : Int32) (p2 : Int32) (p3 : Int32)  : Nat → Int32 → zMem → Option (Int32 × zMem)
  | 0 => fun _ _ => none
  | n + 1 => fun x4 M => zbX12_plans_59 sh k0 p1 p2 p3  (zlX12_plans_59 sh k0 p1 p2 p3  n) x4 M
def zjX12_plans_49 (sh : zShp) (k0 : Nat) (p1 : Int32) (p2 : Int32) (p3 : Int32) (kk8 : Int32 → zMem → Option (Int32 × zMem)) (x4 : Int32) (s0 : Nat) (s1 : Int32) (s2 : Int32) (M : zMem) : Option (Int32 × zMem) :=
  zgd (zin s1 (zlen sh s0)) <|
  zbd (zpI M s0 (s1.toNatClampNeg) s2) fun M_36 =>
  kk8 (x4 + (1 : Int32)) M_36
def zbX12_plans_8 (sh : zShp) (k0 : Nat) (p1 : Int32) (p2 : Int32) (p3 : Int32)  (kk8 : Int32 → zMem → Option (Int32 × zMem)) (x4 : Int32) (M : zMem) : Option (Int32 × zMem) :=
  if (3 : Int32) ≤ x4 then (
  zlX12_plans_59 sh k0 p1 p2 p3 zF (1 : Int32) M)
  else (
  if (zI M k0 22) ≤ x4 then (
  zjX12_plans_49 sh k0 p1 p2 p3 kk8 x4 (zR M k0 37) x4 (0 : Int32) M)
  else (
  zob (zX12_one sh p1 p2 p3 x4 M) fun r_41 =>
  zob (zX12_axisAt sh k0 x4 (0 : Int32) M) fun r_43 =>
  zjX12_plans_49 sh k0 p1 p2 p3 kk8 x4 (zR M k0 37) x4 (r_41 - r_43) M))
def zlX12_plans_8 (sh : zShp) (k0 : Nat) (p1 : Int32) (p2 : Int32) (p3 : Int32)  : Nat → Int32 → zMem → Option (Int32 × zMem)
  | 0 => fun _ _ => none
  | n + 1 => fun x4 M => zbX12_plans_8 sh k0 p1 p2 p3  (zlX12_plans_8 sh k0 p1 p2 p3  n) x4 M
def zX12_plans (sh : zShp) (k0 : Nat) (p1 : Int32) (p2 : Int32) (p3 : Int32) (M : zMem) : Option (Int32 × zMem) :=
  zbd (zpI M k0 38 (0 : Int32)) fun M_44 =>
  zlX12_plans_8 sh k0 p1 p2 p3 zF (0 : Int32) M_44
set_option maxHeartbeats 4000000 in
set_option maxRecDepth 100000 in
theorem ztX12_plans (l : Launch) (D : va_G) (cy : Nat → ClassId) (sh : zShp) (ad : Nat → Nat) {k0 : Nat} {p1 : Int32} {p2 : Int32} {p3 : Int32} (h0 : zT sh k0 12) {M : zMem} {r : Int32} {M1 : zMem} (hd : zX12_plans sh k0 p1 p2 p3 M = some (r, M1)) : zCI l yX12_plans cX12_plans 5 .boolean { frames := 3, cells := 0, slots := 0, locals := 77 } [.ref (ad k0), .int p1, .int p2, .int p3] D cy sh ad M r M1 := by
  refine zci_of (by decide) (Nat.le_of_ble_eq_true rfl) (fun p e s m below meth c ls F hr hlk hl hw => ?_)
  have hx := F.1.1
  have hb := F.1.2.1
  have hl : lv_has ls 5 [(0, .ref (ad k0)), (1, .int p1), (2, .int p2), (3, .int p3)] := hl
  have J96 : ∀ (kk59 : Int32 → zMem → Option (Int32 × zMem)) (hk59 : ∀ (x4 : Int32) (M : zMem) (H : Heap) (locs : List Loc) (ls : Array Slot), lv_has ls 5 [(0, .ref (ad k0)), (4, .int x4)] → zWd D cy sh ad s M H locs → kk59 x4 M = some (r, M1) → W p l e { frames := 3, cells := 0, slots := 0, locals := 77 } s m ([.ref (ad k0), .int p1, .int p2, .int p3] : List Value).toArray below meth c H locs 0 0 (zQI below D cy sh ad s [.ref (ad k0), .int p1, .int p2, .int p3] r M1) (F0 m 59 ls [])), ∀ (x4 : Int32) (M : zMem) (H : Heap) (locs : List Loc) (ls : Array Slot), lv_has ls 5 [(0, .ref (ad k0)), (4, .int x4)] → zWd D cy sh ad s M H locs → zjX12_plans_96 sh k0 p1 p2 p3 kk59 x4 M = some (r, M1) → W p l e { frames := 3, cells := 0, slots := 0, locals := 77 } s m ([.ref (ad k0), .int p1, .int p2, .int p3] : List Value).toArray below meth c H locs 0 0 (zQI below D cy sh ad s [.ref (ad k0), .int p1, .int p2, .int p3] r M1) (F0 m 96 ls []) := by
    intro kk59 hk59 x4 M H locs ls hl hw hd
    unfold zjX12_plans_96 at hd
    refine lv_iinc (v := (x4 + (1 : Int32))) (lv' := [(4, .int (x4 + (1 : Int32))), (0, .ref (ad k0))]) hx hb dX12_plans_96 hl (k := 1) rfl (ziinc (by decide)) (by decide) rfl (fun ls hl => ?_)
    refine lv_goto (tgt := 59) hx hb dX12_plans_99 (by decide) ?_
    exact hk59 _ _ _ _ _ (lv_sub hl [1, 0] rfl) hw hd
  have L59 : ∀  (n : Nat), ∀ (x4 : Int32) (M : zMem) (H : Heap) (locs : List Loc) (ls : Array Slot), lv_has ls 5 [(0, .ref (ad k0)), (4, .int x4)] → zWd D cy sh ad s M H locs → zlX12_plans_59 sh k0 p1 p2 p3  n x4 M = some (r, M1) → W p l e { frames := 3, cells := 0, slots := 0, locals := 77 } s m ([.ref (ad k0), .int p1, .int p2, .int p3] : List Value).toArray below meth c H locs 0 0 (zQI below D cy sh ad s [.ref (ad k0), .int p1, .int p2, .int p3] r M1) (F0 m 59 ls []) := by
    intro  n
    induction n with
    | zero => intro x4 M H locs ls hl hw hd; exact (znone hd).elim
    | succ n hk59 =>
      intro x4 M H locs ls hl hw hd
      have hd : zbX12_plans_59 sh k0 p1 p2 p3  (zlX12_plans_59 sh k0 p1 p2 p3  n) x4 M = some (r, M1) := hd
      unfold zbX12_plans_59 at hd
      refine lv_iload hx hb dX12_plans_59 (lv_at hl 1 rfl) ?_
      refine lv_iconst (v := (3 : Int32)) hx hb dX12_plans_61 (by decide) ?_
      refine lv_icmp_ge (tgt := 102) hx hb dX12_plans_62 (by decide) (fun c_1 => ?_) (fun c_1 => ?_)
      · have hd := zif_pos c_1 hd
        refine lv_aload_n hx hb dX12_plans_102 rfl (lv_at hl 0 rfl) ?_
        refine lv_aload_n hx hb dX12_plans_103 rfl (lv_at hl 0 rfl) ?_
        refine z_gR F hw h0 zc12 37 (by decide) rfl zf12_61 dX12_plans_104 ?_
        have t_2 : zT sh (zR M k0 37) 14 := hw.2.2.2.fld h0 37 14
        refine lv_aload_n hx hb dX12_plans_107 rfl (lv_at hl 0 rfl) ?_
        refine z_gI F hw h0 zc12 38 (by decide) rfl zf12_335 dX12_plans_108 ?_
        obtain ⟨g_3, hd⟩ := zgd_some hd
        refine z_iald F hw t_2 g_3 dX12_plans_111 ?_
        obtain ⟨r_5, hc_4, hd⟩ := zob_some hd
        refine z_csI F hw hl.1 (As := [.int (zI M (zR M k0 37) ((zI M k0 38).toNatClampNeg))]) (rest := [.ref (ad k0)]) (ztX12_size l D cy sh ad  hc_4) zyX12_size zk12_273 ⟨rfl, rfl⟩ ⟨by decide, by decide⟩ rfl rfl (Nat.le_of_ble_eq_true rfl) dX12_plans_112 (fun H locs hw => ?_)
        refine z_pI F hw h0 zc12 39 (by decide) rfl zf12_329 rfl rfl rfl dX12_plans_115 (fun H locs M_6 eM_6 hw => ?_)
        have hd := zbd_eq eM_6 hd
        refine lv_aload_n hx hb dX12_plans_118 rfl (lv_at hl 0 rfl) ?_
        refine z_gI F hw h0 zc12 39 (by decide) rfl zf12_329 dX12_plans_119 ?_
        refine lv_if_ne (tgt := 127) hx hb dX12_plans_122 (by decide) (fun c_7 => ?_) (fun c_7 => ?_)
        · have hd := zif_neg c_7 hd
          refine lv_aload_n hx hb dX12_plans_127 rfl (lv_at hl 0 rfl) ?_
          refine lv_aload_n hx hb dX12_plans_128 rfl (lv_at hl 0 rfl) ?_
          refine lv_iconst (v := (0 : Int32)) hx hb dX12_plans_129 (by decide) ?_
          obtain ⟨r_9, hc_8, hd⟩ := zob_some hd
          refine z_cvI F hw hl.1 (As := [.int (0 : Int32)]) (rest := [.ref (ad k0)]) (ztX12_least l D cy sh ad h0 hc_8) zyX12_least h0 zc12 zk12_341 ⟨rfl, rfl⟩ ⟨by decide, by decide⟩ rfl rfl (Nat.le_of_ble_eq_true rfl) dX12_plans_130 (fun H locs hw => ?_)
          refine z_pI F hw h0 zc12 40 (by decide) rfl zf12_344 rfl rfl rfl dX12_plans_133 (fun H locs M_10 eM_10 hw => ?_)
          have hd := zbd_eq eM_10 hd
          refine lv_aload_n hx hb dX12_plans_136 rfl (lv_at hl 0 rfl) ?_
          refine lv_aload_n hx hb dX12_plans_137 rfl (lv_at hl 0 rfl) ?_
          refine lv_iconst (v := (1 : Int32)) hx hb dX12_plans_138 (by decide) ?_
          obtain ⟨r_12, hc_11, hd⟩ := zob_some hd
          refine z_cvI F hw hl.1 (As := [.int (1 : Int32)]) (rest := [.ref (ad k0)]) (ztX12_least l D cy sh ad h0 hc_11) zyX12_least h0 zc12 zk12_341 ⟨rfl, rfl⟩ ⟨by decide, by decide⟩ rfl rfl (Nat.le_of_ble_eq_true rfl) dX12_plans_139 (fun H locs hw => ?_)
          refine z_pI F hw h0 zc12 41 (by decide) rfl zf12_347 rfl rfl rfl dX12_plans_142 (fun H locs M_13 eM_13 hw => ?_)
          have hd := zbd_eq eM_13 hd
          refine lv_aload_n hx hb dX12_plans_145 rfl (lv_at hl 0 rfl) ?_
          refine lv_aload_n hx hb dX12_plans_146 rfl (lv_at hl 0 rfl) ?_
          refine lv_iconst (v := (2 : Int32)) hx hb dX12_plans_147 (by decide) ?_
          obtain ⟨r_15, hc_14, hd⟩ := zob_some hd
          refine z_cvI F hw hl.1 (As := [.int (2 : Int32)]) (rest := [.ref (ad k0)]) (ztX12_least l D cy sh ad h0 hc_14) zyX12_least h0 zc12 zk12_341 ⟨rfl, rfl⟩ ⟨by decide, by decide⟩ rfl rfl (Nat.le_of_ble_eq_true rfl) dX12_plans_148 (fun H locs hw => ?_)
          refine z_pI F hw h0 zc12 42 (by decide) rfl zf12_350 rfl rfl rfl dX12_plans_151 (fun H locs M_16 eM_16 hw => ?_)
          have hd := zbd_eq eM_16 hd
          refine lv_aload_n hx hb dX12_plans_154 rfl (lv_at hl 0 rfl) ?_
          refine lv_aload_n hx hb dX12_plans_155 rfl (lv_at hl 0 rfl) ?_
          refine z_gI F hw h0 zc12 38 (by decide) rfl zf12_335 dX12_plans_156 ?_
          refine lv_aload_n hx hb dX12_plans_159 rfl (lv_at hl 0 rfl) ?_
          refine z_gI F hw h0 zc12 39 (by decide) rfl zf12_329 dX12_plans_160 ?_
          refine lv_aload_n hx hb dX12_plans_163 rfl (lv_at hl 0 rfl) ?_
          refine z_gI F hw h0 zc12 40 (by decide) rfl zf12_344 dX12_plans_164 ?_
          refine lv_aload_n hx hb dX12_plans_167 rfl (lv_at hl 0 rfl) ?_
          refine z_gI F hw h0 zc12 41 (by decide) rfl zf12_347 dX12_plans_168 ?_
          refine lv_aload_n hx hb dX12_plans_171 rfl (lv_at hl 0 rfl) ?_
          refine z_gI F hw h0 zc12 42 (by decide) rfl zf12_350 dX12_plans_172 ?_
          obtain ⟨M_18, hc_17, hd⟩ := zob_some hd
          refine z_cvV F hw hl.1 (As := [.int (zI M_16 k0 38), .int (zI M_16 k0 39), .int (zI M_16 k0 40), .int (zI M_16 k0 41), .int (zI M_16 k0 42)]) (rest := []) (ztX12_laysTop l D cy sh ad h0 hc_17) zyX12_laysTop h0 zc12 zk12_353 ⟨rfl, rfl⟩ ⟨by decide, by decide⟩ rfl rfl (Nat.le_of_ble_eq_true rfl) dX12_plans_175 (fun H locs hw => ?_)
          refine lv_aload_n hx hb dX12_plans_178 rfl (lv_at hl 0 rfl) ?_
          refine lv_aload_n hx hb dX12_plans_179 rfl (lv_at hl 0 rfl) ?_
          refine z_gI F hw h0 zc12 39 (by decide) rfl zf12_329 dX12_plans_180 ?_
          refine lv_iconst (v := (2 : Int32)) hx hb dX12_plans_183 (by decide) ?_
          refine lv_aload_n hx hb dX12_plans_184 rfl (lv_at hl 0 rfl) ?_
          obtain ⟨r_20, hc_19, hd⟩ := zob_some hd
          refine z_cvI F hw hl.1 (As := []) (rest := [.int (2 : Int32), .int (zI M_18 k0 39), .ref (ad k0)]) (ztX12_rampSum l D cy sh ad h0 hc_19) zyX12_rampSum h0 zc12 zk12_309 ⟨rfl, rfl⟩ ⟨by decide, by decide⟩ rfl rfl (Nat.le_of_ble_eq_true rfl) dX12_plans_185 (fun H locs hw => ?_)
          refine lv_imul hx hb dX12_plans_188 ?_
          refine lv_isub hx hb dX12_plans_189 ?_
          refine z_pI F hw h0 zc12 43 (by decide) rfl zf12_357 rfl rfl rfl dX12_plans_190 (fun H locs M_21 eM_21 hw => ?_)
          have hd := zbd_eq eM_21 hd
          refine lv_aload_n hx hb dX12_plans_193 rfl (lv_at hl 0 rfl) ?_
          refine lv_aload_n hx hb dX12_plans_194 rfl (lv_at hl 0 rfl) ?_
          refine lv_aload_n hx hb dX12_plans_195 rfl (lv_at hl 0 rfl) ?_
          refine z_gI F hw h0 zc12 43 (by decide) rfl zf12_357 dX12_plans_196 ?_
          obtain ⟨r_23, hc_22, hd⟩ := zob_some hd
          refine z_cvI F hw hl.1 (As := [.int (zI M_21 k0 43)]) (rest := [.ref (ad k0)]) (ztX12_evenTicks l D cy sh ad h0 hc_22) zyX12_evenTicks h0 zc12 zk12_360 ⟨rfl, rfl⟩ ⟨by decide, by decide⟩ rfl rfl (Nat.le_of_ble_eq_true rfl) dX12_plans_199 (fun H locs hw => ?_)
          refine z_pI F hw h0 zc12 44 (by decide) rfl zf12_363 rfl rfl rfl dX12_plans_202 (fun H locs M_24 eM_24 hw => ?_)
          have hd := zbd_eq eM_24 hd
          refine lv_iconst (v := (1 : Int32)) hx hb dX12_plans_205 (by decide) ?_
          exact z_zret F hr hlk hw (by decide) (zpr1 hd) (zpr2 hd) dX12_plans_206
        · have hd := zif_pos c_7 hd
          refine lv_iconst (v := (0 : Int32)) hx hb dX12_plans_125 (by decide) ?_
          exact z_zret F hr hlk hw (by decide) (zpr1 hd) (zpr2 hd) dX12_plans_126
      · have hd := zif_neg c_1 hd
        refine lv_aload_n hx hb dX12_plans_65 rfl (lv_at hl 0 rfl) ?_
        refine z_gR F hw h0 zc12 37 (by decide) rfl zf12_61 dX12_plans_66 ?_
        have t_25 : zT sh (zR M k0 37) 14 := hw.2.2.2.fld h0 37 14
        refine lv_iload hx hb dX12_plans_69 (lv_at hl 1 rfl) ?_
        obtain ⟨g_26, hd⟩ := zgd_some hd
        refine z_iald F hw t_25 g_26 dX12_plans_71 ?_
        obtain ⟨r_28, hc_27, hd⟩ := zob_some hd
        refine z_csI F hw hl.1 (As := [.int (zI M (zR M k0 37) x4.toNatClampNeg)]) (rest := []) (ztX12_size l D cy sh ad  hc_27) zyX12_size zk12_273 ⟨rfl, rfl⟩ ⟨by decide, by decide⟩ rfl rfl (Nat.le_of_ble_eq_true rfl) dX12_plans_72 (fun H locs hw => ?_)
        refine lv_aload_n hx hb dX12_plans_75 rfl (lv_at hl 0 rfl) ?_
        refine z_gR F hw h0 zc12 37 (by decide) rfl zf12_61 dX12_plans_76 ?_
        have t_29 : zT sh (zR M k0 37) 14 := hw.2.2.2.fld h0 37 14
        refine lv_aload_n hx hb dX12_plans_79 rfl (lv_at hl 0 rfl) ?_
        refine z_gI F hw h0 zc12 38 (by decide) rfl zf12_335 dX12_plans_80 ?_
        obtain ⟨g_30, hd⟩ := zgd_some hd
        refine z_iald F hw t_29 g_30 dX12_plans_83 ?_
        obtain ⟨r_32, hc_31, hd⟩ := zob_some hd
        refine z_csI F hw hl.1 (As := [.int (zI M (zR M k0 37) ((zI M k0 38).toNatClampNeg))]) (rest := [.int r_28]) (ztX12_size l D cy sh ad  hc_31) zyX12_size zk12_273 ⟨rfl, rfl⟩ ⟨by decide, by decide⟩ rfl rfl (Nat.le_of_ble_eq_true rfl) dX12_plans_84 (fun H locs hw => ?_)
        refine lv_icmp_le (tgt := 96) hx hb dX12_plans_87 (by decide) (fun c_33 => ?_) (fun c_33 => ?_)
        · have hd := zif_pos c_33 hd
          exact J96 _ hk59 _ _ _ _ _ (lv_sub hl [0, 1] rfl) hw hd
        · have hd := zif_neg c_33 hd
          refine lv_aload_n hx hb dX12_plans_90 rfl (lv_at hl 0 rfl) ?_
          refine lv_iload hx hb dX12_plans_91 (lv_at hl 1 rfl) ?_
          refine z_pI F hw h0 zc12 38 (by decide) rfl zf12_335 rfl rfl rfl dX12_plans_93 (fun H locs M_34 eM_34 hw => ?_)
          have hd := zbd_eq eM_34 hd
          exact J96 _ hk59 _ _ _ _ _ (lv_sub hl [0, 1] rfl) hw hd
  have J49 : ∀ (kk8 : Int32 → zMem → Option (Int32 × zMem)) (hk8 : ∀ (x4 : Int32) (M : zMem) (H : Heap) (locs : List Loc) (ls : Array Slot), lv_has ls 5 [(0, .ref (ad k0)), (1, .int p1), (2, .int p2), (3, .int p3), (4, .int x4)] → zWd D cy sh ad s M H locs → kk8 x4 M = some (r, M1) → W p l e { frames := 3, cells := 0, slots := 0, locals := 77 } s m ([.ref (ad k0), .int p1, .int p2, .int p3] : List Value).toArray below meth c H locs 0 0 (zQI below D cy sh ad s [.ref (ad k0), .int p1, .int p2, .int p3] r M1) (F0 m 8 ls [])), ∀ (x4 : Int32) (s0 : Nat) (s1 : Int32) (s2 : Int32) (ts0 : zT sh s0 14) (M : zMem) (H : Heap) (locs : List Loc) (ls : Array Slot), lv_has ls 5 [(0, .ref (ad k0)), (1, .int p1), (2, .int p2), (3, .int p3), (4, .int x4)] → zWd D cy sh ad s M H locs → zjX12_plans_49 sh k0 p1 p2 p3 kk8 x4 s0 s1 s2 M = some (r, M1) → W p l e { frames := 3, cells := 0, slots := 0, locals := 77 } s m ([.ref (ad k0), .int p1, .int p2, .int p3] : List Value).toArray below meth c H locs 0 0 (zQI below D cy sh ad s [.ref (ad k0), .int p1, .int p2, .int p3] r M1) (F0 m 49 ls [.int s2, .int s1, .ref (ad s0)]) := by
    intro kk8 hk8 x4 s0 s1 s2 ts0 M H locs ls hl hw hd
    unfold zjX12_plans_49 at hd
    obtain ⟨g_35, hd⟩ := zgd_some hd
    refine z_iast F hw ts0 g_35 dX12_plans_49 (fun H locs M_36 eM_36 hw => ?_)
    have hd := zbd_eq eM_36 hd
    refine lv_iinc (v := (x4 + (1 : Int32))) (lv' := [(4, .int (x4 + (1 : Int32))), (0, .ref (ad k0)), (1, .int p1), (2, .int p2), (3, .int p3)]) hx hb dX12_plans_50 hl (k := 4) rfl (ziinc (by decide)) (by decide) rfl (fun ls hl => ?_)
    refine lv_goto (tgt := 8) hx hb dX12_plans_53 (by decide) ?_
    exact hk8 _ _ _ _ _ (lv_sub hl [1, 2, 3, 4, 0] rfl) hw hd
  have L8 : ∀  (n : Nat), ∀ (x4 : Int32) (M : zMem) (H : Heap) (locs : List Loc) (ls : Array Slot), lv_has ls 5 [(0, .ref (ad k0)), (1, .int p1), (2, .int p2), (3, .int p3), (4, .int x4)] → zWd D cy sh ad s M H locs → zlX12_plans_8 sh k0 p1 p2 p3  n x4 M = some (r, M1) → W p l e { frames := 3, cells := 0, slots := 0, locals := 77 } s m ([.ref (ad k0), .int p1, .int p2, .int p3] : List Value).toArray below meth c H locs 0 0 (zQI below D cy sh ad s [.ref (ad k0), .int p1, .int p2, .int p3] r M1) (F0 m 8 ls []) := by
    intro  n
    induction n with
    | zero => intro x4 M H locs ls hl hw hd; exact (znone hd).elim
    | succ n hk8 =>
      intro x4 M H locs ls hl hw hd
      have hd : zbX12_plans_8 sh k0 p1 p2 p3  (zlX12_plans_8 sh k0 p1 p2 p3  n) x4 M = some (r, M1) := hd
      unfold zbX12_plans_8 at hd
      refine lv_iload hx hb dX12_plans_8 (lv_at hl 4 rfl) ?_
      refine lv_iconst (v := (3 : Int32)) hx hb dX12_plans_10 (by decide) ?_
      refine lv_icmp_ge (tgt := 56) hx hb dX12_plans_11 (by decide) (fun c_37 => ?_) (fun c_37 => ?_)
      · have hd := zif_pos c_37 hd
        refine lv_iconst (v := (1 : Int32)) hx hb dX12_plans_56 (by decide) ?_
        refine lv_istore (lv' := [(4, .int (1 : Int32)), (0, .ref (ad k0)), (1, .int p1), (2, .int p2), (3, .int p3)]) hx hb dX12_plans_57 hl (by decide) rfl (fun ls hl => ?_)
        exact L59 zF _ _ _ _ _ (lv_sub hl [1, 0] rfl) hw hd
      · have hd := zif_neg c_37 hd
        refine lv_aload_n hx hb dX12_plans_14 rfl (lv_at hl 0 rfl) ?_
        refine z_gR F hw h0 zc12 37 (by decide) rfl zf12_61 dX12_plans_15 ?_
        have t_38 : zT sh (zR M k0 37) 14 := hw.2.2.2.fld h0 37 14
        refine lv_iload hx hb dX12_plans_18 (lv_at hl 4 rfl) ?_
        refine lv_iload hx hb dX12_plans_20 (lv_at hl 4 rfl) ?_
        refine lv_aload_n hx hb dX12_plans_22 rfl (lv_at hl 0 rfl) ?_
        refine z_gI F hw h0 zc12 22 (by decide) rfl zf12_240 dX12_plans_23 ?_
        refine lv_icmp_ge (tgt := 48) hx hb dX12_plans_26 (by decide) (fun c_39 => ?_) (fun c_39 => ?_)
        · have hd := zif_pos c_39 hd
          refine lv_iconst (v := (0 : Int32)) hx hb dX12_plans_48 (by decide) ?_
          exact J49 _ hk8 _ _ _ _ t_38 _ _ _ _ (lv_sub hl [0, 1, 2, 3, 4] rfl) hw hd
        · have hd := zif_neg c_39 hd
          refine lv_iload_n hx hb dX12_plans_29 rfl (lv_at hl 1 rfl) ?_
          refine lv_iload_n hx hb dX12_plans_30 rfl (lv_at hl 2 rfl) ?_
          refine lv_iload_n hx hb dX12_plans_31 rfl (lv_at hl 3 rfl) ?_
          refine lv_iload hx hb dX12_plans_32 (lv_at hl 4 rfl) ?_
          obtain ⟨r_41, hc_40, hd⟩ := zob_some hd
          refine z_csI F hw hl.1 (As := [.int p1, .int p2, .int p3, .int x4]) (rest := [.int x4, .ref (ad (zR M k0 37))]) (ztX12_one l D cy sh ad  hc_40) zyX12_one zk12_321 ⟨rfl, rfl⟩ ⟨by decide, by decide⟩ rfl rfl (Nat.le_of_ble_eq_true rfl) dX12_plans_34 (fun H locs hw => ?_)
          refine lv_aload_n hx hb dX12_plans_37 rfl (lv_at hl 0 rfl) ?_
          refine lv_iload hx hb dX12_plans_38 (lv_at hl 4 rfl) ?_
          refine lv_iconst (v := (0 : Int32)) hx hb dX12_plans_40 (by decide) ?_
          obtain ⟨r_43, hc_42, hd⟩ := zob_some hd
          refine z_cvI F hw hl.1 (As := [.int x4, .int (0 : Int32)]) (rest := [.int r_41, .int x4, .ref (ad (zR M k0 37))]) (ztX12_axisAt l D cy sh ad h0 hc_42) zyX12_axisAt h0 zc12 zk12_338 ⟨rfl, rfl⟩ ⟨by decide, by decide⟩ rfl rfl (Nat.le_of_ble_eq_true rfl) dX12_plans_41 (fun H locs hw => ?_)
          refine lv_isub hx hb dX12_plans_44 ?_
          refine lv_goto (tgt := 49) hx hb dX12_plans_45 (by decide) ?_
          exact J49 _ hk8 _ _ _ _ t_38 _ _ _ _ (lv_sub hl [0, 1, 2, 3, 4] rfl) hw hd
  unfold zX12_plans at hd
  refine lv_aload_n hx hb dX12_plans_0 rfl (lv_at hl 0 rfl) ?_
  refine lv_iconst (v := (0 : Int32)) hx hb dX12_plans_1 (by decide) ?_
  refine z_pI F hw h0 zc12 38 (by decide) rfl zf12_335 rfl rfl rfl dX12_plans_2 (fun H locs M_44 eM_44 hw => ?_)
  have hd := zbd_eq eM_44 hd
  refine lv_iconst (v := (0 : Int32)) hx hb dX12_plans_5 (by decide) ?_
  refine lv_istore (lv' := [(4, .int (0 : Int32)), (0, .ref (ad k0)), (1, .int p1), (2, .int p2), (3, .int p3)]) hx hb dX12_plans_6 hl (by decide) rfl (fun ls hl => ?_)
  exact L8 zF _ _ _ _ _ (lv_sub hl [1, 2, 3, 4, 0] rfl) hw hd

def zjX12_canGo_25 (sh : zShp) (k0 : Nat) (p1 : Int32) (p2 : Int32) (p3 : Int32)  (s0 : Int32) (M : zMem) : Option (Int32 × zMem) :=
  zgd (zisB s0) <|
  some (s0, M)
def zjX12_canGo_24 (sh : zShp) (k0 : Nat) (p1 : Int32) (p2 : Int32) (p3 : Int32)  (M : zMem) : Option (Int32 × zMem) :=
  zjX12_canGo_25 sh k0 p1 p2 p3 (0 : Int32) M
def zX12_canGo (sh : zShp) (k0 : Nat) (p1 : Int32) (p2 : Int32) (p3 : Int32) (M : zMem) : Option (Int32 × zMem) :=
  zob (zX12_areRight sh k0 p1 p2 p3 M) fun r_3 =>
  if r_3 = 0 then (
  zjX12_canGo_24 sh k0 p1 p2 p3 M)
  else (
  zob2 (zX12_plans sh k0 p1 p2 p3 M) fun r_6 M_7 =>
  if r_6 = 0 then (
  zjX12_canGo_24 sh k0 p1 p2 p3 M_7)
  else (
  zjX12_canGo_25 sh k0 p1 p2 p3 (1 : Int32) M_7))
set_option maxHeartbeats 4000000 in
set_option maxRecDepth 100000 in
theorem ztX12_canGo (l : Launch) (D : va_G) (cy : Nat → ClassId) (sh : zShp) (ad : Nat → Nat) {k0 : Nat} {p1 : Int32} {p2 : Int32} {p3 : Int32} (h0 : zT sh k0 12) {M : zMem} {r : Int32} {M1 : zMem} (hd : zX12_canGo sh k0 p1 p2 p3 M = some (r, M1)) : zCI l yX12_canGo cX12_canGo 4 .boolean { frames := 4, cells := 0, slots := 0, locals := 101 } [.ref (ad k0), .int p1, .int p2, .int p3] D cy sh ad M r M1 := by
  refine zci_of (by decide) (Nat.le_of_ble_eq_true rfl) (fun p e s m below meth c ls F hr hlk hl hw => ?_)
  have hx := F.1.1
  have hb := F.1.2.1
  have hl : lv_has ls 4 [(0, .ref (ad k0)), (1, .int p1), (2, .int p2), (3, .int p3)] := hl
  have J25 : ∀ (s0 : Int32) (M : zMem) (H : Heap) (locs : List Loc) (ls : Array Slot), lv_has ls 4 [] → zWd D cy sh ad s M H locs → zjX12_canGo_25 sh k0 p1 p2 p3  s0 M = some (r, M1) → W p l e { frames := 4, cells := 0, slots := 0, locals := 101 } s m ([.ref (ad k0), .int p1, .int p2, .int p3] : List Value).toArray below meth c H locs 0 0 (zQI below D cy sh ad s [.ref (ad k0), .int p1, .int p2, .int p3] r M1) (F0 m 25 ls [.int s0]) := by
    intro  s0 M H locs ls hl hw hd
    unfold zjX12_canGo_25 at hd
    obtain ⟨g_1, hd⟩ := zgd_some hd
    exact z_zret F hr hlk hw g_1 (zpr1 hd) (zpr2 hd) dX12_canGo_25
  have J24 : ∀ (M : zMem) (H : Heap) (locs : List Loc) (ls : Array Slot), lv_has ls 4 [] → zWd D cy sh ad s M H locs → zjX12_canGo_24 sh k0 p1 p2 p3  M = some (r, M1) → W p l e { frames := 4, cells := 0, slots := 0, locals := 101 } s m ([.ref (ad k0), .int p1, .int p2, .int p3] : List Value).toArray below meth c H locs 0 0 (zQI below D cy sh ad s [.ref (ad k0), .int p1, .int p2, .int p3] r M1) (F0 m 24 ls []) := by
    intro  M H locs ls hl hw hd
    unfold zjX12_canGo_24 at hd
    refine lv_iconst (v := (0 : Int32)) hx hb dX12_canGo_24 (by decide) ?_
    exact J25 _ _ _ _ _ (lv_sub hl [] rfl) hw hd
  unfold zX12_canGo at hd
  refine lv_aload_n hx hb dX12_canGo_0 rfl (lv_at hl 0 rfl) ?_
  refine lv_iload_n hx hb dX12_canGo_1 rfl (lv_at hl 1 rfl) ?_
  refine lv_iload_n hx hb dX12_canGo_2 rfl (lv_at hl 2 rfl) ?_
  refine lv_iload_n hx hb dX12_canGo_3 rfl (lv_at hl 3 rfl) ?_
  obtain ⟨r_3, hc_2, hd⟩ := zob_some hd
  refine z_cvI F hw hl.1 (As := [.int p1, .int p2, .int p3]) (rest := []) (ztX12_areRight l D cy sh ad h0 hc_2) zyX12_areRight h0 zc12 zk12_366 ⟨rfl, rfl⟩ ⟨by decide, by decide⟩ rfl rfl (Nat.le_of_ble_eq_true rfl) dX12_canGo_4 (fun H locs hw => ?_)
  refine lv_if_eq (tgt := 24) hx hb dX12_canGo_7 (by decide) (fun c_4 => ?_) (fun c_4 => ?_)
  · have hd := zif_pos c_4 hd
    exact J24 _ _ _ _ (lv_sub hl [] rfl) hw hd
  · have hd := zif_neg c_4 hd
    refine lv_aload_n hx hb dX12_canGo_10 rfl (lv_at hl 0 rfl) ?_
    refine lv_iload_n hx hb dX12_canGo_11 rfl (lv_at hl 1 rfl) ?_
    refine lv_iload_n hx hb dX12_canGo_12 rfl (lv_at hl 2 rfl) ?_
    refine lv_iload_n hx hb dX12_canGo_13 rfl (lv_at hl 3 rfl) ?_
    obtain ⟨r_6, M_7, hc_5, hd⟩ := zob2_some hd
    refine z_cvI F hw hl.1 (As := [.int p1, .int p2, .int p3]) (rest := []) (ztX12_plans l D cy sh ad h0 hc_5) zyX12_plans h0 zc12 zk12_369 ⟨rfl, rfl⟩ ⟨by decide, by decide⟩ rfl rfl (Nat.le_of_ble_eq_true rfl) dX12_canGo_14 (fun H locs hw => ?_)
    refine lv_if_eq (tgt := 24) hx hb dX12_canGo_17 (by decide) (fun c_8 => ?_) (fun c_8 => ?_)
    · have hd := zif_pos c_8 hd
      exact J24 _ _ _ _ (lv_sub hl [] rfl) hw hd
    · have hd := zif_neg c_8 hd
      refine lv_iconst (v := (1 : Int32)) hx hb dX12_canGo_20 (by decide) ?_
      refine lv_goto (tgt := 25) hx hb dX12_canGo_21 (by decide) ?_
      exact J25 _ _ _ _ _ (lv_sub hl [] rfl) hw hd

def zX12_planTicks (sh : zShp) (k0 : Nat) (M : zMem) : Option (Int32) :=
  some (((2 : Int32) * (zI M k0 36)) + (zI M k0 44))
set_option maxHeartbeats 4000000 in
set_option maxRecDepth 100000 in
theorem ztX12_planTicks (l : Launch) (D : va_G) (cy : Nat → ClassId) (sh : zShp) (ad : Nat → Nat) {k0 : Nat} (h0 : zT sh k0 12) {M : zMem} {r : Int32} (hd : zX12_planTicks sh k0 M = some r) : zCI l yX12_planTicks cX12_planTicks 1 .int { frames := 0, cells := 0, slots := 0, locals := 0 } [.ref (ad k0)] D cy sh ad M r M := by
  refine zci_of (by decide) (Nat.le_of_ble_eq_true rfl) (fun p e s m below meth c ls F hr hlk hl hw => ?_)
  have hx := F.1.1
  have hb := F.1.2.1
  have hl : lv_has ls 1 [(0, .ref (ad k0))] := hl
  unfold zX12_planTicks at hd
  refine lv_iconst (v := (2 : Int32)) hx hb dX12_planTicks_0 (by decide) ?_
  refine lv_aload_n hx hb dX12_planTicks_1 rfl (lv_at hl 0 rfl) ?_
  refine z_gI F hw h0 zc12 36 (by decide) rfl zf12_286 dX12_planTicks_2 ?_
  refine lv_imul hx hb dX12_planTicks_5 ?_
  refine lv_aload_n hx hb dX12_planTicks_6 rfl (lv_at hl 0 rfl) ?_
  refine z_gI F hw h0 zc12 44 (by decide) rfl zf12_363 dX12_planTicks_7 ?_
  refine lv_iadd hx hb dX12_planTicks_10 ?_
  exact z_iret F hr hlk hw (Option.some.inj hd) rfl dX12_planTicks_11

def zX12_part (sh : zShp) (p0 : Int32) (p1 : Int32) (p2 : Int32) (M : zMem) : Option (Int32) :=
  zgd (znzL (p2.toInt64)) <|
  some ((((p0.toInt64) * (p1.toInt64)) / (p2.toInt64)).toInt32)
set_option maxHeartbeats 4000000 in
set_option maxRecDepth 100000 in
theorem ztX12_part (l : Launch) (D : va_G) (cy : Nat → ClassId) (sh : zShp) (ad : Nat → Nat) {p0 : Int32} {p1 : Int32} {p2 : Int32}  {M : zMem} {r : Int32} (hd : zX12_part sh p0 p1 p2 M = some r) : zCI l yX12_part cX12_part 3 .int { frames := 0, cells := 0, slots := 0, locals := 0 } [.int p0, .int p1, .int p2] D cy sh ad M r M := by
  refine zci_of (by decide) (Nat.le_of_ble_eq_true rfl) (fun p e s m below meth c ls F hr hlk hl hw => ?_)
  have hx := F.1.1
  have hb := F.1.2.1
  have hl : lv_has ls 3 [(0, .int p0), (1, .int p1), (2, .int p2)] := hl
  unfold zX12_part at hd
  refine lv_iload_n hx hb dX12_part_0 rfl (lv_at hl 0 rfl) ?_
  refine lv_i2l (v := p0.toInt64) hx hb dX12_part_1 rfl ?_
  refine lv_iload_n hx hb dX12_part_2 rfl (lv_at hl 1 rfl) ?_
  refine lv_i2l (v := p1.toInt64) hx hb dX12_part_3 rfl ?_
  refine lv_lmul hx hb dX12_part_4 ?_
  refine lv_iload_n hx hb dX12_part_5 rfl (lv_at hl 2 rfl) ?_
  refine lv_i2l (v := p2.toInt64) hx hb dX12_part_6 rfl ?_
  obtain ⟨g_1, hd⟩ := zgd_some hd
  refine lv_ldiv hx hb dX12_part_7 (znzL_ne g_1) ?_
  refine lv_l2i (v := (((p0.toInt64) * (p1.toInt64)) / (p2.toInt64)).toInt32) hx hb dX12_part_8 rfl ?_
  exact z_iret F hr hlk hw (Option.some.inj hd) rfl dX12_part_9

def zjX12_speedOf_78 (sh : zShp) (k0 : Nat) (p1 : Int32) (M : zMem)  (s0 : Int32) : Option (Int32) :=
  some s0
def zX12_speedOf (sh : zShp) (k0 : Nat) (p1 : Int32) (M : zMem) : Option (Int32) :=
  if (zI M k0 36) ≤ p1 then (
  if (zI M k0 44) ≤ (p1 - (zI M k0 36)) then (
  zgd (zin (((zI M k0 36) - (1 : Int32)) - ((p1 - (zI M k0 36)) - (zI M k0 44))) (zlen sh (zR M k0 35))) <|
  zjX12_speedOf_78 sh k0 p1 M (zI M (zR M k0 35) ((((zI M k0 36) - (1 : Int32)) - ((p1 - (zI M k0 36)) - (zI M k0 44))).toNatClampNeg)))
  else (
  zob (zX12_part sh (zI M k0 43) ((p1 - (zI M k0 36)) + (1 : Int32)) (zI M k0 44) M) fun r_6 =>
  zob (zX12_part sh (zI M k0 43) (p1 - (zI M k0 36)) (zI M k0 44) M) fun r_8 =>
  zjX12_speedOf_78 sh k0 p1 M (r_6 - r_8)))
  else (
  zgd (zin p1 (zlen sh (zR M k0 35))) <|
  some (zI M (zR M k0 35) p1.toNatClampNeg))
set_option maxHeartbeats 4000000 in
set_option maxRecDepth 100000 in
theorem ztX12_speedOf (l : Launch) (D : va_G) (cy : Nat → ClassId) (sh : zShp) (ad : Nat → Nat) {k0 : Nat} {p1 : Int32} (h0 : zT sh k0 12) {M : zMem} {r : Int32} (hd : zX12_speedOf sh k0 p1 M = some r) : zCI l yX12_speedOf cX12_speedOf 3 .int { frames := 1, cells := 0, slots := 0, locals := 22 } [.ref (ad k0), .int p1] D cy sh ad M r M := by
  refine zci_of (by decide) (Nat.le_of_ble_eq_true rfl) (fun p e s m below meth c ls F hr hlk hl hw => ?_)
  have hx := F.1.1
  have hb := F.1.2.1
  have hl : lv_has ls 3 [(0, .ref (ad k0)), (1, .int p1)] := hl
  have J78 : ∀ (s0 : Int32) (H : Heap) (locs : List Loc) (ls : Array Slot), lv_has ls 3 [] → zWd D cy sh ad s M H locs → zjX12_speedOf_78 sh k0 p1 M  s0 = some r → W p l e { frames := 1, cells := 0, slots := 0, locals := 22 } s m ([.ref (ad k0), .int p1] : List Value).toArray below meth c H locs 0 0 (zQI below D cy sh ad s [.ref (ad k0), .int p1] r M) (F0 m 78 ls [.int s0]) := by
    intro  s0 H locs ls hl hw hd
    unfold zjX12_speedOf_78 at hd
    exact z_iret F hr hlk hw (Option.some.inj hd) rfl dX12_speedOf_78
  unfold zX12_speedOf at hd
  refine lv_iload_n hx hb dX12_speedOf_0 rfl (lv_at hl 1 rfl) ?_
  refine lv_aload_n hx hb dX12_speedOf_1 rfl (lv_at hl 0 rfl) ?_
  refine z_gI F hw h0 zc12 36 (by decide) rfl zf12_286 dX12_speedOf_2 ?_
  refine lv_icmp_ge (tgt := 15) hx hb dX12_speedOf_5 (by decide) (fun c_1 => ?_) (fun c_1 => ?_)
  · have hd := zif_pos c_1 hd
    refine lv_iload_n hx hb dX12_speedOf_15 rfl (lv_at hl 1 rfl) ?_
    refine lv_aload_n hx hb dX12_speedOf_16 rfl (lv_at hl 0 rfl) ?_
    refine z_gI F hw h0 zc12 36 (by decide) rfl zf12_286 dX12_speedOf_17 ?_
    refine lv_isub hx hb dX12_speedOf_20 ?_
    refine lv_istore_n (lv' := [(2, .int (p1 - (zI M k0 36))), (0, .ref (ad k0)), (1, .int p1)]) hx hb dX12_speedOf_21 rfl hl (by decide) rfl (fun ls hl => ?_)
    refine lv_iload_n hx hb dX12_speedOf_22 rfl (lv_at hl 0 rfl) ?_
    refine lv_aload_n hx hb dX12_speedOf_23 rfl (lv_at hl 1 rfl) ?_
    refine z_gI F hw h0 zc12 44 (by decide) rfl zf12_363 dX12_speedOf_24 ?_
    refine lv_icmp_ge (tgt := 60) hx hb dX12_speedOf_27 (by decide) (fun c_2 => ?_) (fun c_2 => ?_)
    · have hd := zif_pos c_2 hd
      refine lv_aload_n hx hb dX12_speedOf_60 rfl (lv_at hl 1 rfl) ?_
      refine z_gR F hw h0 zc12 35 (by decide) rfl zf12_58 dX12_speedOf_61 ?_
      have t_3 : zT sh (zR M k0 35) 14 := hw.2.2.2.fld h0 35 14
      refine lv_aload_n hx hb dX12_speedOf_64 rfl (lv_at hl 1 rfl) ?_
      refine z_gI F hw h0 zc12 36 (by decide) rfl zf12_286 dX12_speedOf_65 ?_
      refine lv_iconst (v := (1 : Int32)) hx hb dX12_speedOf_68 (by decide) ?_
      refine lv_isub hx hb dX12_speedOf_69 ?_
      refine lv_iload_n hx hb dX12_speedOf_70 rfl (lv_at hl 0 rfl) ?_
      refine lv_aload_n hx hb dX12_speedOf_71 rfl (lv_at hl 1 rfl) ?_
      refine z_gI F hw h0 zc12 44 (by decide) rfl zf12_363 dX12_speedOf_72 ?_
      refine lv_isub hx hb dX12_speedOf_75 ?_
      refine lv_isub hx hb dX12_speedOf_76 ?_
      obtain ⟨g_4, hd⟩ := zgd_some hd
      refine z_iald F hw t_3 g_4 dX12_speedOf_77 ?_
      exact J78 _ _ _ _ (lv_sub hl [] rfl) hw hd
    · have hd := zif_neg c_2 hd
      refine lv_aload_n hx hb dX12_speedOf_30 rfl (lv_at hl 1 rfl) ?_
      refine z_gI F hw h0 zc12 43 (by decide) rfl zf12_357 dX12_speedOf_31 ?_
      refine lv_iload_n hx hb dX12_speedOf_34 rfl (lv_at hl 0 rfl) ?_
      refine lv_iconst (v := (1 : Int32)) hx hb dX12_speedOf_35 (by decide) ?_
      refine lv_iadd hx hb dX12_speedOf_36 ?_
      refine lv_aload_n hx hb dX12_speedOf_37 rfl (lv_at hl 1 rfl) ?_
      refine z_gI F hw h0 zc12 44 (by decide) rfl zf12_363 dX12_speedOf_38 ?_
      obtain ⟨r_6, hc_5, hd⟩ := zob_some hd
      refine z_csI F hw hl.1 (As := [.int (zI M k0 43), .int ((p1 - (zI M k0 36)) + (1 : Int32)), .int (zI M k0 44)]) (rest := []) (ztX12_part l D cy sh ad  hc_5) zyX12_part zk12_372 ⟨rfl, rfl⟩ ⟨by decide, by decide⟩ rfl rfl (Nat.le_of_ble_eq_true rfl) dX12_speedOf_41 (fun H locs hw => ?_)
      refine lv_aload_n hx hb dX12_speedOf_44 rfl (lv_at hl 1 rfl) ?_
      refine z_gI F hw h0 zc12 43 (by decide) rfl zf12_357 dX12_speedOf_45 ?_
      refine lv_iload_n hx hb dX12_speedOf_48 rfl (lv_at hl 0 rfl) ?_
      refine lv_aload_n hx hb dX12_speedOf_49 rfl (lv_at hl 1 rfl) ?_
      refine z_gI F hw h0 zc12 44 (by decide) rfl zf12_363 dX12_speedOf_50 ?_
      obtain ⟨r_8, hc_7, hd⟩ := zob_some hd
      refine z_csI F hw hl.1 (As := [.int (zI M k0 43), .int (p1 - (zI M k0 36)), .int (zI M k0 44)]) (rest := [.int r_6]) (ztX12_part l D cy sh ad  hc_7) zyX12_part zk12_372 ⟨rfl, rfl⟩ ⟨by decide, by decide⟩ rfl rfl (Nat.le_of_ble_eq_true rfl) dX12_speedOf_53 (fun H locs hw => ?_)
      refine lv_isub hx hb dX12_speedOf_56 ?_
      refine lv_goto (tgt := 78) hx hb dX12_speedOf_57 (by decide) ?_
      exact J78 _ _ _ _ (lv_sub hl [] rfl) hw hd
  · have hd := zif_neg c_1 hd
    refine lv_aload_n hx hb dX12_speedOf_8 rfl (lv_at hl 0 rfl) ?_
    refine z_gR F hw h0 zc12 35 (by decide) rfl zf12_58 dX12_speedOf_9 ?_
    have t_9 : zT sh (zR M k0 35) 14 := hw.2.2.2.fld h0 35 14
    refine lv_iload_n hx hb dX12_speedOf_12 rfl (lv_at hl 1 rfl) ?_
    obtain ⟨g_10, hd⟩ := zgd_some hd
    refine z_iald F hw t_9 g_10 dX12_speedOf_13 ?_
    exact z_iret F hr hlk hw (Option.some.inj hd) rfl dX12_speedOf_14

def zjX12_goneBy_34 (sh : zShp) (p0 : Int32) (p1 : Int32) (p2 : Int32) (M : zMem)  (s0 : Int32) : Option (Int32) :=
  some s0
def zX12_goneBy (sh : zShp) (p0 : Int32) (p1 : Int32) (p2 : Int32) (M : zMem) : Option (Int32) :=
  zob (zX12_size sh p1 M) fun r_2 =>
  zgd (znzL ((2 : Int64) * (p2.toInt64))) <|
  zbd (((((((2 : Int64) * (p0.toInt64)) * (r_2.toInt64)) + (p2.toInt64)) / ((2 : Int64) * (p2.toInt64))).toInt32)) fun v_4 =>
  if 0 ≤ p1 then (
  zjX12_goneBy_34 sh p0 p1 p2 M v_4)
  else (
  zjX12_goneBy_34 sh p0 p1 p2 M (-v_4))
set_option maxHeartbeats 4000000 in
set_option maxRecDepth 100000 in
theorem ztX12_goneBy (l : Launch) (D : va_G) (cy : Nat → ClassId) (sh : zShp) (ad : Nat → Nat) {p0 : Int32} {p1 : Int32} {p2 : Int32}  {M : zMem} {r : Int32} (hd : zX12_goneBy sh p0 p1 p2 M = some r) : zCI l yX12_goneBy cX12_goneBy 4 .int { frames := 1, cells := 0, slots := 0, locals := 20 } [.int p0, .int p1, .int p2] D cy sh ad M r M := by
  refine zci_of (by decide) (Nat.le_of_ble_eq_true rfl) (fun p e s m below meth c ls F hr hlk hl hw => ?_)
  have hx := F.1.1
  have hb := F.1.2.1
  have hl : lv_has ls 4 [(0, .int p0), (1, .int p1), (2, .int p2)] := hl
  have J34 : ∀ (s0 : Int32) (H : Heap) (locs : List Loc) (ls : Array Slot), lv_has ls 4 [] → zWd D cy sh ad s M H locs → zjX12_goneBy_34 sh p0 p1 p2 M  s0 = some r → W p l e { frames := 1, cells := 0, slots := 0, locals := 20 } s m ([.int p0, .int p1, .int p2] : List Value).toArray below meth c H locs 0 0 (zQI below D cy sh ad s [.int p0, .int p1, .int p2] r M) (F0 m 34 ls [.int s0]) := by
    intro  s0 H locs ls hl hw hd
    unfold zjX12_goneBy_34 at hd
    exact z_iret F hr hlk hw (Option.some.inj hd) rfl dX12_goneBy_34
  unfold zX12_goneBy at hd
  refine lv_ldc2 (v := (2 : Int64)) hx hb F.1.2.2.2.1 (F.1.2.2.2.2 _ zi12_268) dX12_goneBy_0 ?_
  refine lv_iload_n hx hb dX12_goneBy_3 rfl (lv_at hl 0 rfl) ?_
  refine lv_i2l (v := p0.toInt64) hx hb dX12_goneBy_4 rfl ?_
  refine lv_lmul hx hb dX12_goneBy_5 ?_
  refine lv_iload_n hx hb dX12_goneBy_6 rfl (lv_at hl 1 rfl) ?_
  obtain ⟨r_2, hc_1, hd⟩ := zob_some hd
  refine z_csI F hw hl.1 (As := [.int p1]) (rest := [.long ((2 : Int64) * (p0.toInt64))]) (ztX12_size l D cy sh ad  hc_1) zyX12_size zk12_273 ⟨rfl, rfl⟩ ⟨by decide, by decide⟩ rfl rfl (Nat.le_of_ble_eq_true rfl) dX12_goneBy_7 (fun H locs hw => ?_)
  refine lv_i2l (v := r_2.toInt64) hx hb dX12_goneBy_10 rfl ?_
  refine lv_lmul hx hb dX12_goneBy_11 ?_
  refine lv_iload_n hx hb dX12_goneBy_12 rfl (lv_at hl 2 rfl) ?_
  refine lv_i2l (v := p2.toInt64) hx hb dX12_goneBy_13 rfl ?_
  refine lv_ladd hx hb dX12_goneBy_14 ?_
  refine lv_ldc2 (v := (2 : Int64)) hx hb F.1.2.2.2.1 (F.1.2.2.2.2 _ zi12_268) dX12_goneBy_15 ?_
  refine lv_iload_n hx hb dX12_goneBy_18 rfl (lv_at hl 2 rfl) ?_
  refine lv_i2l (v := p2.toInt64) hx hb dX12_goneBy_19 rfl ?_
  refine lv_lmul hx hb dX12_goneBy_20 ?_
  obtain ⟨g_3, hd⟩ := zgd_some hd
  refine lv_ldiv hx hb dX12_goneBy_21 (znzL_ne g_3) ?_
  refine lv_l2i (v := (((((2 : Int64) * (p0.toInt64)) * (r_2.toInt64)) + (p2.toInt64)) / ((2 : Int64) * (p2.toInt64))).toInt32) hx hb dX12_goneBy_22 rfl ?_
  refine lv_topi (fun v_4 ev_4 => ?_)
  have hd := zbd_eq ev_4 hd
  refine lv_istore_n (lv' := [(3, .int v_4), (0, .int p0), (1, .int p1), (2, .int p2)]) hx hb dX12_goneBy_23 rfl hl (by decide) rfl (fun ls hl => ?_)
  refine lv_iload_n hx hb dX12_goneBy_24 rfl (lv_at hl 2 rfl) ?_
  refine lv_if_ge (tgt := 33) hx hb dX12_goneBy_25 (by decide) (fun c_5 => ?_) (fun c_5 => ?_)
  · have hd := zif_pos c_5 hd
    refine lv_iload_n hx hb dX12_goneBy_33 rfl (lv_at hl 0 rfl) ?_
    exact J34 _ _ _ _ (lv_sub hl [] rfl) hw hd
  · have hd := zif_neg c_5 hd
    refine lv_iload_n hx hb dX12_goneBy_28 rfl (lv_at hl 0 rfl) ?_
    refine lv_ineg hx hb dX12_goneBy_29 ?_
    refine lv_goto (tgt := 34) hx hb dX12_goneBy_30 (by decide) ?_
    exact J34 _ _ _ _ (lv_sub hl [] rfl) hw hd

def zjX12_bandTicks_42 (sh : zShp) (k0 : Nat) (M : zMem) (kk4 : Int32 → Int32 → Option (Int32)) (x2 : Int32) (s0 : Int32) (s1 : Int32) : Option (Int32) :=
  zob (zX12_truth sh s1 M) fun r_2 =>
  kk4 (s0 + r_2) (x2 + (1 : Int32))
def zjX12_bandTicks_41 (sh : zShp) (k0 : Nat) (M : zMem) (kk4 : Int32 → Int32 → Option (Int32)) (x2 : Int32) (s0 : Int32) : Option (Int32) :=
  zjX12_bandTicks_42 sh k0 M kk4 x2 s0 (0 : Int32)
def zbX12_bandTicks_4 (sh : zShp) (k0 : Nat) (M : zMem)  (kk4 : Int32 → Int32 → Option (Int32)) (x1 : Int32) (x2 : Int32) : Option (Int32) :=
  zob (zX12_planTicks sh k0 M) fun r_4 =>
  if r_4 ≤ x2 then (
  some x1)
  else (
  zob (zX12_speedOf sh k0 x2 M) fun r_7 =>
  if r_7 ≤ 0 then (
  zjX12_bandTicks_41 sh k0 M kk4 x2 x1)
  else (
  zob (zX12_speedOf sh k0 x2 M) fun r_10 =>
  zob (zX12_bandsAt sh k0 (zI M k0 38) r_10 M) fun r_12 =>
  if r_12 ≤ 0 then (
  zjX12_bandTicks_41 sh k0 M kk4 x2 x1)
  else (
  zjX12_bandTicks_42 sh k0 M kk4 x2 x1 (1 : Int32))))
def zlX12_bandTicks_4 (sh : zShp) (k0 : Nat) (M : zMem)  : Nat → Int32 → Int32 → Option (Int32)
  | 0 => fun _ _ => none
  | n + 1 => fun x1 x2 => zbX12_bandTicks_4 sh k0 M  (zlX12_bandTicks_4 sh k0 M  n) x1 x2
def zX12_bandTicks (sh : zShp) (k0 : Nat) (M : zMem) : Option (Int32) :=
  zlX12_bandTicks_4 sh k0 M zF (0 : Int32) (0 : Int32)
set_option maxHeartbeats 4000000 in
set_option maxRecDepth 100000 in
theorem ztX12_bandTicks (l : Launch) (D : va_G) (cy : Nat → ClassId) (sh : zShp) (ad : Nat → Nat) {k0 : Nat} (h0 : zT sh k0 12) {M : zMem} {r : Int32} (hd : zX12_bandTicks sh k0 M = some r) : zCI l yX12_bandTicks cX12_bandTicks 3 .int { frames := 2, cells := 0, slots := 0, locals := 49 } [.ref (ad k0)] D cy sh ad M r M := by
  refine zci_of (by decide) (Nat.le_of_ble_eq_true rfl) (fun p e s m below meth c ls F hr hlk hl hw => ?_)
  have hx := F.1.1
  have hb := F.1.2.1
  have hl : lv_has ls 3 [(0, .ref (ad k0))] := hl
  have J42 : ∀ (kk4 : Int32 → Int32 → Option (Int32)) (hk4 : ∀ (x1 : Int32) (x2 : Int32) (H : Heap) (locs : List Loc) (ls : Array Slot), lv_has ls 3 [(0, .ref (ad k0)), (1, .int x1), (2, .int x2)] → zWd D cy sh ad s M H locs → kk4 x1 x2 = some r → W p l e { frames := 2, cells := 0, slots := 0, locals := 49 } s m ([.ref (ad k0)] : List Value).toArray below meth c H locs 0 0 (zQI below D cy sh ad s [.ref (ad k0)] r M) (F0 m 4 ls [])), ∀ (x2 : Int32) (s0 : Int32) (s1 : Int32) (H : Heap) (locs : List Loc) (ls : Array Slot), lv_has ls 3 [(0, .ref (ad k0)), (2, .int x2)] → zWd D cy sh ad s M H locs → zjX12_bandTicks_42 sh k0 M kk4 x2 s0 s1 = some r → W p l e { frames := 2, cells := 0, slots := 0, locals := 49 } s m ([.ref (ad k0)] : List Value).toArray below meth c H locs 0 0 (zQI below D cy sh ad s [.ref (ad k0)] r M) (F0 m 42 ls [.int s1, .int s0]) := by
    intro kk4 hk4 x2 s0 s1 H locs ls hl hw hd
    unfold zjX12_bandTicks_42 at hd
    obtain ⟨r_2, hc_1, hd⟩ := zob_some hd
    refine z_csI F hw hl.1 (As := [.int s1]) (rest := [.int s0]) (ztX12_truth l D cy sh ad  hc_1) zyX12_truth zk12_279 ⟨rfl, rfl⟩ ⟨by decide, by decide⟩ rfl rfl (Nat.le_of_ble_eq_true rfl) dX12_bandTicks_42 (fun H locs hw => ?_)
    refine lv_iadd hx hb dX12_bandTicks_45 ?_
    refine lv_istore_n (lv' := [(1, .int (s0 + r_2)), (0, .ref (ad k0)), (2, .int x2)]) hx hb dX12_bandTicks_46 rfl hl (by decide) rfl (fun ls hl => ?_)
    refine lv_iinc (v := (x2 + (1 : Int32))) (lv' := [(2, .int (x2 + (1 : Int32))), (1, .int (s0 + r_2)), (0, .ref (ad k0))]) hx hb dX12_bandTicks_47 hl (k := 2) rfl (ziinc (by decide)) (by decide) rfl (fun ls hl => ?_)
    refine lv_goto (tgt := 4) hx hb dX12_bandTicks_50 (by decide) ?_
    exact hk4 _ _ _ _ _ (lv_sub hl [2, 1, 0] rfl) hw hd
  have J41 : ∀ (kk4 : Int32 → Int32 → Option (Int32)) (hk4 : ∀ (x1 : Int32) (x2 : Int32) (H : Heap) (locs : List Loc) (ls : Array Slot), lv_has ls 3 [(0, .ref (ad k0)), (1, .int x1), (2, .int x2)] → zWd D cy sh ad s M H locs → kk4 x1 x2 = some r → W p l e { frames := 2, cells := 0, slots := 0, locals := 49 } s m ([.ref (ad k0)] : List Value).toArray below meth c H locs 0 0 (zQI below D cy sh ad s [.ref (ad k0)] r M) (F0 m 4 ls [])), ∀ (x2 : Int32) (s0 : Int32) (H : Heap) (locs : List Loc) (ls : Array Slot), lv_has ls 3 [(0, .ref (ad k0)), (2, .int x2)] → zWd D cy sh ad s M H locs → zjX12_bandTicks_41 sh k0 M kk4 x2 s0 = some r → W p l e { frames := 2, cells := 0, slots := 0, locals := 49 } s m ([.ref (ad k0)] : List Value).toArray below meth c H locs 0 0 (zQI below D cy sh ad s [.ref (ad k0)] r M) (F0 m 41 ls [.int s0]) := by
    intro kk4 hk4 x2 s0 H locs ls hl hw hd
    unfold zjX12_bandTicks_41 at hd
    refine lv_iconst (v := (0 : Int32)) hx hb dX12_bandTicks_41 (by decide) ?_
    exact J42 _ hk4 _ _ _ _ _ _ (lv_sub hl [0, 1] rfl) hw hd
  have L4 : ∀  (n : Nat), ∀ (x1 : Int32) (x2 : Int32) (H : Heap) (locs : List Loc) (ls : Array Slot), lv_has ls 3 [(0, .ref (ad k0)), (1, .int x1), (2, .int x2)] → zWd D cy sh ad s M H locs → zlX12_bandTicks_4 sh k0 M  n x1 x2 = some r → W p l e { frames := 2, cells := 0, slots := 0, locals := 49 } s m ([.ref (ad k0)] : List Value).toArray below meth c H locs 0 0 (zQI below D cy sh ad s [.ref (ad k0)] r M) (F0 m 4 ls []) := by
    intro  n
    induction n with
    | zero => intro x1 x2 H locs ls hl hw hd; exact (znone hd).elim
    | succ n hk4 =>
      intro x1 x2 H locs ls hl hw hd
      have hd : zbX12_bandTicks_4 sh k0 M  (zlX12_bandTicks_4 sh k0 M  n) x1 x2 = some r := hd
      unfold zbX12_bandTicks_4 at hd
      refine lv_iload_n hx hb dX12_bandTicks_4 rfl (lv_at hl 2 rfl) ?_
      refine lv_aload_n hx hb dX12_bandTicks_5 rfl (lv_at hl 0 rfl) ?_
      obtain ⟨r_4, hc_3, hd⟩ := zob_some hd
      refine z_cvI F hw hl.1 (As := []) (rest := [.int x2]) (ztX12_planTicks l D cy sh ad h0 hc_3) zyX12_planTicks h0 zc12 zk12_378 ⟨rfl, rfl⟩ ⟨by decide, by decide⟩ rfl rfl (Nat.le_of_ble_eq_true rfl) dX12_bandTicks_6 (fun H locs hw => ?_)
      refine lv_icmp_ge (tgt := 53) hx hb dX12_bandTicks_9 (by decide) (fun c_5 => ?_) (fun c_5 => ?_)
      · have hd := zif_pos c_5 hd
        refine lv_iload_n hx hb dX12_bandTicks_53 rfl (lv_at hl 1 rfl) ?_
        exact z_iret F hr hlk hw (Option.some.inj hd) rfl dX12_bandTicks_54
      · have hd := zif_neg c_5 hd
        refine lv_iload_n hx hb dX12_bandTicks_12 rfl (lv_at hl 1 rfl) ?_
        refine lv_aload_n hx hb dX12_bandTicks_13 rfl (lv_at hl 0 rfl) ?_
        refine lv_iload_n hx hb dX12_bandTicks_14 rfl (lv_at hl 2 rfl) ?_
        obtain ⟨r_7, hc_6, hd⟩ := zob_some hd
        refine z_cvI F hw hl.1 (As := [.int x2]) (rest := [.int x1]) (ztX12_speedOf l D cy sh ad h0 hc_6) zyX12_speedOf h0 zc12 zk12_384 ⟨rfl, rfl⟩ ⟨by decide, by decide⟩ rfl rfl (Nat.le_of_ble_eq_true rfl) dX12_bandTicks_15 (fun H locs hw => ?_)
        refine lv_if_le (tgt := 41) hx hb dX12_bandTicks_18 (by decide) (fun c_8 => ?_) (fun c_8 => ?_)
        · have hd := zif_pos c_8 hd
          exact J41 _ hk4 _ _ _ _ _ (lv_sub hl [0, 2] rfl) hw hd
        · have hd := zif_neg c_8 hd
          refine lv_aload_n hx hb dX12_bandTicks_21 rfl (lv_at hl 0 rfl) ?_
          refine lv_aload_n hx hb dX12_bandTicks_22 rfl (lv_at hl 0 rfl) ?_
          refine z_gI F hw h0 zc12 38 (by decide) rfl zf12_335 dX12_bandTicks_23 ?_
          refine lv_aload_n hx hb dX12_bandTicks_26 rfl (lv_at hl 0 rfl) ?_
          refine lv_iload_n hx hb dX12_bandTicks_27 rfl (lv_at hl 2 rfl) ?_
          obtain ⟨r_10, hc_9, hd⟩ := zob_some hd
          refine z_cvI F hw hl.1 (As := [.int x2]) (rest := [.int (zI M k0 38), .ref (ad k0), .int x1]) (ztX12_speedOf l D cy sh ad h0 hc_9) zyX12_speedOf h0 zc12 zk12_384 ⟨rfl, rfl⟩ ⟨by decide, by decide⟩ rfl rfl (Nat.le_of_ble_eq_true rfl) dX12_bandTicks_28 (fun H locs hw => ?_)
          obtain ⟨r_12, hc_11, hd⟩ := zob_some hd
          refine z_cvI F hw hl.1 (As := [.int (zI M k0 38), .int r_10]) (rest := [.int x1]) (ztX12_bandsAt l D cy sh ad h0 hc_11) zyX12_bandsAt h0 zc12 zk12_315 ⟨rfl, rfl⟩ ⟨by decide, by decide⟩ rfl rfl (Nat.le_of_ble_eq_true rfl) dX12_bandTicks_31 (fun H locs hw => ?_)
          refine lv_if_le (tgt := 41) hx hb dX12_bandTicks_34 (by decide) (fun c_13 => ?_) (fun c_13 => ?_)
          · have hd := zif_pos c_13 hd
            exact J41 _ hk4 _ _ _ _ _ (lv_sub hl [0, 2] rfl) hw hd
          · have hd := zif_neg c_13 hd
            refine lv_iconst (v := (1 : Int32)) hx hb dX12_bandTicks_37 (by decide) ?_
            refine lv_goto (tgt := 42) hx hb dX12_bandTicks_38 (by decide) ?_
            exact J42 _ hk4 _ _ _ _ _ _ (lv_sub hl [0, 2] rfl) hw hd
  unfold zX12_bandTicks at hd
  refine lv_iconst (v := (0 : Int32)) hx hb dX12_bandTicks_0 (by decide) ?_
  refine lv_istore_n (lv' := [(1, .int (0 : Int32)), (0, .ref (ad k0))]) hx hb dX12_bandTicks_1 rfl hl (by decide) rfl (fun ls hl => ?_)
  refine lv_iconst (v := (0 : Int32)) hx hb dX12_bandTicks_2 (by decide) ?_
  refine lv_istore_n (lv' := [(2, .int (0 : Int32)), (1, .int (0 : Int32)), (0, .ref (ad k0))]) hx hb dX12_bandTicks_3 rfl hl (by decide) rfl (fun ls hl => ?_)
  exact L4 zF _ _ _ _ _ (lv_sub hl [2, 1, 0] rfl) hw hd

def zX12_path (sh : zShp) (k0 : Nat) (p1 : Int32) (p2 : Int32) (p3 : Int32) (p4 : Int32) (M : zMem) : Option (Int32 × zMem) :=
  zob2 (zX12_canGo sh k0 p1 p2 p3 M) fun r_2 M_3 =>
  if r_2 = 0 then (
  some ((-1 : Int32), M_3))
  else (
  if p4 = (0 : Int32) then (
  zob (zX12_planTicks sh k0 M_3) fun r_7 =>
  some (r_7, M_3))
  else if p4 = (1 : Int32) then (
  some ((zI M_3 k0 38), M_3))
  else if p4 = (2 : Int32) then (
  some ((zI M_3 k0 39), M_3))
  else if p4 = (3 : Int32) then (
  some ((zI M_3 k0 40), M_3))
  else if p4 = (4 : Int32) then (
  zob (zX12_reached sh k0 M_3) fun r_13 =>
  some (r_13, M_3))
  else if p4 = (5 : Int32) then (
  some ((zI M_3 k0 36), M_3))
  else if p4 = (6 : Int32) then (
  zob (zX12_bandTicks sh k0 M_3) fun r_17 =>
  some (r_17, M_3))
  else (
  some ((-1 : Int32), M_3)))
set_option maxHeartbeats 4000000 in
set_option maxRecDepth 100000 in
theorem ztX12_path (l : Launch) (D : va_G) (cy : Nat → ClassId) (sh : zShp) (ad : Nat → Nat) {k0 : Nat} {p1 : Int32} {p2 : Int32} {p3 : Int32} {p4 : Int32} (h0 : zT sh k0 12) {M : zMem} {r : Int32} {M1 : zMem} (hd : zX12_path sh k0 p1 p2 p3 p4 M = some (r, M1)) : zCI l yX12_path cX12_path 5 .int { frames := 5, cells := 0, slots := 0, locals := 124 } [.ref (ad k0), .int p1, .int p2, .int p3, .int p4] D cy sh ad M r M1 := by
  refine zci_of (by decide) (Nat.le_of_ble_eq_true rfl) (fun p e s m below meth c ls F hr hlk hl hw => ?_)
  have hx := F.1.1
  have hb := F.1.2.1
  have hl : lv_has ls 5 [(0, .ref (ad k0)), (1, .int p1), (2, .int p2), (3, .int p3), (4, .int p4)] := hl
  unfold zX12_path at hd
  refine lv_aload_n hx hb dX12_path_0 rfl (lv_at hl 0 rfl) ?_
  refine lv_iload_n hx hb dX12_path_1 rfl (lv_at hl 1 rfl) ?_
  refine lv_iload_n hx hb dX12_path_2 rfl (lv_at hl 2 rfl) ?_
  refine lv_iload_n hx hb dX12_path_3 rfl (lv_at hl 3 rfl) ?_
  obtain ⟨r_2, M_3, hc_1, hd⟩ := zob2_some hd
  refine z_cvI F hw hl.1 (As := [.int p1, .int p2, .int p3]) (rest := []) (ztX12_canGo l D cy sh ad h0 hc_1) zyX12_canGo h0 zc12 zk12_375 ⟨rfl, rfl⟩ ⟨by decide, by decide⟩ rfl rfl (Nat.le_of_ble_eq_true rfl) dX12_path_4 (fun H locs hw => ?_)
  refine lv_if_ne (tgt := 12) hx hb dX12_path_7 (by decide) (fun c_4 => ?_) (fun c_4 => ?_)
  · have hd := zif_neg c_4 hd
    refine lv_iload hx hb dX12_path_12 (lv_at hl 4 rfl) ?_
    by_cases c_5 : p4 = (0 : Int32)
    · have hd := zif_pos c_5 hd
      refine lv_tableIn (tgt := 56) (off := 42) hx hb dX12_path_14 (by rw [c_5]; decide) (by rw [c_5]; decide) (by rw [c_5]; decide) (by decide) ?_
      refine lv_aload_n hx hb dX12_path_56 rfl (lv_at hl 0 rfl) ?_
      obtain ⟨r_7, hc_6, hd⟩ := zob_some hd
      refine z_cvI F hw hl.1 (As := []) (rest := []) (ztX12_planTicks l D cy sh ad h0 hc_6) zyX12_planTicks h0 zc12 zk12_378 ⟨rfl, rfl⟩ ⟨by decide, by decide⟩ rfl rfl (Nat.le_of_ble_eq_true rfl) dX12_path_57 (fun H locs hw => ?_)
      exact z_iret F hr hlk hw (zpr1 hd) (zpr2 hd) dX12_path_60
    have hd := zif_neg c_5 hd
    by_cases c_8 : p4 = (1 : Int32)
    · have hd := zif_pos c_8 hd
      refine lv_tableIn (tgt := 61) (off := 47) hx hb dX12_path_14 (by rw [c_8]; decide) (by rw [c_8]; decide) (by rw [c_8]; decide) (by decide) ?_
      refine lv_aload_n hx hb dX12_path_61 rfl (lv_at hl 0 rfl) ?_
      refine z_gI F hw h0 zc12 38 (by decide) rfl zf12_335 dX12_path_62 ?_
      exact z_iret F hr hlk hw (zpr1 hd) (zpr2 hd) dX12_path_65
    have hd := zif_neg c_8 hd
    by_cases c_9 : p4 = (2 : Int32)
    · have hd := zif_pos c_9 hd
      refine lv_tableIn (tgt := 66) (off := 52) hx hb dX12_path_14 (by rw [c_9]; decide) (by rw [c_9]; decide) (by rw [c_9]; decide) (by decide) ?_
      refine lv_aload_n hx hb dX12_path_66 rfl (lv_at hl 0 rfl) ?_
      refine z_gI F hw h0 zc12 39 (by decide) rfl zf12_329 dX12_path_67 ?_
      exact z_iret F hr hlk hw (zpr1 hd) (zpr2 hd) dX12_path_70
    have hd := zif_neg c_9 hd
    by_cases c_10 : p4 = (3 : Int32)
    · have hd := zif_pos c_10 hd
      refine lv_tableIn (tgt := 71) (off := 57) hx hb dX12_path_14 (by rw [c_10]; decide) (by rw [c_10]; decide) (by rw [c_10]; decide) (by decide) ?_
      refine lv_aload_n hx hb dX12_path_71 rfl (lv_at hl 0 rfl) ?_
      refine z_gI F hw h0 zc12 40 (by decide) rfl zf12_344 dX12_path_72 ?_
      exact z_iret F hr hlk hw (zpr1 hd) (zpr2 hd) dX12_path_75
    have hd := zif_neg c_10 hd
    by_cases c_11 : p4 = (4 : Int32)
    · have hd := zif_pos c_11 hd
      refine lv_tableIn (tgt := 76) (off := 62) hx hb dX12_path_14 (by rw [c_11]; decide) (by rw [c_11]; decide) (by rw [c_11]; decide) (by decide) ?_
      refine lv_aload_n hx hb dX12_path_76 rfl (lv_at hl 0 rfl) ?_
      obtain ⟨r_13, hc_12, hd⟩ := zob_some hd
      refine z_cvI F hw hl.1 (As := []) (rest := []) (ztX12_reached l D cy sh ad h0 hc_12) zyX12_reached h0 zc12 zk12_306 ⟨rfl, rfl⟩ ⟨by decide, by decide⟩ rfl rfl (Nat.le_of_ble_eq_true rfl) dX12_path_77 (fun H locs hw => ?_)
      exact z_iret F hr hlk hw (zpr1 hd) (zpr2 hd) dX12_path_80
    have hd := zif_neg c_11 hd
    by_cases c_14 : p4 = (5 : Int32)
    · have hd := zif_pos c_14 hd
      refine lv_tableIn (tgt := 81) (off := 67) hx hb dX12_path_14 (by rw [c_14]; decide) (by rw [c_14]; decide) (by rw [c_14]; decide) (by decide) ?_
      refine lv_aload_n hx hb dX12_path_81 rfl (lv_at hl 0 rfl) ?_
      refine z_gI F hw h0 zc12 36 (by decide) rfl zf12_286 dX12_path_82 ?_
      exact z_iret F hr hlk hw (zpr1 hd) (zpr2 hd) dX12_path_85
    have hd := zif_neg c_14 hd
    by_cases c_15 : p4 = (6 : Int32)
    · have hd := zif_pos c_15 hd
      refine lv_tableIn (tgt := 86) (off := 72) hx hb dX12_path_14 (by rw [c_15]; decide) (by rw [c_15]; decide) (by rw [c_15]; decide) (by decide) ?_
      refine lv_aload_n hx hb dX12_path_86 rfl (lv_at hl 0 rfl) ?_
      obtain ⟨r_17, hc_16, hd⟩ := zob_some hd
      refine z_cvI F hw hl.1 (As := []) (rest := []) (ztX12_bandTicks l D cy sh ad h0 hc_16) zyX12_bandTicks h0 zc12 zk12_381 ⟨rfl, rfl⟩ ⟨by decide, by decide⟩ rfl rfl (Nat.le_of_ble_eq_true rfl) dX12_path_87 (fun H locs hw => ?_)
      exact z_iret F hr hlk hw (zpr1 hd) (zpr2 hd) dX12_path_90
    have hd := zif_neg c_15 hd
    have nc_5 := zne c_5 (a := 0) (by decide)
    have nc_8 := zne c_8 (a := 1) (by decide)
    have nc_9 := zne c_9 (a := 2) (by decide)
    have nc_10 := zne c_10 (a := 3) (by decide)
    have nc_11 := zne c_11 (a := 4) (by decide)
    have nc_14 := zne c_14 (a := 5) (by decide)
    have nc_15 := zne c_15 (a := 6) (by decide)
    refine lv_tableOut (tgt := 91) hx hb dX12_path_14 (by omega) (by decide) ?_
    refine lv_iconst (v := (-1 : Int32)) hx hb dX12_path_91 (by decide) ?_
    exact z_iret F hr hlk hw (zpr1 hd) (zpr2 hd) dX12_path_92
  · have hd := zif_pos c_4 hd
    refine lv_iconst (v := (-1 : Int32)) hx hb dX12_path_10 (by decide) ?_
    exact z_iret F hr hlk hw (zpr1 hd) (zpr2 hd) dX12_path_11
