theorem dX12_pathAt_0 : decode cX12_pathAt 0 = .ok (.aload_n 0, 1) := by decide +kernel
theorem dX12_pathAt_1 : decode cX12_pathAt 1 = .ok (.iload 4, 2) := by decide +kernel
theorem dX12_pathAt_3 : decode cX12_pathAt 3 = .ok (.invokevirtual 312, 3) := by decide +kernel
theorem dX12_pathAt_6 : decode cX12_pathAt 6 = .ok (.ifCond .eq 28, 3) := by decide +kernel
theorem dX12_pathAt_9 : decode cX12_pathAt 9 = .ok (.aload_n 0, 1) := by decide +kernel
theorem dX12_pathAt_10 : decode cX12_pathAt 10 = .ok (.iload_n 1, 1) := by decide +kernel
theorem dX12_pathAt_11 : decode cX12_pathAt 11 = .ok (.iload_n 2, 1) := by decide +kernel
theorem dX12_pathAt_12 : decode cX12_pathAt 12 = .ok (.iload_n 3, 1) := by decide +kernel
theorem dX12_pathAt_13 : decode cX12_pathAt 13 = .ok (.invokevirtual 375, 3) := by decide +kernel
theorem dX12_pathAt_16 : decode cX12_pathAt 16 = .ok (.ifCond .eq 18, 3) := by decide +kernel
theorem dX12_pathAt_19 : decode cX12_pathAt 19 = .ok (.iload 5, 2) := by decide +kernel
theorem dX12_pathAt_21 : decode cX12_pathAt 21 = .ok (.i2l, 1) := by decide +kernel
theorem dX12_pathAt_22 : decode cX12_pathAt 22 = .ok (.lconst 0, 1) := by decide +kernel
theorem dX12_pathAt_23 : decode cX12_pathAt 23 = .ok (.aload_n 0, 1) := by decide +kernel
theorem dX12_pathAt_24 : decode cX12_pathAt 24 = .ok (.invokevirtual 378, 3) := by decide +kernel
theorem dX12_pathAt_27 : decode cX12_pathAt 27 = .ok (.i2l, 1) := by decide +kernel
theorem dX12_pathAt_28 : decode cX12_pathAt 28 = .ok (.invokestatic 91, 3) := by decide +kernel
theorem dX12_pathAt_31 : decode cX12_pathAt 31 = .ok (.ifCond .ne 6, 3) := by decide +kernel
theorem dX12_pathAt_34 : decode cX12_pathAt 34 = .ok (.ldc 254, 2) := by decide +kernel
theorem dX12_pathAt_36 : decode cX12_pathAt 36 = .ok (.ireturn, 1) := by decide +kernel
theorem dX12_pathAt_37 : decode cX12_pathAt 37 = .ok (.iconst 0, 1) := by decide +kernel
theorem dX12_pathAt_38 : decode cX12_pathAt 38 = .ok (.istore 6, 2) := by decide +kernel
theorem dX12_pathAt_40 : decode cX12_pathAt 40 = .ok (.iconst 0, 1) := by decide +kernel
theorem dX12_pathAt_41 : decode cX12_pathAt 41 = .ok (.istore 7, 2) := by decide +kernel
theorem dX12_pathAt_43 : decode cX12_pathAt 43 = .ok (.iload 7, 2) := by decide +kernel
theorem dX12_pathAt_45 : decode cX12_pathAt 45 = .ok (.iload 5, 2) := by decide +kernel
theorem dX12_pathAt_47 : decode cX12_pathAt 47 = .ok (.if_icmp .ge 20, 3) := by decide +kernel
theorem dX12_pathAt_50 : decode cX12_pathAt 50 = .ok (.iload 6, 2) := by decide +kernel
theorem dX12_pathAt_52 : decode cX12_pathAt 52 = .ok (.aload_n 0, 1) := by decide +kernel
theorem dX12_pathAt_53 : decode cX12_pathAt 53 = .ok (.iload 7, 2) := by decide +kernel
theorem dX12_pathAt_55 : decode cX12_pathAt 55 = .ok (.invokevirtual 384, 3) := by decide +kernel
theorem dX12_pathAt_58 : decode cX12_pathAt 58 = .ok (.iadd, 1) := by decide +kernel
theorem dX12_pathAt_59 : decode cX12_pathAt 59 = .ok (.istore 6, 2) := by decide +kernel
theorem dX12_pathAt_61 : decode cX12_pathAt 61 = .ok (.iinc 7 1, 3) := by decide +kernel
theorem dX12_pathAt_64 : decode cX12_pathAt 64 = .ok (.goto (-21), 3) := by decide +kernel
theorem dX12_pathAt_67 : decode cX12_pathAt 67 = .ok (.aload_n 0, 1) := by decide +kernel
theorem dX12_pathAt_68 : decode cX12_pathAt 68 = .ok (.iload 4, 2) := by decide +kernel
theorem dX12_pathAt_70 : decode cX12_pathAt 70 = .ok (.iconst 0, 1) := by decide +kernel
theorem dX12_pathAt_71 : decode cX12_pathAt 71 = .ok (.invokevirtual 338, 3) := by decide +kernel
theorem dX12_pathAt_74 : decode cX12_pathAt 74 = .ok (.iload 6, 2) := by decide +kernel
theorem dX12_pathAt_76 : decode cX12_pathAt 76 = .ok (.aload_n 0, 1) := by decide +kernel
theorem dX12_pathAt_77 : decode cX12_pathAt 77 = .ok (.getfield 61, 3) := by decide +kernel
theorem dX12_pathAt_80 : decode cX12_pathAt 80 = .ok (.iload 4, 2) := by decide +kernel
theorem dX12_pathAt_82 : decode cX12_pathAt 82 = .ok (.iaload, 1) := by decide +kernel
theorem dX12_pathAt_83 : decode cX12_pathAt 83 = .ok (.aload_n 0, 1) := by decide +kernel
theorem dX12_pathAt_84 : decode cX12_pathAt 84 = .ok (.getfield 329, 3) := by decide +kernel
theorem dX12_pathAt_87 : decode cX12_pathAt 87 = .ok (.invokestatic 387, 3) := by decide +kernel
theorem dX12_pathAt_90 : decode cX12_pathAt 90 = .ok (.iadd, 1) := by decide +kernel
theorem dX12_pathAt_91 : decode cX12_pathAt 91 = .ok (.ireturn, 1) := by decide +kernel
theorem dX12_due_0 : decode cX12_due 0 = .ok (.iconst 0, 1) := by decide +kernel
theorem dX12_due_1 : decode cX12_due 1 = .ok (.istore_n 2, 1) := by decide +kernel
theorem dX12_due_2 : decode cX12_due 2 = .ok (.iconst 0, 1) := by decide +kernel
theorem dX12_due_3 : decode cX12_due 3 = .ok (.istore_n 3, 1) := by decide +kernel
theorem dX12_due_4 : decode cX12_due 4 = .ok (.iload_n 2, 1) := by decide +kernel
theorem dX12_due_5 : decode cX12_due 5 = .ok (.aload_n 0, 1) := by decide +kernel
theorem dX12_due_6 : decode cX12_due 6 = .ok (.iload_n 3, 1) := by decide +kernel
theorem dX12_due_7 : decode cX12_due 7 = .ok (.invokevirtual 384, 3) := by decide +kernel
theorem dX12_due_10 : decode cX12_due 10 = .ok (.iadd, 1) := by decide +kernel
theorem dX12_due_11 : decode cX12_due 11 = .ok (.iload_n 1, 1) := by decide +kernel
theorem dX12_due_12 : decode cX12_due 12 = .ok (.if_icmp .ge 17, 3) := by decide +kernel
theorem dX12_due_15 : decode cX12_due 15 = .ok (.iload_n 2, 1) := by decide +kernel
theorem dX12_due_16 : decode cX12_due 16 = .ok (.aload_n 0, 1) := by decide +kernel
theorem dX12_due_17 : decode cX12_due 17 = .ok (.iload_n 3, 1) := by decide +kernel
theorem dX12_due_18 : decode cX12_due 18 = .ok (.invokevirtual 384, 3) := by decide +kernel
theorem dX12_due_21 : decode cX12_due 21 = .ok (.iadd, 1) := by decide +kernel
theorem dX12_due_22 : decode cX12_due 22 = .ok (.istore_n 2, 1) := by decide +kernel
theorem dX12_due_23 : decode cX12_due 23 = .ok (.iinc 3 1, 3) := by decide +kernel
theorem dX12_due_26 : decode cX12_due 26 = .ok (.goto (-22), 3) := by decide +kernel
theorem dX12_due_29 : decode cX12_due 29 = .ok (.sipush 1000, 3) := by decide +kernel
theorem dX12_due_32 : decode cX12_due 32 = .ok (.iload_n 3, 1) := by decide +kernel
theorem dX12_due_33 : decode cX12_due 33 = .ok (.imul, 1) := by decide +kernel
theorem dX12_due_34 : decode cX12_due 34 = .ok (.sipush 1000, 3) := by decide +kernel
theorem dX12_due_37 : decode cX12_due 37 = .ok (.iload_n 1, 1) := by decide +kernel
theorem dX12_due_38 : decode cX12_due 38 = .ok (.iload_n 2, 1) := by decide +kernel
theorem dX12_due_39 : decode cX12_due 39 = .ok (.isub, 1) := by decide +kernel
theorem dX12_due_40 : decode cX12_due 40 = .ok (.imul, 1) := by decide +kernel
theorem dX12_due_41 : decode cX12_due 41 = .ok (.aload_n 0, 1) := by decide +kernel
theorem dX12_due_42 : decode cX12_due 42 = .ok (.iload_n 3, 1) := by decide +kernel
theorem dX12_due_43 : decode cX12_due 43 = .ok (.invokevirtual 384, 3) := by decide +kernel
theorem dX12_due_46 : decode cX12_due 46 = .ok (.idiv, 1) := by decide +kernel
theorem dX12_due_47 : decode cX12_due 47 = .ok (.iadd, 1) := by decide +kernel
theorem dX12_due_48 : decode cX12_due 48 = .ok (.ireturn, 1) := by decide +kernel
theorem dX12_stamp_0 : decode cX12_stamp 0 = .ok (.aload_n 0, 1) := by decide +kernel
theorem dX12_stamp_1 : decode cX12_stamp 1 = .ok (.iload 4, 2) := by decide +kernel
theorem dX12_stamp_3 : decode cX12_stamp 3 = .ok (.invokevirtual 312, 3) := by decide +kernel
theorem dX12_stamp_6 : decode cX12_stamp 6 = .ok (.ifCond .eq 34, 3) := by decide +kernel
theorem dX12_stamp_9 : decode cX12_stamp 9 = .ok (.aload_n 0, 1) := by decide +kernel
theorem dX12_stamp_10 : decode cX12_stamp 10 = .ok (.iload_n 1, 1) := by decide +kernel
theorem dX12_stamp_11 : decode cX12_stamp 11 = .ok (.iload_n 2, 1) := by decide +kernel
theorem dX12_stamp_12 : decode cX12_stamp 12 = .ok (.iload_n 3, 1) := by decide +kernel
theorem dX12_stamp_13 : decode cX12_stamp 13 = .ok (.invokevirtual 375, 3) := by decide +kernel
theorem dX12_stamp_16 : decode cX12_stamp 16 = .ok (.ifCond .eq 24, 3) := by decide +kernel
theorem dX12_stamp_19 : decode cX12_stamp 19 = .ok (.iload 5, 2) := by decide +kernel
theorem dX12_stamp_21 : decode cX12_stamp 21 = .ok (.i2l, 1) := by decide +kernel
theorem dX12_stamp_22 : decode cX12_stamp 22 = .ok (.lconst 1, 1) := by decide +kernel
theorem dX12_stamp_23 : decode cX12_stamp 23 = .ok (.aload_n 0, 1) := by decide +kernel
theorem dX12_stamp_24 : decode cX12_stamp 24 = .ok (.getfield 61, 3) := by decide +kernel
theorem dX12_stamp_27 : decode cX12_stamp 27 = .ok (.iload 4, 2) := by decide +kernel
theorem dX12_stamp_29 : decode cX12_stamp 29 = .ok (.iaload, 1) := by decide +kernel
theorem dX12_stamp_30 : decode cX12_stamp 30 = .ok (.invokestatic 273, 3) := by decide +kernel
theorem dX12_stamp_33 : decode cX12_stamp 33 = .ok (.i2l, 1) := by decide +kernel
theorem dX12_stamp_34 : decode cX12_stamp 34 = .ok (.invokestatic 91, 3) := by decide +kernel
theorem dX12_stamp_37 : decode cX12_stamp 37 = .ok (.ifCond .ne 5, 3) := by decide +kernel
theorem dX12_stamp_40 : decode cX12_stamp 40 = .ok (.iconst (-1), 1) := by decide +kernel
theorem dX12_stamp_41 : decode cX12_stamp 41 = .ok (.ireturn, 1) := by decide +kernel
theorem dX12_stamp_42 : decode cX12_stamp 42 = .ok (.iconst 1, 1) := by decide +kernel
theorem dX12_stamp_43 : decode cX12_stamp 43 = .ok (.istore 6, 2) := by decide +kernel
theorem dX12_stamp_45 : decode cX12_stamp 45 = .ok (.iload 6, 2) := by decide +kernel
theorem dX12_stamp_47 : decode cX12_stamp 47 = .ok (.aload_n 0, 1) := by decide +kernel
theorem dX12_stamp_48 : decode cX12_stamp 48 = .ok (.getfield 61, 3) := by decide +kernel
theorem dX12_stamp_51 : decode cX12_stamp 51 = .ok (.iload 4, 2) := by decide +kernel
theorem dX12_stamp_53 : decode cX12_stamp 53 = .ok (.iaload, 1) := by decide +kernel
theorem dX12_stamp_54 : decode cX12_stamp 54 = .ok (.aload_n 0, 1) := by decide +kernel
theorem dX12_stamp_55 : decode cX12_stamp 55 = .ok (.getfield 329, 3) := by decide +kernel
theorem dX12_stamp_58 : decode cX12_stamp 58 = .ok (.invokestatic 387, 3) := by decide +kernel
theorem dX12_stamp_61 : decode cX12_stamp 61 = .ok (.invokestatic 273, 3) := by decide +kernel
theorem dX12_stamp_64 : decode cX12_stamp 64 = .ok (.iload 5, 2) := by decide +kernel
theorem dX12_stamp_66 : decode cX12_stamp 66 = .ok (.if_icmp .ge 9, 3) := by decide +kernel
theorem dX12_stamp_69 : decode cX12_stamp 69 = .ok (.iinc 6 1, 3) := by decide +kernel
theorem dX12_stamp_72 : decode cX12_stamp 72 = .ok (.goto (-27), 3) := by decide +kernel
theorem dX12_stamp_75 : decode cX12_stamp 75 = .ok (.aload_n 0, 1) := by decide +kernel
theorem dX12_stamp_76 : decode cX12_stamp 76 = .ok (.iload 6, 2) := by decide +kernel
theorem dX12_stamp_78 : decode cX12_stamp 78 = .ok (.invokevirtual 390, 3) := by decide +kernel
theorem dX12_stamp_81 : decode cX12_stamp 81 = .ok (.ireturn, 1) := by decide +kernel
theorem dX12_peak_0 : decode cX12_peak 0 = .ok (.aload_n 0, 1) := by decide +kernel
theorem dX12_peak_1 : decode cX12_peak 1 = .ok (.iload_n 1, 1) := by decide +kernel
theorem dX12_peak_2 : decode cX12_peak 2 = .ok (.iload_n 2, 1) := by decide +kernel
theorem dX12_peak_3 : decode cX12_peak 3 = .ok (.iload_n 3, 1) := by decide +kernel
theorem dX12_peak_4 : decode cX12_peak 4 = .ok (.invokevirtual 375, 3) := by decide +kernel
theorem dX12_peak_7 : decode cX12_peak 7 = .ok (.ifCond .eq 14, 3) := by decide +kernel
theorem dX12_peak_10 : decode cX12_peak 10 = .ok (.iload 4, 2) := by decide +kernel
theorem dX12_peak_12 : decode cX12_peak 12 = .ok (.i2l, 1) := by decide +kernel
theorem dX12_peak_13 : decode cX12_peak 13 = .ok (.lconst 0, 1) := by decide +kernel
theorem dX12_peak_14 : decode cX12_peak 14 = .ok (.lconst 1, 1) := by decide +kernel
theorem dX12_peak_15 : decode cX12_peak 15 = .ok (.invokestatic 91, 3) := by decide +kernel
theorem dX12_peak_18 : decode cX12_peak 18 = .ok (.ifCond .ne 5, 3) := by decide +kernel
theorem dX12_peak_21 : decode cX12_peak 21 = .ok (.iconst (-1), 1) := by decide +kernel
theorem dX12_peak_22 : decode cX12_peak 22 = .ok (.ireturn, 1) := by decide +kernel
theorem dX12_peak_23 : decode cX12_peak 23 = .ok (.iconst 0, 1) := by decide +kernel
theorem dX12_peak_24 : decode cX12_peak 24 = .ok (.istore 5, 2) := by decide +kernel
theorem dX12_peak_26 : decode cX12_peak 26 = .ok (.iconst 0, 1) := by decide +kernel
theorem dX12_peak_27 : decode cX12_peak 27 = .ok (.istore 6, 2) := by decide +kernel
theorem dX12_peak_29 : decode cX12_peak 29 = .ok (.iconst 0, 1) := by decide +kernel
theorem dX12_peak_30 : decode cX12_peak 30 = .ok (.istore 7, 2) := by decide +kernel
theorem dX12_peak_32 : decode cX12_peak 32 = .ok (.iconst 0, 1) := by decide +kernel
theorem dX12_peak_33 : decode cX12_peak 33 = .ok (.istore 8, 2) := by decide +kernel
theorem dX12_peak_35 : decode cX12_peak 35 = .ok (.iconst 0, 1) := by decide +kernel
theorem dX12_peak_36 : decode cX12_peak 36 = .ok (.istore 9, 2) := by decide +kernel
theorem dX12_peak_38 : decode cX12_peak 38 = .ok (.iload 9, 2) := by decide +kernel
theorem dX12_peak_40 : decode cX12_peak 40 = .ok (.aload_n 0, 1) := by decide +kernel
theorem dX12_peak_41 : decode cX12_peak 41 = .ok (.invokevirtual 378, 3) := by decide +kernel
theorem dX12_peak_44 : decode cX12_peak 44 = .ok (.if_icmp .gt 72, 3) := by decide +kernel
theorem dX12_peak_47 : decode cX12_peak 47 = .ok (.iload 9, 2) := by decide +kernel
theorem dX12_peak_49 : decode cX12_peak 49 = .ok (.aload_n 0, 1) := by decide +kernel
theorem dX12_peak_50 : decode cX12_peak 50 = .ok (.invokevirtual 378, 3) := by decide +kernel
theorem dX12_peak_53 : decode cX12_peak 53 = .ok (.if_icmp .ge 12, 3) := by decide +kernel
theorem dX12_peak_56 : decode cX12_peak 56 = .ok (.aload_n 0, 1) := by decide +kernel
theorem dX12_peak_57 : decode cX12_peak 57 = .ok (.iload 9, 2) := by decide +kernel
theorem dX12_peak_59 : decode cX12_peak 59 = .ok (.invokevirtual 384, 3) := by decide +kernel
theorem dX12_peak_62 : decode cX12_peak 62 = .ok (.goto 4, 3) := by decide +kernel
theorem dX12_peak_65 : decode cX12_peak 65 = .ok (.iconst 0, 1) := by decide +kernel
theorem dX12_peak_66 : decode cX12_peak 66 = .ok (.istore 10, 2) := by decide +kernel
theorem dX12_peak_68 : decode cX12_peak 68 = .ok (.iload 10, 2) := by decide +kernel
theorem dX12_peak_70 : decode cX12_peak 70 = .ok (.iload 7, 2) := by decide +kernel
theorem dX12_peak_72 : decode cX12_peak 72 = .ok (.isub, 1) := by decide +kernel
theorem dX12_peak_73 : decode cX12_peak 73 = .ok (.istore 11, 2) := by decide +kernel
theorem dX12_peak_75 : decode cX12_peak 75 = .ok (.iload 5, 2) := by decide +kernel
theorem dX12_peak_77 : decode cX12_peak 77 = .ok (.iload 11, 2) := by decide +kernel
theorem dX12_peak_79 : decode cX12_peak 79 = .ok (.invokestatic 273, 3) := by decide +kernel
theorem dX12_peak_82 : decode cX12_peak 82 = .ok (.invokestatic 318, 3) := by decide +kernel
theorem dX12_peak_85 : decode cX12_peak 85 = .ok (.istore 5, 2) := by decide +kernel
theorem dX12_peak_87 : decode cX12_peak 87 = .ok (.iload 6, 2) := by decide +kernel
theorem dX12_peak_89 : decode cX12_peak 89 = .ok (.iload 11, 2) := by decide +kernel
theorem dX12_peak_91 : decode cX12_peak 91 = .ok (.iload 8, 2) := by decide +kernel
theorem dX12_peak_93 : decode cX12_peak 93 = .ok (.isub, 1) := by decide +kernel
theorem dX12_peak_94 : decode cX12_peak 94 = .ok (.invokestatic 273, 3) := by decide +kernel
theorem dX12_peak_97 : decode cX12_peak 97 = .ok (.invokestatic 318, 3) := by decide +kernel
theorem dX12_peak_100 : decode cX12_peak 100 = .ok (.istore 6, 2) := by decide +kernel
theorem dX12_peak_102 : decode cX12_peak 102 = .ok (.iload 10, 2) := by decide +kernel
theorem dX12_peak_104 : decode cX12_peak 104 = .ok (.istore 7, 2) := by decide +kernel
theorem dX12_peak_106 : decode cX12_peak 106 = .ok (.iload 11, 2) := by decide +kernel
theorem dX12_peak_108 : decode cX12_peak 108 = .ok (.istore 8, 2) := by decide +kernel
theorem dX12_peak_110 : decode cX12_peak 110 = .ok (.iinc 9 1, 3) := by decide +kernel
theorem dX12_peak_113 : decode cX12_peak 113 = .ok (.goto (-75), 3) := by decide +kernel
theorem dX12_peak_116 : decode cX12_peak 116 = .ok (.iload 4, 2) := by decide +kernel
theorem dX12_peak_118 : decode cX12_peak 118 = .ok (.ifCond .ne 8, 3) := by decide +kernel
theorem dX12_peak_121 : decode cX12_peak 121 = .ok (.iload 5, 2) := by decide +kernel
theorem dX12_peak_123 : decode cX12_peak 123 = .ok (.goto 5, 3) := by decide +kernel
theorem dX12_peak_126 : decode cX12_peak 126 = .ok (.iload 6, 2) := by decide +kernel
theorem dX12_peak_128 : decode cX12_peak 128 = .ok (.ireturn, 1) := by decide +kernel
theorem dX12_needed_0 : decode cX12_needed 0 = .ok (.aload_n 0, 1) := by decide +kernel
theorem dX12_needed_1 : decode cX12_needed 1 = .ok (.iload_n 1, 1) := by decide +kernel
theorem dX12_needed_2 : decode cX12_needed 2 = .ok (.invokevirtual 312, 3) := by decide +kernel
theorem dX12_needed_5 : decode cX12_needed 5 = .ok (.ifCond .eq 27, 3) := by decide +kernel
theorem dX12_needed_8 : decode cX12_needed 8 = .ok (.iload_n 2, 1) := by decide +kernel
theorem dX12_needed_9 : decode cX12_needed 9 = .ok (.i2l, 1) := by decide +kernel
theorem dX12_needed_10 : decode cX12_needed 10 = .ok (.lconst 1, 1) := by decide +kernel
theorem dX12_needed_11 : decode cX12_needed 11 = .ok (.ldc2_w 327, 3) := by decide +kernel
theorem dX12_needed_14 : decode cX12_needed 14 = .ok (.invokestatic 91, 3) := by decide +kernel
theorem dX12_needed_17 : decode cX12_needed 17 = .ok (.ifCond .eq 15, 3) := by decide +kernel
theorem dX12_needed_20 : decode cX12_needed 20 = .ok (.iload_n 3, 1) := by decide +kernel
theorem dX12_needed_21 : decode cX12_needed 21 = .ok (.i2l, 1) := by decide +kernel
theorem dX12_needed_22 : decode cX12_needed 22 = .ok (.lconst 1, 1) := by decide +kernel
theorem dX12_needed_23 : decode cX12_needed 23 = .ok (.ldc2_w 393, 3) := by decide +kernel
theorem dX12_needed_26 : decode cX12_needed 26 = .ok (.invokestatic 91, 3) := by decide +kernel
theorem dX12_needed_29 : decode cX12_needed 29 = .ok (.ifCond .ne 5, 3) := by decide +kernel
theorem dX12_needed_32 : decode cX12_needed 32 = .ok (.iconst (-1), 1) := by decide +kernel
theorem dX12_needed_33 : decode cX12_needed 33 = .ok (.ireturn, 1) := by decide +kernel
theorem dX12_needed_34 : decode cX12_needed 34 = .ok (.iconst 1, 1) := by decide +kernel
theorem dX12_needed_35 : decode cX12_needed 35 = .ok (.istore 4, 2) := by decide +kernel
theorem dX12_needed_37 : decode cX12_needed 37 = .ok (.iload 4, 2) := by decide +kernel
theorem dX12_needed_39 : decode cX12_needed 39 = .ok (.bipush 60, 2) := by decide +kernel
theorem dX12_needed_41 : decode cX12_needed 41 = .ok (.if_icmp .gt 65, 3) := by decide +kernel
theorem dX12_needed_44 : decode cX12_needed 44 = .ok (.aload_n 0, 1) := by decide +kernel
theorem dX12_needed_45 : decode cX12_needed 45 = .ok (.iload_n 1, 1) := by decide +kernel
theorem dX12_needed_46 : decode cX12_needed 46 = .ok (.iload_n 2, 1) := by decide +kernel
theorem dX12_needed_47 : decode cX12_needed 47 = .ok (.iload 4, 2) := by decide +kernel
theorem dX12_needed_49 : decode cX12_needed 49 = .ok (.aload_n 0, 1) := by decide +kernel
theorem dX12_needed_50 : decode cX12_needed 50 = .ok (.getfield 27, 3) := by decide +kernel
theorem dX12_needed_53 : decode cX12_needed 53 = .ok (.bipush 6, 2) := by decide +kernel
theorem dX12_needed_55 : decode cX12_needed 55 = .ok (.iload_n 1, 1) := by decide +kernel
theorem dX12_needed_56 : decode cX12_needed 56 = .ok (.imul, 1) := by decide +kernel
theorem dX12_needed_57 : decode cX12_needed 57 = .ok (.iconst 1, 1) := by decide +kernel
theorem dX12_needed_58 : decode cX12_needed 58 = .ok (.iadd, 1) := by decide +kernel
theorem dX12_needed_59 : decode cX12_needed 59 = .ok (.iaload, 1) := by decide +kernel
theorem dX12_needed_60 : decode cX12_needed 60 = .ok (.aload_n 0, 1) := by decide +kernel
theorem dX12_needed_61 : decode cX12_needed 61 = .ok (.getfield 27, 3) := by decide +kernel
theorem dX12_needed_64 : decode cX12_needed 64 = .ok (.bipush 6, 2) := by decide +kernel
theorem dX12_needed_66 : decode cX12_needed 66 = .ok (.iload_n 1, 1) := by decide +kernel
theorem dX12_needed_67 : decode cX12_needed 67 = .ok (.imul, 1) := by decide +kernel
theorem dX12_needed_68 : decode cX12_needed 68 = .ok (.iconst 2, 1) := by decide +kernel
theorem dX12_needed_69 : decode cX12_needed 69 = .ok (.iadd, 1) := by decide +kernel
theorem dX12_needed_70 : decode cX12_needed 70 = .ok (.iaload, 1) := by decide +kernel
theorem dX12_needed_71 : decode cX12_needed 71 = .ok (.invokevirtual 353, 3) := by decide +kernel
theorem dX12_needed_74 : decode cX12_needed 74 = .ok (.iconst 2, 1) := by decide +kernel
theorem dX12_needed_75 : decode cX12_needed 75 = .ok (.aload_n 0, 1) := by decide +kernel
theorem dX12_needed_76 : decode cX12_needed 76 = .ok (.getfield 286, 3) := by decide +kernel
theorem dX12_needed_79 : decode cX12_needed 79 = .ok (.imul, 1) := by decide +kernel
theorem dX12_needed_80 : decode cX12_needed 80 = .ok (.aload_n 0, 1) := by decide +kernel
theorem dX12_needed_81 : decode cX12_needed 81 = .ok (.iload_n 2, 1) := by decide +kernel
theorem dX12_needed_82 : decode cX12_needed 82 = .ok (.iconst 2, 1) := by decide +kernel
theorem dX12_needed_83 : decode cX12_needed 83 = .ok (.aload_n 0, 1) := by decide +kernel
theorem dX12_needed_84 : decode cX12_needed 84 = .ok (.invokevirtual 309, 3) := by decide +kernel
theorem dX12_needed_87 : decode cX12_needed 87 = .ok (.imul, 1) := by decide +kernel
theorem dX12_needed_88 : decode cX12_needed 88 = .ok (.isub, 1) := by decide +kernel
theorem dX12_needed_89 : decode cX12_needed 89 = .ok (.invokevirtual 360, 3) := by decide +kernel
theorem dX12_needed_92 : decode cX12_needed 92 = .ok (.iadd, 1) := by decide +kernel
theorem dX12_needed_93 : decode cX12_needed 93 = .ok (.iload_n 3, 1) := by decide +kernel
theorem dX12_needed_94 : decode cX12_needed 94 = .ok (.if_icmp .gt 6, 3) := by decide +kernel
theorem dX12_needed_97 : decode cX12_needed 97 = .ok (.iload 4, 2) := by decide +kernel
theorem dX12_needed_99 : decode cX12_needed 99 = .ok (.ireturn, 1) := by decide +kernel
theorem dX12_needed_100 : decode cX12_needed 100 = .ok (.iinc 4 1, 3) := by decide +kernel
theorem dX12_needed_103 : decode cX12_needed 103 = .ok (.goto (-66), 3) := by decide +kernel
theorem dX12_needed_106 : decode cX12_needed 106 = .ok (.iconst (-1), 1) := by decide +kernel
theorem dX12_needed_107 : decode cX12_needed 107 = .ok (.ireturn, 1) := by decide +kernel
theorem dX12_quickest_0 : decode cX12_quickest 0 = .ok (.aload_n 0, 1) := by decide +kernel
theorem dX12_quickest_1 : decode cX12_quickest 1 = .ok (.iload_n 1, 1) := by decide +kernel
theorem dX12_quickest_2 : decode cX12_quickest 2 = .ok (.invokevirtual 312, 3) := by decide +kernel
theorem dX12_quickest_5 : decode cX12_quickest 5 = .ok (.ifCond .eq 25, 3) := by decide +kernel
theorem dX12_quickest_8 : decode cX12_quickest 8 = .ok (.iload_n 2, 1) := by decide +kernel
theorem dX12_quickest_9 : decode cX12_quickest 9 = .ok (.i2l, 1) := by decide +kernel
theorem dX12_quickest_10 : decode cX12_quickest 10 = .ok (.lconst 1, 1) := by decide +kernel
theorem dX12_quickest_11 : decode cX12_quickest 11 = .ok (.ldc2_w 327, 3) := by decide +kernel
theorem dX12_quickest_14 : decode cX12_quickest 14 = .ok (.invokestatic 91, 3) := by decide +kernel
theorem dX12_quickest_17 : decode cX12_quickest 17 = .ok (.ifCond .eq 13, 3) := by decide +kernel
theorem dX12_quickest_20 : decode cX12_quickest 20 = .ok (.iload_n 3, 1) := by decide +kernel
theorem dX12_quickest_21 : decode cX12_quickest 21 = .ok (.i2l, 1) := by decide +kernel
theorem dX12_quickest_22 : decode cX12_quickest 22 = .ok (.lconst 0, 1) := by decide +kernel
theorem dX12_quickest_23 : decode cX12_quickest 23 = .ok (.lconst 1, 1) := by decide +kernel
theorem dX12_quickest_24 : decode cX12_quickest 24 = .ok (.invokestatic 91, 3) := by decide +kernel
theorem dX12_quickest_27 : decode cX12_quickest 27 = .ok (.ifCond .ne 5, 3) := by decide +kernel
theorem dX12_quickest_30 : decode cX12_quickest 30 = .ok (.iconst (-1), 1) := by decide +kernel
theorem dX12_quickest_31 : decode cX12_quickest 31 = .ok (.ireturn, 1) := by decide +kernel
theorem dX12_quickest_32 : decode cX12_quickest 32 = .ok (.iconst 0, 1) := by decide +kernel
theorem dX12_quickest_33 : decode cX12_quickest 33 = .ok (.istore 4, 2) := by decide +kernel
theorem dX12_quickest_35 : decode cX12_quickest 35 = .ok (.iconst 0, 1) := by decide +kernel
theorem dX12_quickest_36 : decode cX12_quickest 36 = .ok (.istore 5, 2) := by decide +kernel
theorem dX12_quickest_38 : decode cX12_quickest 38 = .ok (.iconst 1, 1) := by decide +kernel
theorem dX12_quickest_39 : decode cX12_quickest 39 = .ok (.istore 6, 2) := by decide +kernel
theorem dX12_quickest_41 : decode cX12_quickest 41 = .ok (.iload 6, 2) := by decide +kernel
theorem dX12_quickest_43 : decode cX12_quickest 43 = .ok (.bipush 60, 2) := by decide +kernel
theorem dX12_quickest_45 : decode cX12_quickest 45 = .ok (.if_icmp .gt 83, 3) := by decide +kernel
theorem dX12_quickest_48 : decode cX12_quickest 48 = .ok (.aload_n 0, 1) := by decide +kernel
theorem dX12_quickest_49 : decode cX12_quickest 49 = .ok (.iload_n 1, 1) := by decide +kernel
theorem dX12_quickest_50 : decode cX12_quickest 50 = .ok (.iload_n 2, 1) := by decide +kernel
theorem dX12_quickest_51 : decode cX12_quickest 51 = .ok (.iload 6, 2) := by decide +kernel
theorem dX12_quickest_53 : decode cX12_quickest 53 = .ok (.aload_n 0, 1) := by decide +kernel
theorem dX12_quickest_54 : decode cX12_quickest 54 = .ok (.getfield 27, 3) := by decide +kernel
theorem dX12_quickest_57 : decode cX12_quickest 57 = .ok (.bipush 6, 2) := by decide +kernel
theorem dX12_quickest_59 : decode cX12_quickest 59 = .ok (.iload_n 1, 1) := by decide +kernel
theorem dX12_quickest_60 : decode cX12_quickest 60 = .ok (.imul, 1) := by decide +kernel
theorem dX12_quickest_61 : decode cX12_quickest 61 = .ok (.iconst 1, 1) := by decide +kernel
theorem dX12_quickest_62 : decode cX12_quickest 62 = .ok (.iadd, 1) := by decide +kernel
theorem dX12_quickest_63 : decode cX12_quickest 63 = .ok (.iaload, 1) := by decide +kernel
theorem dX12_quickest_64 : decode cX12_quickest 64 = .ok (.aload_n 0, 1) := by decide +kernel
theorem dX12_quickest_65 : decode cX12_quickest 65 = .ok (.getfield 27, 3) := by decide +kernel
theorem dX12_quickest_68 : decode cX12_quickest 68 = .ok (.bipush 6, 2) := by decide +kernel
theorem dX12_quickest_70 : decode cX12_quickest 70 = .ok (.iload_n 1, 1) := by decide +kernel
theorem dX12_quickest_71 : decode cX12_quickest 71 = .ok (.imul, 1) := by decide +kernel
theorem dX12_quickest_72 : decode cX12_quickest 72 = .ok (.iconst 2, 1) := by decide +kernel
theorem dX12_quickest_73 : decode cX12_quickest 73 = .ok (.iadd, 1) := by decide +kernel
theorem dX12_quickest_74 : decode cX12_quickest 74 = .ok (.iaload, 1) := by decide +kernel
theorem dX12_quickest_75 : decode cX12_quickest 75 = .ok (.invokevirtual 353, 3) := by decide +kernel
theorem dX12_quickest_78 : decode cX12_quickest 78 = .ok (.iconst 2, 1) := by decide +kernel
theorem dX12_quickest_79 : decode cX12_quickest 79 = .ok (.aload_n 0, 1) := by decide +kernel
theorem dX12_quickest_80 : decode cX12_quickest 80 = .ok (.getfield 286, 3) := by decide +kernel
theorem dX12_quickest_83 : decode cX12_quickest 83 = .ok (.imul, 1) := by decide +kernel
theorem dX12_quickest_84 : decode cX12_quickest 84 = .ok (.aload_n 0, 1) := by decide +kernel
theorem dX12_quickest_85 : decode cX12_quickest 85 = .ok (.iload_n 2, 1) := by decide +kernel
theorem dX12_quickest_86 : decode cX12_quickest 86 = .ok (.iconst 2, 1) := by decide +kernel
theorem dX12_quickest_87 : decode cX12_quickest 87 = .ok (.aload_n 0, 1) := by decide +kernel
theorem dX12_quickest_88 : decode cX12_quickest 88 = .ok (.invokevirtual 309, 3) := by decide +kernel
theorem dX12_quickest_91 : decode cX12_quickest 91 = .ok (.imul, 1) := by decide +kernel
theorem dX12_quickest_92 : decode cX12_quickest 92 = .ok (.isub, 1) := by decide +kernel
theorem dX12_quickest_93 : decode cX12_quickest 93 = .ok (.invokevirtual 360, 3) := by decide +kernel
theorem dX12_quickest_96 : decode cX12_quickest 96 = .ok (.iadd, 1) := by decide +kernel
theorem dX12_quickest_97 : decode cX12_quickest 97 = .ok (.istore 7, 2) := by decide +kernel
theorem dX12_quickest_99 : decode cX12_quickest 99 = .ok (.iload 4, 2) := by decide +kernel
theorem dX12_quickest_101 : decode cX12_quickest 101 = .ok (.ifCond .le 13, 3) := by decide +kernel
theorem dX12_quickest_104 : decode cX12_quickest 104 = .ok (.iload 7, 2) := by decide +kernel
theorem dX12_quickest_106 : decode cX12_quickest 106 = .ok (.iload 5, 2) := by decide +kernel
theorem dX12_quickest_108 : decode cX12_quickest 108 = .ok (.if_icmp .lt 6, 3) := by decide +kernel
theorem dX12_quickest_111 : decode cX12_quickest 111 = .ok (.goto 11, 3) := by decide +kernel
theorem dX12_quickest_114 : decode cX12_quickest 114 = .ok (.iload 6, 2) := by decide +kernel
theorem dX12_quickest_116 : decode cX12_quickest 116 = .ok (.istore 4, 2) := by decide +kernel
theorem dX12_quickest_118 : decode cX12_quickest 118 = .ok (.iload 7, 2) := by decide +kernel
theorem dX12_quickest_120 : decode cX12_quickest 120 = .ok (.istore 5, 2) := by decide +kernel
theorem dX12_quickest_122 : decode cX12_quickest 122 = .ok (.iinc 6 1, 3) := by decide +kernel
theorem dX12_quickest_125 : decode cX12_quickest 125 = .ok (.goto (-84), 3) := by decide +kernel
theorem dX12_quickest_128 : decode cX12_quickest 128 = .ok (.iload_n 3, 1) := by decide +kernel
theorem dX12_quickest_129 : decode cX12_quickest 129 = .ok (.ifCond .ne 8, 3) := by decide +kernel
theorem dX12_quickest_132 : decode cX12_quickest 132 = .ok (.iload 4, 2) := by decide +kernel
theorem dX12_quickest_134 : decode cX12_quickest 134 = .ok (.goto 5, 3) := by decide +kernel
theorem dX12_quickest_137 : decode cX12_quickest 137 = .ok (.iload 5, 2) := by decide +kernel
theorem dX12_quickest_139 : decode cX12_quickest 139 = .ok (.ireturn, 1) := by decide +kernel
theorem dX12_most_0 : decode cX12_most 0 = .ok (.aload_n 0, 1) := by decide +kernel
theorem dX12_most_1 : decode cX12_most 1 = .ok (.iload 4, 2) := by decide +kernel
theorem dX12_most_3 : decode cX12_most 3 = .ok (.invokevirtual 312, 3) := by decide +kernel
theorem dX12_most_6 : decode cX12_most 6 = .ok (.ifCond .eq 13, 3) := by decide +kernel
theorem dX12_most_9 : decode cX12_most 9 = .ok (.aload_n 0, 1) := by decide +kernel
theorem dX12_most_10 : decode cX12_most 10 = .ok (.iload_n 1, 1) := by decide +kernel
theorem dX12_most_11 : decode cX12_most 11 = .ok (.iload_n 2, 1) := by decide +kernel
theorem dX12_most_12 : decode cX12_most 12 = .ok (.iload_n 3, 1) := by decide +kernel
theorem dX12_most_13 : decode cX12_most 13 = .ok (.invokevirtual 375, 3) := by decide +kernel
theorem dX12_most_16 : decode cX12_most 16 = .ok (.ifCond .ne 5, 3) := by decide +kernel
theorem dX12_most_19 : decode cX12_most 19 = .ok (.iconst (-1), 1) := by decide +kernel
theorem dX12_most_20 : decode cX12_most 20 = .ok (.ireturn, 1) := by decide +kernel
theorem dX12_most_21 : decode cX12_most 21 = .ok (.iconst 0, 1) := by decide +kernel
theorem dX12_most_22 : decode cX12_most 22 = .ok (.istore 5, 2) := by decide +kernel
theorem dX12_most_24 : decode cX12_most 24 = .ok (.iconst 0, 1) := by decide +kernel
theorem dX12_most_25 : decode cX12_most 25 = .ok (.istore 6, 2) := by decide +kernel
theorem dX12_most_27 : decode cX12_most 27 = .ok (.iconst 0, 1) := by decide +kernel
theorem dX12_most_28 : decode cX12_most 28 = .ok (.istore 7, 2) := by decide +kernel
theorem dX12_most_30 : decode cX12_most 30 = .ok (.iload 7, 2) := by decide +kernel
theorem dX12_most_32 : decode cX12_most 32 = .ok (.aload_n 0, 1) := by decide +kernel
theorem dX12_most_33 : decode cX12_most 33 = .ok (.invokevirtual 378, 3) := by decide +kernel
theorem dX12_most_36 : decode cX12_most 36 = .ok (.if_icmp .ge 67, 3) := by decide +kernel
theorem dX12_most_39 : decode cX12_most 39 = .ok (.iload 6, 2) := by decide +kernel
theorem dX12_most_41 : decode cX12_most 41 = .ok (.aload_n 0, 1) := by decide +kernel
theorem dX12_most_42 : decode cX12_most 42 = .ok (.getfield 61, 3) := by decide +kernel
theorem dX12_most_45 : decode cX12_most 45 = .ok (.iload 4, 2) := by decide +kernel
theorem dX12_most_47 : decode cX12_most 47 = .ok (.iaload, 1) := by decide +kernel
theorem dX12_most_48 : decode cX12_most 48 = .ok (.aload_n 0, 1) := by decide +kernel
theorem dX12_most_49 : decode cX12_most 49 = .ok (.getfield 329, 3) := by decide +kernel
theorem dX12_most_52 : decode cX12_most 52 = .ok (.invokestatic 387, 3) := by decide +kernel
theorem dX12_most_55 : decode cX12_most 55 = .ok (.istore 8, 2) := by decide +kernel
theorem dX12_most_57 : decode cX12_most 57 = .ok (.iload 6, 2) := by decide +kernel
theorem dX12_most_59 : decode cX12_most 59 = .ok (.aload_n 0, 1) := by decide +kernel
theorem dX12_most_60 : decode cX12_most 60 = .ok (.iload 7, 2) := by decide +kernel
theorem dX12_most_62 : decode cX12_most 62 = .ok (.invokevirtual 384, 3) := by decide +kernel
theorem dX12_most_65 : decode cX12_most 65 = .ok (.iadd, 1) := by decide +kernel
theorem dX12_most_66 : decode cX12_most 66 = .ok (.istore 6, 2) := by decide +kernel
theorem dX12_most_68 : decode cX12_most 68 = .ok (.iload 5, 2) := by decide +kernel
theorem dX12_most_70 : decode cX12_most 70 = .ok (.iload 6, 2) := by decide +kernel
theorem dX12_most_72 : decode cX12_most 72 = .ok (.aload_n 0, 1) := by decide +kernel
theorem dX12_most_73 : decode cX12_most 73 = .ok (.getfield 61, 3) := by decide +kernel
theorem dX12_most_76 : decode cX12_most 76 = .ok (.iload 4, 2) := by decide +kernel
theorem dX12_most_78 : decode cX12_most 78 = .ok (.iaload, 1) := by decide +kernel
theorem dX12_most_79 : decode cX12_most 79 = .ok (.aload_n 0, 1) := by decide +kernel
theorem dX12_most_80 : decode cX12_most 80 = .ok (.getfield 329, 3) := by decide +kernel
theorem dX12_most_83 : decode cX12_most 83 = .ok (.invokestatic 387, 3) := by decide +kernel
theorem dX12_most_86 : decode cX12_most 86 = .ok (.iload 8, 2) := by decide +kernel
theorem dX12_most_88 : decode cX12_most 88 = .ok (.isub, 1) := by decide +kernel
theorem dX12_most_89 : decode cX12_most 89 = .ok (.invokestatic 273, 3) := by decide +kernel
theorem dX12_most_92 : decode cX12_most 92 = .ok (.invokestatic 318, 3) := by decide +kernel
theorem dX12_most_95 : decode cX12_most 95 = .ok (.istore 5, 2) := by decide +kernel
theorem dX12_most_97 : decode cX12_most 97 = .ok (.iinc 7 1, 3) := by decide +kernel
theorem dX12_most_100 : decode cX12_most 100 = .ok (.goto (-70), 3) := by decide +kernel
theorem dX12_most_103 : decode cX12_most 103 = .ok (.iload 5, 2) := by decide +kernel
theorem dX12_most_105 : decode cX12_most 105 = .ok (.ireturn, 1) := by decide +kernel
theorem dX12_pulls_0 : decode cX12_pulls 0 = .ok (.iload_n 1, 1) := by decide +kernel
theorem dX12_pulls_1 : decode cX12_pulls 1 = .ok (.iload_n 2, 1) := by decide +kernel
theorem dX12_pulls_2 : decode cX12_pulls 2 = .ok (.if_icmp .ge 27, 3) := by decide +kernel
theorem dX12_pulls_5 : decode cX12_pulls 5 = .ok (.iload_n 1, 1) := by decide +kernel
theorem dX12_pulls_6 : decode cX12_pulls 6 = .ok (.aload_n 0, 1) := by decide +kernel
theorem dX12_pulls_7 : decode cX12_pulls 7 = .ok (.getfield 70, 3) := by decide +kernel
theorem dX12_pulls_10 : decode cX12_pulls 10 = .ok (.iload_n 1, 1) := by decide +kernel
theorem dX12_pulls_11 : decode cX12_pulls 11 = .ok (.aload_n 0, 1) := by decide +kernel
theorem dX12_pulls_12 : decode cX12_pulls 12 = .ok (.getfield 73, 3) := by decide +kernel
theorem dX12_pulls_15 : decode cX12_pulls 15 = .ok (.imul, 1) := by decide +kernel
theorem dX12_pulls_16 : decode cX12_pulls 16 = .ok (.bipush 100, 2) := by decide +kernel
theorem dX12_pulls_18 : decode cX12_pulls 18 = .ok (.idiv, 1) := by decide +kernel
theorem dX12_pulls_19 : decode cX12_pulls 19 = .ok (.isub, 1) := by decide +kernel
theorem dX12_pulls_20 : decode cX12_pulls 20 = .ok (.bipush 10, 2) := by decide +kernel
theorem dX12_pulls_22 : decode cX12_pulls 22 = .ok (.idiv, 1) := by decide +kernel
theorem dX12_pulls_23 : decode cX12_pulls 23 = .ok (.iadd, 1) := by decide +kernel
theorem dX12_pulls_24 : decode cX12_pulls 24 = .ok (.istore 5, 2) := by decide +kernel
theorem dX12_pulls_26 : decode cX12_pulls 26 = .ok (.goto 48, 3) := by decide +kernel
theorem dX12_pulls_29 : decode cX12_pulls 29 = .ok (.iload 4, 2) := by decide +kernel
theorem dX12_pulls_31 : decode cX12_pulls 31 = .ok (.bipush 8, 2) := by decide +kernel
theorem dX12_pulls_33 : decode cX12_pulls 33 = .ok (.irem, 1) := by decide +kernel
theorem dX12_pulls_34 : decode cX12_pulls 34 = .ok (.iload_n 3, 1) := by decide +kernel
theorem dX12_pulls_35 : decode cX12_pulls 35 = .ok (.if_icmp .ge 25, 3) := by decide +kernel
theorem dX12_pulls_38 : decode cX12_pulls 38 = .ok (.iload_n 1, 1) := by decide +kernel
theorem dX12_pulls_39 : decode cX12_pulls 39 = .ok (.aload_n 0, 1) := by decide +kernel
theorem dX12_pulls_40 : decode cX12_pulls 40 = .ok (.getfield 70, 3) := by decide +kernel
theorem dX12_pulls_43 : decode cX12_pulls 43 = .ok (.iload_n 1, 1) := by decide +kernel
theorem dX12_pulls_44 : decode cX12_pulls 44 = .ok (.aload_n 0, 1) := by decide +kernel
theorem dX12_pulls_45 : decode cX12_pulls 45 = .ok (.getfield 73, 3) := by decide +kernel
theorem dX12_pulls_48 : decode cX12_pulls 48 = .ok (.imul, 1) := by decide +kernel
theorem dX12_pulls_49 : decode cX12_pulls 49 = .ok (.bipush 100, 2) := by decide +kernel
theorem dX12_pulls_51 : decode cX12_pulls 51 = .ok (.idiv, 1) := by decide +kernel
theorem dX12_pulls_52 : decode cX12_pulls 52 = .ok (.iadd, 1) := by decide +kernel
theorem dX12_pulls_53 : decode cX12_pulls 53 = .ok (.bipush 10, 2) := by decide +kernel
theorem dX12_pulls_55 : decode cX12_pulls 55 = .ok (.idiv, 1) := by decide +kernel
theorem dX12_pulls_56 : decode cX12_pulls 56 = .ok (.isub, 1) := by decide +kernel
theorem dX12_pulls_57 : decode cX12_pulls 57 = .ok (.goto 15, 3) := by decide +kernel
theorem dX12_pulls_60 : decode cX12_pulls 60 = .ok (.iload_n 1, 1) := by decide +kernel
theorem dX12_pulls_61 : decode cX12_pulls 61 = .ok (.iload_n 1, 1) := by decide +kernel
theorem dX12_pulls_62 : decode cX12_pulls 62 = .ok (.aload_n 0, 1) := by decide +kernel
theorem dX12_pulls_63 : decode cX12_pulls 63 = .ok (.getfield 73, 3) := by decide +kernel
theorem dX12_pulls_66 : decode cX12_pulls 66 = .ok (.imul, 1) := by decide +kernel
theorem dX12_pulls_67 : decode cX12_pulls 67 = .ok (.sipush 1000, 3) := by decide +kernel
theorem dX12_pulls_70 : decode cX12_pulls 70 = .ok (.idiv, 1) := by decide +kernel
theorem dX12_pulls_71 : decode cX12_pulls 71 = .ok (.isub, 1) := by decide +kernel
theorem dX12_pulls_72 : decode cX12_pulls 72 = .ok (.istore 5, 2) := by decide +kernel
theorem dX12_pulls_74 : decode cX12_pulls 74 = .ok (.iconst 0, 1) := by decide +kernel
theorem dX12_pulls_75 : decode cX12_pulls 75 = .ok (.iload 5, 2) := by decide +kernel
theorem dX12_pulls_77 : decode cX12_pulls 77 = .ok (.invokestatic 318, 3) := by decide +kernel
theorem dX12_pulls_80 : decode cX12_pulls 80 = .ok (.ireturn, 1) := by decide +kernel
theorem dX12_drives_0 : decode cX12_drives 0 = .ok (.aload_n 0, 1) := by decide +kernel
theorem dX12_drives_1 : decode cX12_drives 1 = .ok (.iload 4, 2) := by decide +kernel
theorem dX12_drives_3 : decode cX12_drives 3 = .ok (.invokevirtual 312, 3) := by decide +kernel
theorem dX12_drives_6 : decode cX12_drives 6 = .ok (.ifCond .eq 37, 3) := by decide +kernel
theorem dX12_drives_9 : decode cX12_drives 9 = .ok (.iload 5, 2) := by decide +kernel
theorem dX12_drives_11 : decode cX12_drives 11 = .ok (.i2l, 1) := by decide +kernel
theorem dX12_drives_12 : decode cX12_drives 12 = .ok (.lconst 0, 1) := by decide +kernel
theorem dX12_drives_13 : decode cX12_drives 13 = .ok (.ldc2_w 395, 3) := by decide +kernel
theorem dX12_drives_16 : decode cX12_drives 16 = .ok (.invokestatic 91, 3) := by decide +kernel
theorem dX12_drives_19 : decode cX12_drives 19 = .ok (.ifCond .eq 24, 3) := by decide +kernel
theorem dX12_drives_22 : decode cX12_drives 22 = .ok (.iload 6, 2) := by decide +kernel
theorem dX12_drives_24 : decode cX12_drives 24 = .ok (.i2l, 1) := by decide +kernel
theorem dX12_drives_25 : decode cX12_drives 25 = .ok (.lconst 0, 1) := by decide +kernel
theorem dX12_drives_26 : decode cX12_drives 26 = .ok (.lconst 1, 1) := by decide +kernel
theorem dX12_drives_27 : decode cX12_drives 27 = .ok (.invokestatic 91, 3) := by decide +kernel
theorem dX12_drives_30 : decode cX12_drives 30 = .ok (.ifCond .eq 13, 3) := by decide +kernel
theorem dX12_drives_33 : decode cX12_drives 33 = .ok (.aload_n 0, 1) := by decide +kernel
theorem dX12_drives_34 : decode cX12_drives 34 = .ok (.iload_n 1, 1) := by decide +kernel
theorem dX12_drives_35 : decode cX12_drives 35 = .ok (.iload_n 2, 1) := by decide +kernel
theorem dX12_drives_36 : decode cX12_drives 36 = .ok (.iload_n 3, 1) := by decide +kernel
theorem dX12_drives_37 : decode cX12_drives 37 = .ok (.invokevirtual 375, 3) := by decide +kernel
theorem dX12_drives_40 : decode cX12_drives 40 = .ok (.ifCond .ne 5, 3) := by decide +kernel
theorem dX12_drives_43 : decode cX12_drives 43 = .ok (.iconst (-1), 1) := by decide +kernel
theorem dX12_drives_44 : decode cX12_drives 44 = .ok (.ireturn, 1) := by decide +kernel
theorem dX12_drives_45 : decode cX12_drives 45 = .ok (.iconst 0, 1) := by decide +kernel
theorem dX12_drives_46 : decode cX12_drives 46 = .ok (.istore 7, 2) := by decide +kernel
theorem dX12_drives_48 : decode cX12_drives 48 = .ok (.iconst 0, 1) := by decide +kernel
theorem dX12_drives_49 : decode cX12_drives 49 = .ok (.istore 8, 2) := by decide +kernel
theorem dX12_drives_51 : decode cX12_drives 51 = .ok (.iconst 0, 1) := by decide +kernel
theorem dX12_drives_52 : decode cX12_drives 52 = .ok (.istore 9, 2) := by decide +kernel
theorem dX12_drives_54 : decode cX12_drives 54 = .ok (.iconst 0, 1) := by decide +kernel
theorem dX12_drives_55 : decode cX12_drives 55 = .ok (.istore 10, 2) := by decide +kernel
theorem dX12_drives_57 : decode cX12_drives 57 = .ok (.iconst 0, 1) := by decide +kernel
theorem dX12_drives_58 : decode cX12_drives 58 = .ok (.istore 11, 2) := by decide +kernel
theorem dX12_drives_60 : decode cX12_drives 60 = .ok (.iload 11, 2) := by decide +kernel
theorem dX12_drives_62 : decode cX12_drives 62 = .ok (.aload_n 0, 1) := by decide +kernel
theorem dX12_drives_63 : decode cX12_drives 63 = .ok (.invokevirtual 378, 3) := by decide +kernel
theorem dX12_drives_66 : decode cX12_drives 66 = .ok (.if_icmp .ge 96, 3) := by decide +kernel
theorem dX12_drives_69 : decode cX12_drives 69 = .ok (.iload 9, 2) := by decide +kernel
theorem dX12_drives_71 : decode cX12_drives 71 = .ok (.aload_n 0, 1) := by decide +kernel
theorem dX12_drives_72 : decode cX12_drives 72 = .ok (.iload 11, 2) := by decide +kernel
theorem dX12_drives_74 : decode cX12_drives 74 = .ok (.invokevirtual 384, 3) := by decide +kernel
theorem dX12_drives_77 : decode cX12_drives 77 = .ok (.iadd, 1) := by decide +kernel
theorem dX12_drives_78 : decode cX12_drives 78 = .ok (.istore 9, 2) := by decide +kernel
theorem dX12_drives_80 : decode cX12_drives 80 = .ok (.aload_n 0, 1) := by decide +kernel
theorem dX12_drives_81 : decode cX12_drives 81 = .ok (.aload_n 0, 1) := by decide +kernel
theorem dX12_drives_82 : decode cX12_drives 82 = .ok (.iload 4, 2) := by decide +kernel
theorem dX12_drives_84 : decode cX12_drives 84 = .ok (.iconst 0, 1) := by decide +kernel
theorem dX12_drives_85 : decode cX12_drives 85 = .ok (.invokevirtual 338, 3) := by decide +kernel
theorem dX12_drives_88 : decode cX12_drives 88 = .ok (.iload 9, 2) := by decide +kernel
theorem dX12_drives_90 : decode cX12_drives 90 = .ok (.aload_n 0, 1) := by decide +kernel
theorem dX12_drives_91 : decode cX12_drives 91 = .ok (.getfield 61, 3) := by decide +kernel
theorem dX12_drives_94 : decode cX12_drives 94 = .ok (.iload 4, 2) := by decide +kernel
theorem dX12_drives_96 : decode cX12_drives 96 = .ok (.iaload, 1) := by decide +kernel
theorem dX12_drives_97 : decode cX12_drives 97 = .ok (.aload_n 0, 1) := by decide +kernel
theorem dX12_drives_98 : decode cX12_drives 98 = .ok (.getfield 329, 3) := by decide +kernel
theorem dX12_drives_101 : decode cX12_drives 101 = .ok (.invokestatic 387, 3) := by decide +kernel
theorem dX12_drives_104 : decode cX12_drives 104 = .ok (.iadd, 1) := by decide +kernel
theorem dX12_drives_105 : decode cX12_drives 105 = .ok (.iconst 1, 1) := by decide +kernel
theorem dX12_drives_106 : decode cX12_drives 106 = .ok (.invokevirtual 265, 3) := by decide +kernel
theorem dX12_drives_109 : decode cX12_drives 109 = .ok (.invokestatic 273, 3) := by decide +kernel
theorem dX12_drives_112 : decode cX12_drives 112 = .ok (.istore 12, 2) := by decide +kernel
theorem dX12_drives_114 : decode cX12_drives 114 = .ok (.aload_n 0, 1) := by decide +kernel
theorem dX12_drives_115 : decode cX12_drives 115 = .ok (.iload 10, 2) := by decide +kernel
theorem dX12_drives_117 : decode cX12_drives 117 = .ok (.iload 12, 2) := by decide +kernel
theorem dX12_drives_119 : decode cX12_drives 119 = .ok (.iload 5, 2) := by decide +kernel
theorem dX12_drives_121 : decode cX12_drives 121 = .ok (.iload 11, 2) := by decide +kernel
theorem dX12_drives_123 : decode cX12_drives 123 = .ok (.invokevirtual 397, 3) := by decide +kernel
theorem dX12_drives_126 : decode cX12_drives 126 = .ok (.istore 10, 2) := by decide +kernel
theorem dX12_drives_128 : decode cX12_drives 128 = .ok (.iload 7, 2) := by decide +kernel
theorem dX12_drives_130 : decode cX12_drives 130 = .ok (.iload 10, 2) := by decide +kernel
theorem dX12_drives_132 : decode cX12_drives 132 = .ok (.iload 12, 2) := by decide +kernel
theorem dX12_drives_134 : decode cX12_drives 134 = .ok (.isub, 1) := by decide +kernel
theorem dX12_drives_135 : decode cX12_drives 135 = .ok (.invokestatic 273, 3) := by decide +kernel
theorem dX12_drives_138 : decode cX12_drives 138 = .ok (.invokestatic 318, 3) := by decide +kernel
theorem dX12_drives_141 : decode cX12_drives 141 = .ok (.istore 7, 2) := by decide +kernel
theorem dX12_drives_143 : decode cX12_drives 143 = .ok (.iload 8, 2) := by decide +kernel
theorem dX12_drives_145 : decode cX12_drives 145 = .ok (.iload 10, 2) := by decide +kernel
theorem dX12_drives_147 : decode cX12_drives 147 = .ok (.iload 12, 2) := by decide +kernel
theorem dX12_drives_149 : decode cX12_drives 149 = .ok (.isub, 1) := by decide +kernel
theorem dX12_drives_150 : decode cX12_drives 150 = .ok (.invokestatic 273, 3) := by decide +kernel
theorem dX12_drives_153 : decode cX12_drives 153 = .ok (.iadd, 1) := by decide +kernel
theorem dX12_drives_154 : decode cX12_drives 154 = .ok (.istore 8, 2) := by decide +kernel
theorem dX12_drives_156 : decode cX12_drives 156 = .ok (.iinc 11 1, 3) := by decide +kernel
theorem dX12_drives_159 : decode cX12_drives 159 = .ok (.goto (-99), 3) := by decide +kernel
theorem dX12_drives_162 : decode cX12_drives 162 = .ok (.iload 6, 2) := by decide +kernel
theorem dX12_drives_164 : decode cX12_drives 164 = .ok (.ifCond .ne 8, 3) := by decide +kernel
theorem dX12_drives_167 : decode cX12_drives 167 = .ok (.iload 7, 2) := by decide +kernel
theorem dX12_drives_169 : decode cX12_drives 169 = .ok (.goto 5, 3) := by decide +kernel
theorem dX12_drives_172 : decode cX12_drives 172 = .ok (.iload 8, 2) := by decide +kernel
theorem dX12_drives_174 : decode cX12_drives 174 = .ok (.ireturn, 1) := by decide +kernel
theorem dX12_act_0 : decode cX12_act 0 = .ok (.aload_n 0, 1) := by decide +kernel
theorem dX12_act_1 : decode cX12_act 1 = .ok (.getfield 249, 3) := by decide +kernel
theorem dX12_act_4 : decode cX12_act 4 = .ok (.bipush 10, 2) := by decide +kernel
theorem dX12_act_6 : decode cX12_act 6 = .ok (.if_icmp .ne 46, 3) := by decide +kernel
theorem dX12_act_9 : decode cX12_act 9 = .ok (.sipush 194, 3) := by decide +kernel
theorem dX12_act_12 : decode cX12_act 12 = .ok (.istore_n 1, 1) := by decide +kernel
theorem dX12_act_13 : decode cX12_act 13 = .ok (.iload_n 1, 1) := by decide +kernel
theorem dX12_act_14 : decode cX12_act 14 = .ok (.sipush 1940, 3) := by decide +kernel
theorem dX12_act_17 : decode cX12_act 17 = .ok (.if_icmp .ge 25, 3) := by decide +kernel
theorem dX12_act_20 : decode cX12_act 20 = .ok (.aload_n 0, 1) := by decide +kernel
theorem dX12_act_21 : decode cX12_act 21 = .ok (.getfield 64, 3) := by decide +kernel
theorem dX12_act_24 : decode cX12_act 24 = .ok (.iload_n 1, 1) := by decide +kernel
theorem dX12_act_25 : decode cX12_act 25 = .ok (.sipush 194, 3) := by decide +kernel
theorem dX12_act_28 : decode cX12_act 28 = .ok (.isub, 1) := by decide +kernel
theorem dX12_act_29 : decode cX12_act 29 = .ok (.aload_n 0, 1) := by decide +kernel
theorem dX12_act_30 : decode cX12_act 30 = .ok (.getfield 64, 3) := by decide +kernel
theorem dX12_act_33 : decode cX12_act 33 = .ok (.iload_n 1, 1) := by decide +kernel
theorem dX12_act_34 : decode cX12_act 34 = .ok (.iaload, 1) := by decide +kernel
theorem dX12_act_35 : decode cX12_act 35 = .ok (.iastore, 1) := by decide +kernel
theorem dX12_act_36 : decode cX12_act 36 = .ok (.iinc 1 1, 3) := by decide +kernel
theorem dX12_act_39 : decode cX12_act 39 = .ok (.goto (-26), 3) := by decide +kernel
theorem dX12_act_42 : decode cX12_act 42 = .ok (.aload_n 0, 1) := by decide +kernel
theorem dX12_act_43 : decode cX12_act 43 = .ok (.dup, 1) := by decide +kernel
theorem dX12_act_44 : decode cX12_act 44 = .ok (.getfield 249, 3) := by decide +kernel
theorem dX12_act_47 : decode cX12_act 47 = .ok (.iconst 1, 1) := by decide +kernel
theorem dX12_act_48 : decode cX12_act 48 = .ok (.isub, 1) := by decide +kernel
theorem dX12_act_49 : decode cX12_act 49 = .ok (.putfield 249, 3) := by decide +kernel
theorem dX12_act_52 : decode cX12_act 52 = .ok (.iconst 0, 1) := by decide +kernel
theorem dX12_act_53 : decode cX12_act 53 = .ok (.istore_n 1, 1) := by decide +kernel
theorem dX12_act_54 : decode cX12_act 54 = .ok (.iload_n 1, 1) := by decide +kernel
theorem dX12_act_55 : decode cX12_act 55 = .ok (.sipush 194, 3) := by decide +kernel
theorem dX12_act_58 : decode cX12_act 58 = .ok (.if_icmp .ge 30, 3) := by decide +kernel
theorem dX12_act_61 : decode cX12_act 61 = .ok (.aload_n 0, 1) := by decide +kernel
theorem dX12_act_62 : decode cX12_act 62 = .ok (.getfield 64, 3) := by decide +kernel
theorem dX12_act_65 : decode cX12_act 65 = .ok (.sipush 194, 3) := by decide +kernel
theorem dX12_act_68 : decode cX12_act 68 = .ok (.aload_n 0, 1) := by decide +kernel
theorem dX12_act_69 : decode cX12_act 69 = .ok (.getfield 249, 3) := by decide +kernel
theorem dX12_act_72 : decode cX12_act 72 = .ok (.imul, 1) := by decide +kernel
theorem dX12_act_73 : decode cX12_act 73 = .ok (.iload_n 1, 1) := by decide +kernel
theorem dX12_act_74 : decode cX12_act 74 = .ok (.iadd, 1) := by decide +kernel
theorem dX12_act_75 : decode cX12_act 75 = .ok (.aload_n 0, 1) := by decide +kernel
theorem dX12_act_76 : decode cX12_act 76 = .ok (.getfield 7, 3) := by decide +kernel
theorem dX12_act_79 : decode cX12_act 79 = .ok (.iload_n 1, 1) := by decide +kernel
theorem dX12_act_80 : decode cX12_act 80 = .ok (.iaload, 1) := by decide +kernel
theorem dX12_act_81 : decode cX12_act 81 = .ok (.iastore, 1) := by decide +kernel
theorem dX12_act_82 : decode cX12_act 82 = .ok (.iinc 1 1, 3) := by decide +kernel
theorem dX12_act_85 : decode cX12_act 85 = .ok (.goto (-31), 3) := by decide +kernel
theorem dX12_act_88 : decode cX12_act 88 = .ok (.aload_n 0, 1) := by decide +kernel
theorem dX12_act_89 : decode cX12_act 89 = .ok (.dup, 1) := by decide +kernel
theorem dX12_act_90 : decode cX12_act 90 = .ok (.getfield 249, 3) := by decide +kernel
theorem dX12_act_93 : decode cX12_act 93 = .ok (.iconst 1, 1) := by decide +kernel
theorem dX12_act_94 : decode cX12_act 94 = .ok (.iadd, 1) := by decide +kernel
theorem dX12_act_95 : decode cX12_act 95 = .ok (.putfield 249, 3) := by decide +kernel
theorem dX12_act_98 : decode cX12_act 98 = .ok (.return_, 1) := by decide +kernel
theorem dX12_undo_0 : decode cX12_undo 0 = .ok (.aload_n 0, 1) := by decide +kernel
theorem dX12_undo_1 : decode cX12_undo 1 = .ok (.getfield 249, 3) := by decide +kernel
theorem dX12_undo_4 : decode cX12_undo 4 = .ok (.ifCond .ne 5, 3) := by decide +kernel
theorem dX12_undo_7 : decode cX12_undo 7 = .ok (.iconst (-1), 1) := by decide +kernel
theorem dX12_undo_8 : decode cX12_undo 8 = .ok (.ireturn, 1) := by decide +kernel
theorem dX12_undo_9 : decode cX12_undo 9 = .ok (.aload_n 0, 1) := by decide +kernel
theorem dX12_undo_10 : decode cX12_undo 10 = .ok (.dup, 1) := by decide +kernel
theorem dX12_undo_11 : decode cX12_undo 11 = .ok (.getfield 249, 3) := by decide +kernel
theorem dX12_undo_14 : decode cX12_undo 14 = .ok (.iconst 1, 1) := by decide +kernel
theorem dX12_undo_15 : decode cX12_undo 15 = .ok (.isub, 1) := by decide +kernel
theorem dX12_undo_16 : decode cX12_undo 16 = .ok (.putfield 249, 3) := by decide +kernel
theorem dX12_undo_19 : decode cX12_undo 19 = .ok (.iconst 0, 1) := by decide +kernel
theorem dX12_undo_20 : decode cX12_undo 20 = .ok (.istore_n 1, 1) := by decide +kernel
theorem dX12_undo_21 : decode cX12_undo 21 = .ok (.iload_n 1, 1) := by decide +kernel
theorem dX12_undo_22 : decode cX12_undo 22 = .ok (.sipush 194, 3) := by decide +kernel
theorem dX12_undo_25 : decode cX12_undo 25 = .ok (.if_icmp .ge 30, 3) := by decide +kernel
theorem dX12_undo_28 : decode cX12_undo 28 = .ok (.aload_n 0, 1) := by decide +kernel
theorem dX12_undo_29 : decode cX12_undo 29 = .ok (.getfield 7, 3) := by decide +kernel
theorem dX12_undo_32 : decode cX12_undo 32 = .ok (.iload_n 1, 1) := by decide +kernel
theorem dX12_undo_33 : decode cX12_undo 33 = .ok (.aload_n 0, 1) := by decide +kernel
theorem dX12_undo_34 : decode cX12_undo 34 = .ok (.getfield 64, 3) := by decide +kernel
theorem dX12_undo_37 : decode cX12_undo 37 = .ok (.sipush 194, 3) := by decide +kernel
theorem dX12_undo_40 : decode cX12_undo 40 = .ok (.aload_n 0, 1) := by decide +kernel
theorem dX12_undo_41 : decode cX12_undo 41 = .ok (.getfield 249, 3) := by decide +kernel
theorem dX12_undo_44 : decode cX12_undo 44 = .ok (.imul, 1) := by decide +kernel
theorem dX12_undo_45 : decode cX12_undo 45 = .ok (.iload_n 1, 1) := by decide +kernel
theorem dX12_undo_46 : decode cX12_undo 46 = .ok (.iadd, 1) := by decide +kernel
theorem dX12_undo_47 : decode cX12_undo 47 = .ok (.iaload, 1) := by decide +kernel
theorem dX12_undo_48 : decode cX12_undo 48 = .ok (.iastore, 1) := by decide +kernel
theorem dX12_undo_49 : decode cX12_undo 49 = .ok (.iinc 1 1, 3) := by decide +kernel
theorem dX12_undo_52 : decode cX12_undo 52 = .ok (.goto (-31), 3) := by decide +kernel
theorem dX12_undo_55 : decode cX12_undo 55 = .ok (.aload_n 0, 1) := by decide +kernel
theorem dX12_undo_56 : decode cX12_undo 56 = .ok (.getfield 249, 3) := by decide +kernel
theorem dX12_undo_59 : decode cX12_undo 59 = .ok (.ireturn, 1) := by decide +kernel
theorem dX12_begins_0 : decode cX12_begins 0 = .ok (.aload_n 0, 1) := by decide +kernel
theorem dX12_begins_1 : decode cX12_begins 1 = .ok (.getfield 7, 3) := by decide +kernel
theorem dX12_begins_4 : decode cX12_begins 4 = .ok (.iconst 1, 1) := by decide +kernel
theorem dX12_begins_5 : decode cX12_begins 5 = .ok (.iconst 1, 1) := by decide +kernel
theorem dX12_begins_6 : decode cX12_begins 6 = .ok (.iastore, 1) := by decide +kernel
theorem dX12_begins_7 : decode cX12_begins 7 = .ok (.aload_n 0, 1) := by decide +kernel
theorem dX12_begins_8 : decode cX12_begins 8 = .ok (.getfield 7, 3) := by decide +kernel
theorem dX12_begins_11 : decode cX12_begins 11 = .ok (.iconst 2, 1) := by decide +kernel
theorem dX12_begins_12 : decode cX12_begins 12 = .ok (.aload_n 0, 1) := by decide +kernel
theorem dX12_begins_13 : decode cX12_begins 13 = .ok (.getfield 335, 3) := by decide +kernel
theorem dX12_begins_16 : decode cX12_begins 16 = .ok (.iastore, 1) := by decide +kernel
theorem dX12_begins_17 : decode cX12_begins 17 = .ok (.aload_n 0, 1) := by decide +kernel
theorem dX12_begins_18 : decode cX12_begins 18 = .ok (.getfield 7, 3) := by decide +kernel
theorem dX12_begins_21 : decode cX12_begins 21 = .ok (.iconst 3, 1) := by decide +kernel
theorem dX12_begins_22 : decode cX12_begins 22 = .ok (.aload_n 0, 1) := by decide +kernel
theorem dX12_begins_23 : decode cX12_begins 23 = .ok (.getfield 329, 3) := by decide +kernel
theorem dX12_begins_26 : decode cX12_begins 26 = .ok (.iastore, 1) := by decide +kernel
theorem dX12_begins_27 : decode cX12_begins 27 = .ok (.iconst 0, 1) := by decide +kernel
theorem dX12_begins_28 : decode cX12_begins 28 = .ok (.istore_n 1, 1) := by decide +kernel
theorem dX12_begins_29 : decode cX12_begins 29 = .ok (.iload_n 1, 1) := by decide +kernel
theorem dX12_begins_30 : decode cX12_begins 30 = .ok (.iconst 3, 1) := by decide +kernel
theorem dX12_begins_31 : decode cX12_begins 31 = .ok (.if_icmp .ge 38, 3) := by decide +kernel
theorem dX12_begins_34 : decode cX12_begins 34 = .ok (.aload_n 0, 1) := by decide +kernel
theorem dX12_begins_35 : decode cX12_begins 35 = .ok (.getfield 7, 3) := by decide +kernel
theorem dX12_begins_38 : decode cX12_begins 38 = .ok (.iconst 4, 1) := by decide +kernel
theorem dX12_begins_39 : decode cX12_begins 39 = .ok (.iload_n 1, 1) := by decide +kernel
theorem dX12_begins_40 : decode cX12_begins 40 = .ok (.iadd, 1) := by decide +kernel
theorem dX12_begins_41 : decode cX12_begins 41 = .ok (.aload_n 0, 1) := by decide +kernel
theorem dX12_begins_42 : decode cX12_begins 42 = .ok (.iload_n 1, 1) := by decide +kernel
theorem dX12_begins_43 : decode cX12_begins 43 = .ok (.iconst 0, 1) := by decide +kernel
theorem dX12_begins_44 : decode cX12_begins 44 = .ok (.invokevirtual 338, 3) := by decide +kernel
theorem dX12_begins_47 : decode cX12_begins 47 = .ok (.iastore, 1) := by decide +kernel
theorem dX12_begins_48 : decode cX12_begins 48 = .ok (.aload_n 0, 1) := by decide +kernel
theorem dX12_begins_49 : decode cX12_begins 49 = .ok (.getfield 7, 3) := by decide +kernel
theorem dX12_begins_52 : decode cX12_begins 52 = .ok (.bipush 7, 2) := by decide +kernel
theorem dX12_begins_54 : decode cX12_begins 54 = .ok (.iload_n 1, 1) := by decide +kernel
theorem dX12_begins_55 : decode cX12_begins 55 = .ok (.iadd, 1) := by decide +kernel
theorem dX12_begins_56 : decode cX12_begins 56 = .ok (.aload_n 0, 1) := by decide +kernel
theorem dX12_begins_57 : decode cX12_begins 57 = .ok (.getfield 61, 3) := by decide +kernel
theorem dX12_begins_60 : decode cX12_begins 60 = .ok (.iload_n 1, 1) := by decide +kernel
theorem dX12_begins_61 : decode cX12_begins 61 = .ok (.iaload, 1) := by decide +kernel
theorem dX12_begins_62 : decode cX12_begins 62 = .ok (.iastore, 1) := by decide +kernel
theorem dX12_begins_63 : decode cX12_begins 63 = .ok (.iinc 1 1, 3) := by decide +kernel
theorem dX12_begins_66 : decode cX12_begins 66 = .ok (.goto (-37), 3) := by decide +kernel
theorem dX12_begins_69 : decode cX12_begins 69 = .ok (.aload_n 0, 1) := by decide +kernel
theorem dX12_begins_70 : decode cX12_begins 70 = .ok (.getfield 7, 3) := by decide +kernel
theorem dX12_begins_73 : decode cX12_begins 73 = .ok (.bipush 10, 2) := by decide +kernel
theorem dX12_begins_75 : decode cX12_begins 75 = .ok (.aload_n 0, 1) := by decide +kernel
theorem dX12_begins_76 : decode cX12_begins 76 = .ok (.getfield 347, 3) := by decide +kernel
theorem dX12_begins_79 : decode cX12_begins 79 = .ok (.iastore, 1) := by decide +kernel
theorem dX12_begins_80 : decode cX12_begins 80 = .ok (.aload_n 0, 1) := by decide +kernel
theorem dX12_begins_81 : decode cX12_begins 81 = .ok (.getfield 7, 3) := by decide +kernel
theorem dX12_begins_84 : decode cX12_begins 84 = .ok (.bipush 11, 2) := by decide +kernel
theorem dX12_begins_86 : decode cX12_begins 86 = .ok (.aload_n 0, 1) := by decide +kernel
theorem dX12_begins_87 : decode cX12_begins 87 = .ok (.getfield 350, 3) := by decide +kernel
theorem dX12_begins_90 : decode cX12_begins 90 = .ok (.iastore, 1) := by decide +kernel
theorem dX12_begins_91 : decode cX12_begins 91 = .ok (.aload_n 0, 1) := by decide +kernel
theorem dX12_begins_92 : decode cX12_begins 92 = .ok (.getfield 7, 3) := by decide +kernel
theorem dX12_begins_95 : decode cX12_begins 95 = .ok (.bipush 12, 2) := by decide +kernel
theorem dX12_begins_97 : decode cX12_begins 97 = .ok (.aload_n 0, 1) := by decide +kernel
theorem dX12_begins_98 : decode cX12_begins 98 = .ok (.getfield 286, 3) := by decide +kernel
theorem dX12_begins_101 : decode cX12_begins 101 = .ok (.iastore, 1) := by decide +kernel
theorem dX12_begins_102 : decode cX12_begins 102 = .ok (.aload_n 0, 1) := by decide +kernel
theorem dX12_begins_103 : decode cX12_begins 103 = .ok (.getfield 7, 3) := by decide +kernel
theorem dX12_begins_106 : decode cX12_begins 106 = .ok (.bipush 13, 2) := by decide +kernel
theorem dX12_begins_108 : decode cX12_begins 108 = .ok (.aload_n 0, 1) := by decide +kernel
theorem dX12_begins_109 : decode cX12_begins 109 = .ok (.getfield 357, 3) := by decide +kernel
theorem dX12_begins_112 : decode cX12_begins 112 = .ok (.iastore, 1) := by decide +kernel
theorem dX12_begins_113 : decode cX12_begins 113 = .ok (.aload_n 0, 1) := by decide +kernel
theorem dX12_begins_114 : decode cX12_begins 114 = .ok (.getfield 7, 3) := by decide +kernel
theorem dX12_begins_117 : decode cX12_begins 117 = .ok (.bipush 14, 2) := by decide +kernel
theorem dX12_begins_119 : decode cX12_begins 119 = .ok (.aload_n 0, 1) := by decide +kernel
theorem dX12_begins_120 : decode cX12_begins 120 = .ok (.getfield 363, 3) := by decide +kernel
theorem dX12_begins_123 : decode cX12_begins 123 = .ok (.iastore, 1) := by decide +kernel
theorem dX12_begins_124 : decode cX12_begins 124 = .ok (.aload_n 0, 1) := by decide +kernel
theorem dX12_begins_125 : decode cX12_begins 125 = .ok (.getfield 7, 3) := by decide +kernel
theorem dX12_begins_128 : decode cX12_begins 128 = .ok (.bipush 15, 2) := by decide +kernel
theorem dX12_begins_130 : decode cX12_begins 130 = .ok (.iconst 0, 1) := by decide +kernel
theorem dX12_begins_131 : decode cX12_begins 131 = .ok (.iastore, 1) := by decide +kernel
theorem dX12_begins_132 : decode cX12_begins 132 = .ok (.aload_n 0, 1) := by decide +kernel
theorem dX12_begins_133 : decode cX12_begins 133 = .ok (.getfield 7, 3) := by decide +kernel
theorem dX12_begins_136 : decode cX12_begins 136 = .ok (.bipush 16, 2) := by decide +kernel
theorem dX12_begins_138 : decode cX12_begins 138 = .ok (.iconst 0, 1) := by decide +kernel
theorem dX12_begins_139 : decode cX12_begins 139 = .ok (.iastore, 1) := by decide +kernel
theorem dX12_begins_140 : decode cX12_begins 140 = .ok (.aload_n 0, 1) := by decide +kernel
theorem dX12_begins_141 : decode cX12_begins 141 = .ok (.getfield 7, 3) := by decide +kernel
theorem dX12_begins_144 : decode cX12_begins 144 = .ok (.bipush 17, 2) := by decide +kernel
theorem dX12_begins_146 : decode cX12_begins 146 = .ok (.iconst 0, 1) := by decide +kernel
theorem dX12_begins_147 : decode cX12_begins 147 = .ok (.iastore, 1) := by decide +kernel
theorem dX12_begins_148 : decode cX12_begins 148 = .ok (.aload_n 0, 1) := by decide +kernel
theorem dX12_begins_149 : decode cX12_begins 149 = .ok (.getfield 7, 3) := by decide +kernel
theorem dX12_begins_152 : decode cX12_begins 152 = .ok (.bipush 20, 2) := by decide +kernel
theorem dX12_begins_154 : decode cX12_begins 154 = .ok (.iconst 0, 1) := by decide +kernel
theorem dX12_begins_155 : decode cX12_begins 155 = .ok (.iastore, 1) := by decide +kernel
theorem dX12_begins_156 : decode cX12_begins 156 = .ok (.iconst 0, 1) := by decide +kernel
theorem dX12_begins_157 : decode cX12_begins 157 = .ok (.istore_n 1, 1) := by decide +kernel
theorem dX12_begins_158 : decode cX12_begins 158 = .ok (.iload_n 1, 1) := by decide +kernel
theorem dX12_begins_159 : decode cX12_begins 159 = .ok (.aload_n 0, 1) := by decide +kernel
theorem dX12_begins_160 : decode cX12_begins 160 = .ok (.getfield 286, 3) := by decide +kernel
theorem dX12_begins_163 : decode cX12_begins 163 = .ok (.if_icmp .ge 24, 3) := by decide +kernel
theorem dX12_begins_166 : decode cX12_begins 166 = .ok (.aload_n 0, 1) := by decide +kernel
theorem dX12_begins_167 : decode cX12_begins 167 = .ok (.getfield 7, 3) := by decide +kernel
theorem dX12_begins_170 : decode cX12_begins 170 = .ok (.bipush 66, 2) := by decide +kernel
theorem dX12_begins_172 : decode cX12_begins 172 = .ok (.iload_n 1, 1) := by decide +kernel
theorem dX12_begins_173 : decode cX12_begins 173 = .ok (.iadd, 1) := by decide +kernel
theorem dX12_begins_174 : decode cX12_begins 174 = .ok (.aload_n 0, 1) := by decide +kernel
theorem dX12_begins_175 : decode cX12_begins 175 = .ok (.getfield 58, 3) := by decide +kernel
theorem dX12_begins_178 : decode cX12_begins 178 = .ok (.iload_n 1, 1) := by decide +kernel
theorem dX12_begins_179 : decode cX12_begins 179 = .ok (.iaload, 1) := by decide +kernel
theorem dX12_begins_180 : decode cX12_begins 180 = .ok (.iastore, 1) := by decide +kernel
theorem dX12_begins_181 : decode cX12_begins 181 = .ok (.iinc 1 1, 3) := by decide +kernel
theorem dX12_begins_184 : decode cX12_begins 184 = .ok (.goto (-26), 3) := by decide +kernel
theorem dX12_begins_187 : decode cX12_begins 187 = .ok (.return_, 1) := by decide +kernel
def zjX12_pathAt_34 (sh : zShp) (k0 : Nat) (p1 : Int32) (p2 : Int32) (p3 : Int32) (p4 : Int32) (p5 : Int32)  (M : zMem) : Option (Int32 × zMem) :=
  some ((-2147483648 : Int32), M)
def zbX12_pathAt_43 (sh : zShp) (k0 : Nat) (p1 : Int32) (p2 : Int32) (p3 : Int32) (p4 : Int32) (p5 : Int32)  (kk43 : Int32 → Int32 → zMem → Option (Int32 × zMem)) (x6 : Int32) (x7 : Int32) (M : zMem) : Option (Int32 × zMem) :=
  if p5 ≤ x7 then (
  zob (zX12_axisAt sh k0 p4 (0 : Int32) M) fun r_3 =>
  zgd (zin p4 (zlen sh (zR M k0 37))) <|
  zob (zX12_goneBy sh x6 (zI M (zR M k0 37) p4.toNatClampNeg) (zI M k0 39) M) fun r_7 =>
  some ((r_3 + r_7), M))
  else (
  zob (zX12_speedOf sh k0 x7 M) fun r_9 =>
  kk43 (x6 + r_9) (x7 + (1 : Int32)) M)
def zlX12_pathAt_43 (sh : zShp) (k0 : Nat) (p1 : Int32) (p2 : Int32) (p3 : Int32) (p4 : Int32) (p5 : Int32)  : Nat → Int32 → Int32 → zMem → Option (Int32 × zMem)
  | 0 => fun _ _ _ => none
  | n + 1 => fun x6 x7 M => zbX12_pathAt_43 sh k0 p1 p2 p3 p4 p5  (zlX12_pathAt_43 sh k0 p1 p2 p3 p4 p5  n) x6 x7 M
def zX12_pathAt (sh : zShp) (k0 : Nat) (p1 : Int32) (p2 : Int32) (p3 : Int32) (p4 : Int32) (p5 : Int32) (M : zMem) : Option (Int32 × zMem) :=
  zob (zX12_isAxis sh k0 p4 M) fun r_11 =>
  if r_11 = 0 then (
  zjX12_pathAt_34 sh k0 p1 p2 p3 p4 p5 M)
  else (
  zob2 (zX12_canGo sh k0 p1 p2 p3 M) fun r_14 M_15 =>
  if r_14 = 0 then (
  zjX12_pathAt_34 sh k0 p1 p2 p3 p4 p5 M_15)
  else (
  zob (zX12_planTicks sh k0 M_15) fun r_18 =>
  zob (zX12_isIn sh (p5.toInt64) (0 : Int64) (r_18.toInt64) M_15) fun r_20 =>
  if r_20 = 0 then (
  zjX12_pathAt_34 sh k0 p1 p2 p3 p4 p5 M_15)
  else (
  zlX12_pathAt_43 sh k0 p1 p2 p3 p4 p5 zF (0 : Int32) (0 : Int32) M_15)))
set_option maxHeartbeats 4000000 in
set_option maxRecDepth 100000 in
theorem ztX12_pathAt (l : Launch) (D : va_G) (cy : Nat → ClassId) (sh : zShp) (ad : Nat → Nat) {k0 : Nat} {p1 : Int32} {p2 : Int32} {p3 : Int32} {p4 : Int32} {p5 : Int32} (h0 : zT sh k0 12) {M : zMem} {r : Int32} {M1 : zMem} (hd : zX12_pathAt sh k0 p1 p2 p3 p4 p5 M = some (r, M1)) : zCI l yX12_pathAt cX12_pathAt 8 .int { frames := 5, cells := 0, slots := 0, locals := 124 } [.ref (ad k0), .int p1, .int p2, .int p3, .int p4, .int p5] D cy sh ad M r M1 := by
  refine zci_of (by decide) (Nat.le_of_ble_eq_true rfl) (fun p e s m below meth c ls F hr hlk hl hw => ?_)
  have hx := F.1.1
  have hb := F.1.2.1
  have hl : lv_has ls 8 [(0, .ref (ad k0)), (1, .int p1), (2, .int p2), (3, .int p3), (4, .int p4), (5, .int p5)] := hl
  have J34 : ∀ (M : zMem) (H : Heap) (locs : List Loc) (ls : Array Slot), lv_has ls 8 [] → zWd D cy sh ad s M H locs → zjX12_pathAt_34 sh k0 p1 p2 p3 p4 p5  M = some (r, M1) → W p l e { frames := 5, cells := 0, slots := 0, locals := 124 } s m ([.ref (ad k0), .int p1, .int p2, .int p3, .int p4, .int p5] : List Value).toArray below meth c H locs 0 0 (zQI below D cy sh ad s [.ref (ad k0), .int p1, .int p2, .int p3, .int p4, .int p5] r M1) (F0 m 34 ls []) := by
    intro  M H locs ls hl hw hd
    unfold zjX12_pathAt_34 at hd
    refine lv_ldc (v := (-2147483648 : Int32)) hx hb F.1.2.2.2.1 (F.1.2.2.2.2 _ zi12_254) dX12_pathAt_34 ?_
    exact z_iret F hr hlk hw (zpr1 hd) (zpr2 hd) dX12_pathAt_36
  have L43 : ∀  (n : Nat), ∀ (x6 : Int32) (x7 : Int32) (M : zMem) (H : Heap) (locs : List Loc) (ls : Array Slot), lv_has ls 8 [(0, .ref (ad k0)), (4, .int p4), (5, .int p5), (6, .int x6), (7, .int x7)] → zWd D cy sh ad s M H locs → zlX12_pathAt_43 sh k0 p1 p2 p3 p4 p5  n x6 x7 M = some (r, M1) → W p l e { frames := 5, cells := 0, slots := 0, locals := 124 } s m ([.ref (ad k0), .int p1, .int p2, .int p3, .int p4, .int p5] : List Value).toArray below meth c H locs 0 0 (zQI below D cy sh ad s [.ref (ad k0), .int p1, .int p2, .int p3, .int p4, .int p5] r M1) (F0 m 43 ls []) := by
    intro  n
    induction n with
    | zero => intro x6 x7 M H locs ls hl hw hd; exact (znone hd).elim
    | succ n hk43 =>
      intro x6 x7 M H locs ls hl hw hd
      have hd : zbX12_pathAt_43 sh k0 p1 p2 p3 p4 p5  (zlX12_pathAt_43 sh k0 p1 p2 p3 p4 p5  n) x6 x7 M = some (r, M1) := hd
      unfold zbX12_pathAt_43 at hd
      refine lv_iload hx hb dX12_pathAt_43 (lv_at hl 4 rfl) ?_
      refine lv_iload hx hb dX12_pathAt_45 (lv_at hl 2 rfl) ?_
      refine lv_icmp_ge (tgt := 67) hx hb dX12_pathAt_47 (by decide) (fun c_1 => ?_) (fun c_1 => ?_)
      · have hd := zif_pos c_1 hd
        refine lv_aload_n hx hb dX12_pathAt_67 rfl (lv_at hl 0 rfl) ?_
        refine lv_iload hx hb dX12_pathAt_68 (lv_at hl 1 rfl) ?_
        refine lv_iconst (v := (0 : Int32)) hx hb dX12_pathAt_70 (by decide) ?_
        obtain ⟨r_3, hc_2, hd⟩ := zob_some hd
        refine z_cvI F hw hl.1 (As := [.int p4, .int (0 : Int32)]) (rest := []) (ztX12_axisAt l D cy sh ad h0 hc_2) zyX12_axisAt h0 zc12 zk12_338 ⟨rfl, rfl⟩ ⟨by decide, by decide⟩ rfl rfl (Nat.le_of_ble_eq_true rfl) dX12_pathAt_71 (fun H locs hw => ?_)
        refine lv_iload hx hb dX12_pathAt_74 (lv_at hl 3 rfl) ?_
        refine lv_aload_n hx hb dX12_pathAt_76 rfl (lv_at hl 0 rfl) ?_
        refine z_gR F hw h0 zc12 37 (by decide) rfl zf12_61 dX12_pathAt_77 ?_
        have t_4 : zT sh (zR M k0 37) 14 := hw.2.2.2.fld h0 37 14
        refine lv_iload hx hb dX12_pathAt_80 (lv_at hl 1 rfl) ?_
        obtain ⟨g_5, hd⟩ := zgd_some hd
        refine z_iald F hw t_4 g_5 dX12_pathAt_82 ?_
        refine lv_aload_n hx hb dX12_pathAt_83 rfl (lv_at hl 0 rfl) ?_
        refine z_gI F hw h0 zc12 39 (by decide) rfl zf12_329 dX12_pathAt_84 ?_
        obtain ⟨r_7, hc_6, hd⟩ := zob_some hd
        refine z_csI F hw hl.1 (As := [.int x6, .int (zI M (zR M k0 37) p4.toNatClampNeg), .int (zI M k0 39)]) (rest := [.int r_3]) (ztX12_goneBy l D cy sh ad  hc_6) zyX12_goneBy zk12_387 ⟨rfl, rfl⟩ ⟨by decide, by decide⟩ rfl rfl (Nat.le_of_ble_eq_true rfl) dX12_pathAt_87 (fun H locs hw => ?_)
        refine lv_iadd hx hb dX12_pathAt_90 ?_
        exact z_iret F hr hlk hw (zpr1 hd) (zpr2 hd) dX12_pathAt_91
      · have hd := zif_neg c_1 hd
        refine lv_iload hx hb dX12_pathAt_50 (lv_at hl 3 rfl) ?_
        refine lv_aload_n hx hb dX12_pathAt_52 rfl (lv_at hl 0 rfl) ?_
        refine lv_iload hx hb dX12_pathAt_53 (lv_at hl 4 rfl) ?_
        obtain ⟨r_9, hc_8, hd⟩ := zob_some hd
        refine z_cvI F hw hl.1 (As := [.int x7]) (rest := [.int x6]) (ztX12_speedOf l D cy sh ad h0 hc_8) zyX12_speedOf h0 zc12 zk12_384 ⟨rfl, rfl⟩ ⟨by decide, by decide⟩ rfl rfl (Nat.le_of_ble_eq_true rfl) dX12_pathAt_55 (fun H locs hw => ?_)
        refine lv_iadd hx hb dX12_pathAt_58 ?_
        refine lv_istore (lv' := [(6, .int (x6 + r_9)), (0, .ref (ad k0)), (4, .int p4), (5, .int p5), (7, .int x7)]) hx hb dX12_pathAt_59 hl (by decide) rfl (fun ls hl => ?_)
        refine lv_iinc (v := (x7 + (1 : Int32))) (lv' := [(7, .int (x7 + (1 : Int32))), (6, .int (x6 + r_9)), (0, .ref (ad k0)), (4, .int p4), (5, .int p5)]) hx hb dX12_pathAt_61 hl (k := 4) rfl (ziinc (by decide)) (by decide) rfl (fun ls hl => ?_)
        refine lv_goto (tgt := 43) hx hb dX12_pathAt_64 (by decide) ?_
        exact hk43 _ _ _ _ _ _ (lv_sub hl [2, 3, 4, 1, 0] rfl) hw hd
  unfold zX12_pathAt at hd
  refine lv_aload_n hx hb dX12_pathAt_0 rfl (lv_at hl 0 rfl) ?_
  refine lv_iload hx hb dX12_pathAt_1 (lv_at hl 4 rfl) ?_
  obtain ⟨r_11, hc_10, hd⟩ := zob_some hd
  refine z_cvI F hw hl.1 (As := [.int p4]) (rest := []) (ztX12_isAxis l D cy sh ad h0 hc_10) zyX12_isAxis h0 zc12 zk12_312 ⟨rfl, rfl⟩ ⟨by decide, by decide⟩ rfl rfl (Nat.le_of_ble_eq_true rfl) dX12_pathAt_3 (fun H locs hw => ?_)
  refine lv_if_eq (tgt := 34) hx hb dX12_pathAt_6 (by decide) (fun c_12 => ?_) (fun c_12 => ?_)
  · have hd := zif_pos c_12 hd
    exact J34 _ _ _ _ (lv_sub hl [] rfl) hw hd
  · have hd := zif_neg c_12 hd
    refine lv_aload_n hx hb dX12_pathAt_9 rfl (lv_at hl 0 rfl) ?_
    refine lv_iload_n hx hb dX12_pathAt_10 rfl (lv_at hl 1 rfl) ?_
    refine lv_iload_n hx hb dX12_pathAt_11 rfl (lv_at hl 2 rfl) ?_
    refine lv_iload_n hx hb dX12_pathAt_12 rfl (lv_at hl 3 rfl) ?_
    obtain ⟨r_14, M_15, hc_13, hd⟩ := zob2_some hd
    refine z_cvI F hw hl.1 (As := [.int p1, .int p2, .int p3]) (rest := []) (ztX12_canGo l D cy sh ad h0 hc_13) zyX12_canGo h0 zc12 zk12_375 ⟨rfl, rfl⟩ ⟨by decide, by decide⟩ rfl rfl (Nat.le_of_ble_eq_true rfl) dX12_pathAt_13 (fun H locs hw => ?_)
    refine lv_if_eq (tgt := 34) hx hb dX12_pathAt_16 (by decide) (fun c_16 => ?_) (fun c_16 => ?_)
    · have hd := zif_pos c_16 hd
      exact J34 _ _ _ _ (lv_sub hl [] rfl) hw hd
    · have hd := zif_neg c_16 hd
      refine lv_iload hx hb dX12_pathAt_19 (lv_at hl 5 rfl) ?_
      refine lv_i2l (v := p5.toInt64) hx hb dX12_pathAt_21 rfl ?_
      refine lv_lconst (v := (0 : Int64)) hx hb dX12_pathAt_22 (by decide) ?_
      refine lv_aload_n hx hb dX12_pathAt_23 rfl (lv_at hl 0 rfl) ?_
      obtain ⟨r_18, hc_17, hd⟩ := zob_some hd
      refine z_cvI F hw hl.1 (As := []) (rest := [.long (0 : Int64), .long (p5.toInt64)]) (ztX12_planTicks l D cy sh ad h0 hc_17) zyX12_planTicks h0 zc12 zk12_378 ⟨rfl, rfl⟩ ⟨by decide, by decide⟩ rfl rfl (Nat.le_of_ble_eq_true rfl) dX12_pathAt_24 (fun H locs hw => ?_)
      refine lv_i2l (v := r_18.toInt64) hx hb dX12_pathAt_27 rfl ?_
      obtain ⟨r_20, hc_19, hd⟩ := zob_some hd
      refine z_csI F hw hl.1 (As := [.long (p5.toInt64), .long (0 : Int64), .long (r_18.toInt64)]) (rest := []) (ztX12_isIn l D cy sh ad  hc_19) zyX12_isIn zk12_91 ⟨rfl, rfl⟩ ⟨by decide, by decide⟩ rfl rfl (Nat.le_of_ble_eq_true rfl) dX12_pathAt_28 (fun H locs hw => ?_)
      refine lv_if_ne (tgt := 37) hx hb dX12_pathAt_31 (by decide) (fun c_21 => ?_) (fun c_21 => ?_)
      · have hd := zif_neg c_21 hd
        refine lv_iconst (v := (0 : Int32)) hx hb dX12_pathAt_37 (by decide) ?_
        refine lv_istore (lv' := [(6, .int (0 : Int32)), (0, .ref (ad k0)), (1, .int p1), (2, .int p2), (3, .int p3), (4, .int p4), (5, .int p5)]) hx hb dX12_pathAt_38 hl (by decide) rfl (fun ls hl => ?_)
        refine lv_iconst (v := (0 : Int32)) hx hb dX12_pathAt_40 (by decide) ?_
        refine lv_istore (lv' := [(7, .int (0 : Int32)), (6, .int (0 : Int32)), (0, .ref (ad k0)), (1, .int p1), (2, .int p2), (3, .int p3), (4, .int p4), (5, .int p5)]) hx hb dX12_pathAt_41 hl (by decide) rfl (fun ls hl => ?_)
        exact L43 zF _ _ _ _ _ _ (lv_sub hl [2, 6, 7, 1, 0] rfl) hw hd
      · have hd := zif_pos c_21 hd
        exact J34 _ _ _ _ (lv_sub hl [] rfl) hw hd

def zbX12_due_4 (sh : zShp) (k0 : Nat) (p1 : Int32) (M : zMem)  (kk4 : Int32 → Int32 → Option (Int32)) (x2 : Int32) (x3 : Int32) : Option (Int32) :=
  zob (zX12_speedOf sh k0 x3 M) fun r_2 =>
  if p1 ≤ (x2 + r_2) then (
  zob (zX12_speedOf sh k0 x3 M) fun r_5 =>
  zgd (znz r_5) <|
  some (((1000 : Int32) * x3) + (((1000 : Int32) * (p1 - x2)) / r_5)))
  else (
  zob (zX12_speedOf sh k0 x3 M) fun r_8 =>
  kk4 (x2 + r_8) (x3 + (1 : Int32)))
def zlX12_due_4 (sh : zShp) (k0 : Nat) (p1 : Int32) (M : zMem)  : Nat → Int32 → Int32 → Option (Int32)
  | 0 => fun _ _ => none
  | n + 1 => fun x2 x3 => zbX12_due_4 sh k0 p1 M  (zlX12_due_4 sh k0 p1 M  n) x2 x3
def zX12_due (sh : zShp) (k0 : Nat) (p1 : Int32) (M : zMem) : Option (Int32) :=
  zlX12_due_4 sh k0 p1 M zF (0 : Int32) (0 : Int32)
set_option maxHeartbeats 4000000 in
set_option maxRecDepth 100000 in
theorem ztX12_due (l : Launch) (D : va_G) (cy : Nat → ClassId) (sh : zShp) (ad : Nat → Nat) {k0 : Nat} {p1 : Int32} (h0 : zT sh k0 12) {M : zMem} {r : Int32} (hd : zX12_due sh k0 p1 M = some r) : zCI l yX12_due cX12_due 4 .int { frames := 2, cells := 0, slots := 0, locals := 44 } [.ref (ad k0), .int p1] D cy sh ad M r M := by
  refine zci_of (by decide) (Nat.le_of_ble_eq_true rfl) (fun p e s m below meth c ls F hr hlk hl hw => ?_)
  have hx := F.1.1
  have hb := F.1.2.1
  have hl : lv_has ls 4 [(0, .ref (ad k0)), (1, .int p1)] := hl
  have L4 : ∀  (n : Nat), ∀ (x2 : Int32) (x3 : Int32) (H : Heap) (locs : List Loc) (ls : Array Slot), lv_has ls 4 [(0, .ref (ad k0)), (1, .int p1), (2, .int x2), (3, .int x3)] → zWd D cy sh ad s M H locs → zlX12_due_4 sh k0 p1 M  n x2 x3 = some r → W p l e { frames := 2, cells := 0, slots := 0, locals := 44 } s m ([.ref (ad k0), .int p1] : List Value).toArray below meth c H locs 0 0 (zQI below D cy sh ad s [.ref (ad k0), .int p1] r M) (F0 m 4 ls []) := by
    intro  n
    induction n with
    | zero => intro x2 x3 H locs ls hl hw hd; exact (znone hd).elim
    | succ n hk4 =>
      intro x2 x3 H locs ls hl hw hd
      have hd : zbX12_due_4 sh k0 p1 M  (zlX12_due_4 sh k0 p1 M  n) x2 x3 = some r := hd
      unfold zbX12_due_4 at hd
      refine lv_iload_n hx hb dX12_due_4 rfl (lv_at hl 2 rfl) ?_
      refine lv_aload_n hx hb dX12_due_5 rfl (lv_at hl 0 rfl) ?_
      refine lv_iload_n hx hb dX12_due_6 rfl (lv_at hl 3 rfl) ?_
      obtain ⟨r_2, hc_1, hd⟩ := zob_some hd
      refine z_cvI F hw hl.1 (As := [.int x3]) (rest := [.int x2]) (ztX12_speedOf l D cy sh ad h0 hc_1) zyX12_speedOf h0 zc12 zk12_384 ⟨rfl, rfl⟩ ⟨by decide, by decide⟩ rfl rfl (Nat.le_of_ble_eq_true rfl) dX12_due_7 (fun H locs hw => ?_)
      refine lv_iadd hx hb dX12_due_10 ?_
      refine lv_iload_n hx hb dX12_due_11 rfl (lv_at hl 1 rfl) ?_
      refine lv_icmp_ge (tgt := 29) hx hb dX12_due_12 (by decide) (fun c_3 => ?_) (fun c_3 => ?_)
      · have hd := zif_pos c_3 hd
        refine lv_sipush (v := (1000 : Int32)) hx hb dX12_due_29 (by decide) ?_
        refine lv_iload_n hx hb dX12_due_32 rfl (lv_at hl 3 rfl) ?_
        refine lv_imul hx hb dX12_due_33 ?_
        refine lv_sipush (v := (1000 : Int32)) hx hb dX12_due_34 (by decide) ?_
        refine lv_iload_n hx hb dX12_due_37 rfl (lv_at hl 1 rfl) ?_
        refine lv_iload_n hx hb dX12_due_38 rfl (lv_at hl 2 rfl) ?_
        refine lv_isub hx hb dX12_due_39 ?_
        refine lv_imul hx hb dX12_due_40 ?_
        refine lv_aload_n hx hb dX12_due_41 rfl (lv_at hl 0 rfl) ?_
        refine lv_iload_n hx hb dX12_due_42 rfl (lv_at hl 3 rfl) ?_
        obtain ⟨r_5, hc_4, hd⟩ := zob_some hd
        refine z_cvI F hw hl.1 (As := [.int x3]) (rest := [.int ((1000 : Int32) * (p1 - x2)), .int ((1000 : Int32) * x3)]) (ztX12_speedOf l D cy sh ad h0 hc_4) zyX12_speedOf h0 zc12 zk12_384 ⟨rfl, rfl⟩ ⟨by decide, by decide⟩ rfl rfl (Nat.le_of_ble_eq_true rfl) dX12_due_43 (fun H locs hw => ?_)
        obtain ⟨g_6, hd⟩ := zgd_some hd
        refine lv_idiv hx hb dX12_due_46 (znz_ne g_6) ?_
        refine lv_iadd hx hb dX12_due_47 ?_
        exact z_iret F hr hlk hw (Option.some.inj hd) rfl dX12_due_48
      · have hd := zif_neg c_3 hd
        refine lv_iload_n hx hb dX12_due_15 rfl (lv_at hl 2 rfl) ?_
        refine lv_aload_n hx hb dX12_due_16 rfl (lv_at hl 0 rfl) ?_
        refine lv_iload_n hx hb dX12_due_17 rfl (lv_at hl 3 rfl) ?_
        obtain ⟨r_8, hc_7, hd⟩ := zob_some hd
        refine z_cvI F hw hl.1 (As := [.int x3]) (rest := [.int x2]) (ztX12_speedOf l D cy sh ad h0 hc_7) zyX12_speedOf h0 zc12 zk12_384 ⟨rfl, rfl⟩ ⟨by decide, by decide⟩ rfl rfl (Nat.le_of_ble_eq_true rfl) dX12_due_18 (fun H locs hw => ?_)
        refine lv_iadd hx hb dX12_due_21 ?_
        refine lv_istore_n (lv' := [(2, .int (x2 + r_8)), (0, .ref (ad k0)), (1, .int p1), (3, .int x3)]) hx hb dX12_due_22 rfl hl (by decide) rfl (fun ls hl => ?_)
        refine lv_iinc (v := (x3 + (1 : Int32))) (lv' := [(3, .int (x3 + (1 : Int32))), (2, .int (x2 + r_8)), (0, .ref (ad k0)), (1, .int p1)]) hx hb dX12_due_23 hl (k := 3) rfl (ziinc (by decide)) (by decide) rfl (fun ls hl => ?_)
        refine lv_goto (tgt := 4) hx hb dX12_due_26 (by decide) ?_
        exact hk4 _ _ _ _ _ (lv_sub hl [2, 3, 1, 0] rfl) hw hd
  unfold zX12_due at hd
  refine lv_iconst (v := (0 : Int32)) hx hb dX12_due_0 (by decide) ?_
  refine lv_istore_n (lv' := [(2, .int (0 : Int32)), (0, .ref (ad k0)), (1, .int p1)]) hx hb dX12_due_1 rfl hl (by decide) rfl (fun ls hl => ?_)
  refine lv_iconst (v := (0 : Int32)) hx hb dX12_due_2 (by decide) ?_
  refine lv_istore_n (lv' := [(3, .int (0 : Int32)), (2, .int (0 : Int32)), (0, .ref (ad k0)), (1, .int p1)]) hx hb dX12_due_3 rfl hl (by decide) rfl (fun ls hl => ?_)
  exact L4 zF _ _ _ _ _ (lv_sub hl [2, 3, 1, 0] rfl) hw hd

def zjX12_stamp_40 (sh : zShp) (k0 : Nat) (p1 : Int32) (p2 : Int32) (p3 : Int32) (p4 : Int32) (p5 : Int32)  (M : zMem) : Option (Int32 × zMem) :=
  some ((-1 : Int32), M)
def zbX12_stamp_45 (sh : zShp) (k0 : Nat) (p1 : Int32) (p2 : Int32) (p3 : Int32) (p4 : Int32) (p5 : Int32)  (kk45 : Int32 → zMem → Option (Int32 × zMem)) (x6 : Int32) (M : zMem) : Option (Int32 × zMem) :=
  zgd (zin p4 (zlen sh (zR M k0 37))) <|
  zob (zX12_goneBy sh x6 (zI M (zR M k0 37) p4.toNatClampNeg) (zI M k0 39) M) fun r_4 =>
  zob (zX12_size sh r_4 M) fun r_6 =>
  if p5 ≤ r_6 then (
  zob (zX12_due sh k0 x6 M) fun r_9 =>
  some (r_9, M))
  else (
  kk45 (x6 + (1 : Int32)) M)
def zlX12_stamp_45 (sh : zShp) (k0 : Nat) (p1 : Int32) (p2 : Int32) (p3 : Int32) (p4 : Int32) (p5 : Int32)  : Nat → Int32 → zMem → Option (Int32 × zMem)
  | 0 => fun _ _ => none
  | n + 1 => fun x6 M => zbX12_stamp_45 sh k0 p1 p2 p3 p4 p5  (zlX12_stamp_45 sh k0 p1 p2 p3 p4 p5  n) x6 M
def zX12_stamp (sh : zShp) (k0 : Nat) (p1 : Int32) (p2 : Int32) (p3 : Int32) (p4 : Int32) (p5 : Int32) (M : zMem) : Option (Int32 × zMem) :=
  zob (zX12_isAxis sh k0 p4 M) fun r_11 =>
  if r_11 = 0 then (
  zjX12_stamp_40 sh k0 p1 p2 p3 p4 p5 M)
  else (
  zob2 (zX12_canGo sh k0 p1 p2 p3 M) fun r_14 M_15 =>
  if r_14 = 0 then (
  zjX12_stamp_40 sh k0 p1 p2 p3 p4 p5 M_15)
  else (
  zgd (zin p4 (zlen sh (zR M_15 k0 37))) <|
  zob (zX12_size sh (zI M_15 (zR M_15 k0 37) p4.toNatClampNeg) M_15) fun r_20 =>
  zob (zX12_isIn sh (p5.toInt64) (1 : Int64) (r_20.toInt64) M_15) fun r_22 =>
  if r_22 = 0 then (
  zjX12_stamp_40 sh k0 p1 p2 p3 p4 p5 M_15)
  else (
  zlX12_stamp_45 sh k0 p1 p2 p3 p4 p5 zF (1 : Int32) M_15)))
set_option maxHeartbeats 4000000 in
set_option maxRecDepth 100000 in
theorem ztX12_stamp (l : Launch) (D : va_G) (cy : Nat → ClassId) (sh : zShp) (ad : Nat → Nat) {k0 : Nat} {p1 : Int32} {p2 : Int32} {p3 : Int32} {p4 : Int32} {p5 : Int32} (h0 : zT sh k0 12) {M : zMem} {r : Int32} {M1 : zMem} (hd : zX12_stamp sh k0 p1 p2 p3 p4 p5 M = some (r, M1)) : zCI l yX12_stamp cX12_stamp 7 .int { frames := 5, cells := 0, slots := 0, locals := 124 } [.ref (ad k0), .int p1, .int p2, .int p3, .int p4, .int p5] D cy sh ad M r M1 := by
  refine zci_of (by decide) (Nat.le_of_ble_eq_true rfl) (fun p e s m below meth c ls F hr hlk hl hw => ?_)
  have hx := F.1.1
  have hb := F.1.2.1
  have hl : lv_has ls 7 [(0, .ref (ad k0)), (1, .int p1), (2, .int p2), (3, .int p3), (4, .int p4), (5, .int p5)] := hl
  have J40 : ∀ (M : zMem) (H : Heap) (locs : List Loc) (ls : Array Slot), lv_has ls 7 [] → zWd D cy sh ad s M H locs → zjX12_stamp_40 sh k0 p1 p2 p3 p4 p5  M = some (r, M1) → W p l e { frames := 5, cells := 0, slots := 0, locals := 124 } s m ([.ref (ad k0), .int p1, .int p2, .int p3, .int p4, .int p5] : List Value).toArray below meth c H locs 0 0 (zQI below D cy sh ad s [.ref (ad k0), .int p1, .int p2, .int p3, .int p4, .int p5] r M1) (F0 m 40 ls []) := by
    intro  M H locs ls hl hw hd
    unfold zjX12_stamp_40 at hd
    refine lv_iconst (v := (-1 : Int32)) hx hb dX12_stamp_40 (by decide) ?_
    exact z_iret F hr hlk hw (zpr1 hd) (zpr2 hd) dX12_stamp_41
  have L45 : ∀  (n : Nat), ∀ (x6 : Int32) (M : zMem) (H : Heap) (locs : List Loc) (ls : Array Slot), lv_has ls 7 [(0, .ref (ad k0)), (4, .int p4), (5, .int p5), (6, .int x6)] → zWd D cy sh ad s M H locs → zlX12_stamp_45 sh k0 p1 p2 p3 p4 p5  n x6 M = some (r, M1) → W p l e { frames := 5, cells := 0, slots := 0, locals := 124 } s m ([.ref (ad k0), .int p1, .int p2, .int p3, .int p4, .int p5] : List Value).toArray below meth c H locs 0 0 (zQI below D cy sh ad s [.ref (ad k0), .int p1, .int p2, .int p3, .int p4, .int p5] r M1) (F0 m 45 ls []) := by
    intro  n
    induction n with
    | zero => intro x6 M H locs ls hl hw hd; exact (znone hd).elim
    | succ n hk45 =>
      intro x6 M H locs ls hl hw hd
      have hd : zbX12_stamp_45 sh k0 p1 p2 p3 p4 p5  (zlX12_stamp_45 sh k0 p1 p2 p3 p4 p5  n) x6 M = some (r, M1) := hd
      unfold zbX12_stamp_45 at hd
      refine lv_iload hx hb dX12_stamp_45 (lv_at hl 3 rfl) ?_
      refine lv_aload_n hx hb dX12_stamp_47 rfl (lv_at hl 0 rfl) ?_
      refine z_gR F hw h0 zc12 37 (by decide) rfl zf12_61 dX12_stamp_48 ?_
      have t_1 : zT sh (zR M k0 37) 14 := hw.2.2.2.fld h0 37 14
      refine lv_iload hx hb dX12_stamp_51 (lv_at hl 1 rfl) ?_
      obtain ⟨g_2, hd⟩ := zgd_some hd
      refine z_iald F hw t_1 g_2 dX12_stamp_53 ?_
      refine lv_aload_n hx hb dX12_stamp_54 rfl (lv_at hl 0 rfl) ?_
      refine z_gI F hw h0 zc12 39 (by decide) rfl zf12_329 dX12_stamp_55 ?_
      obtain ⟨r_4, hc_3, hd⟩ := zob_some hd
      refine z_csI F hw hl.1 (As := [.int x6, .int (zI M (zR M k0 37) p4.toNatClampNeg), .int (zI M k0 39)]) (rest := []) (ztX12_goneBy l D cy sh ad  hc_3) zyX12_goneBy zk12_387 ⟨rfl, rfl⟩ ⟨by decide, by decide⟩ rfl rfl (Nat.le_of_ble_eq_true rfl) dX12_stamp_58 (fun H locs hw => ?_)
      obtain ⟨r_6, hc_5, hd⟩ := zob_some hd
      refine z_csI F hw hl.1 (As := [.int r_4]) (rest := []) (ztX12_size l D cy sh ad  hc_5) zyX12_size zk12_273 ⟨rfl, rfl⟩ ⟨by decide, by decide⟩ rfl rfl (Nat.le_of_ble_eq_true rfl) dX12_stamp_61 (fun H locs hw => ?_)
      refine lv_iload hx hb dX12_stamp_64 (lv_at hl 2 rfl) ?_
      refine lv_icmp_ge (tgt := 75) hx hb dX12_stamp_66 (by decide) (fun c_7 => ?_) (fun c_7 => ?_)
      · have hd := zif_pos c_7 hd
        refine lv_aload_n hx hb dX12_stamp_75 rfl (lv_at hl 0 rfl) ?_
        refine lv_iload hx hb dX12_stamp_76 (lv_at hl 3 rfl) ?_
        obtain ⟨r_9, hc_8, hd⟩ := zob_some hd
        refine z_cvI F hw hl.1 (As := [.int x6]) (rest := []) (ztX12_due l D cy sh ad h0 hc_8) zyX12_due h0 zc12 zk12_390 ⟨rfl, rfl⟩ ⟨by decide, by decide⟩ rfl rfl (Nat.le_of_ble_eq_true rfl) dX12_stamp_78 (fun H locs hw => ?_)
        exact z_iret F hr hlk hw (zpr1 hd) (zpr2 hd) dX12_stamp_81
      · have hd := zif_neg c_7 hd
        refine lv_iinc (v := (x6 + (1 : Int32))) (lv' := [(6, .int (x6 + (1 : Int32))), (0, .ref (ad k0)), (4, .int p4), (5, .int p5)]) hx hb dX12_stamp_69 hl (k := 3) rfl (ziinc (by decide)) (by decide) rfl (fun ls hl => ?_)
        refine lv_goto (tgt := 45) hx hb dX12_stamp_72 (by decide) ?_
        exact hk45 _ _ _ _ _ (lv_sub hl [1, 2, 3, 0] rfl) hw hd
  unfold zX12_stamp at hd
  refine lv_aload_n hx hb dX12_stamp_0 rfl (lv_at hl 0 rfl) ?_
  refine lv_iload hx hb dX12_stamp_1 (lv_at hl 4 rfl) ?_
  obtain ⟨r_11, hc_10, hd⟩ := zob_some hd
  refine z_cvI F hw hl.1 (As := [.int p4]) (rest := []) (ztX12_isAxis l D cy sh ad h0 hc_10) zyX12_isAxis h0 zc12 zk12_312 ⟨rfl, rfl⟩ ⟨by decide, by decide⟩ rfl rfl (Nat.le_of_ble_eq_true rfl) dX12_stamp_3 (fun H locs hw => ?_)
  refine lv_if_eq (tgt := 40) hx hb dX12_stamp_6 (by decide) (fun c_12 => ?_) (fun c_12 => ?_)
  · have hd := zif_pos c_12 hd
    exact J40 _ _ _ _ (lv_sub hl [] rfl) hw hd
  · have hd := zif_neg c_12 hd
    refine lv_aload_n hx hb dX12_stamp_9 rfl (lv_at hl 0 rfl) ?_
    refine lv_iload_n hx hb dX12_stamp_10 rfl (lv_at hl 1 rfl) ?_
    refine lv_iload_n hx hb dX12_stamp_11 rfl (lv_at hl 2 rfl) ?_
    refine lv_iload_n hx hb dX12_stamp_12 rfl (lv_at hl 3 rfl) ?_
    obtain ⟨r_14, M_15, hc_13, hd⟩ := zob2_some hd
    refine z_cvI F hw hl.1 (As := [.int p1, .int p2, .int p3]) (rest := []) (ztX12_canGo l D cy sh ad h0 hc_13) zyX12_canGo h0 zc12 zk12_375 ⟨rfl, rfl⟩ ⟨by decide, by decide⟩ rfl rfl (Nat.le_of_ble_eq_true rfl) dX12_stamp_13 (fun H locs hw => ?_)
    refine lv_if_eq (tgt := 40) hx hb dX12_stamp_16 (by decide) (fun c_16 => ?_) (fun c_16 => ?_)
    · have hd := zif_pos c_16 hd
      exact J40 _ _ _ _ (lv_sub hl [] rfl) hw hd
    · have hd := zif_neg c_16 hd
      refine lv_iload hx hb dX12_stamp_19 (lv_at hl 5 rfl) ?_
      refine lv_i2l (v := p5.toInt64) hx hb dX12_stamp_21 rfl ?_
      refine lv_lconst (v := (1 : Int64)) hx hb dX12_stamp_22 (by decide) ?_
      refine lv_aload_n hx hb dX12_stamp_23 rfl (lv_at hl 0 rfl) ?_
      refine z_gR F hw h0 zc12 37 (by decide) rfl zf12_61 dX12_stamp_24 ?_
      have t_17 : zT sh (zR M_15 k0 37) 14 := hw.2.2.2.fld h0 37 14
      refine lv_iload hx hb dX12_stamp_27 (lv_at hl 4 rfl) ?_
      obtain ⟨g_18, hd⟩ := zgd_some hd
      refine z_iald F hw t_17 g_18 dX12_stamp_29 ?_
      obtain ⟨r_20, hc_19, hd⟩ := zob_some hd
      refine z_csI F hw hl.1 (As := [.int (zI M_15 (zR M_15 k0 37) p4.toNatClampNeg)]) (rest := [.long (1 : Int64), .long (p5.toInt64)]) (ztX12_size l D cy sh ad  hc_19) zyX12_size zk12_273 ⟨rfl, rfl⟩ ⟨by decide, by decide⟩ rfl rfl (Nat.le_of_ble_eq_true rfl) dX12_stamp_30 (fun H locs hw => ?_)
      refine lv_i2l (v := r_20.toInt64) hx hb dX12_stamp_33 rfl ?_
      obtain ⟨r_22, hc_21, hd⟩ := zob_some hd
      refine z_csI F hw hl.1 (As := [.long (p5.toInt64), .long (1 : Int64), .long (r_20.toInt64)]) (rest := []) (ztX12_isIn l D cy sh ad  hc_21) zyX12_isIn zk12_91 ⟨rfl, rfl⟩ ⟨by decide, by decide⟩ rfl rfl (Nat.le_of_ble_eq_true rfl) dX12_stamp_34 (fun H locs hw => ?_)
      refine lv_if_ne (tgt := 42) hx hb dX12_stamp_37 (by decide) (fun c_23 => ?_) (fun c_23 => ?_)
      · have hd := zif_neg c_23 hd
        refine lv_iconst (v := (1 : Int32)) hx hb dX12_stamp_42 (by decide) ?_
        refine lv_istore (lv' := [(6, .int (1 : Int32)), (0, .ref (ad k0)), (1, .int p1), (2, .int p2), (3, .int p3), (4, .int p4), (5, .int p5)]) hx hb dX12_stamp_43 hl (by decide) rfl (fun ls hl => ?_)
        exact L45 zF _ _ _ _ _ (lv_sub hl [1, 5, 6, 0] rfl) hw hd
      · have hd := zif_pos c_23 hd
        exact J40 _ _ _ _ (lv_sub hl [] rfl) hw hd

def zjX12_peak_21 (sh : zShp) (k0 : Nat) (p1 : Int32) (p2 : Int32) (p3 : Int32) (p4 : Int32)  (M : zMem) : Option (Int32 × zMem) :=
  some ((-1 : Int32), M)
def zjX12_peak_128 (sh : zShp) (k0 : Nat) (p1 : Int32) (p2 : Int32) (p3 : Int32) (p4 : Int32)  (s0 : Int32) (M : zMem) : Option (Int32 × zMem) :=
  some (s0, M)
def zjX12_peak_66 (sh : zShp) (k0 : Nat) (p1 : Int32) (p2 : Int32) (p3 : Int32) (p4 : Int32) (kk38 : Int32 → Int32 → Int32 → Int32 → Int32 → zMem → Option (Int32 × zMem)) (x5 : Int32) (x6 : Int32) (x7 : Int32) (x8 : Int32) (x9 : Int32) (s0 : Int32) (M : zMem) : Option (Int32 × zMem) :=
  zob (zX12_size sh (s0 - x7) M) fun r_2 =>
  zob (zX12_greater sh x5 r_2 M) fun r_4 =>
  zob (zX12_size sh ((s0 - x7) - x8) M) fun r_6 =>
  zob (zX12_greater sh x6 r_6 M) fun r_8 =>
  kk38 r_4 r_8 s0 (s0 - x7) (x9 + (1 : Int32)) M
def zbX12_peak_38 (sh : zShp) (k0 : Nat) (p1 : Int32) (p2 : Int32) (p3 : Int32) (p4 : Int32)  (kk38 : Int32 → Int32 → Int32 → Int32 → Int32 → zMem → Option (Int32 × zMem)) (x5 : Int32) (x6 : Int32) (x7 : Int32) (x8 : Int32) (x9 : Int32) (M : zMem) : Option (Int32 × zMem) :=
  zob (zX12_planTicks sh k0 M) fun r_10 =>
  if r_10 < x9 then (
  if p4 = 0 then (
  zjX12_peak_128 sh k0 p1 p2 p3 p4 x5 M)
  else (
  zjX12_peak_128 sh k0 p1 p2 p3 p4 x6 M))
  else (
  zob (zX12_planTicks sh k0 M) fun r_14 =>
  if r_14 ≤ x9 then (
  zjX12_peak_66 sh k0 p1 p2 p3 p4 kk38 x5 x6 x7 x8 x9 (0 : Int32) M)
  else (
  zob (zX12_speedOf sh k0 x9 M) fun r_17 =>
  zjX12_peak_66 sh k0 p1 p2 p3 p4 kk38 x5 x6 x7 x8 x9 r_17 M))
def zlX12_peak_38 (sh : zShp) (k0 : Nat) (p1 : Int32) (p2 : Int32) (p3 : Int32) (p4 : Int32)  : Nat → Int32 → Int32 → Int32 → Int32 → Int32 → zMem → Option (Int32 × zMem)
  | 0 => fun _ _ _ _ _ _ => none
  | n + 1 => fun x5 x6 x7 x8 x9 M => zbX12_peak_38 sh k0 p1 p2 p3 p4  (zlX12_peak_38 sh k0 p1 p2 p3 p4  n) x5 x6 x7 x8 x9 M
def zX12_peak (sh : zShp) (k0 : Nat) (p1 : Int32) (p2 : Int32) (p3 : Int32) (p4 : Int32) (M : zMem) : Option (Int32 × zMem) :=
  zob2 (zX12_canGo sh k0 p1 p2 p3 M) fun r_19 M_20 =>
  if r_19 = 0 then (
  zjX12_peak_21 sh k0 p1 p2 p3 p4 M_20)
  else (
  zob (zX12_isIn sh (p4.toInt64) (0 : Int64) (1 : Int64) M_20) fun r_23 =>
  if r_23 = 0 then (
  zjX12_peak_21 sh k0 p1 p2 p3 p4 M_20)
  else (
  zlX12_peak_38 sh k0 p1 p2 p3 p4 zF (0 : Int32) (0 : Int32) (0 : Int32) (0 : Int32) (0 : Int32) M_20))
set_option maxHeartbeats 4000000 in
set_option maxRecDepth 100000 in
theorem ztX12_peak (l : Launch) (D : va_G) (cy : Nat → ClassId) (sh : zShp) (ad : Nat → Nat) {k0 : Nat} {p1 : Int32} {p2 : Int32} {p3 : Int32} {p4 : Int32} (h0 : zT sh k0 12) {M : zMem} {r : Int32} {M1 : zMem} (hd : zX12_peak sh k0 p1 p2 p3 p4 M = some (r, M1)) : zCI l yX12_peak cX12_peak 12 .int { frames := 5, cells := 0, slots := 0, locals := 124 } [.ref (ad k0), .int p1, .int p2, .int p3, .int p4] D cy sh ad M r M1 := by
  refine zci_of (by decide) (Nat.le_of_ble_eq_true rfl) (fun p e s m below meth c ls F hr hlk hl hw => ?_)
  have hx := F.1.1
  have hb := F.1.2.1
  have hl : lv_has ls 12 [(0, .ref (ad k0)), (1, .int p1), (2, .int p2), (3, .int p3), (4, .int p4)] := hl
  have J21 : ∀ (M : zMem) (H : Heap) (locs : List Loc) (ls : Array Slot), lv_has ls 12 [] → zWd D cy sh ad s M H locs → zjX12_peak_21 sh k0 p1 p2 p3 p4  M = some (r, M1) → W p l e { frames := 5, cells := 0, slots := 0, locals := 124 } s m ([.ref (ad k0), .int p1, .int p2, .int p3, .int p4] : List Value).toArray below meth c H locs 0 0 (zQI below D cy sh ad s [.ref (ad k0), .int p1, .int p2, .int p3, .int p4] r M1) (F0 m 21 ls []) := by
    intro  M H locs ls hl hw hd
    unfold zjX12_peak_21 at hd
    refine lv_iconst (v := (-1 : Int32)) hx hb dX12_peak_21 (by decide) ?_
    exact z_iret F hr hlk hw (zpr1 hd) (zpr2 hd) dX12_peak_22
  have J128 : ∀ (s0 : Int32) (M : zMem) (H : Heap) (locs : List Loc) (ls : Array Slot), lv_has ls 12 [] → zWd D cy sh ad s M H locs → zjX12_peak_128 sh k0 p1 p2 p3 p4  s0 M = some (r, M1) → W p l e { frames := 5, cells := 0, slots := 0, locals := 124 } s m ([.ref (ad k0), .int p1, .int p2, .int p3, .int p4] : List Value).toArray below meth c H locs 0 0 (zQI below D cy sh ad s [.ref (ad k0), .int p1, .int p2, .int p3, .int p4] r M1) (F0 m 128 ls [.int s0]) := by
    intro  s0 M H locs ls hl hw hd
    unfold zjX12_peak_128 at hd
    exact z_iret F hr hlk hw (zpr1 hd) (zpr2 hd) dX12_peak_128
  have J66 : ∀ (kk38 : Int32 → Int32 → Int32 → Int32 → Int32 → zMem → Option (Int32 × zMem)) (hk38 : ∀ (x5 : Int32) (x6 : Int32) (x7 : Int32) (x8 : Int32) (x9 : Int32) (M : zMem) (H : Heap) (locs : List Loc) (ls : Array Slot), lv_has ls 12 [(0, .ref (ad k0)), (4, .int p4), (5, .int x5), (6, .int x6), (7, .int x7), (8, .int x8), (9, .int x9)] → zWd D cy sh ad s M H locs → kk38 x5 x6 x7 x8 x9 M = some (r, M1) → W p l e { frames := 5, cells := 0, slots := 0, locals := 124 } s m ([.ref (ad k0), .int p1, .int p2, .int p3, .int p4] : List Value).toArray below meth c H locs 0 0 (zQI below D cy sh ad s [.ref (ad k0), .int p1, .int p2, .int p3, .int p4] r M1) (F0 m 38 ls [])), ∀ (x5 : Int32) (x6 : Int32) (x7 : Int32) (x8 : Int32) (x9 : Int32) (s0 : Int32) (M : zMem) (H : Heap) (locs : List Loc) (ls : Array Slot), lv_has ls 12 [(0, .ref (ad k0)), (4, .int p4), (5, .int x5), (6, .int x6), (7, .int x7), (8, .int x8), (9, .int x9)] → zWd D cy sh ad s M H locs → zjX12_peak_66 sh k0 p1 p2 p3 p4 kk38 x5 x6 x7 x8 x9 s0 M = some (r, M1) → W p l e { frames := 5, cells := 0, slots := 0, locals := 124 } s m ([.ref (ad k0), .int p1, .int p2, .int p3, .int p4] : List Value).toArray below meth c H locs 0 0 (zQI below D cy sh ad s [.ref (ad k0), .int p1, .int p2, .int p3, .int p4] r M1) (F0 m 66 ls [.int s0]) := by
    intro kk38 hk38 x5 x6 x7 x8 x9 s0 M H locs ls hl hw hd
    unfold zjX12_peak_66 at hd
    refine lv_istore (lv' := [(10, .int s0), (0, .ref (ad k0)), (4, .int p4), (5, .int x5), (6, .int x6), (7, .int x7), (8, .int x8), (9, .int x9)]) hx hb dX12_peak_66 hl (by decide) rfl (fun ls hl => ?_)
    refine lv_iload hx hb dX12_peak_68 (lv_at hl 0 rfl) ?_
    refine lv_iload hx hb dX12_peak_70 (lv_at hl 5 rfl) ?_
    refine lv_isub hx hb dX12_peak_72 ?_
    refine lv_istore (lv' := [(11, .int (s0 - x7)), (10, .int s0), (0, .ref (ad k0)), (4, .int p4), (5, .int x5), (6, .int x6), (7, .int x7), (8, .int x8), (9, .int x9)]) hx hb dX12_peak_73 hl (by decide) rfl (fun ls hl => ?_)
    refine lv_iload hx hb dX12_peak_75 (lv_at hl 4 rfl) ?_
    refine lv_iload hx hb dX12_peak_77 (lv_at hl 0 rfl) ?_
    obtain ⟨r_2, hc_1, hd⟩ := zob_some hd
    refine z_csI F hw hl.1 (As := [.int (s0 - x7)]) (rest := [.int x5]) (ztX12_size l D cy sh ad  hc_1) zyX12_size zk12_273 ⟨rfl, rfl⟩ ⟨by decide, by decide⟩ rfl rfl (Nat.le_of_ble_eq_true rfl) dX12_peak_79 (fun H locs hw => ?_)
    obtain ⟨r_4, hc_3, hd⟩ := zob_some hd
    refine z_csI F hw hl.1 (As := [.int x5, .int r_2]) (rest := []) (ztX12_greater l D cy sh ad  hc_3) zyX12_greater zk12_318 ⟨rfl, rfl⟩ ⟨by decide, by decide⟩ rfl rfl (Nat.le_of_ble_eq_true rfl) dX12_peak_82 (fun H locs hw => ?_)
    refine lv_istore (lv' := [(5, .int r_4), (11, .int (s0 - x7)), (10, .int s0), (0, .ref (ad k0)), (4, .int p4), (6, .int x6), (7, .int x7), (8, .int x8), (9, .int x9)]) hx hb dX12_peak_85 hl (by decide) rfl (fun ls hl => ?_)
    refine lv_iload hx hb dX12_peak_87 (lv_at hl 5 rfl) ?_
    refine lv_iload hx hb dX12_peak_89 (lv_at hl 1 rfl) ?_
    refine lv_iload hx hb dX12_peak_91 (lv_at hl 7 rfl) ?_
    refine lv_isub hx hb dX12_peak_93 ?_
    obtain ⟨r_6, hc_5, hd⟩ := zob_some hd
    refine z_csI F hw hl.1 (As := [.int ((s0 - x7) - x8)]) (rest := [.int x6]) (ztX12_size l D cy sh ad  hc_5) zyX12_size zk12_273 ⟨rfl, rfl⟩ ⟨by decide, by decide⟩ rfl rfl (Nat.le_of_ble_eq_true rfl) dX12_peak_94 (fun H locs hw => ?_)
    obtain ⟨r_8, hc_7, hd⟩ := zob_some hd
    refine z_csI F hw hl.1 (As := [.int x6, .int r_6]) (rest := []) (ztX12_greater l D cy sh ad  hc_7) zyX12_greater zk12_318 ⟨rfl, rfl⟩ ⟨by decide, by decide⟩ rfl rfl (Nat.le_of_ble_eq_true rfl) dX12_peak_97 (fun H locs hw => ?_)
    refine lv_istore (lv' := [(6, .int r_8), (5, .int r_4), (11, .int (s0 - x7)), (10, .int s0), (0, .ref (ad k0)), (4, .int p4), (7, .int x7), (8, .int x8), (9, .int x9)]) hx hb dX12_peak_100 hl (by decide) rfl (fun ls hl => ?_)
    refine lv_iload hx hb dX12_peak_102 (lv_at hl 3 rfl) ?_
    refine lv_istore (lv' := [(7, .int s0), (6, .int r_8), (5, .int r_4), (11, .int (s0 - x7)), (10, .int s0), (0, .ref (ad k0)), (4, .int p4), (8, .int x8), (9, .int x9)]) hx hb dX12_peak_104 hl (by decide) rfl (fun ls hl => ?_)
    refine lv_iload hx hb dX12_peak_106 (lv_at hl 3 rfl) ?_
    refine lv_istore (lv' := [(8, .int (s0 - x7)), (7, .int s0), (6, .int r_8), (5, .int r_4), (11, .int (s0 - x7)), (10, .int s0), (0, .ref (ad k0)), (4, .int p4), (9, .int x9)]) hx hb dX12_peak_108 hl (by decide) rfl (fun ls hl => ?_)
    refine lv_iinc (v := (x9 + (1 : Int32))) (lv' := [(9, .int (x9 + (1 : Int32))), (8, .int (s0 - x7)), (7, .int s0), (6, .int r_8), (5, .int r_4), (11, .int (s0 - x7)), (10, .int s0), (0, .ref (ad k0)), (4, .int p4)]) hx hb dX12_peak_110 hl (k := 8) rfl (ziinc (by decide)) (by decide) rfl (fun ls hl => ?_)
    refine lv_goto (tgt := 38) hx hb dX12_peak_113 (by decide) ?_
    exact hk38 _ _ _ _ _ _ _ _ _ (lv_sub hl [7, 8, 4, 3, 2, 1, 0] rfl) hw hd
  have L38 : ∀  (n : Nat), ∀ (x5 : Int32) (x6 : Int32) (x7 : Int32) (x8 : Int32) (x9 : Int32) (M : zMem) (H : Heap) (locs : List Loc) (ls : Array Slot), lv_has ls 12 [(0, .ref (ad k0)), (4, .int p4), (5, .int x5), (6, .int x6), (7, .int x7), (8, .int x8), (9, .int x9)] → zWd D cy sh ad s M H locs → zlX12_peak_38 sh k0 p1 p2 p3 p4  n x5 x6 x7 x8 x9 M = some (r, M1) → W p l e { frames := 5, cells := 0, slots := 0, locals := 124 } s m ([.ref (ad k0), .int p1, .int p2, .int p3, .int p4] : List Value).toArray below meth c H locs 0 0 (zQI below D cy sh ad s [.ref (ad k0), .int p1, .int p2, .int p3, .int p4] r M1) (F0 m 38 ls []) := by
    intro  n
    induction n with
    | zero => intro x5 x6 x7 x8 x9 M H locs ls hl hw hd; exact (znone hd).elim
    | succ n hk38 =>
      intro x5 x6 x7 x8 x9 M H locs ls hl hw hd
      have hd : zbX12_peak_38 sh k0 p1 p2 p3 p4  (zlX12_peak_38 sh k0 p1 p2 p3 p4  n) x5 x6 x7 x8 x9 M = some (r, M1) := hd
      unfold zbX12_peak_38 at hd
      refine lv_iload hx hb dX12_peak_38 (lv_at hl 6 rfl) ?_
      refine lv_aload_n hx hb dX12_peak_40 rfl (lv_at hl 0 rfl) ?_
      obtain ⟨r_10, hc_9, hd⟩ := zob_some hd
      refine z_cvI F hw hl.1 (As := []) (rest := [.int x9]) (ztX12_planTicks l D cy sh ad h0 hc_9) zyX12_planTicks h0 zc12 zk12_378 ⟨rfl, rfl⟩ ⟨by decide, by decide⟩ rfl rfl (Nat.le_of_ble_eq_true rfl) dX12_peak_41 (fun H locs hw => ?_)
      refine lv_icmp_gt (tgt := 116) hx hb dX12_peak_44 (by decide) (fun c_11 => ?_) (fun c_11 => ?_)
      · have hd := zif_pos c_11 hd
        refine lv_iload hx hb dX12_peak_116 (lv_at hl 1 rfl) ?_
        refine lv_if_ne (tgt := 126) hx hb dX12_peak_118 (by decide) (fun c_12 => ?_) (fun c_12 => ?_)
        · have hd := zif_neg c_12 hd
          refine lv_iload hx hb dX12_peak_126 (lv_at hl 3 rfl) ?_
          exact J128 _ _ _ _ _ (lv_sub hl [] rfl) hw hd
        · have hd := zif_pos c_12 hd
          refine lv_iload hx hb dX12_peak_121 (lv_at hl 2 rfl) ?_
          refine lv_goto (tgt := 128) hx hb dX12_peak_123 (by decide) ?_
          exact J128 _ _ _ _ _ (lv_sub hl [] rfl) hw hd
      · have hd := zif_neg c_11 hd
        refine lv_iload hx hb dX12_peak_47 (lv_at hl 6 rfl) ?_
        refine lv_aload_n hx hb dX12_peak_49 rfl (lv_at hl 0 rfl) ?_
        obtain ⟨r_14, hc_13, hd⟩ := zob_some hd
        refine z_cvI F hw hl.1 (As := []) (rest := [.int x9]) (ztX12_planTicks l D cy sh ad h0 hc_13) zyX12_planTicks h0 zc12 zk12_378 ⟨rfl, rfl⟩ ⟨by decide, by decide⟩ rfl rfl (Nat.le_of_ble_eq_true rfl) dX12_peak_50 (fun H locs hw => ?_)
        refine lv_icmp_ge (tgt := 65) hx hb dX12_peak_53 (by decide) (fun c_15 => ?_) (fun c_15 => ?_)
        · have hd := zif_pos c_15 hd
          refine lv_iconst (v := (0 : Int32)) hx hb dX12_peak_65 (by decide) ?_
          exact J66 _ hk38 _ _ _ _ _ _ _ _ _ _ (lv_sub hl [0, 1, 2, 3, 4, 5, 6] rfl) hw hd
        · have hd := zif_neg c_15 hd
          refine lv_aload_n hx hb dX12_peak_56 rfl (lv_at hl 0 rfl) ?_
          refine lv_iload hx hb dX12_peak_57 (lv_at hl 6 rfl) ?_
          obtain ⟨r_17, hc_16, hd⟩ := zob_some hd
          refine z_cvI F hw hl.1 (As := [.int x9]) (rest := []) (ztX12_speedOf l D cy sh ad h0 hc_16) zyX12_speedOf h0 zc12 zk12_384 ⟨rfl, rfl⟩ ⟨by decide, by decide⟩ rfl rfl (Nat.le_of_ble_eq_true rfl) dX12_peak_59 (fun H locs hw => ?_)
          refine lv_goto (tgt := 66) hx hb dX12_peak_62 (by decide) ?_
          exact J66 _ hk38 _ _ _ _ _ _ _ _ _ _ (lv_sub hl [0, 1, 2, 3, 4, 5, 6] rfl) hw hd
  unfold zX12_peak at hd
  refine lv_aload_n hx hb dX12_peak_0 rfl (lv_at hl 0 rfl) ?_
  refine lv_iload_n hx hb dX12_peak_1 rfl (lv_at hl 1 rfl) ?_
  refine lv_iload_n hx hb dX12_peak_2 rfl (lv_at hl 2 rfl) ?_
  refine lv_iload_n hx hb dX12_peak_3 rfl (lv_at hl 3 rfl) ?_
  obtain ⟨r_19, M_20, hc_18, hd⟩ := zob2_some hd
  refine z_cvI F hw hl.1 (As := [.int p1, .int p2, .int p3]) (rest := []) (ztX12_canGo l D cy sh ad h0 hc_18) zyX12_canGo h0 zc12 zk12_375 ⟨rfl, rfl⟩ ⟨by decide, by decide⟩ rfl rfl (Nat.le_of_ble_eq_true rfl) dX12_peak_4 (fun H locs hw => ?_)
  refine lv_if_eq (tgt := 21) hx hb dX12_peak_7 (by decide) (fun c_21 => ?_) (fun c_21 => ?_)
  · have hd := zif_pos c_21 hd
    exact J21 _ _ _ _ (lv_sub hl [] rfl) hw hd
  · have hd := zif_neg c_21 hd
    refine lv_iload hx hb dX12_peak_10 (lv_at hl 4 rfl) ?_
    refine lv_i2l (v := p4.toInt64) hx hb dX12_peak_12 rfl ?_
    refine lv_lconst (v := (0 : Int64)) hx hb dX12_peak_13 (by decide) ?_
    refine lv_lconst (v := (1 : Int64)) hx hb dX12_peak_14 (by decide) ?_
    obtain ⟨r_23, hc_22, hd⟩ := zob_some hd
    refine z_csI F hw hl.1 (As := [.long (p4.toInt64), .long (0 : Int64), .long (1 : Int64)]) (rest := []) (ztX12_isIn l D cy sh ad  hc_22) zyX12_isIn zk12_91 ⟨rfl, rfl⟩ ⟨by decide, by decide⟩ rfl rfl (Nat.le_of_ble_eq_true rfl) dX12_peak_15 (fun H locs hw => ?_)
    refine lv_if_ne (tgt := 23) hx hb dX12_peak_18 (by decide) (fun c_24 => ?_) (fun c_24 => ?_)
    · have hd := zif_neg c_24 hd
      refine lv_iconst (v := (0 : Int32)) hx hb dX12_peak_23 (by decide) ?_
      refine lv_istore (lv' := [(5, .int (0 : Int32)), (0, .ref (ad k0)), (1, .int p1), (2, .int p2), (3, .int p3), (4, .int p4)]) hx hb dX12_peak_24 hl (by decide) rfl (fun ls hl => ?_)
      refine lv_iconst (v := (0 : Int32)) hx hb dX12_peak_26 (by decide) ?_
      refine lv_istore (lv' := [(6, .int (0 : Int32)), (5, .int (0 : Int32)), (0, .ref (ad k0)), (1, .int p1), (2, .int p2), (3, .int p3), (4, .int p4)]) hx hb dX12_peak_27 hl (by decide) rfl (fun ls hl => ?_)
      refine lv_iconst (v := (0 : Int32)) hx hb dX12_peak_29 (by decide) ?_
      refine lv_istore (lv' := [(7, .int (0 : Int32)), (6, .int (0 : Int32)), (5, .int (0 : Int32)), (0, .ref (ad k0)), (1, .int p1), (2, .int p2), (3, .int p3), (4, .int p4)]) hx hb dX12_peak_30 hl (by decide) rfl (fun ls hl => ?_)
      refine lv_iconst (v := (0 : Int32)) hx hb dX12_peak_32 (by decide) ?_
      refine lv_istore (lv' := [(8, .int (0 : Int32)), (7, .int (0 : Int32)), (6, .int (0 : Int32)), (5, .int (0 : Int32)), (0, .ref (ad k0)), (1, .int p1), (2, .int p2), (3, .int p3), (4, .int p4)]) hx hb dX12_peak_33 hl (by decide) rfl (fun ls hl => ?_)
      refine lv_iconst (v := (0 : Int32)) hx hb dX12_peak_35 (by decide) ?_
      refine lv_istore (lv' := [(9, .int (0 : Int32)), (8, .int (0 : Int32)), (7, .int (0 : Int32)), (6, .int (0 : Int32)), (5, .int (0 : Int32)), (0, .ref (ad k0)), (1, .int p1), (2, .int p2), (3, .int p3), (4, .int p4)]) hx hb dX12_peak_36 hl (by decide) rfl (fun ls hl => ?_)
      exact L38 zF _ _ _ _ _ _ _ _ _ (lv_sub hl [5, 9, 4, 3, 2, 1, 0] rfl) hw hd
    · have hd := zif_pos c_24 hd
      exact J21 _ _ _ _ (lv_sub hl [] rfl) hw hd

def zjX12_needed_32 (sh : zShp) (k0 : Nat) (p1 : Int32) (p2 : Int32) (p3 : Int32)  (M : zMem) : Option (Int32 × zMem) :=
  some ((-1 : Int32), M)
def zbX12_needed_37 (sh : zShp) (k0 : Nat) (p1 : Int32) (p2 : Int32) (p3 : Int32)  (kk37 : Int32 → zMem → Option (Int32 × zMem)) (x4 : Int32) (M : zMem) : Option (Int32 × zMem) :=
  if (60 : Int32) < x4 then (
  some ((-1 : Int32), M))
  else (
  zgd (zin (((6 : Int32) * p1) + (1 : Int32)) (zlen sh (zR M k0 14))) <|
  zgd (zin (((6 : Int32) * p1) + (2 : Int32)) (zlen sh (zR M k0 14))) <|
  zob (zX12_laysTop sh k0 p1 p2 x4 (zI M (zR M k0 14) ((((6 : Int32) * p1) + (1 : Int32)).toNatClampNeg)) (zI M (zR M k0 14) ((((6 : Int32) * p1) + (2 : Int32)).toNatClampNeg)) M) fun M_7 =>
  zob (zX12_rampSum sh k0 M_7) fun r_9 =>
  zob (zX12_evenTicks sh k0 (p2 - ((2 : Int32) * r_9)) M_7) fun r_11 =>
  if p3 < (((2 : Int32) * (zI M_7 k0 36)) + r_11) then (
  kk37 (x4 + (1 : Int32)) M_7)
  else (
  some (x4, M_7)))
def zlX12_needed_37 (sh : zShp) (k0 : Nat) (p1 : Int32) (p2 : Int32) (p3 : Int32)  : Nat → Int32 → zMem → Option (Int32 × zMem)
  | 0 => fun _ _ => none
  | n + 1 => fun x4 M => zbX12_needed_37 sh k0 p1 p2 p3  (zlX12_needed_37 sh k0 p1 p2 p3  n) x4 M
def zX12_needed (sh : zShp) (k0 : Nat) (p1 : Int32) (p2 : Int32) (p3 : Int32) (M : zMem) : Option (Int32 × zMem) :=
  zob (zX12_isAxis sh k0 p1 M) fun r_14 =>
  if r_14 = 0 then (
  zjX12_needed_32 sh k0 p1 p2 p3 M)
  else (
  zob (zX12_isIn sh (p2.toInt64) (1 : Int64) (30000 : Int64) M) fun r_17 =>
  if r_17 = 0 then (
  zjX12_needed_32 sh k0 p1 p2 p3 M)
  else (
  zob (zX12_isIn sh (p3.toInt64) (1 : Int64) (60000 : Int64) M) fun r_20 =>
  if r_20 = 0 then (
  zjX12_needed_32 sh k0 p1 p2 p3 M)
  else (
  zlX12_needed_37 sh k0 p1 p2 p3 zF (1 : Int32) M)))
set_option maxHeartbeats 4000000 in
set_option maxRecDepth 100000 in
theorem ztX12_needed (l : Launch) (D : va_G) (cy : Nat → ClassId) (sh : zShp) (ad : Nat → Nat) {k0 : Nat} {p1 : Int32} {p2 : Int32} {p3 : Int32} (h0 : zT sh k0 12) {M : zMem} {r : Int32} {M1 : zMem} (hd : zX12_needed sh k0 p1 p2 p3 M = some (r, M1)) : zCI l yX12_needed cX12_needed 5 .int { frames := 3, cells := 0, slots := 0, locals := 77 } [.ref (ad k0), .int p1, .int p2, .int p3] D cy sh ad M r M1 := by
  refine zci_of (by decide) (Nat.le_of_ble_eq_true rfl) (fun p e s m below meth c ls F hr hlk hl hw => ?_)
  have hx := F.1.1
  have hb := F.1.2.1
  have hl : lv_has ls 5 [(0, .ref (ad k0)), (1, .int p1), (2, .int p2), (3, .int p3)] := hl
  have J32 : ∀ (M : zMem) (H : Heap) (locs : List Loc) (ls : Array Slot), lv_has ls 5 [] → zWd D cy sh ad s M H locs → zjX12_needed_32 sh k0 p1 p2 p3  M = some (r, M1) → W p l e { frames := 3, cells := 0, slots := 0, locals := 77 } s m ([.ref (ad k0), .int p1, .int p2, .int p3] : List Value).toArray below meth c H locs 0 0 (zQI below D cy sh ad s [.ref (ad k0), .int p1, .int p2, .int p3] r M1) (F0 m 32 ls []) := by
    intro  M H locs ls hl hw hd
    unfold zjX12_needed_32 at hd
    refine lv_iconst (v := (-1 : Int32)) hx hb dX12_needed_32 (by decide) ?_
    exact z_iret F hr hlk hw (zpr1 hd) (zpr2 hd) dX12_needed_33
  have L37 : ∀  (n : Nat), ∀ (x4 : Int32) (M : zMem) (H : Heap) (locs : List Loc) (ls : Array Slot), lv_has ls 5 [(0, .ref (ad k0)), (1, .int p1), (2, .int p2), (3, .int p3), (4, .int x4)] → zWd D cy sh ad s M H locs → zlX12_needed_37 sh k0 p1 p2 p3  n x4 M = some (r, M1) → W p l e { frames := 3, cells := 0, slots := 0, locals := 77 } s m ([.ref (ad k0), .int p1, .int p2, .int p3] : List Value).toArray below meth c H locs 0 0 (zQI below D cy sh ad s [.ref (ad k0), .int p1, .int p2, .int p3] r M1) (F0 m 37 ls []) := by
    intro  n
    induction n with
    | zero => intro x4 M H locs ls hl hw hd; exact (znone hd).elim
    | succ n hk37 =>
      intro x4 M H locs ls hl hw hd
      have hd : zbX12_needed_37 sh k0 p1 p2 p3  (zlX12_needed_37 sh k0 p1 p2 p3  n) x4 M = some (r, M1) := hd
      unfold zbX12_needed_37 at hd
      refine lv_iload hx hb dX12_needed_37 (lv_at hl 4 rfl) ?_
      refine lv_bipush (v := (60 : Int32)) hx hb dX12_needed_39 (by decide) ?_
      refine lv_icmp_gt (tgt := 106) hx hb dX12_needed_41 (by decide) (fun c_1 => ?_) (fun c_1 => ?_)
      · have hd := zif_pos c_1 hd
        refine lv_iconst (v := (-1 : Int32)) hx hb dX12_needed_106 (by decide) ?_
        exact z_iret F hr hlk hw (zpr1 hd) (zpr2 hd) dX12_needed_107
      · have hd := zif_neg c_1 hd
        refine lv_aload_n hx hb dX12_needed_44 rfl (lv_at hl 0 rfl) ?_
        refine lv_iload_n hx hb dX12_needed_45 rfl (lv_at hl 1 rfl) ?_
        refine lv_iload_n hx hb dX12_needed_46 rfl (lv_at hl 2 rfl) ?_
        refine lv_iload hx hb dX12_needed_47 (lv_at hl 4 rfl) ?_
        refine lv_aload_n hx hb dX12_needed_49 rfl (lv_at hl 0 rfl) ?_
        refine z_gR F hw h0 zc12 14 (by decide) rfl zf12_27 dX12_needed_50 ?_
        have t_2 : zT sh (zR M k0 14) 14 := hw.2.2.2.fld h0 14 14
        refine lv_bipush (v := (6 : Int32)) hx hb dX12_needed_53 (by decide) ?_
        refine lv_iload_n hx hb dX12_needed_55 rfl (lv_at hl 1 rfl) ?_
        refine lv_imul hx hb dX12_needed_56 ?_
        refine lv_iconst (v := (1 : Int32)) hx hb dX12_needed_57 (by decide) ?_
        refine lv_iadd hx hb dX12_needed_58 ?_
        obtain ⟨g_3, hd⟩ := zgd_some hd
        refine z_iald F hw t_2 g_3 dX12_needed_59 ?_
        refine lv_aload_n hx hb dX12_needed_60 rfl (lv_at hl 0 rfl) ?_
        refine z_gR F hw h0 zc12 14 (by decide) rfl zf12_27 dX12_needed_61 ?_
        have t_4 : zT sh (zR M k0 14) 14 := hw.2.2.2.fld h0 14 14
        refine lv_bipush (v := (6 : Int32)) hx hb dX12_needed_64 (by decide) ?_
        refine lv_iload_n hx hb dX12_needed_66 rfl (lv_at hl 1 rfl) ?_
        refine lv_imul hx hb dX12_needed_67 ?_
        refine lv_iconst (v := (2 : Int32)) hx hb dX12_needed_68 (by decide) ?_
        refine lv_iadd hx hb dX12_needed_69 ?_
        obtain ⟨g_5, hd⟩ := zgd_some hd
        refine z_iald F hw t_4 g_5 dX12_needed_70 ?_
        obtain ⟨M_7, hc_6, hd⟩ := zob_some hd
        refine z_cvV F hw hl.1 (As := [.int p1, .int p2, .int x4, .int (zI M (zR M k0 14) ((((6 : Int32) * p1) + (1 : Int32)).toNatClampNeg)), .int (zI M (zR M k0 14) ((((6 : Int32) * p1) + (2 : Int32)).toNatClampNeg))]) (rest := []) (ztX12_laysTop l D cy sh ad h0 hc_6) zyX12_laysTop h0 zc12 zk12_353 ⟨rfl, rfl⟩ ⟨by decide, by decide⟩ rfl rfl (Nat.le_of_ble_eq_true rfl) dX12_needed_71 (fun H locs hw => ?_)
        refine lv_iconst (v := (2 : Int32)) hx hb dX12_needed_74 (by decide) ?_
        refine lv_aload_n hx hb dX12_needed_75 rfl (lv_at hl 0 rfl) ?_
        refine z_gI F hw h0 zc12 36 (by decide) rfl zf12_286 dX12_needed_76 ?_
        refine lv_imul hx hb dX12_needed_79 ?_
        refine lv_aload_n hx hb dX12_needed_80 rfl (lv_at hl 0 rfl) ?_
        refine lv_iload_n hx hb dX12_needed_81 rfl (lv_at hl 2 rfl) ?_
        refine lv_iconst (v := (2 : Int32)) hx hb dX12_needed_82 (by decide) ?_
        refine lv_aload_n hx hb dX12_needed_83 rfl (lv_at hl 0 rfl) ?_
        obtain ⟨r_9, hc_8, hd⟩ := zob_some hd
        refine z_cvI F hw hl.1 (As := []) (rest := [.int (2 : Int32), .int p2, .ref (ad k0), .int ((2 : Int32) * (zI M_7 k0 36))]) (ztX12_rampSum l D cy sh ad h0 hc_8) zyX12_rampSum h0 zc12 zk12_309 ⟨rfl, rfl⟩ ⟨by decide, by decide⟩ rfl rfl (Nat.le_of_ble_eq_true rfl) dX12_needed_84 (fun H locs hw => ?_)
        refine lv_imul hx hb dX12_needed_87 ?_
        refine lv_isub hx hb dX12_needed_88 ?_
        obtain ⟨r_11, hc_10, hd⟩ := zob_some hd
        refine z_cvI F hw hl.1 (As := [.int (p2 - ((2 : Int32) * r_9))]) (rest := [.int ((2 : Int32) * (zI M_7 k0 36))]) (ztX12_evenTicks l D cy sh ad h0 hc_10) zyX12_evenTicks h0 zc12 zk12_360 ⟨rfl, rfl⟩ ⟨by decide, by decide⟩ rfl rfl (Nat.le_of_ble_eq_true rfl) dX12_needed_89 (fun H locs hw => ?_)
        refine lv_iadd hx hb dX12_needed_92 ?_
        refine lv_iload_n hx hb dX12_needed_93 rfl (lv_at hl 3 rfl) ?_
        refine lv_icmp_gt (tgt := 100) hx hb dX12_needed_94 (by decide) (fun c_12 => ?_) (fun c_12 => ?_)
        · have hd := zif_pos c_12 hd
          refine lv_iinc (v := (x4 + (1 : Int32))) (lv' := [(4, .int (x4 + (1 : Int32))), (0, .ref (ad k0)), (1, .int p1), (2, .int p2), (3, .int p3)]) hx hb dX12_needed_100 hl (k := 4) rfl (ziinc (by decide)) (by decide) rfl (fun ls hl => ?_)
          refine lv_goto (tgt := 37) hx hb dX12_needed_103 (by decide) ?_
          exact hk37 _ _ _ _ _ (lv_sub hl [1, 2, 3, 4, 0] rfl) hw hd
        · have hd := zif_neg c_12 hd
          refine lv_iload hx hb dX12_needed_97 (lv_at hl 4 rfl) ?_
          exact z_iret F hr hlk hw (zpr1 hd) (zpr2 hd) dX12_needed_99
  unfold zX12_needed at hd
  refine lv_aload_n hx hb dX12_needed_0 rfl (lv_at hl 0 rfl) ?_
  refine lv_iload_n hx hb dX12_needed_1 rfl (lv_at hl 1 rfl) ?_
  obtain ⟨r_14, hc_13, hd⟩ := zob_some hd
  refine z_cvI F hw hl.1 (As := [.int p1]) (rest := []) (ztX12_isAxis l D cy sh ad h0 hc_13) zyX12_isAxis h0 zc12 zk12_312 ⟨rfl, rfl⟩ ⟨by decide, by decide⟩ rfl rfl (Nat.le_of_ble_eq_true rfl) dX12_needed_2 (fun H locs hw => ?_)
  refine lv_if_eq (tgt := 32) hx hb dX12_needed_5 (by decide) (fun c_15 => ?_) (fun c_15 => ?_)
  · have hd := zif_pos c_15 hd
    exact J32 _ _ _ _ (lv_sub hl [] rfl) hw hd
  · have hd := zif_neg c_15 hd
    refine lv_iload_n hx hb dX12_needed_8 rfl (lv_at hl 2 rfl) ?_
    refine lv_i2l (v := p2.toInt64) hx hb dX12_needed_9 rfl ?_
    refine lv_lconst (v := (1 : Int64)) hx hb dX12_needed_10 (by decide) ?_
    refine lv_ldc2 (v := (30000 : Int64)) hx hb F.1.2.2.2.1 (F.1.2.2.2.2 _ zi12_327) dX12_needed_11 ?_
    obtain ⟨r_17, hc_16, hd⟩ := zob_some hd
    refine z_csI F hw hl.1 (As := [.long (p2.toInt64), .long (1 : Int64), .long (30000 : Int64)]) (rest := []) (ztX12_isIn l D cy sh ad  hc_16) zyX12_isIn zk12_91 ⟨rfl, rfl⟩ ⟨by decide, by decide⟩ rfl rfl (Nat.le_of_ble_eq_true rfl) dX12_needed_14 (fun H locs hw => ?_)
    refine lv_if_eq (tgt := 32) hx hb dX12_needed_17 (by decide) (fun c_18 => ?_) (fun c_18 => ?_)
    · have hd := zif_pos c_18 hd
      exact J32 _ _ _ _ (lv_sub hl [] rfl) hw hd
    · have hd := zif_neg c_18 hd
      refine lv_iload_n hx hb dX12_needed_20 rfl (lv_at hl 3 rfl) ?_
      refine lv_i2l (v := p3.toInt64) hx hb dX12_needed_21 rfl ?_
      refine lv_lconst (v := (1 : Int64)) hx hb dX12_needed_22 (by decide) ?_
      refine lv_ldc2 (v := (60000 : Int64)) hx hb F.1.2.2.2.1 (F.1.2.2.2.2 _ zi12_393) dX12_needed_23 ?_
      obtain ⟨r_20, hc_19, hd⟩ := zob_some hd
      refine z_csI F hw hl.1 (As := [.long (p3.toInt64), .long (1 : Int64), .long (60000 : Int64)]) (rest := []) (ztX12_isIn l D cy sh ad  hc_19) zyX12_isIn zk12_91 ⟨rfl, rfl⟩ ⟨by decide, by decide⟩ rfl rfl (Nat.le_of_ble_eq_true rfl) dX12_needed_26 (fun H locs hw => ?_)
      refine lv_if_ne (tgt := 34) hx hb dX12_needed_29 (by decide) (fun c_21 => ?_) (fun c_21 => ?_)
      · have hd := zif_neg c_21 hd
        refine lv_iconst (v := (1 : Int32)) hx hb dX12_needed_34 (by decide) ?_
        refine lv_istore (lv' := [(4, .int (1 : Int32)), (0, .ref (ad k0)), (1, .int p1), (2, .int p2), (3, .int p3)]) hx hb dX12_needed_35 hl (by decide) rfl (fun ls hl => ?_)
        exact L37 zF _ _ _ _ _ (lv_sub hl [1, 2, 3, 4, 0] rfl) hw hd
      · have hd := zif_pos c_21 hd
        exact J32 _ _ _ _ (lv_sub hl [] rfl) hw hd

def zjX12_quickest_30 (sh : zShp) (k0 : Nat) (p1 : Int32) (p2 : Int32) (p3 : Int32)  (M : zMem) : Option (Int32 × zMem) :=
  some ((-1 : Int32), M)
def zjX12_quickest_139 (sh : zShp) (k0 : Nat) (p1 : Int32) (p2 : Int32) (p3 : Int32)  (s0 : Int32) (M : zMem) : Option (Int32 × zMem) :=
  some (s0, M)
def zjX12_quickest_122 (sh : zShp) (k0 : Nat) (p1 : Int32) (p2 : Int32) (p3 : Int32) (kk41 : Int32 → Int32 → Int32 → zMem → Option (Int32 × zMem)) (x4 : Int32) (x5 : Int32) (x6 : Int32) (M : zMem) : Option (Int32 × zMem) :=
  kk41 x4 x5 (x6 + (1 : Int32)) M
def zjX12_quickest_114 (sh : zShp) (k0 : Nat) (p1 : Int32) (p2 : Int32) (p3 : Int32) (kk41 : Int32 → Int32 → Int32 → zMem → Option (Int32 × zMem)) (x6 : Int32) (x7 : Int32) (M : zMem) : Option (Int32 × zMem) :=
  zjX12_quickest_122 sh k0 p1 p2 p3 kk41 x6 x7 x6 M
def zbX12_quickest_41 (sh : zShp) (k0 : Nat) (p1 : Int32) (p2 : Int32) (p3 : Int32)  (kk41 : Int32 → Int32 → Int32 → zMem → Option (Int32 × zMem)) (x4 : Int32) (x5 : Int32) (x6 : Int32) (M : zMem) : Option (Int32 × zMem) :=
  if (60 : Int32) < x6 then (
  if p3 = 0 then (
  zjX12_quickest_139 sh k0 p1 p2 p3 x4 M)
  else (
  zjX12_quickest_139 sh k0 p1 p2 p3 x5 M))
  else (
  zgd (zin (((6 : Int32) * p1) + (1 : Int32)) (zlen sh (zR M k0 14))) <|
  zgd (zin (((6 : Int32) * p1) + (2 : Int32)) (zlen sh (zR M k0 14))) <|
  zob (zX12_laysTop sh k0 p1 p2 x6 (zI M (zR M k0 14) ((((6 : Int32) * p1) + (1 : Int32)).toNatClampNeg)) (zI M (zR M k0 14) ((((6 : Int32) * p1) + (2 : Int32)).toNatClampNeg)) M) fun M_8 =>
  zob (zX12_rampSum sh k0 M_8) fun r_10 =>
  zob (zX12_evenTicks sh k0 (p2 - ((2 : Int32) * r_10)) M_8) fun r_12 =>
  zbd ((((2 : Int32) * (zI M_8 k0 36)) + r_12)) fun v_13 =>
  if x4 ≤ 0 then (
  zjX12_quickest_114 sh k0 p1 p2 p3 kk41 x6 v_13 M_8)
  else (
  if v_13 < x5 then (
  zjX12_quickest_114 sh k0 p1 p2 p3 kk41 x6 v_13 M_8)
  else (
  zjX12_quickest_122 sh k0 p1 p2 p3 kk41 x4 x5 x6 M_8)))
def zlX12_quickest_41 (sh : zShp) (k0 : Nat) (p1 : Int32) (p2 : Int32) (p3 : Int32)  : Nat → Int32 → Int32 → Int32 → zMem → Option (Int32 × zMem)
  | 0 => fun _ _ _ _ => none
  | n + 1 => fun x4 x5 x6 M => zbX12_quickest_41 sh k0 p1 p2 p3  (zlX12_quickest_41 sh k0 p1 p2 p3  n) x4 x5 x6 M
def zX12_quickest (sh : zShp) (k0 : Nat) (p1 : Int32) (p2 : Int32) (p3 : Int32) (M : zMem) : Option (Int32 × zMem) :=
  zob (zX12_isAxis sh k0 p1 M) fun r_17 =>
  if r_17 = 0 then (
  zjX12_quickest_30 sh k0 p1 p2 p3 M)
  else (
  zob (zX12_isIn sh (p2.toInt64) (1 : Int64) (30000 : Int64) M) fun r_20 =>
  if r_20 = 0 then (
  zjX12_quickest_30 sh k0 p1 p2 p3 M)
  else (
  zob (zX12_isIn sh (p3.toInt64) (0 : Int64) (1 : Int64) M) fun r_23 =>
  if r_23 = 0 then (
  zjX12_quickest_30 sh k0 p1 p2 p3 M)
  else (
  zlX12_quickest_41 sh k0 p1 p2 p3 zF (0 : Int32) (0 : Int32) (1 : Int32) M)))
set_option maxHeartbeats 4000000 in
set_option maxRecDepth 100000 in
theorem ztX12_quickest (l : Launch) (D : va_G) (cy : Nat → ClassId) (sh : zShp) (ad : Nat → Nat) {k0 : Nat} {p1 : Int32} {p2 : Int32} {p3 : Int32} (h0 : zT sh k0 12) {M : zMem} {r : Int32} {M1 : zMem} (hd : zX12_quickest sh k0 p1 p2 p3 M = some (r, M1)) : zCI l yX12_quickest cX12_quickest 8 .int { frames := 3, cells := 0, slots := 0, locals := 77 } [.ref (ad k0), .int p1, .int p2, .int p3] D cy sh ad M r M1 := by
  refine zci_of (by decide) (Nat.le_of_ble_eq_true rfl) (fun p e s m below meth c ls F hr hlk hl hw => ?_)
  have hx := F.1.1
  have hb := F.1.2.1
  have hl : lv_has ls 8 [(0, .ref (ad k0)), (1, .int p1), (2, .int p2), (3, .int p3)] := hl
  have J30 : ∀ (M : zMem) (H : Heap) (locs : List Loc) (ls : Array Slot), lv_has ls 8 [] → zWd D cy sh ad s M H locs → zjX12_quickest_30 sh k0 p1 p2 p3  M = some (r, M1) → W p l e { frames := 3, cells := 0, slots := 0, locals := 77 } s m ([.ref (ad k0), .int p1, .int p2, .int p3] : List Value).toArray below meth c H locs 0 0 (zQI below D cy sh ad s [.ref (ad k0), .int p1, .int p2, .int p3] r M1) (F0 m 30 ls []) := by
    intro  M H locs ls hl hw hd
    unfold zjX12_quickest_30 at hd
    refine lv_iconst (v := (-1 : Int32)) hx hb dX12_quickest_30 (by decide) ?_
    exact z_iret F hr hlk hw (zpr1 hd) (zpr2 hd) dX12_quickest_31
  have J139 : ∀ (s0 : Int32) (M : zMem) (H : Heap) (locs : List Loc) (ls : Array Slot), lv_has ls 8 [] → zWd D cy sh ad s M H locs → zjX12_quickest_139 sh k0 p1 p2 p3  s0 M = some (r, M1) → W p l e { frames := 3, cells := 0, slots := 0, locals := 77 } s m ([.ref (ad k0), .int p1, .int p2, .int p3] : List Value).toArray below meth c H locs 0 0 (zQI below D cy sh ad s [.ref (ad k0), .int p1, .int p2, .int p3] r M1) (F0 m 139 ls [.int s0]) := by
    intro  s0 M H locs ls hl hw hd
    unfold zjX12_quickest_139 at hd
    exact z_iret F hr hlk hw (zpr1 hd) (zpr2 hd) dX12_quickest_139
  have J122 : ∀ (kk41 : Int32 → Int32 → Int32 → zMem → Option (Int32 × zMem)) (hk41 : ∀ (x4 : Int32) (x5 : Int32) (x6 : Int32) (M : zMem) (H : Heap) (locs : List Loc) (ls : Array Slot), lv_has ls 8 [(0, .ref (ad k0)), (1, .int p1), (2, .int p2), (3, .int p3), (4, .int x4), (5, .int x5), (6, .int x6)] → zWd D cy sh ad s M H locs → kk41 x4 x5 x6 M = some (r, M1) → W p l e { frames := 3, cells := 0, slots := 0, locals := 77 } s m ([.ref (ad k0), .int p1, .int p2, .int p3] : List Value).toArray below meth c H locs 0 0 (zQI below D cy sh ad s [.ref (ad k0), .int p1, .int p2, .int p3] r M1) (F0 m 41 ls [])), ∀ (x4 : Int32) (x5 : Int32) (x6 : Int32) (M : zMem) (H : Heap) (locs : List Loc) (ls : Array Slot), lv_has ls 8 [(0, .ref (ad k0)), (1, .int p1), (2, .int p2), (3, .int p3), (4, .int x4), (5, .int x5), (6, .int x6)] → zWd D cy sh ad s M H locs → zjX12_quickest_122 sh k0 p1 p2 p3 kk41 x4 x5 x6 M = some (r, M1) → W p l e { frames := 3, cells := 0, slots := 0, locals := 77 } s m ([.ref (ad k0), .int p1, .int p2, .int p3] : List Value).toArray below meth c H locs 0 0 (zQI below D cy sh ad s [.ref (ad k0), .int p1, .int p2, .int p3] r M1) (F0 m 122 ls []) := by
    intro kk41 hk41 x4 x5 x6 M H locs ls hl hw hd
    unfold zjX12_quickest_122 at hd
    refine lv_iinc (v := (x6 + (1 : Int32))) (lv' := [(6, .int (x6 + (1 : Int32))), (0, .ref (ad k0)), (1, .int p1), (2, .int p2), (3, .int p3), (4, .int x4), (5, .int x5)]) hx hb dX12_quickest_122 hl (k := 6) rfl (ziinc (by decide)) (by decide) rfl (fun ls hl => ?_)
    refine lv_goto (tgt := 41) hx hb dX12_quickest_125 (by decide) ?_
    exact hk41 _ _ _ _ _ _ _ (lv_sub hl [1, 2, 3, 4, 5, 6, 0] rfl) hw hd
  have J114 : ∀ (kk41 : Int32 → Int32 → Int32 → zMem → Option (Int32 × zMem)) (hk41 : ∀ (x4 : Int32) (x5 : Int32) (x6 : Int32) (M : zMem) (H : Heap) (locs : List Loc) (ls : Array Slot), lv_has ls 8 [(0, .ref (ad k0)), (1, .int p1), (2, .int p2), (3, .int p3), (4, .int x4), (5, .int x5), (6, .int x6)] → zWd D cy sh ad s M H locs → kk41 x4 x5 x6 M = some (r, M1) → W p l e { frames := 3, cells := 0, slots := 0, locals := 77 } s m ([.ref (ad k0), .int p1, .int p2, .int p3] : List Value).toArray below meth c H locs 0 0 (zQI below D cy sh ad s [.ref (ad k0), .int p1, .int p2, .int p3] r M1) (F0 m 41 ls [])), ∀ (x6 : Int32) (x7 : Int32) (M : zMem) (H : Heap) (locs : List Loc) (ls : Array Slot), lv_has ls 8 [(0, .ref (ad k0)), (1, .int p1), (2, .int p2), (3, .int p3), (6, .int x6), (7, .int x7)] → zWd D cy sh ad s M H locs → zjX12_quickest_114 sh k0 p1 p2 p3 kk41 x6 x7 M = some (r, M1) → W p l e { frames := 3, cells := 0, slots := 0, locals := 77 } s m ([.ref (ad k0), .int p1, .int p2, .int p3] : List Value).toArray below meth c H locs 0 0 (zQI below D cy sh ad s [.ref (ad k0), .int p1, .int p2, .int p3] r M1) (F0 m 114 ls []) := by
    intro kk41 hk41 x6 x7 M H locs ls hl hw hd
    unfold zjX12_quickest_114 at hd
    refine lv_iload hx hb dX12_quickest_114 (lv_at hl 4 rfl) ?_
    refine lv_istore (lv' := [(4, .int x6), (0, .ref (ad k0)), (1, .int p1), (2, .int p2), (3, .int p3), (6, .int x6), (7, .int x7)]) hx hb dX12_quickest_116 hl (by decide) rfl (fun ls hl => ?_)
    refine lv_iload hx hb dX12_quickest_118 (lv_at hl 6 rfl) ?_
    refine lv_istore (lv' := [(5, .int x7), (4, .int x6), (0, .ref (ad k0)), (1, .int p1), (2, .int p2), (3, .int p3), (6, .int x6), (7, .int x7)]) hx hb dX12_quickest_120 hl (by decide) rfl (fun ls hl => ?_)
    exact J122 _ hk41 _ _ _ _ _ _ _ (lv_sub hl [2, 3, 4, 5, 1, 0, 6] rfl) hw hd
  have L41 : ∀  (n : Nat), ∀ (x4 : Int32) (x5 : Int32) (x6 : Int32) (M : zMem) (H : Heap) (locs : List Loc) (ls : Array Slot), lv_has ls 8 [(0, .ref (ad k0)), (1, .int p1), (2, .int p2), (3, .int p3), (4, .int x4), (5, .int x5), (6, .int x6)] → zWd D cy sh ad s M H locs → zlX12_quickest_41 sh k0 p1 p2 p3  n x4 x5 x6 M = some (r, M1) → W p l e { frames := 3, cells := 0, slots := 0, locals := 77 } s m ([.ref (ad k0), .int p1, .int p2, .int p3] : List Value).toArray below meth c H locs 0 0 (zQI below D cy sh ad s [.ref (ad k0), .int p1, .int p2, .int p3] r M1) (F0 m 41 ls []) := by
    intro  n
    induction n with
    | zero => intro x4 x5 x6 M H locs ls hl hw hd; exact (znone hd).elim
    | succ n hk41 =>
      intro x4 x5 x6 M H locs ls hl hw hd
      have hd : zbX12_quickest_41 sh k0 p1 p2 p3  (zlX12_quickest_41 sh k0 p1 p2 p3  n) x4 x5 x6 M = some (r, M1) := hd
      unfold zbX12_quickest_41 at hd
      refine lv_iload hx hb dX12_quickest_41 (lv_at hl 6 rfl) ?_
      refine lv_bipush (v := (60 : Int32)) hx hb dX12_quickest_43 (by decide) ?_
      refine lv_icmp_gt (tgt := 128) hx hb dX12_quickest_45 (by decide) (fun c_1 => ?_) (fun c_1 => ?_)
      · have hd := zif_pos c_1 hd
        refine lv_iload_n hx hb dX12_quickest_128 rfl (lv_at hl 3 rfl) ?_
        refine lv_if_ne (tgt := 137) hx hb dX12_quickest_129 (by decide) (fun c_2 => ?_) (fun c_2 => ?_)
        · have hd := zif_neg c_2 hd
          refine lv_iload hx hb dX12_quickest_137 (lv_at hl 5 rfl) ?_
          exact J139 _ _ _ _ _ (lv_sub hl [] rfl) hw hd
        · have hd := zif_pos c_2 hd
          refine lv_iload hx hb dX12_quickest_132 (lv_at hl 4 rfl) ?_
          refine lv_goto (tgt := 139) hx hb dX12_quickest_134 (by decide) ?_
          exact J139 _ _ _ _ _ (lv_sub hl [] rfl) hw hd
      · have hd := zif_neg c_1 hd
        refine lv_aload_n hx hb dX12_quickest_48 rfl (lv_at hl 0 rfl) ?_
        refine lv_iload_n hx hb dX12_quickest_49 rfl (lv_at hl 1 rfl) ?_
        refine lv_iload_n hx hb dX12_quickest_50 rfl (lv_at hl 2 rfl) ?_
        refine lv_iload hx hb dX12_quickest_51 (lv_at hl 6 rfl) ?_
        refine lv_aload_n hx hb dX12_quickest_53 rfl (lv_at hl 0 rfl) ?_
        refine z_gR F hw h0 zc12 14 (by decide) rfl zf12_27 dX12_quickest_54 ?_
        have t_3 : zT sh (zR M k0 14) 14 := hw.2.2.2.fld h0 14 14
        refine lv_bipush (v := (6 : Int32)) hx hb dX12_quickest_57 (by decide) ?_
        refine lv_iload_n hx hb dX12_quickest_59 rfl (lv_at hl 1 rfl) ?_
        refine lv_imul hx hb dX12_quickest_60 ?_
        refine lv_iconst (v := (1 : Int32)) hx hb dX12_quickest_61 (by decide) ?_
        refine lv_iadd hx hb dX12_quickest_62 ?_
        obtain ⟨g_4, hd⟩ := zgd_some hd
        refine z_iald F hw t_3 g_4 dX12_quickest_63 ?_
        refine lv_aload_n hx hb dX12_quickest_64 rfl (lv_at hl 0 rfl) ?_
        refine z_gR F hw h0 zc12 14 (by decide) rfl zf12_27 dX12_quickest_65 ?_
        have t_5 : zT sh (zR M k0 14) 14 := hw.2.2.2.fld h0 14 14
        refine lv_bipush (v := (6 : Int32)) hx hb dX12_quickest_68 (by decide) ?_
        refine lv_iload_n hx hb dX12_quickest_70 rfl (lv_at hl 1 rfl) ?_
        refine lv_imul hx hb dX12_quickest_71 ?_
        refine lv_iconst (v := (2 : Int32)) hx hb dX12_quickest_72 (by decide) ?_
        refine lv_iadd hx hb dX12_quickest_73 ?_
        obtain ⟨g_6, hd⟩ := zgd_some hd
        refine z_iald F hw t_5 g_6 dX12_quickest_74 ?_
        obtain ⟨M_8, hc_7, hd⟩ := zob_some hd
        refine z_cvV F hw hl.1 (As := [.int p1, .int p2, .int x6, .int (zI M (zR M k0 14) ((((6 : Int32) * p1) + (1 : Int32)).toNatClampNeg)), .int (zI M (zR M k0 14) ((((6 : Int32) * p1) + (2 : Int32)).toNatClampNeg))]) (rest := []) (ztX12_laysTop l D cy sh ad h0 hc_7) zyX12_laysTop h0 zc12 zk12_353 ⟨rfl, rfl⟩ ⟨by decide, by decide⟩ rfl rfl (Nat.le_of_ble_eq_true rfl) dX12_quickest_75 (fun H locs hw => ?_)
        refine lv_iconst (v := (2 : Int32)) hx hb dX12_quickest_78 (by decide) ?_
        refine lv_aload_n hx hb dX12_quickest_79 rfl (lv_at hl 0 rfl) ?_
        refine z_gI F hw h0 zc12 36 (by decide) rfl zf12_286 dX12_quickest_80 ?_
        refine lv_imul hx hb dX12_quickest_83 ?_
        refine lv_aload_n hx hb dX12_quickest_84 rfl (lv_at hl 0 rfl) ?_
        refine lv_iload_n hx hb dX12_quickest_85 rfl (lv_at hl 2 rfl) ?_
        refine lv_iconst (v := (2 : Int32)) hx hb dX12_quickest_86 (by decide) ?_
        refine lv_aload_n hx hb dX12_quickest_87 rfl (lv_at hl 0 rfl) ?_
        obtain ⟨r_10, hc_9, hd⟩ := zob_some hd
        refine z_cvI F hw hl.1 (As := []) (rest := [.int (2 : Int32), .int p2, .ref (ad k0), .int ((2 : Int32) * (zI M_8 k0 36))]) (ztX12_rampSum l D cy sh ad h0 hc_9) zyX12_rampSum h0 zc12 zk12_309 ⟨rfl, rfl⟩ ⟨by decide, by decide⟩ rfl rfl (Nat.le_of_ble_eq_true rfl) dX12_quickest_88 (fun H locs hw => ?_)
        refine lv_imul hx hb dX12_quickest_91 ?_
        refine lv_isub hx hb dX12_quickest_92 ?_
        obtain ⟨r_12, hc_11, hd⟩ := zob_some hd
        refine z_cvI F hw hl.1 (As := [.int (p2 - ((2 : Int32) * r_10))]) (rest := [.int ((2 : Int32) * (zI M_8 k0 36))]) (ztX12_evenTicks l D cy sh ad h0 hc_11) zyX12_evenTicks h0 zc12 zk12_360 ⟨rfl, rfl⟩ ⟨by decide, by decide⟩ rfl rfl (Nat.le_of_ble_eq_true rfl) dX12_quickest_93 (fun H locs hw => ?_)
        refine lv_iadd hx hb dX12_quickest_96 ?_
        refine lv_topi (fun v_13 ev_13 => ?_)
        have hd := zbd_eq ev_13 hd
        refine lv_istore (lv' := [(7, .int v_13), (0, .ref (ad k0)), (1, .int p1), (2, .int p2), (3, .int p3), (4, .int x4), (5, .int x5), (6, .int x6)]) hx hb dX12_quickest_97 hl (by decide) rfl (fun ls hl => ?_)
        refine lv_iload hx hb dX12_quickest_99 (lv_at hl 5 rfl) ?_
        refine lv_if_le (tgt := 114) hx hb dX12_quickest_101 (by decide) (fun c_14 => ?_) (fun c_14 => ?_)
        · have hd := zif_pos c_14 hd
          exact J114 _ hk41 _ _ _ _ _ _ (lv_sub hl [1, 2, 3, 4, 7, 0] rfl) hw hd
        · have hd := zif_neg c_14 hd
          refine lv_iload hx hb dX12_quickest_104 (lv_at hl 0 rfl) ?_
          refine lv_iload hx hb dX12_quickest_106 (lv_at hl 6 rfl) ?_
          refine lv_icmp_lt (tgt := 114) hx hb dX12_quickest_108 (by decide) (fun c_15 => ?_) (fun c_15 => ?_)
          · have hd := zif_pos c_15 hd
            exact J114 _ hk41 _ _ _ _ _ _ (lv_sub hl [1, 2, 3, 4, 7, 0] rfl) hw hd
          · have hd := zif_neg c_15 hd
            refine lv_goto (tgt := 122) hx hb dX12_quickest_111 (by decide) ?_
            exact J122 _ hk41 _ _ _ _ _ _ _ (lv_sub hl [1, 2, 3, 4, 5, 6, 7] rfl) hw hd
  unfold zX12_quickest at hd
  refine lv_aload_n hx hb dX12_quickest_0 rfl (lv_at hl 0 rfl) ?_
  refine lv_iload_n hx hb dX12_quickest_1 rfl (lv_at hl 1 rfl) ?_
  obtain ⟨r_17, hc_16, hd⟩ := zob_some hd
  refine z_cvI F hw hl.1 (As := [.int p1]) (rest := []) (ztX12_isAxis l D cy sh ad h0 hc_16) zyX12_isAxis h0 zc12 zk12_312 ⟨rfl, rfl⟩ ⟨by decide, by decide⟩ rfl rfl (Nat.le_of_ble_eq_true rfl) dX12_quickest_2 (fun H locs hw => ?_)
  refine lv_if_eq (tgt := 30) hx hb dX12_quickest_5 (by decide) (fun c_18 => ?_) (fun c_18 => ?_)
  · have hd := zif_pos c_18 hd
    exact J30 _ _ _ _ (lv_sub hl [] rfl) hw hd
  · have hd := zif_neg c_18 hd
    refine lv_iload_n hx hb dX12_quickest_8 rfl (lv_at hl 2 rfl) ?_
    refine lv_i2l (v := p2.toInt64) hx hb dX12_quickest_9 rfl ?_
    refine lv_lconst (v := (1 : Int64)) hx hb dX12_quickest_10 (by decide) ?_
    refine lv_ldc2 (v := (30000 : Int64)) hx hb F.1.2.2.2.1 (F.1.2.2.2.2 _ zi12_327) dX12_quickest_11 ?_
    obtain ⟨r_20, hc_19, hd⟩ := zob_some hd
    refine z_csI F hw hl.1 (As := [.long (p2.toInt64), .long (1 : Int64), .long (30000 : Int64)]) (rest := []) (ztX12_isIn l D cy sh ad  hc_19) zyX12_isIn zk12_91 ⟨rfl, rfl⟩ ⟨by decide, by decide⟩ rfl rfl (Nat.le_of_ble_eq_true rfl) dX12_quickest_14 (fun H locs hw => ?_)
    refine lv_if_eq (tgt := 30) hx hb dX12_quickest_17 (by decide) (fun c_21 => ?_) (fun c_21 => ?_)
    · have hd := zif_pos c_21 hd
      exact J30 _ _ _ _ (lv_sub hl [] rfl) hw hd
    · have hd := zif_neg c_21 hd
      refine lv_iload_n hx hb dX12_quickest_20 rfl (lv_at hl 3 rfl) ?_
      refine lv_i2l (v := p3.toInt64) hx hb dX12_quickest_21 rfl ?_
      refine lv_lconst (v := (0 : Int64)) hx hb dX12_quickest_22 (by decide) ?_
      refine lv_lconst (v := (1 : Int64)) hx hb dX12_quickest_23 (by decide) ?_
      obtain ⟨r_23, hc_22, hd⟩ := zob_some hd
      refine z_csI F hw hl.1 (As := [.long (p3.toInt64), .long (0 : Int64), .long (1 : Int64)]) (rest := []) (ztX12_isIn l D cy sh ad  hc_22) zyX12_isIn zk12_91 ⟨rfl, rfl⟩ ⟨by decide, by decide⟩ rfl rfl (Nat.le_of_ble_eq_true rfl) dX12_quickest_24 (fun H locs hw => ?_)
      refine lv_if_ne (tgt := 32) hx hb dX12_quickest_27 (by decide) (fun c_24 => ?_) (fun c_24 => ?_)
      · have hd := zif_neg c_24 hd
        refine lv_iconst (v := (0 : Int32)) hx hb dX12_quickest_32 (by decide) ?_
        refine lv_istore (lv' := [(4, .int (0 : Int32)), (0, .ref (ad k0)), (1, .int p1), (2, .int p2), (3, .int p3)]) hx hb dX12_quickest_33 hl (by decide) rfl (fun ls hl => ?_)
        refine lv_iconst (v := (0 : Int32)) hx hb dX12_quickest_35 (by decide) ?_
        refine lv_istore (lv' := [(5, .int (0 : Int32)), (4, .int (0 : Int32)), (0, .ref (ad k0)), (1, .int p1), (2, .int p2), (3, .int p3)]) hx hb dX12_quickest_36 hl (by decide) rfl (fun ls hl => ?_)
        refine lv_iconst (v := (1 : Int32)) hx hb dX12_quickest_38 (by decide) ?_
        refine lv_istore (lv' := [(6, .int (1 : Int32)), (5, .int (0 : Int32)), (4, .int (0 : Int32)), (0, .ref (ad k0)), (1, .int p1), (2, .int p2), (3, .int p3)]) hx hb dX12_quickest_39 hl (by decide) rfl (fun ls hl => ?_)
        exact L41 zF _ _ _ _ _ _ _ (lv_sub hl [3, 4, 5, 6, 2, 1, 0] rfl) hw hd
      · have hd := zif_pos c_24 hd
        exact J30 _ _ _ _ (lv_sub hl [] rfl) hw hd

def zjX12_most_19 (sh : zShp) (k0 : Nat) (p1 : Int32) (p2 : Int32) (p3 : Int32) (p4 : Int32)  (M : zMem) : Option (Int32 × zMem) :=
  some ((-1 : Int32), M)
def zbX12_most_30 (sh : zShp) (k0 : Nat) (p1 : Int32) (p2 : Int32) (p3 : Int32) (p4 : Int32)  (kk30 : Int32 → Int32 → Int32 → zMem → Option (Int32 × zMem)) (x5 : Int32) (x6 : Int32) (x7 : Int32) (M : zMem) : Option (Int32 × zMem) :=
  zob (zX12_planTicks sh k0 M) fun r_2 =>
  if r_2 ≤ x7 then (
  some (x5, M))
  else (
  zgd (zin p4 (zlen sh (zR M k0 37))) <|
  zob (zX12_goneBy sh x6 (zI M (zR M k0 37) p4.toNatClampNeg) (zI M k0 39) M) fun r_7 =>
  zob (zX12_speedOf sh k0 x7 M) fun r_9 =>
  zgd (zin p4 (zlen sh (zR M k0 37))) <|
  zob (zX12_goneBy sh (x6 + r_9) (zI M (zR M k0 37) p4.toNatClampNeg) (zI M k0 39) M) fun r_13 =>
  zob (zX12_size sh (r_13 - r_7) M) fun r_15 =>
  zob (zX12_greater sh x5 r_15 M) fun r_17 =>
  kk30 r_17 (x6 + r_9) (x7 + (1 : Int32)) M)
def zlX12_most_30 (sh : zShp) (k0 : Nat) (p1 : Int32) (p2 : Int32) (p3 : Int32) (p4 : Int32)  : Nat → Int32 → Int32 → Int32 → zMem → Option (Int32 × zMem)
  | 0 => fun _ _ _ _ => none
  | n + 1 => fun x5 x6 x7 M => zbX12_most_30 sh k0 p1 p2 p3 p4  (zlX12_most_30 sh k0 p1 p2 p3 p4  n) x5 x6 x7 M
def zX12_most (sh : zShp) (k0 : Nat) (p1 : Int32) (p2 : Int32) (p3 : Int32) (p4 : Int32) (M : zMem) : Option (Int32 × zMem) :=
  zob (zX12_isAxis sh k0 p4 M) fun r_19 =>
  if r_19 = 0 then (
  zjX12_most_19 sh k0 p1 p2 p3 p4 M)
  else (
  zob2 (zX12_canGo sh k0 p1 p2 p3 M) fun r_22 M_23 =>
  if r_22 = 0 then (
  zjX12_most_19 sh k0 p1 p2 p3 p4 M_23)
  else (
  zlX12_most_30 sh k0 p1 p2 p3 p4 zF (0 : Int32) (0 : Int32) (0 : Int32) M_23))
set_option maxHeartbeats 4000000 in
set_option maxRecDepth 100000 in
theorem ztX12_most (l : Launch) (D : va_G) (cy : Nat → ClassId) (sh : zShp) (ad : Nat → Nat) {k0 : Nat} {p1 : Int32} {p2 : Int32} {p3 : Int32} {p4 : Int32} (h0 : zT sh k0 12) {M : zMem} {r : Int32} {M1 : zMem} (hd : zX12_most sh k0 p1 p2 p3 p4 M = some (r, M1)) : zCI l yX12_most cX12_most 9 .int { frames := 5, cells := 0, slots := 0, locals := 124 } [.ref (ad k0), .int p1, .int p2, .int p3, .int p4] D cy sh ad M r M1 := by
  refine zci_of (by decide) (Nat.le_of_ble_eq_true rfl) (fun p e s m below meth c ls F hr hlk hl hw => ?_)
  have hx := F.1.1
  have hb := F.1.2.1
  have hl : lv_has ls 9 [(0, .ref (ad k0)), (1, .int p1), (2, .int p2), (3, .int p3), (4, .int p4)] := hl
  have J19 : ∀ (M : zMem) (H : Heap) (locs : List Loc) (ls : Array Slot), lv_has ls 9 [] → zWd D cy sh ad s M H locs → zjX12_most_19 sh k0 p1 p2 p3 p4  M = some (r, M1) → W p l e { frames := 5, cells := 0, slots := 0, locals := 124 } s m ([.ref (ad k0), .int p1, .int p2, .int p3, .int p4] : List Value).toArray below meth c H locs 0 0 (zQI below D cy sh ad s [.ref (ad k0), .int p1, .int p2, .int p3, .int p4] r M1) (F0 m 19 ls []) := by
    intro  M H locs ls hl hw hd
    unfold zjX12_most_19 at hd
    refine lv_iconst (v := (-1 : Int32)) hx hb dX12_most_19 (by decide) ?_
    exact z_iret F hr hlk hw (zpr1 hd) (zpr2 hd) dX12_most_20
  have L30 : ∀  (n : Nat), ∀ (x5 : Int32) (x6 : Int32) (x7 : Int32) (M : zMem) (H : Heap) (locs : List Loc) (ls : Array Slot), lv_has ls 9 [(0, .ref (ad k0)), (4, .int p4), (5, .int x5), (6, .int x6), (7, .int x7)] → zWd D cy sh ad s M H locs → zlX12_most_30 sh k0 p1 p2 p3 p4  n x5 x6 x7 M = some (r, M1) → W p l e { frames := 5, cells := 0, slots := 0, locals := 124 } s m ([.ref (ad k0), .int p1, .int p2, .int p3, .int p4] : List Value).toArray below meth c H locs 0 0 (zQI below D cy sh ad s [.ref (ad k0), .int p1, .int p2, .int p3, .int p4] r M1) (F0 m 30 ls []) := by
    intro  n
    induction n with
    | zero => intro x5 x6 x7 M H locs ls hl hw hd; exact (znone hd).elim
    | succ n hk30 =>
      intro x5 x6 x7 M H locs ls hl hw hd
      have hd : zbX12_most_30 sh k0 p1 p2 p3 p4  (zlX12_most_30 sh k0 p1 p2 p3 p4  n) x5 x6 x7 M = some (r, M1) := hd
      unfold zbX12_most_30 at hd
      refine lv_iload hx hb dX12_most_30 (lv_at hl 4 rfl) ?_
      refine lv_aload_n hx hb dX12_most_32 rfl (lv_at hl 0 rfl) ?_
      obtain ⟨r_2, hc_1, hd⟩ := zob_some hd
      refine z_cvI F hw hl.1 (As := []) (rest := [.int x7]) (ztX12_planTicks l D cy sh ad h0 hc_1) zyX12_planTicks h0 zc12 zk12_378 ⟨rfl, rfl⟩ ⟨by decide, by decide⟩ rfl rfl (Nat.le_of_ble_eq_true rfl) dX12_most_33 (fun H locs hw => ?_)
      refine lv_icmp_ge (tgt := 103) hx hb dX12_most_36 (by decide) (fun c_3 => ?_) (fun c_3 => ?_)
      · have hd := zif_pos c_3 hd
        refine lv_iload hx hb dX12_most_103 (lv_at hl 2 rfl) ?_
        exact z_iret F hr hlk hw (zpr1 hd) (zpr2 hd) dX12_most_105
      · have hd := zif_neg c_3 hd
        refine lv_iload hx hb dX12_most_39 (lv_at hl 3 rfl) ?_
        refine lv_aload_n hx hb dX12_most_41 rfl (lv_at hl 0 rfl) ?_
        refine z_gR F hw h0 zc12 37 (by decide) rfl zf12_61 dX12_most_42 ?_
        have t_4 : zT sh (zR M k0 37) 14 := hw.2.2.2.fld h0 37 14
        refine lv_iload hx hb dX12_most_45 (lv_at hl 1 rfl) ?_
        obtain ⟨g_5, hd⟩ := zgd_some hd
        refine z_iald F hw t_4 g_5 dX12_most_47 ?_
        refine lv_aload_n hx hb dX12_most_48 rfl (lv_at hl 0 rfl) ?_
        refine z_gI F hw h0 zc12 39 (by decide) rfl zf12_329 dX12_most_49 ?_
        obtain ⟨r_7, hc_6, hd⟩ := zob_some hd
        refine z_csI F hw hl.1 (As := [.int x6, .int (zI M (zR M k0 37) p4.toNatClampNeg), .int (zI M k0 39)]) (rest := []) (ztX12_goneBy l D cy sh ad  hc_6) zyX12_goneBy zk12_387 ⟨rfl, rfl⟩ ⟨by decide, by decide⟩ rfl rfl (Nat.le_of_ble_eq_true rfl) dX12_most_52 (fun H locs hw => ?_)
        refine lv_istore (lv' := [(8, .int r_7), (0, .ref (ad k0)), (4, .int p4), (5, .int x5), (6, .int x6), (7, .int x7)]) hx hb dX12_most_55 hl (by decide) rfl (fun ls hl => ?_)
        refine lv_iload hx hb dX12_most_57 (lv_at hl 4 rfl) ?_
        refine lv_aload_n hx hb dX12_most_59 rfl (lv_at hl 1 rfl) ?_
        refine lv_iload hx hb dX12_most_60 (lv_at hl 5 rfl) ?_
        obtain ⟨r_9, hc_8, hd⟩ := zob_some hd
        refine z_cvI F hw hl.1 (As := [.int x7]) (rest := [.int x6]) (ztX12_speedOf l D cy sh ad h0 hc_8) zyX12_speedOf h0 zc12 zk12_384 ⟨rfl, rfl⟩ ⟨by decide, by decide⟩ rfl rfl (Nat.le_of_ble_eq_true rfl) dX12_most_62 (fun H locs hw => ?_)
        refine lv_iadd hx hb dX12_most_65 ?_
        refine lv_istore (lv' := [(6, .int (x6 + r_9)), (8, .int r_7), (0, .ref (ad k0)), (4, .int p4), (5, .int x5), (7, .int x7)]) hx hb dX12_most_66 hl (by decide) rfl (fun ls hl => ?_)
        refine lv_iload hx hb dX12_most_68 (lv_at hl 4 rfl) ?_
        refine lv_iload hx hb dX12_most_70 (lv_at hl 0 rfl) ?_
        refine lv_aload_n hx hb dX12_most_72 rfl (lv_at hl 2 rfl) ?_
        refine z_gR F hw h0 zc12 37 (by decide) rfl zf12_61 dX12_most_73 ?_
        have t_10 : zT sh (zR M k0 37) 14 := hw.2.2.2.fld h0 37 14
        refine lv_iload hx hb dX12_most_76 (lv_at hl 3 rfl) ?_
        obtain ⟨g_11, hd⟩ := zgd_some hd
        refine z_iald F hw t_10 g_11 dX12_most_78 ?_
        refine lv_aload_n hx hb dX12_most_79 rfl (lv_at hl 2 rfl) ?_
        refine z_gI F hw h0 zc12 39 (by decide) rfl zf12_329 dX12_most_80 ?_
        obtain ⟨r_13, hc_12, hd⟩ := zob_some hd
        refine z_csI F hw hl.1 (As := [.int (x6 + r_9), .int (zI M (zR M k0 37) p4.toNatClampNeg), .int (zI M k0 39)]) (rest := [.int x5]) (ztX12_goneBy l D cy sh ad  hc_12) zyX12_goneBy zk12_387 ⟨rfl, rfl⟩ ⟨by decide, by decide⟩ rfl rfl (Nat.le_of_ble_eq_true rfl) dX12_most_83 (fun H locs hw => ?_)
        refine lv_iload hx hb dX12_most_86 (lv_at hl 1 rfl) ?_
        refine lv_isub hx hb dX12_most_88 ?_
        obtain ⟨r_15, hc_14, hd⟩ := zob_some hd
        refine z_csI F hw hl.1 (As := [.int (r_13 - r_7)]) (rest := [.int x5]) (ztX12_size l D cy sh ad  hc_14) zyX12_size zk12_273 ⟨rfl, rfl⟩ ⟨by decide, by decide⟩ rfl rfl (Nat.le_of_ble_eq_true rfl) dX12_most_89 (fun H locs hw => ?_)
        obtain ⟨r_17, hc_16, hd⟩ := zob_some hd
        refine z_csI F hw hl.1 (As := [.int x5, .int r_15]) (rest := []) (ztX12_greater l D cy sh ad  hc_16) zyX12_greater zk12_318 ⟨rfl, rfl⟩ ⟨by decide, by decide⟩ rfl rfl (Nat.le_of_ble_eq_true rfl) dX12_most_92 (fun H locs hw => ?_)
        refine lv_istore (lv' := [(5, .int r_17), (6, .int (x6 + r_9)), (8, .int r_7), (0, .ref (ad k0)), (4, .int p4), (7, .int x7)]) hx hb dX12_most_95 hl (by decide) rfl (fun ls hl => ?_)
        refine lv_iinc (v := (x7 + (1 : Int32))) (lv' := [(7, .int (x7 + (1 : Int32))), (5, .int r_17), (6, .int (x6 + r_9)), (8, .int r_7), (0, .ref (ad k0)), (4, .int p4)]) hx hb dX12_most_97 hl (k := 5) rfl (ziinc (by decide)) (by decide) rfl (fun ls hl => ?_)
        refine lv_goto (tgt := 30) hx hb dX12_most_100 (by decide) ?_
        exact hk30 _ _ _ _ _ _ _ (lv_sub hl [4, 5, 1, 2, 0] rfl) hw hd
  unfold zX12_most at hd
  refine lv_aload_n hx hb dX12_most_0 rfl (lv_at hl 0 rfl) ?_
  refine lv_iload hx hb dX12_most_1 (lv_at hl 4 rfl) ?_
  obtain ⟨r_19, hc_18, hd⟩ := zob_some hd
  refine z_cvI F hw hl.1 (As := [.int p4]) (rest := []) (ztX12_isAxis l D cy sh ad h0 hc_18) zyX12_isAxis h0 zc12 zk12_312 ⟨rfl, rfl⟩ ⟨by decide, by decide⟩ rfl rfl (Nat.le_of_ble_eq_true rfl) dX12_most_3 (fun H locs hw => ?_)
  refine lv_if_eq (tgt := 19) hx hb dX12_most_6 (by decide) (fun c_20 => ?_) (fun c_20 => ?_)
  · have hd := zif_pos c_20 hd
    exact J19 _ _ _ _ (lv_sub hl [] rfl) hw hd
  · have hd := zif_neg c_20 hd
    refine lv_aload_n hx hb dX12_most_9 rfl (lv_at hl 0 rfl) ?_
    refine lv_iload_n hx hb dX12_most_10 rfl (lv_at hl 1 rfl) ?_
    refine lv_iload_n hx hb dX12_most_11 rfl (lv_at hl 2 rfl) ?_
    refine lv_iload_n hx hb dX12_most_12 rfl (lv_at hl 3 rfl) ?_
    obtain ⟨r_22, M_23, hc_21, hd⟩ := zob2_some hd
    refine z_cvI F hw hl.1 (As := [.int p1, .int p2, .int p3]) (rest := []) (ztX12_canGo l D cy sh ad h0 hc_21) zyX12_canGo h0 zc12 zk12_375 ⟨rfl, rfl⟩ ⟨by decide, by decide⟩ rfl rfl (Nat.le_of_ble_eq_true rfl) dX12_most_13 (fun H locs hw => ?_)
    refine lv_if_ne (tgt := 21) hx hb dX12_most_16 (by decide) (fun c_24 => ?_) (fun c_24 => ?_)
    · have hd := zif_neg c_24 hd
      refine lv_iconst (v := (0 : Int32)) hx hb dX12_most_21 (by decide) ?_
      refine lv_istore (lv' := [(5, .int (0 : Int32)), (0, .ref (ad k0)), (1, .int p1), (2, .int p2), (3, .int p3), (4, .int p4)]) hx hb dX12_most_22 hl (by decide) rfl (fun ls hl => ?_)
      refine lv_iconst (v := (0 : Int32)) hx hb dX12_most_24 (by decide) ?_
      refine lv_istore (lv' := [(6, .int (0 : Int32)), (5, .int (0 : Int32)), (0, .ref (ad k0)), (1, .int p1), (2, .int p2), (3, .int p3), (4, .int p4)]) hx hb dX12_most_25 hl (by decide) rfl (fun ls hl => ?_)
      refine lv_iconst (v := (0 : Int32)) hx hb dX12_most_27 (by decide) ?_
      refine lv_istore (lv' := [(7, .int (0 : Int32)), (6, .int (0 : Int32)), (5, .int (0 : Int32)), (0, .ref (ad k0)), (1, .int p1), (2, .int p2), (3, .int p3), (4, .int p4)]) hx hb dX12_most_28 hl (by decide) rfl (fun ls hl => ?_)
      exact L30 zF _ _ _ _ _ _ _ (lv_sub hl [3, 7, 2, 1, 0] rfl) hw hd
    · have hd := zif_pos c_24 hd
      exact J19 _ _ _ _ (lv_sub hl [] rfl) hw hd

def zjX12_pulls_74 (sh : zShp) (k0 : Nat) (p1 : Int32) (p2 : Int32) (p3 : Int32) (p4 : Int32) (M : zMem)  (x5 : Int32) : Option (Int32) :=
  zob (zX12_greater sh (0 : Int32) x5 M) fun r_2 =>
  some r_2
def zjX12_pulls_72 (sh : zShp) (k0 : Nat) (p1 : Int32) (p2 : Int32) (p3 : Int32) (p4 : Int32) (M : zMem)  (s0 : Int32) : Option (Int32) :=
  zjX12_pulls_74 sh k0 p1 p2 p3 p4 M s0
def zX12_pulls (sh : zShp) (k0 : Nat) (p1 : Int32) (p2 : Int32) (p3 : Int32) (p4 : Int32) (M : zMem) : Option (Int32) :=
  if p2 ≤ p1 then (
  if p3 ≤ (zrem p4 (8 : Int32)) then (
  zjX12_pulls_72 sh k0 p1 p2 p3 p4 M (p1 - ((p1 * (zI M k0 29)) / (1000 : Int32))))
  else (
  zjX12_pulls_72 sh k0 p1 p2 p3 p4 M (p1 - (((zI M k0 28) + ((p1 * (zI M k0 29)) / (100 : Int32))) / (10 : Int32)))))
  else (
  zbd ((p1 + (((zI M k0 28) - ((p1 * (zI M k0 29)) / (100 : Int32))) / (10 : Int32)))) fun v_5 =>
  zjX12_pulls_74 sh k0 p1 p2 p3 p4 M v_5)
set_option maxHeartbeats 4000000 in
set_option maxRecDepth 100000 in
theorem ztX12_pulls (l : Launch) (D : va_G) (cy : Nat → ClassId) (sh : zShp) (ad : Nat → Nat) {k0 : Nat} {p1 : Int32} {p2 : Int32} {p3 : Int32} {p4 : Int32} (h0 : zT sh k0 12) {M : zMem} {r : Int32} (hd : zX12_pulls sh k0 p1 p2 p3 p4 M = some r) : zCI l yX12_pulls cX12_pulls 6 .int { frames := 1, cells := 0, slots := 0, locals := 21 } [.ref (ad k0), .int p1, .int p2, .int p3, .int p4] D cy sh ad M r M := by
  refine zci_of (by decide) (Nat.le_of_ble_eq_true rfl) (fun p e s m below meth c ls F hr hlk hl hw => ?_)
  have hx := F.1.1
  have hb := F.1.2.1
  have hl : lv_has ls 6 [(0, .ref (ad k0)), (1, .int p1), (2, .int p2), (3, .int p3), (4, .int p4)] := hl
  have J74 : ∀ (x5 : Int32) (H : Heap) (locs : List Loc) (ls : Array Slot), lv_has ls 6 [(5, .int x5)] → zWd D cy sh ad s M H locs → zjX12_pulls_74 sh k0 p1 p2 p3 p4 M  x5 = some r → W p l e { frames := 1, cells := 0, slots := 0, locals := 21 } s m ([.ref (ad k0), .int p1, .int p2, .int p3, .int p4] : List Value).toArray below meth c H locs 0 0 (zQI below D cy sh ad s [.ref (ad k0), .int p1, .int p2, .int p3, .int p4] r M) (F0 m 74 ls []) := by
    intro  x5 H locs ls hl hw hd
    unfold zjX12_pulls_74 at hd
    refine lv_iconst (v := (0 : Int32)) hx hb dX12_pulls_74 (by decide) ?_
    refine lv_iload hx hb dX12_pulls_75 (lv_at hl 0 rfl) ?_
    obtain ⟨r_2, hc_1, hd⟩ := zob_some hd
    refine z_csI F hw hl.1 (As := [.int (0 : Int32), .int x5]) (rest := []) (ztX12_greater l D cy sh ad  hc_1) zyX12_greater zk12_318 ⟨rfl, rfl⟩ ⟨by decide, by decide⟩ rfl rfl (Nat.le_of_ble_eq_true rfl) dX12_pulls_77 (fun H locs hw => ?_)
    exact z_iret F hr hlk hw (Option.some.inj hd) rfl dX12_pulls_80
  have J72 : ∀ (s0 : Int32) (H : Heap) (locs : List Loc) (ls : Array Slot), lv_has ls 6 [] → zWd D cy sh ad s M H locs → zjX12_pulls_72 sh k0 p1 p2 p3 p4 M  s0 = some r → W p l e { frames := 1, cells := 0, slots := 0, locals := 21 } s m ([.ref (ad k0), .int p1, .int p2, .int p3, .int p4] : List Value).toArray below meth c H locs 0 0 (zQI below D cy sh ad s [.ref (ad k0), .int p1, .int p2, .int p3, .int p4] r M) (F0 m 72 ls [.int s0]) := by
    intro  s0 H locs ls hl hw hd
    unfold zjX12_pulls_72 at hd
    refine lv_istore (lv' := [(5, .int s0)]) hx hb dX12_pulls_72 hl (by decide) rfl (fun ls hl => ?_)
    exact J74 _ _ _ _ (lv_sub hl [0] rfl) hw hd
  unfold zX12_pulls at hd
  refine lv_iload_n hx hb dX12_pulls_0 rfl (lv_at hl 1 rfl) ?_
  refine lv_iload_n hx hb dX12_pulls_1 rfl (lv_at hl 2 rfl) ?_
  refine lv_icmp_ge (tgt := 29) hx hb dX12_pulls_2 (by decide) (fun c_3 => ?_) (fun c_3 => ?_)
  · have hd := zif_pos c_3 hd
    refine lv_iload hx hb dX12_pulls_29 (lv_at hl 4 rfl) ?_
    refine lv_bipush (v := (8 : Int32)) hx hb dX12_pulls_31 (by decide) ?_
    refine z_irem hx hb dX12_pulls_33 (by decide) ?_
    refine lv_iload_n hx hb dX12_pulls_34 rfl (lv_at hl 3 rfl) ?_
    refine lv_icmp_ge (tgt := 60) hx hb dX12_pulls_35 (by decide) (fun c_4 => ?_) (fun c_4 => ?_)
    · have hd := zif_pos c_4 hd
      refine lv_iload_n hx hb dX12_pulls_60 rfl (lv_at hl 1 rfl) ?_
      refine lv_iload_n hx hb dX12_pulls_61 rfl (lv_at hl 1 rfl) ?_
      refine lv_aload_n hx hb dX12_pulls_62 rfl (lv_at hl 0 rfl) ?_
      refine z_gI F hw h0 zc12 29 (by decide) rfl zf12_73 dX12_pulls_63 ?_
      refine lv_imul hx hb dX12_pulls_66 ?_
      refine lv_sipush (v := (1000 : Int32)) hx hb dX12_pulls_67 (by decide) ?_
      refine lv_idiv hx hb dX12_pulls_70 (by decide) ?_
      refine lv_isub hx hb dX12_pulls_71 ?_
      exact J72 _ _ _ _ (lv_sub hl [] rfl) hw hd
    · have hd := zif_neg c_4 hd
      refine lv_iload_n hx hb dX12_pulls_38 rfl (lv_at hl 1 rfl) ?_
      refine lv_aload_n hx hb dX12_pulls_39 rfl (lv_at hl 0 rfl) ?_
      refine z_gI F hw h0 zc12 28 (by decide) rfl zf12_70 dX12_pulls_40 ?_
      refine lv_iload_n hx hb dX12_pulls_43 rfl (lv_at hl 1 rfl) ?_
      refine lv_aload_n hx hb dX12_pulls_44 rfl (lv_at hl 0 rfl) ?_
      refine z_gI F hw h0 zc12 29 (by decide) rfl zf12_73 dX12_pulls_45 ?_
      refine lv_imul hx hb dX12_pulls_48 ?_
      refine lv_bipush (v := (100 : Int32)) hx hb dX12_pulls_49 (by decide) ?_
      refine lv_idiv hx hb dX12_pulls_51 (by decide) ?_
      refine lv_iadd hx hb dX12_pulls_52 ?_
      refine lv_bipush (v := (10 : Int32)) hx hb dX12_pulls_53 (by decide) ?_
      refine lv_idiv hx hb dX12_pulls_55 (by decide) ?_
      refine lv_isub hx hb dX12_pulls_56 ?_
      refine lv_goto (tgt := 72) hx hb dX12_pulls_57 (by decide) ?_
      exact J72 _ _ _ _ (lv_sub hl [] rfl) hw hd
  · have hd := zif_neg c_3 hd
    refine lv_iload_n hx hb dX12_pulls_5 rfl (lv_at hl 1 rfl) ?_
    refine lv_aload_n hx hb dX12_pulls_6 rfl (lv_at hl 0 rfl) ?_
    refine z_gI F hw h0 zc12 28 (by decide) rfl zf12_70 dX12_pulls_7 ?_
    refine lv_iload_n hx hb dX12_pulls_10 rfl (lv_at hl 1 rfl) ?_
    refine lv_aload_n hx hb dX12_pulls_11 rfl (lv_at hl 0 rfl) ?_
    refine z_gI F hw h0 zc12 29 (by decide) rfl zf12_73 dX12_pulls_12 ?_
    refine lv_imul hx hb dX12_pulls_15 ?_
    refine lv_bipush (v := (100 : Int32)) hx hb dX12_pulls_16 (by decide) ?_
    refine lv_idiv hx hb dX12_pulls_18 (by decide) ?_
    refine lv_isub hx hb dX12_pulls_19 ?_
    refine lv_bipush (v := (10 : Int32)) hx hb dX12_pulls_20 (by decide) ?_
    refine lv_idiv hx hb dX12_pulls_22 (by decide) ?_
    refine lv_iadd hx hb dX12_pulls_23 ?_
    refine lv_topi (fun v_5 ev_5 => ?_)
    have hd := zbd_eq ev_5 hd
    refine lv_istore (lv' := [(5, .int v_5), (0, .ref (ad k0)), (1, .int p1), (2, .int p2), (3, .int p3), (4, .int p4)]) hx hb dX12_pulls_24 hl (by decide) rfl (fun ls hl => ?_)
    refine lv_goto (tgt := 74) hx hb dX12_pulls_26 (by decide) ?_
    exact J74 _ _ _ _ (lv_sub hl [0] rfl) hw hd

def zjX12_drives_43 (sh : zShp) (k0 : Nat) (p1 : Int32) (p2 : Int32) (p3 : Int32) (p4 : Int32) (p5 : Int32) (p6 : Int32)  (M : zMem) : Option (Int32 × zMem) :=
  some ((-1 : Int32), M)
def zjX12_drives_174 (sh : zShp) (k0 : Nat) (p1 : Int32) (p2 : Int32) (p3 : Int32) (p4 : Int32) (p5 : Int32) (p6 : Int32)  (s0 : Int32) (M : zMem) : Option (Int32 × zMem) :=
  some (s0, M)
def zbX12_drives_60 (sh : zShp) (k0 : Nat) (p1 : Int32) (p2 : Int32) (p3 : Int32) (p4 : Int32) (p5 : Int32) (p6 : Int32)  (kk60 : Int32 → Int32 → Int32 → Int32 → Int32 → zMem → Option (Int32 × zMem)) (x7 : Int32) (x8 : Int32) (x9 : Int32) (x10 : Int32) (x11 : Int32) (M : zMem) : Option (Int32 × zMem) :=
  zob (zX12_planTicks sh k0 M) fun r_2 =>
  if r_2 ≤ x11 then (
  if p6 = 0 then (
  zjX12_drives_174 sh k0 p1 p2 p3 p4 p5 p6 x7 M)
  else (
  zjX12_drives_174 sh k0 p1 p2 p3 p4 p5 p6 x8 M))
  else (
  zob (zX12_speedOf sh k0 x11 M) fun r_6 =>
  zob (zX12_axisAt sh k0 p4 (0 : Int32) M) fun r_8 =>
  zgd (zin p4 (zlen sh (zR M k0 37))) <|
  zob (zX12_goneBy sh (x9 + r_6) (zI M (zR M k0 37) p4.toNatClampNeg) (zI M k0 39) M) fun r_12 =>
  zob (zX12_currentOf sh k0 (r_8 + r_12) (1 : Int32) M) fun r_14 =>
  zob (zX12_size sh r_14 M) fun r_16 =>
  zob (zX12_pulls sh k0 x10 r_16 p5 x11 M) fun r_18 =>
  zob (zX12_size sh (r_18 - r_16) M) fun r_20 =>
  zob (zX12_greater sh x7 r_20 M) fun r_22 =>
  zob (zX12_size sh (r_18 - r_16) M) fun r_24 =>
  kk60 r_22 (x8 + r_24) (x9 + r_6) r_18 (x11 + (1 : Int32)) M)
def zlX12_drives_60 (sh : zShp) (k0 : Nat) (p1 : Int32) (p2 : Int32) (p3 : Int32) (p4 : Int32) (p5 : Int32) (p6 : Int32)  : Nat → Int32 → Int32 → Int32 → Int32 → Int32 → zMem → Option (Int32 × zMem)
  | 0 => fun _ _ _ _ _ _ => none
  | n + 1 => fun x7 x8 x9 x10 x11 M => zbX12_drives_60 sh k0 p1 p2 p3 p4 p5 p6  (zlX12_drives_60 sh k0 p1 p2 p3 p4 p5 p6  n) x7 x8 x9 x10 x11 M
def zX12_drives (sh : zShp) (k0 : Nat) (p1 : Int32) (p2 : Int32) (p3 : Int32) (p4 : Int32) (p5 : Int32) (p6 : Int32) (M : zMem) : Option (Int32 × zMem) :=
  zob (zX12_isAxis sh k0 p4 M) fun r_26 =>
  if r_26 = 0 then (
  zjX12_drives_43 sh k0 p1 p2 p3 p4 p5 p6 M)
  else (
  zob (zX12_isIn sh (p5.toInt64) (0 : Int64) (8 : Int64) M) fun r_29 =>
  if r_29 = 0 then (
  zjX12_drives_43 sh k0 p1 p2 p3 p4 p5 p6 M)
  else (
  zob (zX12_isIn sh (p6.toInt64) (0 : Int64) (1 : Int64) M) fun r_32 =>
  if r_32 = 0 then (
  zjX12_drives_43 sh k0 p1 p2 p3 p4 p5 p6 M)
  else (
  zob2 (zX12_canGo sh k0 p1 p2 p3 M) fun r_35 M_36 =>
  if r_35 = 0 then (
  zjX12_drives_43 sh k0 p1 p2 p3 p4 p5 p6 M_36)
  else (
  zlX12_drives_60 sh k0 p1 p2 p3 p4 p5 p6 zF (0 : Int32) (0 : Int32) (0 : Int32) (0 : Int32) (0 : Int32) M_36))))
set_option maxHeartbeats 4000000 in
set_option maxRecDepth 100000 in
theorem ztX12_drives (l : Launch) (D : va_G) (cy : Nat → ClassId) (sh : zShp) (ad : Nat → Nat) {k0 : Nat} {p1 : Int32} {p2 : Int32} {p3 : Int32} {p4 : Int32} {p5 : Int32} {p6 : Int32} (h0 : zT sh k0 12) {M : zMem} {r : Int32} {M1 : zMem} (hd : zX12_drives sh k0 p1 p2 p3 p4 p5 p6 M = some (r, M1)) : zCI l yX12_drives cX12_drives 13 .int { frames := 5, cells := 0, slots := 0, locals := 124 } [.ref (ad k0), .int p1, .int p2, .int p3, .int p4, .int p5, .int p6] D cy sh ad M r M1 := by
  refine zci_of (by decide) (Nat.le_of_ble_eq_true rfl) (fun p e s m below meth c ls F hr hlk hl hw => ?_)
  have hx := F.1.1
  have hb := F.1.2.1
  have hl : lv_has ls 13 [(0, .ref (ad k0)), (1, .int p1), (2, .int p2), (3, .int p3), (4, .int p4), (5, .int p5), (6, .int p6)] := hl
  have J43 : ∀ (M : zMem) (H : Heap) (locs : List Loc) (ls : Array Slot), lv_has ls 13 [] → zWd D cy sh ad s M H locs → zjX12_drives_43 sh k0 p1 p2 p3 p4 p5 p6  M = some (r, M1) → W p l e { frames := 5, cells := 0, slots := 0, locals := 124 } s m ([.ref (ad k0), .int p1, .int p2, .int p3, .int p4, .int p5, .int p6] : List Value).toArray below meth c H locs 0 0 (zQI below D cy sh ad s [.ref (ad k0), .int p1, .int p2, .int p3, .int p4, .int p5, .int p6] r M1) (F0 m 43 ls []) := by
    intro  M H locs ls hl hw hd
    unfold zjX12_drives_43 at hd
    refine lv_iconst (v := (-1 : Int32)) hx hb dX12_drives_43 (by decide) ?_
    exact z_iret F hr hlk hw (zpr1 hd) (zpr2 hd) dX12_drives_44
  have J174 : ∀ (s0 : Int32) (M : zMem) (H : Heap) (locs : List Loc) (ls : Array Slot), lv_has ls 13 [] → zWd D cy sh ad s M H locs → zjX12_drives_174 sh k0 p1 p2 p3 p4 p5 p6  s0 M = some (r, M1) → W p l e { frames := 5, cells := 0, slots := 0, locals := 124 } s m ([.ref (ad k0), .int p1, .int p2, .int p3, .int p4, .int p5, .int p6] : List Value).toArray below meth c H locs 0 0 (zQI below D cy sh ad s [.ref (ad k0), .int p1, .int p2, .int p3, .int p4, .int p5, .int p6] r M1) (F0 m 174 ls [.int s0]) := by
    intro  s0 M H locs ls hl hw hd
    unfold zjX12_drives_174 at hd
    exact z_iret F hr hlk hw (zpr1 hd) (zpr2 hd) dX12_drives_174
  have L60 : ∀  (n : Nat), ∀ (x7 : Int32) (x8 : Int32) (x9 : Int32) (x10 : Int32) (x11 : Int32) (M : zMem) (H : Heap) (locs : List Loc) (ls : Array Slot), lv_has ls 13 [(0, .ref (ad k0)), (4, .int p4), (5, .int p5), (6, .int p6), (7, .int x7), (8, .int x8), (9, .int x9), (10, .int x10), (11, .int x11)] → zWd D cy sh ad s M H locs → zlX12_drives_60 sh k0 p1 p2 p3 p4 p5 p6  n x7 x8 x9 x10 x11 M = some (r, M1) → W p l e { frames := 5, cells := 0, slots := 0, locals := 124 } s m ([.ref (ad k0), .int p1, .int p2, .int p3, .int p4, .int p5, .int p6] : List Value).toArray below meth c H locs 0 0 (zQI below D cy sh ad s [.ref (ad k0), .int p1, .int p2, .int p3, .int p4, .int p5, .int p6] r M1) (F0 m 60 ls []) := by
    intro  n
    induction n with
    | zero => intro x7 x8 x9 x10 x11 M H locs ls hl hw hd; exact (znone hd).elim
    | succ n hk60 =>
      intro x7 x8 x9 x10 x11 M H locs ls hl hw hd
      have hd : zbX12_drives_60 sh k0 p1 p2 p3 p4 p5 p6  (zlX12_drives_60 sh k0 p1 p2 p3 p4 p5 p6  n) x7 x8 x9 x10 x11 M = some (r, M1) := hd
      unfold zbX12_drives_60 at hd
      refine lv_iload hx hb dX12_drives_60 (lv_at hl 8 rfl) ?_
      refine lv_aload_n hx hb dX12_drives_62 rfl (lv_at hl 0 rfl) ?_
      obtain ⟨r_2, hc_1, hd⟩ := zob_some hd
      refine z_cvI F hw hl.1 (As := []) (rest := [.int x11]) (ztX12_planTicks l D cy sh ad h0 hc_1) zyX12_planTicks h0 zc12 zk12_378 ⟨rfl, rfl⟩ ⟨by decide, by decide⟩ rfl rfl (Nat.le_of_ble_eq_true rfl) dX12_drives_63 (fun H locs hw => ?_)
      refine lv_icmp_ge (tgt := 162) hx hb dX12_drives_66 (by decide) (fun c_3 => ?_) (fun c_3 => ?_)
      · have hd := zif_pos c_3 hd
        refine lv_iload hx hb dX12_drives_162 (lv_at hl 3 rfl) ?_
        refine lv_if_ne (tgt := 172) hx hb dX12_drives_164 (by decide) (fun c_4 => ?_) (fun c_4 => ?_)
        · have hd := zif_neg c_4 hd
          refine lv_iload hx hb dX12_drives_172 (lv_at hl 5 rfl) ?_
          exact J174 _ _ _ _ _ (lv_sub hl [] rfl) hw hd
        · have hd := zif_pos c_4 hd
          refine lv_iload hx hb dX12_drives_167 (lv_at hl 4 rfl) ?_
          refine lv_goto (tgt := 174) hx hb dX12_drives_169 (by decide) ?_
          exact J174 _ _ _ _ _ (lv_sub hl [] rfl) hw hd
      · have hd := zif_neg c_3 hd
        refine lv_iload hx hb dX12_drives_69 (lv_at hl 6 rfl) ?_
        refine lv_aload_n hx hb dX12_drives_71 rfl (lv_at hl 0 rfl) ?_
        refine lv_iload hx hb dX12_drives_72 (lv_at hl 8 rfl) ?_
        obtain ⟨r_6, hc_5, hd⟩ := zob_some hd
        refine z_cvI F hw hl.1 (As := [.int x11]) (rest := [.int x9]) (ztX12_speedOf l D cy sh ad h0 hc_5) zyX12_speedOf h0 zc12 zk12_384 ⟨rfl, rfl⟩ ⟨by decide, by decide⟩ rfl rfl (Nat.le_of_ble_eq_true rfl) dX12_drives_74 (fun H locs hw => ?_)
        refine lv_iadd hx hb dX12_drives_77 ?_
        refine lv_istore (lv' := [(9, .int (x9 + r_6)), (0, .ref (ad k0)), (4, .int p4), (5, .int p5), (6, .int p6), (7, .int x7), (8, .int x8), (10, .int x10), (11, .int x11)]) hx hb dX12_drives_78 hl (by decide) rfl (fun ls hl => ?_)
        refine lv_aload_n hx hb dX12_drives_80 rfl (lv_at hl 1 rfl) ?_
        refine lv_aload_n hx hb dX12_drives_81 rfl (lv_at hl 1 rfl) ?_
        refine lv_iload hx hb dX12_drives_82 (lv_at hl 2 rfl) ?_
        refine lv_iconst (v := (0 : Int32)) hx hb dX12_drives_84 (by decide) ?_
        obtain ⟨r_8, hc_7, hd⟩ := zob_some hd
        refine z_cvI F hw hl.1 (As := [.int p4, .int (0 : Int32)]) (rest := [.ref (ad k0)]) (ztX12_axisAt l D cy sh ad h0 hc_7) zyX12_axisAt h0 zc12 zk12_338 ⟨rfl, rfl⟩ ⟨by decide, by decide⟩ rfl rfl (Nat.le_of_ble_eq_true rfl) dX12_drives_85 (fun H locs hw => ?_)
        refine lv_iload hx hb dX12_drives_88 (lv_at hl 0 rfl) ?_
        refine lv_aload_n hx hb dX12_drives_90 rfl (lv_at hl 1 rfl) ?_
        refine z_gR F hw h0 zc12 37 (by decide) rfl zf12_61 dX12_drives_91 ?_
        have t_9 : zT sh (zR M k0 37) 14 := hw.2.2.2.fld h0 37 14
        refine lv_iload hx hb dX12_drives_94 (lv_at hl 2 rfl) ?_
        obtain ⟨g_10, hd⟩ := zgd_some hd
        refine z_iald F hw t_9 g_10 dX12_drives_96 ?_
        refine lv_aload_n hx hb dX12_drives_97 rfl (lv_at hl 1 rfl) ?_
        refine z_gI F hw h0 zc12 39 (by decide) rfl zf12_329 dX12_drives_98 ?_
        obtain ⟨r_12, hc_11, hd⟩ := zob_some hd
        refine z_csI F hw hl.1 (As := [.int (x9 + r_6), .int (zI M (zR M k0 37) p4.toNatClampNeg), .int (zI M k0 39)]) (rest := [.int r_8, .ref (ad k0)]) (ztX12_goneBy l D cy sh ad  hc_11) zyX12_goneBy zk12_387 ⟨rfl, rfl⟩ ⟨by decide, by decide⟩ rfl rfl (Nat.le_of_ble_eq_true rfl) dX12_drives_101 (fun H locs hw => ?_)
        refine lv_iadd hx hb dX12_drives_104 ?_
        refine lv_iconst (v := (1 : Int32)) hx hb dX12_drives_105 (by decide) ?_
        obtain ⟨r_14, hc_13, hd⟩ := zob_some hd
        refine z_cvI F hw hl.1 (As := [.int (r_8 + r_12), .int (1 : Int32)]) (rest := []) (ztX12_currentOf l D cy sh ad h0 hc_13) zyX12_currentOf h0 zc12 zk12_265 ⟨rfl, rfl⟩ ⟨by decide, by decide⟩ rfl rfl (Nat.le_of_ble_eq_true rfl) dX12_drives_106 (fun H locs hw => ?_)
        obtain ⟨r_16, hc_15, hd⟩ := zob_some hd
        refine z_csI F hw hl.1 (As := [.int r_14]) (rest := []) (ztX12_size l D cy sh ad  hc_15) zyX12_size zk12_273 ⟨rfl, rfl⟩ ⟨by decide, by decide⟩ rfl rfl (Nat.le_of_ble_eq_true rfl) dX12_drives_109 (fun H locs hw => ?_)
        refine lv_istore (lv' := [(12, .int r_16), (9, .int (x9 + r_6)), (0, .ref (ad k0)), (4, .int p4), (5, .int p5), (6, .int p6), (7, .int x7), (8, .int x8), (10, .int x10), (11, .int x11)]) hx hb dX12_drives_112 hl (by decide) rfl (fun ls hl => ?_)
        refine lv_aload_n hx hb dX12_drives_114 rfl (lv_at hl 2 rfl) ?_
        refine lv_iload hx hb dX12_drives_115 (lv_at hl 8 rfl) ?_
        refine lv_iload hx hb dX12_drives_117 (lv_at hl 0 rfl) ?_
        refine lv_iload hx hb dX12_drives_119 (lv_at hl 4 rfl) ?_
        refine lv_iload hx hb dX12_drives_121 (lv_at hl 9 rfl) ?_
        obtain ⟨r_18, hc_17, hd⟩ := zob_some hd
        refine z_cvI F hw hl.1 (As := [.int x10, .int r_16, .int p5, .int x11]) (rest := []) (ztX12_pulls l D cy sh ad h0 hc_17) zyX12_pulls h0 zc12 zk12_397 ⟨rfl, rfl⟩ ⟨by decide, by decide⟩ rfl rfl (Nat.le_of_ble_eq_true rfl) dX12_drives_123 (fun H locs hw => ?_)
        refine lv_istore (lv' := [(10, .int r_18), (12, .int r_16), (9, .int (x9 + r_6)), (0, .ref (ad k0)), (4, .int p4), (5, .int p5), (6, .int p6), (7, .int x7), (8, .int x8), (11, .int x11)]) hx hb dX12_drives_126 hl (by decide) rfl (fun ls hl => ?_)
        refine lv_iload hx hb dX12_drives_128 (lv_at hl 7 rfl) ?_
        refine lv_iload hx hb dX12_drives_130 (lv_at hl 0 rfl) ?_
        refine lv_iload hx hb dX12_drives_132 (lv_at hl 1 rfl) ?_
        refine lv_isub hx hb dX12_drives_134 ?_
        obtain ⟨r_20, hc_19, hd⟩ := zob_some hd
        refine z_csI F hw hl.1 (As := [.int (r_18 - r_16)]) (rest := [.int x7]) (ztX12_size l D cy sh ad  hc_19) zyX12_size zk12_273 ⟨rfl, rfl⟩ ⟨by decide, by decide⟩ rfl rfl (Nat.le_of_ble_eq_true rfl) dX12_drives_135 (fun H locs hw => ?_)
        obtain ⟨r_22, hc_21, hd⟩ := zob_some hd
        refine z_csI F hw hl.1 (As := [.int x7, .int r_20]) (rest := []) (ztX12_greater l D cy sh ad  hc_21) zyX12_greater zk12_318 ⟨rfl, rfl⟩ ⟨by decide, by decide⟩ rfl rfl (Nat.le_of_ble_eq_true rfl) dX12_drives_138 (fun H locs hw => ?_)
        refine lv_istore (lv' := [(7, .int r_22), (10, .int r_18), (12, .int r_16), (9, .int (x9 + r_6)), (0, .ref (ad k0)), (4, .int p4), (5, .int p5), (6, .int p6), (8, .int x8), (11, .int x11)]) hx hb dX12_drives_141 hl (by decide) rfl (fun ls hl => ?_)
        refine lv_iload hx hb dX12_drives_143 (lv_at hl 8 rfl) ?_
        refine lv_iload hx hb dX12_drives_145 (lv_at hl 1 rfl) ?_
        refine lv_iload hx hb dX12_drives_147 (lv_at hl 2 rfl) ?_
        refine lv_isub hx hb dX12_drives_149 ?_
        obtain ⟨r_24, hc_23, hd⟩ := zob_some hd
        refine z_csI F hw hl.1 (As := [.int (r_18 - r_16)]) (rest := [.int x8]) (ztX12_size l D cy sh ad  hc_23) zyX12_size zk12_273 ⟨rfl, rfl⟩ ⟨by decide, by decide⟩ rfl rfl (Nat.le_of_ble_eq_true rfl) dX12_drives_150 (fun H locs hw => ?_)
        refine lv_iadd hx hb dX12_drives_153 ?_
        refine lv_istore (lv' := [(8, .int (x8 + r_24)), (7, .int r_22), (10, .int r_18), (12, .int r_16), (9, .int (x9 + r_6)), (0, .ref (ad k0)), (4, .int p4), (5, .int p5), (6, .int p6), (11, .int x11)]) hx hb dX12_drives_154 hl (by decide) rfl (fun ls hl => ?_)
        refine lv_iinc (v := (x11 + (1 : Int32))) (lv' := [(11, .int (x11 + (1 : Int32))), (8, .int (x8 + r_24)), (7, .int r_22), (10, .int r_18), (12, .int r_16), (9, .int (x9 + r_6)), (0, .ref (ad k0)), (4, .int p4), (5, .int p5), (6, .int p6)]) hx hb dX12_drives_156 hl (k := 9) rfl (ziinc (by decide)) (by decide) rfl (fun ls hl => ?_)
        refine lv_goto (tgt := 60) hx hb dX12_drives_159 (by decide) ?_
        exact hk60 _ _ _ _ _ _ _ _ _ (lv_sub hl [6, 7, 8, 9, 2, 1, 5, 3, 0] rfl) hw hd
  unfold zX12_drives at hd
  refine lv_aload_n hx hb dX12_drives_0 rfl (lv_at hl 0 rfl) ?_
  refine lv_iload hx hb dX12_drives_1 (lv_at hl 4 rfl) ?_
  obtain ⟨r_26, hc_25, hd⟩ := zob_some hd
  refine z_cvI F hw hl.1 (As := [.int p4]) (rest := []) (ztX12_isAxis l D cy sh ad h0 hc_25) zyX12_isAxis h0 zc12 zk12_312 ⟨rfl, rfl⟩ ⟨by decide, by decide⟩ rfl rfl (Nat.le_of_ble_eq_true rfl) dX12_drives_3 (fun H locs hw => ?_)
  refine lv_if_eq (tgt := 43) hx hb dX12_drives_6 (by decide) (fun c_27 => ?_) (fun c_27 => ?_)
  · have hd := zif_pos c_27 hd
    exact J43 _ _ _ _ (lv_sub hl [] rfl) hw hd
  · have hd := zif_neg c_27 hd
    refine lv_iload hx hb dX12_drives_9 (lv_at hl 5 rfl) ?_
    refine lv_i2l (v := p5.toInt64) hx hb dX12_drives_11 rfl ?_
    refine lv_lconst (v := (0 : Int64)) hx hb dX12_drives_12 (by decide) ?_
    refine lv_ldc2 (v := (8 : Int64)) hx hb F.1.2.2.2.1 (F.1.2.2.2.2 _ zi12_395) dX12_drives_13 ?_
    obtain ⟨r_29, hc_28, hd⟩ := zob_some hd
    refine z_csI F hw hl.1 (As := [.long (p5.toInt64), .long (0 : Int64), .long (8 : Int64)]) (rest := []) (ztX12_isIn l D cy sh ad  hc_28) zyX12_isIn zk12_91 ⟨rfl, rfl⟩ ⟨by decide, by decide⟩ rfl rfl (Nat.le_of_ble_eq_true rfl) dX12_drives_16 (fun H locs hw => ?_)
    refine lv_if_eq (tgt := 43) hx hb dX12_drives_19 (by decide) (fun c_30 => ?_) (fun c_30 => ?_)
    · have hd := zif_pos c_30 hd
      exact J43 _ _ _ _ (lv_sub hl [] rfl) hw hd
    · have hd := zif_neg c_30 hd
      refine lv_iload hx hb dX12_drives_22 (lv_at hl 6 rfl) ?_
      refine lv_i2l (v := p6.toInt64) hx hb dX12_drives_24 rfl ?_
      refine lv_lconst (v := (0 : Int64)) hx hb dX12_drives_25 (by decide) ?_
      refine lv_lconst (v := (1 : Int64)) hx hb dX12_drives_26 (by decide) ?_
      obtain ⟨r_32, hc_31, hd⟩ := zob_some hd
      refine z_csI F hw hl.1 (As := [.long (p6.toInt64), .long (0 : Int64), .long (1 : Int64)]) (rest := []) (ztX12_isIn l D cy sh ad  hc_31) zyX12_isIn zk12_91 ⟨rfl, rfl⟩ ⟨by decide, by decide⟩ rfl rfl (Nat.le_of_ble_eq_true rfl) dX12_drives_27 (fun H locs hw => ?_)
      refine lv_if_eq (tgt := 43) hx hb dX12_drives_30 (by decide) (fun c_33 => ?_) (fun c_33 => ?_)
      · have hd := zif_pos c_33 hd
        exact J43 _ _ _ _ (lv_sub hl [] rfl) hw hd
      · have hd := zif_neg c_33 hd
        refine lv_aload_n hx hb dX12_drives_33 rfl (lv_at hl 0 rfl) ?_
        refine lv_iload_n hx hb dX12_drives_34 rfl (lv_at hl 1 rfl) ?_
        refine lv_iload_n hx hb dX12_drives_35 rfl (lv_at hl 2 rfl) ?_
        refine lv_iload_n hx hb dX12_drives_36 rfl (lv_at hl 3 rfl) ?_
        obtain ⟨r_35, M_36, hc_34, hd⟩ := zob2_some hd
        refine z_cvI F hw hl.1 (As := [.int p1, .int p2, .int p3]) (rest := []) (ztX12_canGo l D cy sh ad h0 hc_34) zyX12_canGo h0 zc12 zk12_375 ⟨rfl, rfl⟩ ⟨by decide, by decide⟩ rfl rfl (Nat.le_of_ble_eq_true rfl) dX12_drives_37 (fun H locs hw => ?_)
        refine lv_if_ne (tgt := 45) hx hb dX12_drives_40 (by decide) (fun c_37 => ?_) (fun c_37 => ?_)
        · have hd := zif_neg c_37 hd
          refine lv_iconst (v := (0 : Int32)) hx hb dX12_drives_45 (by decide) ?_
          refine lv_istore (lv' := [(7, .int (0 : Int32)), (0, .ref (ad k0)), (1, .int p1), (2, .int p2), (3, .int p3), (4, .int p4), (5, .int p5), (6, .int p6)]) hx hb dX12_drives_46 hl (by decide) rfl (fun ls hl => ?_)
          refine lv_iconst (v := (0 : Int32)) hx hb dX12_drives_48 (by decide) ?_
          refine lv_istore (lv' := [(8, .int (0 : Int32)), (7, .int (0 : Int32)), (0, .ref (ad k0)), (1, .int p1), (2, .int p2), (3, .int p3), (4, .int p4), (5, .int p5), (6, .int p6)]) hx hb dX12_drives_49 hl (by decide) rfl (fun ls hl => ?_)
          refine lv_iconst (v := (0 : Int32)) hx hb dX12_drives_51 (by decide) ?_
          refine lv_istore (lv' := [(9, .int (0 : Int32)), (8, .int (0 : Int32)), (7, .int (0 : Int32)), (0, .ref (ad k0)), (1, .int p1), (2, .int p2), (3, .int p3), (4, .int p4), (5, .int p5), (6, .int p6)]) hx hb dX12_drives_52 hl (by decide) rfl (fun ls hl => ?_)
          refine lv_iconst (v := (0 : Int32)) hx hb dX12_drives_54 (by decide) ?_
          refine lv_istore (lv' := [(10, .int (0 : Int32)), (9, .int (0 : Int32)), (8, .int (0 : Int32)), (7, .int (0 : Int32)), (0, .ref (ad k0)), (1, .int p1), (2, .int p2), (3, .int p3), (4, .int p4), (5, .int p5), (6, .int p6)]) hx hb dX12_drives_55 hl (by decide) rfl (fun ls hl => ?_)
          refine lv_iconst (v := (0 : Int32)) hx hb dX12_drives_57 (by decide) ?_
          refine lv_istore (lv' := [(11, .int (0 : Int32)), (10, .int (0 : Int32)), (9, .int (0 : Int32)), (8, .int (0 : Int32)), (7, .int (0 : Int32)), (0, .ref (ad k0)), (1, .int p1), (2, .int p2), (3, .int p3), (4, .int p4), (5, .int p5), (6, .int p6)]) hx hb dX12_drives_58 hl (by decide) rfl (fun ls hl => ?_)
          exact L60 zF _ _ _ _ _ _ _ _ _ (lv_sub hl [5, 9, 10, 11, 4, 3, 2, 1, 0] rfl) hw hd
        · have hd := zif_pos c_37 hd
          exact J43 _ _ _ _ (lv_sub hl [] rfl) hw hd

def zbX12_act_54 (sh : zShp) (k0 : Nat)  (kk54 : Int32 → zMem → Option (zMem)) (x1 : Int32) (M : zMem) : Option (zMem) :=
  if (194 : Int32) ≤ x1 then (
  zbd (zpI M k0 46 ((zI M k0 46) + (1 : Int32))) fun M_2 =>
  some M_2)
  else (
  zgd (zin x1 (zlen sh (zR M k0 0))) <|
  zgd (zin (((194 : Int32) * (zI M k0 46)) + x1) (zlen sh (zR M k0 45))) <|
  zbd (zpI M (zR M k0 45) ((((194 : Int32) * (zI M k0 46)) + x1).toNatClampNeg) (zI M (zR M k0 0) x1.toNatClampNeg)) fun M_7 =>
  kk54 (x1 + (1 : Int32)) M_7)
def zlX12_act_54 (sh : zShp) (k0 : Nat)  : Nat → Int32 → zMem → Option (zMem)
  | 0 => fun _ _ => none
  | n + 1 => fun x1 M => zbX12_act_54 sh k0  (zlX12_act_54 sh k0  n) x1 M
def zjX12_act_52 (sh : zShp) (k0 : Nat)  (M : zMem) : Option (zMem) :=
  zlX12_act_54 sh k0 zF (0 : Int32) M
def zbX12_act_13 (sh : zShp) (k0 : Nat)  (kk13 : Int32 → zMem → Option (zMem)) (x1 : Int32) (M : zMem) : Option (zMem) :=
  if (1940 : Int32) ≤ x1 then (
  zbd (zpI M k0 46 ((zI M k0 46) - (1 : Int32))) fun M_9 =>
  zjX12_act_52 sh k0 M_9)
  else (
  zgd (zin x1 (zlen sh (zR M k0 45))) <|
  zgd (zin (x1 - (194 : Int32)) (zlen sh (zR M k0 45))) <|
  zbd (zpI M (zR M k0 45) ((x1 - (194 : Int32)).toNatClampNeg) (zI M (zR M k0 45) x1.toNatClampNeg)) fun M_14 =>
  kk13 (x1 + (1 : Int32)) M_14)
def zlX12_act_13 (sh : zShp) (k0 : Nat)  : Nat → Int32 → zMem → Option (zMem)
  | 0 => fun _ _ => none
  | n + 1 => fun x1 M => zbX12_act_13 sh k0  (zlX12_act_13 sh k0  n) x1 M
def zX12_act (sh : zShp) (k0 : Nat) (M : zMem) : Option (zMem) :=
  if (zI M k0 46) = (10 : Int32) then (
  zlX12_act_13 sh k0 zF (194 : Int32) M)
  else (
  zjX12_act_52 sh k0 M)
set_option maxHeartbeats 4000000 in
set_option maxRecDepth 100000 in
theorem ztX12_act (l : Launch) (D : va_G) (cy : Nat → ClassId) (sh : zShp) (ad : Nat → Nat) {k0 : Nat} (h0 : zT sh k0 12) {M : zMem} {M1 : zMem} (hd : zX12_act sh k0 M = some M1) : zCV l yX12_act cX12_act 2 { frames := 0, cells := 0, slots := 0, locals := 0 } [.ref (ad k0)] D cy sh ad M M1 := by
  refine zcv_of (by decide) (Nat.le_of_ble_eq_true rfl) (fun p e s m below meth c ls F hr hlk hl hw => ?_)
  have hx := F.1.1
  have hb := F.1.2.1
  have hl : lv_has ls 2 [(0, .ref (ad k0))] := hl
  have L54 : ∀  (n : Nat), ∀ (x1 : Int32) (M : zMem) (H : Heap) (locs : List Loc) (ls : Array Slot), lv_has ls 2 [(0, .ref (ad k0)), (1, .int x1)] → zWd D cy sh ad s M H locs → zlX12_act_54 sh k0  n x1 M = some M1 → W p l e { frames := 0, cells := 0, slots := 0, locals := 0 } s m ([.ref (ad k0)] : List Value).toArray below meth c H locs 0 0 (zQV below D cy sh ad s [.ref (ad k0)] M1) (F0 m 54 ls []) := by
    intro  n
    induction n with
    | zero => intro x1 M H locs ls hl hw hd; exact (znone hd).elim
    | succ n hk54 =>
      intro x1 M H locs ls hl hw hd
      have hd : zbX12_act_54 sh k0  (zlX12_act_54 sh k0  n) x1 M = some M1 := hd
      unfold zbX12_act_54 at hd
      refine lv_iload_n hx hb dX12_act_54 rfl (lv_at hl 1 rfl) ?_
      refine lv_sipush (v := (194 : Int32)) hx hb dX12_act_55 (by decide) ?_
      refine lv_icmp_ge (tgt := 88) hx hb dX12_act_58 (by decide) (fun c_1 => ?_) (fun c_1 => ?_)
      · have hd := zif_pos c_1 hd
        refine lv_aload_n hx hb dX12_act_88 rfl (lv_at hl 0 rfl) ?_
        refine lv_dup hx hb dX12_act_89 rfl ?_
        refine z_gI F hw h0 zc12 46 (by decide) rfl zf12_249 dX12_act_90 ?_
        refine lv_iconst (v := (1 : Int32)) hx hb dX12_act_93 (by decide) ?_
        refine lv_iadd hx hb dX12_act_94 ?_
        refine z_pI F hw h0 zc12 46 (by decide) rfl zf12_249 rfl rfl rfl dX12_act_95 (fun H locs M_2 eM_2 hw => ?_)
        have hd := zbd_eq eM_2 hd
        exact z_vret F hr hlk hw (Option.some.inj hd) dX12_act_98
      · have hd := zif_neg c_1 hd
        refine lv_aload_n hx hb dX12_act_61 rfl (lv_at hl 0 rfl) ?_
        refine z_gR F hw h0 zc12 45 (by decide) rfl zf12_64 dX12_act_62 ?_
        have t_3 : zT sh (zR M k0 45) 14 := hw.2.2.2.fld h0 45 14
        refine lv_sipush (v := (194 : Int32)) hx hb dX12_act_65 (by decide) ?_
        refine lv_aload_n hx hb dX12_act_68 rfl (lv_at hl 0 rfl) ?_
        refine z_gI F hw h0 zc12 46 (by decide) rfl zf12_249 dX12_act_69 ?_
        refine lv_imul hx hb dX12_act_72 ?_
        refine lv_iload_n hx hb dX12_act_73 rfl (lv_at hl 1 rfl) ?_
        refine lv_iadd hx hb dX12_act_74 ?_
        refine lv_aload_n hx hb dX12_act_75 rfl (lv_at hl 0 rfl) ?_
        refine z_gR F hw h0 zc12 0 (by decide) rfl zf12_7 dX12_act_76 ?_
        have t_4 : zT sh (zR M k0 0) 14 := hw.2.2.2.fld h0 0 14
        refine lv_iload_n hx hb dX12_act_79 rfl (lv_at hl 1 rfl) ?_
        obtain ⟨g_5, hd⟩ := zgd_some hd
        refine z_iald F hw t_4 g_5 dX12_act_80 ?_
        obtain ⟨g_6, hd⟩ := zgd_some hd
        refine z_iast F hw t_3 g_6 dX12_act_81 (fun H locs M_7 eM_7 hw => ?_)
        have hd := zbd_eq eM_7 hd
        refine lv_iinc (v := (x1 + (1 : Int32))) (lv' := [(1, .int (x1 + (1 : Int32))), (0, .ref (ad k0))]) hx hb dX12_act_82 hl (k := 1) rfl (ziinc (by decide)) (by decide) rfl (fun ls hl => ?_)
        refine lv_goto (tgt := 54) hx hb dX12_act_85 (by decide) ?_
        exact hk54 _ _ _ _ _ (lv_sub hl [1, 0] rfl) hw hd
  have J52 : ∀ (M : zMem) (H : Heap) (locs : List Loc) (ls : Array Slot), lv_has ls 2 [(0, .ref (ad k0))] → zWd D cy sh ad s M H locs → zjX12_act_52 sh k0  M = some M1 → W p l e { frames := 0, cells := 0, slots := 0, locals := 0 } s m ([.ref (ad k0)] : List Value).toArray below meth c H locs 0 0 (zQV below D cy sh ad s [.ref (ad k0)] M1) (F0 m 52 ls []) := by
    intro  M H locs ls hl hw hd
    unfold zjX12_act_52 at hd
    refine lv_iconst (v := (0 : Int32)) hx hb dX12_act_52 (by decide) ?_
    refine lv_istore_n (lv' := [(1, .int (0 : Int32)), (0, .ref (ad k0))]) hx hb dX12_act_53 rfl hl (by decide) rfl (fun ls hl => ?_)
    exact L54 zF _ _ _ _ _ (lv_sub hl [1, 0] rfl) hw hd
  have L13 : ∀  (n : Nat), ∀ (x1 : Int32) (M : zMem) (H : Heap) (locs : List Loc) (ls : Array Slot), lv_has ls 2 [(0, .ref (ad k0)), (1, .int x1)] → zWd D cy sh ad s M H locs → zlX12_act_13 sh k0  n x1 M = some M1 → W p l e { frames := 0, cells := 0, slots := 0, locals := 0 } s m ([.ref (ad k0)] : List Value).toArray below meth c H locs 0 0 (zQV below D cy sh ad s [.ref (ad k0)] M1) (F0 m 13 ls []) := by
    intro  n
    induction n with
    | zero => intro x1 M H locs ls hl hw hd; exact (znone hd).elim
    | succ n hk13 =>
      intro x1 M H locs ls hl hw hd
      have hd : zbX12_act_13 sh k0  (zlX12_act_13 sh k0  n) x1 M = some M1 := hd
      unfold zbX12_act_13 at hd
      refine lv_iload_n hx hb dX12_act_13 rfl (lv_at hl 1 rfl) ?_
      refine lv_sipush (v := (1940 : Int32)) hx hb dX12_act_14 (by decide) ?_
      refine lv_icmp_ge (tgt := 42) hx hb dX12_act_17 (by decide) (fun c_8 => ?_) (fun c_8 => ?_)
      · have hd := zif_pos c_8 hd
        refine lv_aload_n hx hb dX12_act_42 rfl (lv_at hl 0 rfl) ?_
        refine lv_dup hx hb dX12_act_43 rfl ?_
        refine z_gI F hw h0 zc12 46 (by decide) rfl zf12_249 dX12_act_44 ?_
        refine lv_iconst (v := (1 : Int32)) hx hb dX12_act_47 (by decide) ?_
        refine lv_isub hx hb dX12_act_48 ?_
        refine z_pI F hw h0 zc12 46 (by decide) rfl zf12_249 rfl rfl rfl dX12_act_49 (fun H locs M_9 eM_9 hw => ?_)
        have hd := zbd_eq eM_9 hd
        exact J52 _ _ _ _ (lv_sub hl [0] rfl) hw hd
      · have hd := zif_neg c_8 hd
        refine lv_aload_n hx hb dX12_act_20 rfl (lv_at hl 0 rfl) ?_
        refine z_gR F hw h0 zc12 45 (by decide) rfl zf12_64 dX12_act_21 ?_
        have t_10 : zT sh (zR M k0 45) 14 := hw.2.2.2.fld h0 45 14
        refine lv_iload_n hx hb dX12_act_24 rfl (lv_at hl 1 rfl) ?_
        refine lv_sipush (v := (194 : Int32)) hx hb dX12_act_25 (by decide) ?_
        refine lv_isub hx hb dX12_act_28 ?_
        refine lv_aload_n hx hb dX12_act_29 rfl (lv_at hl 0 rfl) ?_
        refine z_gR F hw h0 zc12 45 (by decide) rfl zf12_64 dX12_act_30 ?_
        have t_11 : zT sh (zR M k0 45) 14 := hw.2.2.2.fld h0 45 14
        refine lv_iload_n hx hb dX12_act_33 rfl (lv_at hl 1 rfl) ?_
        obtain ⟨g_12, hd⟩ := zgd_some hd
        refine z_iald F hw t_11 g_12 dX12_act_34 ?_
        obtain ⟨g_13, hd⟩ := zgd_some hd
        refine z_iast F hw t_10 g_13 dX12_act_35 (fun H locs M_14 eM_14 hw => ?_)
        have hd := zbd_eq eM_14 hd
        refine lv_iinc (v := (x1 + (1 : Int32))) (lv' := [(1, .int (x1 + (1 : Int32))), (0, .ref (ad k0))]) hx hb dX12_act_36 hl (k := 1) rfl (ziinc (by decide)) (by decide) rfl (fun ls hl => ?_)
        refine lv_goto (tgt := 13) hx hb dX12_act_39 (by decide) ?_
        exact hk13 _ _ _ _ _ (lv_sub hl [1, 0] rfl) hw hd
  unfold zX12_act at hd
  refine lv_aload_n hx hb dX12_act_0 rfl (lv_at hl 0 rfl) ?_
  refine z_gI F hw h0 zc12 46 (by decide) rfl zf12_249 dX12_act_1 ?_
  refine lv_bipush (v := (10 : Int32)) hx hb dX12_act_4 (by decide) ?_
  refine lv_icmp_ne (tgt := 52) hx hb dX12_act_6 (by decide) (fun c_15 => ?_) (fun c_15 => ?_)
  · have hd := zif_neg c_15 hd
    exact J52 _ _ _ _ (lv_sub hl [0] rfl) hw hd
  · have hd := zif_pos c_15 hd
    refine lv_sipush (v := (194 : Int32)) hx hb dX12_act_9 (by decide) ?_
    refine lv_istore_n (lv' := [(1, .int (194 : Int32)), (0, .ref (ad k0))]) hx hb dX12_act_12 rfl hl (by decide) rfl (fun ls hl => ?_)
    exact L13 zF _ _ _ _ _ (lv_sub hl [1, 0] rfl) hw hd

def zbX12_undo_21 (sh : zShp) (k0 : Nat)  (kk21 : Int32 → zMem → Option (Int32 × zMem)) (x1 : Int32) (M : zMem) : Option (Int32 × zMem) :=
  if (194 : Int32) ≤ x1 then (
  some ((zI M k0 46), M))
  else (
  zgd (zin (((194 : Int32) * (zI M k0 46)) + x1) (zlen sh (zR M k0 45))) <|
  zgd (zin x1 (zlen sh (zR M k0 0))) <|
  zbd (zpI M (zR M k0 0) (x1.toNatClampNeg) (zI M (zR M k0 45) ((((194 : Int32) * (zI M k0 46)) + x1).toNatClampNeg))) fun M_6 =>
  kk21 (x1 + (1 : Int32)) M_6)
def zlX12_undo_21 (sh : zShp) (k0 : Nat)  : Nat → Int32 → zMem → Option (Int32 × zMem)
  | 0 => fun _ _ => none
  | n + 1 => fun x1 M => zbX12_undo_21 sh k0  (zlX12_undo_21 sh k0  n) x1 M
def zX12_undo (sh : zShp) (k0 : Nat) (M : zMem) : Option (Int32 × zMem) :=
  if (zI M k0 46) = 0 then (
  some ((-1 : Int32), M))
  else (
  zbd (zpI M k0 46 ((zI M k0 46) - (1 : Int32))) fun M_8 =>
  zlX12_undo_21 sh k0 zF (0 : Int32) M_8)
set_option maxHeartbeats 4000000 in
set_option maxRecDepth 100000 in
theorem ztX12_undo (l : Launch) (D : va_G) (cy : Nat → ClassId) (sh : zShp) (ad : Nat → Nat) {k0 : Nat} (h0 : zT sh k0 12) {M : zMem} {r : Int32} {M1 : zMem} (hd : zX12_undo sh k0 M = some (r, M1)) : zCI l yX12_undo cX12_undo 2 .int { frames := 0, cells := 0, slots := 0, locals := 0 } [.ref (ad k0)] D cy sh ad M r M1 := by
  refine zci_of (by decide) (Nat.le_of_ble_eq_true rfl) (fun p e s m below meth c ls F hr hlk hl hw => ?_)
  have hx := F.1.1
  have hb := F.1.2.1
  have hl : lv_has ls 2 [(0, .ref (ad k0))] := hl
  have L21 : ∀  (n : Nat), ∀ (x1 : Int32) (M : zMem) (H : Heap) (locs : List Loc) (ls : Array Slot), lv_has ls 2 [(0, .ref (ad k0)), (1, .int x1)] → zWd D cy sh ad s M H locs → zlX12_undo_21 sh k0  n x1 M = some (r, M1) → W p l e { frames := 0, cells := 0, slots := 0, locals := 0 } s m ([.ref (ad k0)] : List Value).toArray below meth c H locs 0 0 (zQI below D cy sh ad s [.ref (ad k0)] r M1) (F0 m 21 ls []) := by
    intro  n
    induction n with
    | zero => intro x1 M H locs ls hl hw hd; exact (znone hd).elim
    | succ n hk21 =>
      intro x1 M H locs ls hl hw hd
      have hd : zbX12_undo_21 sh k0  (zlX12_undo_21 sh k0  n) x1 M = some (r, M1) := hd
      unfold zbX12_undo_21 at hd
      refine lv_iload_n hx hb dX12_undo_21 rfl (lv_at hl 1 rfl) ?_
      refine lv_sipush (v := (194 : Int32)) hx hb dX12_undo_22 (by decide) ?_
      refine lv_icmp_ge (tgt := 55) hx hb dX12_undo_25 (by decide) (fun c_1 => ?_) (fun c_1 => ?_)
      · have hd := zif_pos c_1 hd
        refine lv_aload_n hx hb dX12_undo_55 rfl (lv_at hl 0 rfl) ?_
        refine z_gI F hw h0 zc12 46 (by decide) rfl zf12_249 dX12_undo_56 ?_
        exact z_iret F hr hlk hw (zpr1 hd) (zpr2 hd) dX12_undo_59
      · have hd := zif_neg c_1 hd
        refine lv_aload_n hx hb dX12_undo_28 rfl (lv_at hl 0 rfl) ?_
        refine z_gR F hw h0 zc12 0 (by decide) rfl zf12_7 dX12_undo_29 ?_
        have t_2 : zT sh (zR M k0 0) 14 := hw.2.2.2.fld h0 0 14
        refine lv_iload_n hx hb dX12_undo_32 rfl (lv_at hl 1 rfl) ?_
        refine lv_aload_n hx hb dX12_undo_33 rfl (lv_at hl 0 rfl) ?_
        refine z_gR F hw h0 zc12 45 (by decide) rfl zf12_64 dX12_undo_34 ?_
        have t_3 : zT sh (zR M k0 45) 14 := hw.2.2.2.fld h0 45 14
        refine lv_sipush (v := (194 : Int32)) hx hb dX12_undo_37 (by decide) ?_
        refine lv_aload_n hx hb dX12_undo_40 rfl (lv_at hl 0 rfl) ?_
        refine z_gI F hw h0 zc12 46 (by decide) rfl zf12_249 dX12_undo_41 ?_
        refine lv_imul hx hb dX12_undo_44 ?_
        refine lv_iload_n hx hb dX12_undo_45 rfl (lv_at hl 1 rfl) ?_
        refine lv_iadd hx hb dX12_undo_46 ?_
        obtain ⟨g_4, hd⟩ := zgd_some hd
        refine z_iald F hw t_3 g_4 dX12_undo_47 ?_
        obtain ⟨g_5, hd⟩ := zgd_some hd
        refine z_iast F hw t_2 g_5 dX12_undo_48 (fun H locs M_6 eM_6 hw => ?_)
        have hd := zbd_eq eM_6 hd
        refine lv_iinc (v := (x1 + (1 : Int32))) (lv' := [(1, .int (x1 + (1 : Int32))), (0, .ref (ad k0))]) hx hb dX12_undo_49 hl (k := 1) rfl (ziinc (by decide)) (by decide) rfl (fun ls hl => ?_)
        refine lv_goto (tgt := 21) hx hb dX12_undo_52 (by decide) ?_
        exact hk21 _ _ _ _ _ (lv_sub hl [1, 0] rfl) hw hd
  unfold zX12_undo at hd
  refine lv_aload_n hx hb dX12_undo_0 rfl (lv_at hl 0 rfl) ?_
  refine z_gI F hw h0 zc12 46 (by decide) rfl zf12_249 dX12_undo_1 ?_
  refine lv_if_ne (tgt := 9) hx hb dX12_undo_4 (by decide) (fun c_7 => ?_) (fun c_7 => ?_)
  · have hd := zif_neg c_7 hd
    refine lv_aload_n hx hb dX12_undo_9 rfl (lv_at hl 0 rfl) ?_
    refine lv_dup hx hb dX12_undo_10 rfl ?_
    refine z_gI F hw h0 zc12 46 (by decide) rfl zf12_249 dX12_undo_11 ?_
    refine lv_iconst (v := (1 : Int32)) hx hb dX12_undo_14 (by decide) ?_
    refine lv_isub hx hb dX12_undo_15 ?_
    refine z_pI F hw h0 zc12 46 (by decide) rfl zf12_249 rfl rfl rfl dX12_undo_16 (fun H locs M_8 eM_8 hw => ?_)
    have hd := zbd_eq eM_8 hd
    refine lv_iconst (v := (0 : Int32)) hx hb dX12_undo_19 (by decide) ?_
    refine lv_istore_n (lv' := [(1, .int (0 : Int32)), (0, .ref (ad k0))]) hx hb dX12_undo_20 rfl hl (by decide) rfl (fun ls hl => ?_)
    exact L21 zF _ _ _ _ _ (lv_sub hl [1, 0] rfl) hw hd
  · have hd := zif_pos c_7 hd
    refine lv_iconst (v := (-1 : Int32)) hx hb dX12_undo_7 (by decide) ?_
    exact z_iret F hr hlk hw (zpr1 hd) (zpr2 hd) dX12_undo_8

def zbX12_begins_158 (sh : zShp) (k0 : Nat)  (kk158 : Int32 → zMem → Option (zMem)) (x1 : Int32) (M : zMem) : Option (zMem) :=
  if (zI M k0 36) ≤ x1 then (
  some M)
  else (
  zgd (zin x1 (zlen sh (zR M k0 35))) <|
  zgd (zin ((66 : Int32) + x1) (zlen sh (zR M k0 0))) <|
  zbd (zpI M (zR M k0 0) (((66 : Int32) + x1).toNatClampNeg) (zI M (zR M k0 35) x1.toNatClampNeg)) fun M_6 =>
  kk158 (x1 + (1 : Int32)) M_6)
def zlX12_begins_158 (sh : zShp) (k0 : Nat)  : Nat → Int32 → zMem → Option (zMem)
  | 0 => fun _ _ => none
  | n + 1 => fun x1 M => zbX12_begins_158 sh k0  (zlX12_begins_158 sh k0  n) x1 M
def zbX12_begins_29 (sh : zShp) (k0 : Nat)  (kk29 : Int32 → zMem → Option (zMem)) (x1 : Int32) (M : zMem) : Option (zMem) :=
  if (3 : Int32) ≤ x1 then (
  zgd (zin (10 : Int32) (zlen sh (zR M k0 0))) <|
  zbd (zpI M (zR M k0 0) ((10 : Int32).toNatClampNeg) (zI M k0 41)) fun M_10 =>
  zgd (zin (11 : Int32) (zlen sh (zR M_10 k0 0))) <|
  zbd (zpI M_10 (zR M_10 k0 0) ((11 : Int32).toNatClampNeg) (zI M_10 k0 42)) fun M_13 =>
  zgd (zin (12 : Int32) (zlen sh (zR M_13 k0 0))) <|
  zbd (zpI M_13 (zR M_13 k0 0) ((12 : Int32).toNatClampNeg) (zI M_13 k0 36)) fun M_16 =>
  zgd (zin (13 : Int32) (zlen sh (zR M_16 k0 0))) <|
  zbd (zpI M_16 (zR M_16 k0 0) ((13 : Int32).toNatClampNeg) (zI M_16 k0 43)) fun M_19 =>
  zgd (zin (14 : Int32) (zlen sh (zR M_19 k0 0))) <|
  zbd (zpI M_19 (zR M_19 k0 0) ((14 : Int32).toNatClampNeg) (zI M_19 k0 44)) fun M_22 =>
  zgd (zin (15 : Int32) (zlen sh (zR M_22 k0 0))) <|
  zbd (zpI M_22 (zR M_22 k0 0) ((15 : Int32).toNatClampNeg) (0 : Int32)) fun M_25 =>
  zgd (zin (16 : Int32) (zlen sh (zR M_25 k0 0))) <|
  zbd (zpI M_25 (zR M_25 k0 0) ((16 : Int32).toNatClampNeg) (0 : Int32)) fun M_28 =>
  zgd (zin (17 : Int32) (zlen sh (zR M_28 k0 0))) <|
  zbd (zpI M_28 (zR M_28 k0 0) ((17 : Int32).toNatClampNeg) (0 : Int32)) fun M_31 =>
  zgd (zin (20 : Int32) (zlen sh (zR M_31 k0 0))) <|
  zbd (zpI M_31 (zR M_31 k0 0) ((20 : Int32).toNatClampNeg) (0 : Int32)) fun M_34 =>
  zlX12_begins_158 sh k0 zF (0 : Int32) M_34)
  else (
  zob (zX12_axisAt sh k0 x1 (0 : Int32) M) fun r_37 =>
  zgd (zin ((4 : Int32) + x1) (zlen sh (zR M k0 0))) <|
  zbd (zpI M (zR M k0 0) (((4 : Int32) + x1).toNatClampNeg) r_37) fun M_39 =>
  zgd (zin x1 (zlen sh (zR M_39 k0 37))) <|
  zgd (zin ((7 : Int32) + x1) (zlen sh (zR M_39 k0 0))) <|
  zbd (zpI M_39 (zR M_39 k0 0) (((7 : Int32) + x1).toNatClampNeg) (zI M_39 (zR M_39 k0 37) x1.toNatClampNeg)) fun M_44 =>
  kk29 (x1 + (1 : Int32)) M_44)
def zlX12_begins_29 (sh : zShp) (k0 : Nat)  : Nat → Int32 → zMem → Option (zMem)
  | 0 => fun _ _ => none
  | n + 1 => fun x1 M => zbX12_begins_29 sh k0  (zlX12_begins_29 sh k0  n) x1 M
def zX12_begins (sh : zShp) (k0 : Nat) (M : zMem) : Option (zMem) :=
  zgd (zin (1 : Int32) (zlen sh (zR M k0 0))) <|
  zbd (zpI M (zR M k0 0) ((1 : Int32).toNatClampNeg) (1 : Int32)) fun M_47 =>
  zgd (zin (2 : Int32) (zlen sh (zR M_47 k0 0))) <|
  zbd (zpI M_47 (zR M_47 k0 0) ((2 : Int32).toNatClampNeg) (zI M_47 k0 38)) fun M_50 =>
  zgd (zin (3 : Int32) (zlen sh (zR M_50 k0 0))) <|
  zbd (zpI M_50 (zR M_50 k0 0) ((3 : Int32).toNatClampNeg) (zI M_50 k0 39)) fun M_53 =>
  zlX12_begins_29 sh k0 zF (0 : Int32) M_53
set_option maxHeartbeats 4000000 in
set_option maxRecDepth 100000 in
theorem ztX12_begins (l : Launch) (D : va_G) (cy : Nat → ClassId) (sh : zShp) (ad : Nat → Nat) {k0 : Nat} (h0 : zT sh k0 12) {M : zMem} {M1 : zMem} (hd : zX12_begins sh k0 M = some M1) : zCV l yX12_begins cX12_begins 2 { frames := 1, cells := 0, slots := 0, locals := 22 } [.ref (ad k0)] D cy sh ad M M1 := by
  refine zcv_of (by decide) (Nat.le_of_ble_eq_true rfl) (fun p e s m below meth c ls F hr hlk hl hw => ?_)
  have hx := F.1.1
  have hb := F.1.2.1
  have hl : lv_has ls 2 [(0, .ref (ad k0))] := hl
  have L158 : ∀  (n : Nat), ∀ (x1 : Int32) (M : zMem) (H : Heap) (locs : List Loc) (ls : Array Slot), lv_has ls 2 [(0, .ref (ad k0)), (1, .int x1)] → zWd D cy sh ad s M H locs → zlX12_begins_158 sh k0  n x1 M = some M1 → W p l e { frames := 1, cells := 0, slots := 0, locals := 22 } s m ([.ref (ad k0)] : List Value).toArray below meth c H locs 0 0 (zQV below D cy sh ad s [.ref (ad k0)] M1) (F0 m 158 ls []) := by
    intro  n
    induction n with
    | zero => intro x1 M H locs ls hl hw hd; exact (znone hd).elim
    | succ n hk158 =>
      intro x1 M H locs ls hl hw hd
      have hd : zbX12_begins_158 sh k0  (zlX12_begins_158 sh k0  n) x1 M = some M1 := hd
      unfold zbX12_begins_158 at hd
      refine lv_iload_n hx hb dX12_begins_158 rfl (lv_at hl 1 rfl) ?_
      refine lv_aload_n hx hb dX12_begins_159 rfl (lv_at hl 0 rfl) ?_
      refine z_gI F hw h0 zc12 36 (by decide) rfl zf12_286 dX12_begins_160 ?_
      refine lv_icmp_ge (tgt := 187) hx hb dX12_begins_163 (by decide) (fun c_1 => ?_) (fun c_1 => ?_)
      · have hd := zif_pos c_1 hd
        exact z_vret F hr hlk hw (Option.some.inj hd) dX12_begins_187
      · have hd := zif_neg c_1 hd
        refine lv_aload_n hx hb dX12_begins_166 rfl (lv_at hl 0 rfl) ?_
        refine z_gR F hw h0 zc12 0 (by decide) rfl zf12_7 dX12_begins_167 ?_
        have t_2 : zT sh (zR M k0 0) 14 := hw.2.2.2.fld h0 0 14
        refine lv_bipush (v := (66 : Int32)) hx hb dX12_begins_170 (by decide) ?_
        refine lv_iload_n hx hb dX12_begins_172 rfl (lv_at hl 1 rfl) ?_
        refine lv_iadd hx hb dX12_begins_173 ?_
        refine lv_aload_n hx hb dX12_begins_174 rfl (lv_at hl 0 rfl) ?_
        refine z_gR F hw h0 zc12 35 (by decide) rfl zf12_58 dX12_begins_175 ?_
        have t_3 : zT sh (zR M k0 35) 14 := hw.2.2.2.fld h0 35 14
        refine lv_iload_n hx hb dX12_begins_178 rfl (lv_at hl 1 rfl) ?_
        obtain ⟨g_4, hd⟩ := zgd_some hd
        refine z_iald F hw t_3 g_4 dX12_begins_179 ?_
        obtain ⟨g_5, hd⟩ := zgd_some hd
        refine z_iast F hw t_2 g_5 dX12_begins_180 (fun H locs M_6 eM_6 hw => ?_)
        have hd := zbd_eq eM_6 hd
        refine lv_iinc (v := (x1 + (1 : Int32))) (lv' := [(1, .int (x1 + (1 : Int32))), (0, .ref (ad k0))]) hx hb dX12_begins_181 hl (k := 1) rfl (ziinc (by decide)) (by decide) rfl (fun ls hl => ?_)
        refine lv_goto (tgt := 158) hx hb dX12_begins_184 (by decide) ?_
        exact hk158 _ _ _ _ _ (lv_sub hl [1, 0] rfl) hw hd
  have L29 : ∀  (n : Nat), ∀ (x1 : Int32) (M : zMem) (H : Heap) (locs : List Loc) (ls : Array Slot), lv_has ls 2 [(0, .ref (ad k0)), (1, .int x1)] → zWd D cy sh ad s M H locs → zlX12_begins_29 sh k0  n x1 M = some M1 → W p l e { frames := 1, cells := 0, slots := 0, locals := 22 } s m ([.ref (ad k0)] : List Value).toArray below meth c H locs 0 0 (zQV below D cy sh ad s [.ref (ad k0)] M1) (F0 m 29 ls []) := by
    intro  n
    induction n with
    | zero => intro x1 M H locs ls hl hw hd; exact (znone hd).elim
    | succ n hk29 =>
      intro x1 M H locs ls hl hw hd
      have hd : zbX12_begins_29 sh k0  (zlX12_begins_29 sh k0  n) x1 M = some M1 := hd
      unfold zbX12_begins_29 at hd
      refine lv_iload_n hx hb dX12_begins_29 rfl (lv_at hl 1 rfl) ?_
      refine lv_iconst (v := (3 : Int32)) hx hb dX12_begins_30 (by decide) ?_
      refine lv_icmp_ge (tgt := 69) hx hb dX12_begins_31 (by decide) (fun c_7 => ?_) (fun c_7 => ?_)
      · have hd := zif_pos c_7 hd
        refine lv_aload_n hx hb dX12_begins_69 rfl (lv_at hl 0 rfl) ?_
        refine z_gR F hw h0 zc12 0 (by decide) rfl zf12_7 dX12_begins_70 ?_
        have t_8 : zT sh (zR M k0 0) 14 := hw.2.2.2.fld h0 0 14
        refine lv_bipush (v := (10 : Int32)) hx hb dX12_begins_73 (by decide) ?_
        refine lv_aload_n hx hb dX12_begins_75 rfl (lv_at hl 0 rfl) ?_
        refine z_gI F hw h0 zc12 41 (by decide) rfl zf12_347 dX12_begins_76 ?_
        obtain ⟨g_9, hd⟩ := zgd_some hd
        refine z_iast F hw t_8 g_9 dX12_begins_79 (fun H locs M_10 eM_10 hw => ?_)
        have hd := zbd_eq eM_10 hd
        refine lv_aload_n hx hb dX12_begins_80 rfl (lv_at hl 0 rfl) ?_
        refine z_gR F hw h0 zc12 0 (by decide) rfl zf12_7 dX12_begins_81 ?_
        have t_11 : zT sh (zR M_10 k0 0) 14 := hw.2.2.2.fld h0 0 14
        refine lv_bipush (v := (11 : Int32)) hx hb dX12_begins_84 (by decide) ?_
        refine lv_aload_n hx hb dX12_begins_86 rfl (lv_at hl 0 rfl) ?_
        refine z_gI F hw h0 zc12 42 (by decide) rfl zf12_350 dX12_begins_87 ?_
        obtain ⟨g_12, hd⟩ := zgd_some hd
        refine z_iast F hw t_11 g_12 dX12_begins_90 (fun H locs M_13 eM_13 hw => ?_)
        have hd := zbd_eq eM_13 hd
        refine lv_aload_n hx hb dX12_begins_91 rfl (lv_at hl 0 rfl) ?_
        refine z_gR F hw h0 zc12 0 (by decide) rfl zf12_7 dX12_begins_92 ?_
        have t_14 : zT sh (zR M_13 k0 0) 14 := hw.2.2.2.fld h0 0 14
        refine lv_bipush (v := (12 : Int32)) hx hb dX12_begins_95 (by decide) ?_
        refine lv_aload_n hx hb dX12_begins_97 rfl (lv_at hl 0 rfl) ?_
        refine z_gI F hw h0 zc12 36 (by decide) rfl zf12_286 dX12_begins_98 ?_
        obtain ⟨g_15, hd⟩ := zgd_some hd
        refine z_iast F hw t_14 g_15 dX12_begins_101 (fun H locs M_16 eM_16 hw => ?_)
        have hd := zbd_eq eM_16 hd
        refine lv_aload_n hx hb dX12_begins_102 rfl (lv_at hl 0 rfl) ?_
        refine z_gR F hw h0 zc12 0 (by decide) rfl zf12_7 dX12_begins_103 ?_
        have t_17 : zT sh (zR M_16 k0 0) 14 := hw.2.2.2.fld h0 0 14
        refine lv_bipush (v := (13 : Int32)) hx hb dX12_begins_106 (by decide) ?_
        refine lv_aload_n hx hb dX12_begins_108 rfl (lv_at hl 0 rfl) ?_
        refine z_gI F hw h0 zc12 43 (by decide) rfl zf12_357 dX12_begins_109 ?_
        obtain ⟨g_18, hd⟩ := zgd_some hd
        refine z_iast F hw t_17 g_18 dX12_begins_112 (fun H locs M_19 eM_19 hw => ?_)
        have hd := zbd_eq eM_19 hd
        refine lv_aload_n hx hb dX12_begins_113 rfl (lv_at hl 0 rfl) ?_
        refine z_gR F hw h0 zc12 0 (by decide) rfl zf12_7 dX12_begins_114 ?_
        have t_20 : zT sh (zR M_19 k0 0) 14 := hw.2.2.2.fld h0 0 14
        refine lv_bipush (v := (14 : Int32)) hx hb dX12_begins_117 (by decide) ?_
        refine lv_aload_n hx hb dX12_begins_119 rfl (lv_at hl 0 rfl) ?_
        refine z_gI F hw h0 zc12 44 (by decide) rfl zf12_363 dX12_begins_120 ?_
        obtain ⟨g_21, hd⟩ := zgd_some hd
        refine z_iast F hw t_20 g_21 dX12_begins_123 (fun H locs M_22 eM_22 hw => ?_)
        have hd := zbd_eq eM_22 hd
        refine lv_aload_n hx hb dX12_begins_124 rfl (lv_at hl 0 rfl) ?_
        refine z_gR F hw h0 zc12 0 (by decide) rfl zf12_7 dX12_begins_125 ?_
        have t_23 : zT sh (zR M_22 k0 0) 14 := hw.2.2.2.fld h0 0 14
        refine lv_bipush (v := (15 : Int32)) hx hb dX12_begins_128 (by decide) ?_
        refine lv_iconst (v := (0 : Int32)) hx hb dX12_begins_130 (by decide) ?_
        obtain ⟨g_24, hd⟩ := zgd_some hd
        refine z_iast F hw t_23 g_24 dX12_begins_131 (fun H locs M_25 eM_25 hw => ?_)
        have hd := zbd_eq eM_25 hd
        refine lv_aload_n hx hb dX12_begins_132 rfl (lv_at hl 0 rfl) ?_
        refine z_gR F hw h0 zc12 0 (by decide) rfl zf12_7 dX12_begins_133 ?_
        have t_26 : zT sh (zR M_25 k0 0) 14 := hw.2.2.2.fld h0 0 14
        refine lv_bipush (v := (16 : Int32)) hx hb dX12_begins_136 (by decide) ?_
        refine lv_iconst (v := (0 : Int32)) hx hb dX12_begins_138 (by decide) ?_
        obtain ⟨g_27, hd⟩ := zgd_some hd
        refine z_iast F hw t_26 g_27 dX12_begins_139 (fun H locs M_28 eM_28 hw => ?_)
        have hd := zbd_eq eM_28 hd
        refine lv_aload_n hx hb dX12_begins_140 rfl (lv_at hl 0 rfl) ?_
        refine z_gR F hw h0 zc12 0 (by decide) rfl zf12_7 dX12_begins_141 ?_
        have t_29 : zT sh (zR M_28 k0 0) 14 := hw.2.2.2.fld h0 0 14
        refine lv_bipush (v := (17 : Int32)) hx hb dX12_begins_144 (by decide) ?_
        refine lv_iconst (v := (0 : Int32)) hx hb dX12_begins_146 (by decide) ?_
        obtain ⟨g_30, hd⟩ := zgd_some hd
        refine z_iast F hw t_29 g_30 dX12_begins_147 (fun H locs M_31 eM_31 hw => ?_)
        have hd := zbd_eq eM_31 hd
        refine lv_aload_n hx hb dX12_begins_148 rfl (lv_at hl 0 rfl) ?_
        refine z_gR F hw h0 zc12 0 (by decide) rfl zf12_7 dX12_begins_149 ?_
        have t_32 : zT sh (zR M_31 k0 0) 14 := hw.2.2.2.fld h0 0 14
        refine lv_bipush (v := (20 : Int32)) hx hb dX12_begins_152 (by decide) ?_
        refine lv_iconst (v := (0 : Int32)) hx hb dX12_begins_154 (by decide) ?_
        obtain ⟨g_33, hd⟩ := zgd_some hd
        refine z_iast F hw t_32 g_33 dX12_begins_155 (fun H locs M_34 eM_34 hw => ?_)
        have hd := zbd_eq eM_34 hd
        refine lv_iconst (v := (0 : Int32)) hx hb dX12_begins_156 (by decide) ?_
        refine lv_istore_n (lv' := [(1, .int (0 : Int32)), (0, .ref (ad k0))]) hx hb dX12_begins_157 rfl hl (by decide) rfl (fun ls hl => ?_)
        exact L158 zF _ _ _ _ _ (lv_sub hl [1, 0] rfl) hw hd
      · have hd := zif_neg c_7 hd
        refine lv_aload_n hx hb dX12_begins_34 rfl (lv_at hl 0 rfl) ?_
        refine z_gR F hw h0 zc12 0 (by decide) rfl zf12_7 dX12_begins_35 ?_
        have t_35 : zT sh (zR M k0 0) 14 := hw.2.2.2.fld h0 0 14
        refine lv_iconst (v := (4 : Int32)) hx hb dX12_begins_38 (by decide) ?_
        refine lv_iload_n hx hb dX12_begins_39 rfl (lv_at hl 1 rfl) ?_
        refine lv_iadd hx hb dX12_begins_40 ?_
        refine lv_aload_n hx hb dX12_begins_41 rfl (lv_at hl 0 rfl) ?_
        refine lv_iload_n hx hb dX12_begins_42 rfl (lv_at hl 1 rfl) ?_
        refine lv_iconst (v := (0 : Int32)) hx hb dX12_begins_43 (by decide) ?_
        obtain ⟨r_37, hc_36, hd⟩ := zob_some hd
        refine z_cvI F hw hl.1 (As := [.int x1, .int (0 : Int32)]) (rest := [.int ((4 : Int32) + x1), .ref (ad (zR M k0 0))]) (ztX12_axisAt l D cy sh ad h0 hc_36) zyX12_axisAt h0 zc12 zk12_338 ⟨rfl, rfl⟩ ⟨by decide, by decide⟩ rfl rfl (Nat.le_of_ble_eq_true rfl) dX12_begins_44 (fun H locs hw => ?_)
        obtain ⟨g_38, hd⟩ := zgd_some hd
        refine z_iast F hw t_35 g_38 dX12_begins_47 (fun H locs M_39 eM_39 hw => ?_)
        have hd := zbd_eq eM_39 hd
        refine lv_aload_n hx hb dX12_begins_48 rfl (lv_at hl 0 rfl) ?_
        refine z_gR F hw h0 zc12 0 (by decide) rfl zf12_7 dX12_begins_49 ?_
        have t_40 : zT sh (zR M_39 k0 0) 14 := hw.2.2.2.fld h0 0 14
        refine lv_bipush (v := (7 : Int32)) hx hb dX12_begins_52 (by decide) ?_
        refine lv_iload_n hx hb dX12_begins_54 rfl (lv_at hl 1 rfl) ?_
        refine lv_iadd hx hb dX12_begins_55 ?_
        refine lv_aload_n hx hb dX12_begins_56 rfl (lv_at hl 0 rfl) ?_
        refine z_gR F hw h0 zc12 37 (by decide) rfl zf12_61 dX12_begins_57 ?_
        have t_41 : zT sh (zR M_39 k0 37) 14 := hw.2.2.2.fld h0 37 14
        refine lv_iload_n hx hb dX12_begins_60 rfl (lv_at hl 1 rfl) ?_
        obtain ⟨g_42, hd⟩ := zgd_some hd
        refine z_iald F hw t_41 g_42 dX12_begins_61 ?_
        obtain ⟨g_43, hd⟩ := zgd_some hd
        refine z_iast F hw t_40 g_43 dX12_begins_62 (fun H locs M_44 eM_44 hw => ?_)
        have hd := zbd_eq eM_44 hd
        refine lv_iinc (v := (x1 + (1 : Int32))) (lv' := [(1, .int (x1 + (1 : Int32))), (0, .ref (ad k0))]) hx hb dX12_begins_63 hl (k := 1) rfl (ziinc (by decide)) (by decide) rfl (fun ls hl => ?_)
        refine lv_goto (tgt := 29) hx hb dX12_begins_66 (by decide) ?_
        exact hk29 _ _ _ _ _ (lv_sub hl [1, 0] rfl) hw hd
  unfold zX12_begins at hd
  refine lv_aload_n hx hb dX12_begins_0 rfl (lv_at hl 0 rfl) ?_
  refine z_gR F hw h0 zc12 0 (by decide) rfl zf12_7 dX12_begins_1 ?_
  have t_45 : zT sh (zR M k0 0) 14 := hw.2.2.2.fld h0 0 14
  refine lv_iconst (v := (1 : Int32)) hx hb dX12_begins_4 (by decide) ?_
  refine lv_iconst (v := (1 : Int32)) hx hb dX12_begins_5 (by decide) ?_
  obtain ⟨g_46, hd⟩ := zgd_some hd
  refine z_iast F hw t_45 g_46 dX12_begins_6 (fun H locs M_47 eM_47 hw => ?_)
  have hd := zbd_eq eM_47 hd
  refine lv_aload_n hx hb dX12_begins_7 rfl (lv_at hl 0 rfl) ?_
  refine z_gR F hw h0 zc12 0 (by decide) rfl zf12_7 dX12_begins_8 ?_
  have t_48 : zT sh (zR M_47 k0 0) 14 := hw.2.2.2.fld h0 0 14
  refine lv_iconst (v := (2 : Int32)) hx hb dX12_begins_11 (by decide) ?_
  refine lv_aload_n hx hb dX12_begins_12 rfl (lv_at hl 0 rfl) ?_
  refine z_gI F hw h0 zc12 38 (by decide) rfl zf12_335 dX12_begins_13 ?_
  obtain ⟨g_49, hd⟩ := zgd_some hd
  refine z_iast F hw t_48 g_49 dX12_begins_16 (fun H locs M_50 eM_50 hw => ?_)
  have hd := zbd_eq eM_50 hd
  refine lv_aload_n hx hb dX12_begins_17 rfl (lv_at hl 0 rfl) ?_
  refine z_gR F hw h0 zc12 0 (by decide) rfl zf12_7 dX12_begins_18 ?_
  have t_51 : zT sh (zR M_50 k0 0) 14 := hw.2.2.2.fld h0 0 14
  refine lv_iconst (v := (3 : Int32)) hx hb dX12_begins_21 (by decide) ?_
  refine lv_aload_n hx hb dX12_begins_22 rfl (lv_at hl 0 rfl) ?_
  refine z_gI F hw h0 zc12 39 (by decide) rfl zf12_329 dX12_begins_23 ?_
  obtain ⟨g_52, hd⟩ := zgd_some hd
  refine z_iast F hw t_51 g_52 dX12_begins_26 (fun H locs M_53 eM_53 hw => ?_)
  have hd := zbd_eq eM_53 hd
  refine lv_iconst (v := (0 : Int32)) hx hb dX12_begins_27 (by decide) ?_
  refine lv_istore_n (lv' := [(1, .int (0 : Int32)), (0, .ref (ad k0))]) hx hb dX12_begins_28 rfl hl (by decide) rfl (fun ls hl => ?_)
  exact L29 zF _ _ _ _ _ (lv_sub hl [1, 0] rfl) hw hd
