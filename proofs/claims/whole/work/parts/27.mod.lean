theorem dX12_bandLine_0 : decode cX12_bandLine 0 = .ok (.aload_n 0, 1) := by decide +kernel
theorem dX12_bandLine_1 : decode cX12_bandLine 1 = .ok (.getfield 200, 3) := by decide +kernel
theorem dX12_bandLine_4 : decode cX12_bandLine 4 = .ok (.bipush 6, 2) := by decide +kernel
theorem dX12_bandLine_6 : decode cX12_bandLine 6 = .ok (.if_icmp .ne 8, 3) := by decide +kernel
theorem dX12_bandLine_9 : decode cX12_bandLine 9 = .ok (.aload_n 0, 1) := by decide +kernel
theorem dX12_bandLine_10 : decode cX12_bandLine 10 = .ok (.iconst 5, 1) := by decide +kernel
theorem dX12_bandLine_11 : decode cX12_bandLine 11 = .ok (.invokevirtual 161, 3) := by decide +kernel
theorem dX12_bandLine_14 : decode cX12_bandLine 14 = .ok (.aload_n 0, 1) := by decide +kernel
theorem dX12_bandLine_15 : decode cX12_bandLine 15 = .ok (.getfield 125, 3) := by decide +kernel
theorem dX12_bandLine_18 : decode cX12_bandLine 18 = .ok (.ifCond .le 4, 3) := by decide +kernel
theorem dX12_bandLine_21 : decode cX12_bandLine 21 = .ok (.return_, 1) := by decide +kernel
theorem dX12_bandLine_22 : decode cX12_bandLine 22 = .ok (.aload_n 0, 1) := by decide +kernel
theorem dX12_bandLine_23 : decode cX12_bandLine 23 = .ok (.invokevirtual 197, 3) := by decide +kernel
theorem dX12_bandLine_26 : decode cX12_bandLine 26 = .ok (.istore_n 1, 1) := by decide +kernel
theorem dX12_bandLine_27 : decode cX12_bandLine 27 = .ok (.aload_n 0, 1) := by decide +kernel
theorem dX12_bandLine_28 : decode cX12_bandLine 28 = .ok (.getfield 125, 3) := by decide +kernel
theorem dX12_bandLine_31 : decode cX12_bandLine 31 = .ok (.ifCond .le 4, 3) := by decide +kernel
theorem dX12_bandLine_34 : decode cX12_bandLine 34 = .ok (.return_, 1) := by decide +kernel
theorem dX12_bandLine_35 : decode cX12_bandLine 35 = .ok (.aload_n 0, 1) := by decide +kernel
theorem dX12_bandLine_36 : decode cX12_bandLine 36 = .ok (.invokevirtual 158, 3) := by decide +kernel
theorem dX12_bandLine_39 : decode cX12_bandLine 39 = .ok (.aload_n 0, 1) := by decide +kernel
theorem dX12_bandLine_40 : decode cX12_bandLine 40 = .ok (.iconst 1, 1) := by decide +kernel
theorem dX12_bandLine_41 : decode cX12_bandLine 41 = .ok (.bipush 60, 2) := by decide +kernel
theorem dX12_bandLine_43 : decode cX12_bandLine 43 = .ok (.invokevirtual 176, 3) := by decide +kernel
theorem dX12_bandLine_46 : decode cX12_bandLine 46 = .ok (.istore_n 2, 1) := by decide +kernel
theorem dX12_bandLine_47 : decode cX12_bandLine 47 = .ok (.aload_n 0, 1) := by decide +kernel
theorem dX12_bandLine_48 : decode cX12_bandLine 48 = .ok (.iload_n 2, 1) := by decide +kernel
theorem dX12_bandLine_49 : decode cX12_bandLine 49 = .ok (.bipush 60, 2) := by decide +kernel
theorem dX12_bandLine_51 : decode cX12_bandLine 51 = .ok (.invokevirtual 176, 3) := by decide +kernel
theorem dX12_bandLine_54 : decode cX12_bandLine 54 = .ok (.istore_n 3, 1) := by decide +kernel
theorem dX12_bandLine_55 : decode cX12_bandLine 55 = .ok (.aload_n 0, 1) := by decide +kernel
theorem dX12_bandLine_56 : decode cX12_bandLine 56 = .ok (.getfield 125, 3) := by decide +kernel
theorem dX12_bandLine_59 : decode cX12_bandLine 59 = .ok (.ifCond .le 4, 3) := by decide +kernel
theorem dX12_bandLine_62 : decode cX12_bandLine 62 = .ok (.return_, 1) := by decide +kernel
theorem dX12_bandLine_63 : decode cX12_bandLine 63 = .ok (.aload_n 0, 1) := by decide +kernel
theorem dX12_bandLine_64 : decode cX12_bandLine 64 = .ok (.getfield 36, 3) := by decide +kernel
theorem dX12_bandLine_67 : decode cX12_bandLine 67 = .ok (.iconst 3, 1) := by decide +kernel
theorem dX12_bandLine_68 : decode cX12_bandLine 68 = .ok (.aload_n 0, 1) := by decide +kernel
theorem dX12_bandLine_69 : decode cX12_bandLine 69 = .ok (.getfield 200, 3) := by decide +kernel
theorem dX12_bandLine_72 : decode cX12_bandLine 72 = .ok (.imul, 1) := by decide +kernel
theorem dX12_bandLine_73 : decode cX12_bandLine 73 = .ok (.iload_n 1, 1) := by decide +kernel
theorem dX12_bandLine_74 : decode cX12_bandLine 74 = .ok (.iastore, 1) := by decide +kernel
theorem dX12_bandLine_75 : decode cX12_bandLine 75 = .ok (.aload_n 0, 1) := by decide +kernel
theorem dX12_bandLine_76 : decode cX12_bandLine 76 = .ok (.getfield 36, 3) := by decide +kernel
theorem dX12_bandLine_79 : decode cX12_bandLine 79 = .ok (.iconst 3, 1) := by decide +kernel
theorem dX12_bandLine_80 : decode cX12_bandLine 80 = .ok (.aload_n 0, 1) := by decide +kernel
theorem dX12_bandLine_81 : decode cX12_bandLine 81 = .ok (.getfield 200, 3) := by decide +kernel
theorem dX12_bandLine_84 : decode cX12_bandLine 84 = .ok (.imul, 1) := by decide +kernel
theorem dX12_bandLine_85 : decode cX12_bandLine 85 = .ok (.iconst 1, 1) := by decide +kernel
theorem dX12_bandLine_86 : decode cX12_bandLine 86 = .ok (.iadd, 1) := by decide +kernel
theorem dX12_bandLine_87 : decode cX12_bandLine 87 = .ok (.iload_n 2, 1) := by decide +kernel
theorem dX12_bandLine_88 : decode cX12_bandLine 88 = .ok (.iastore, 1) := by decide +kernel
theorem dX12_bandLine_89 : decode cX12_bandLine 89 = .ok (.aload_n 0, 1) := by decide +kernel
theorem dX12_bandLine_90 : decode cX12_bandLine 90 = .ok (.getfield 36, 3) := by decide +kernel
theorem dX12_bandLine_93 : decode cX12_bandLine 93 = .ok (.iconst 3, 1) := by decide +kernel
theorem dX12_bandLine_94 : decode cX12_bandLine 94 = .ok (.aload_n 0, 1) := by decide +kernel
theorem dX12_bandLine_95 : decode cX12_bandLine 95 = .ok (.getfield 200, 3) := by decide +kernel
theorem dX12_bandLine_98 : decode cX12_bandLine 98 = .ok (.imul, 1) := by decide +kernel
theorem dX12_bandLine_99 : decode cX12_bandLine 99 = .ok (.iconst 2, 1) := by decide +kernel
theorem dX12_bandLine_100 : decode cX12_bandLine 100 = .ok (.iadd, 1) := by decide +kernel
theorem dX12_bandLine_101 : decode cX12_bandLine 101 = .ok (.iload_n 3, 1) := by decide +kernel
theorem dX12_bandLine_102 : decode cX12_bandLine 102 = .ok (.iastore, 1) := by decide +kernel
theorem dX12_bandLine_103 : decode cX12_bandLine 103 = .ok (.aload_n 0, 1) := by decide +kernel
theorem dX12_bandLine_104 : decode cX12_bandLine 104 = .ok (.dup, 1) := by decide +kernel
theorem dX12_bandLine_105 : decode cX12_bandLine 105 = .ok (.getfield 200, 3) := by decide +kernel
theorem dX12_bandLine_108 : decode cX12_bandLine 108 = .ok (.iconst 1, 1) := by decide +kernel
theorem dX12_bandLine_109 : decode cX12_bandLine 109 = .ok (.iadd, 1) := by decide +kernel
theorem dX12_bandLine_110 : decode cX12_bandLine 110 = .ok (.putfield 200, 3) := by decide +kernel
theorem dX12_bandLine_113 : decode cX12_bandLine 113 = .ok (.return_, 1) := by decide +kernel
theorem dX12_fixLine_0 : decode cX12_fixLine 0 = .ok (.aload_n 0, 1) := by decide +kernel
theorem dX12_fixLine_1 : decode cX12_fixLine 1 = .ok (.invokevirtual 158, 3) := by decide +kernel
theorem dX12_fixLine_4 : decode cX12_fixLine 4 = .ok (.aload_n 0, 1) := by decide +kernel
theorem dX12_fixLine_5 : decode cX12_fixLine 5 = .ok (.iconst 0, 1) := by decide +kernel
theorem dX12_fixLine_6 : decode cX12_fixLine 6 = .ok (.bipush 64, 2) := by decide +kernel
theorem dX12_fixLine_8 : decode cX12_fixLine 8 = .ok (.iconst 1, 1) := by decide +kernel
theorem dX12_fixLine_9 : decode cX12_fixLine 9 = .ok (.invokevirtual 164, 3) := by decide +kernel
theorem dX12_fixLine_12 : decode cX12_fixLine 12 = .ok (.istore_n 1, 1) := by decide +kernel
theorem dX12_fixLine_13 : decode cX12_fixLine 13 = .ok (.aload_n 0, 1) := by decide +kernel
theorem dX12_fixLine_14 : decode cX12_fixLine 14 = .ok (.invokevirtual 168, 3) := by decide +kernel
theorem dX12_fixLine_17 : decode cX12_fixLine 17 = .ok (.ifCond .eq 17, 3) := by decide +kernel
theorem dX12_fixLine_20 : decode cX12_fixLine 20 = .ok (.aload_n 0, 1) := by decide +kernel
theorem dX12_fixLine_21 : decode cX12_fixLine 21 = .ok (.getfield 45, 3) := by decide +kernel
theorem dX12_fixLine_24 : decode cX12_fixLine 24 = .ok (.iload_n 1, 1) := by decide +kernel
theorem dX12_fixLine_25 : decode cX12_fixLine 25 = .ok (.baload, 1) := by decide +kernel
theorem dX12_fixLine_26 : decode cX12_fixLine 26 = .ok (.ifCond .eq 8, 3) := by decide +kernel
theorem dX12_fixLine_29 : decode cX12_fixLine 29 = .ok (.aload_n 0, 1) := by decide +kernel
theorem dX12_fixLine_30 : decode cX12_fixLine 30 = .ok (.iconst 5, 1) := by decide +kernel
theorem dX12_fixLine_31 : decode cX12_fixLine 31 = .ok (.invokevirtual 161, 3) := by decide +kernel
theorem dX12_fixLine_34 : decode cX12_fixLine 34 = .ok (.aload_n 0, 1) := by decide +kernel
theorem dX12_fixLine_35 : decode cX12_fixLine 35 = .ok (.getfield 125, 3) := by decide +kernel
theorem dX12_fixLine_38 : decode cX12_fixLine 38 = .ok (.ifCond .le 4, 3) := by decide +kernel
theorem dX12_fixLine_41 : decode cX12_fixLine 41 = .ok (.return_, 1) := by decide +kernel
theorem dX12_fixLine_42 : decode cX12_fixLine 42 = .ok (.aload_n 0, 1) := by decide +kernel
theorem dX12_fixLine_43 : decode cX12_fixLine 43 = .ok (.getfield 45, 3) := by decide +kernel
theorem dX12_fixLine_46 : decode cX12_fixLine 46 = .ok (.iload_n 1, 1) := by decide +kernel
theorem dX12_fixLine_47 : decode cX12_fixLine 47 = .ok (.iconst 1, 1) := by decide +kernel
theorem dX12_fixLine_48 : decode cX12_fixLine 48 = .ok (.bastore, 1) := by decide +kernel
theorem dX12_fixLine_49 : decode cX12_fixLine 49 = .ok (.aload_n 0, 1) := by decide +kernel
theorem dX12_fixLine_50 : decode cX12_fixLine 50 = .ok (.invokevirtual 158, 3) := by decide +kernel
theorem dX12_fixLine_53 : decode cX12_fixLine 53 = .ok (.iconst 1, 1) := by decide +kernel
theorem dX12_fixLine_54 : decode cX12_fixLine 54 = .ok (.istore_n 2, 1) := by decide +kernel
theorem dX12_fixLine_55 : decode cX12_fixLine 55 = .ok (.aload_n 0, 1) := by decide +kernel
theorem dX12_fixLine_56 : decode cX12_fixLine 56 = .ok (.getfield 115, 3) := by decide +kernel
theorem dX12_fixLine_59 : decode cX12_fixLine 59 = .ok (.iconst 3, 1) := by decide +kernel
theorem dX12_fixLine_60 : decode cX12_fixLine 60 = .ok (.if_icmp .ne 9, 3) := by decide +kernel
theorem dX12_fixLine_63 : decode cX12_fixLine 63 = .ok (.iconst (-1), 1) := by decide +kernel
theorem dX12_fixLine_64 : decode cX12_fixLine 64 = .ok (.istore_n 2, 1) := by decide +kernel
theorem dX12_fixLine_65 : decode cX12_fixLine 65 = .ok (.aload_n 0, 1) := by decide +kernel
theorem dX12_fixLine_66 : decode cX12_fixLine 66 = .ok (.invokevirtual 158, 3) := by decide +kernel
theorem dX12_fixLine_69 : decode cX12_fixLine 69 = .ok (.aload_n 0, 1) := by decide +kernel
theorem dX12_fixLine_70 : decode cX12_fixLine 70 = .ok (.getfield 42, 3) := by decide +kernel
theorem dX12_fixLine_73 : decode cX12_fixLine 73 = .ok (.iload_n 1, 1) := by decide +kernel
theorem dX12_fixLine_74 : decode cX12_fixLine 74 = .ok (.aload_n 0, 1) := by decide +kernel
theorem dX12_fixLine_75 : decode cX12_fixLine 75 = .ok (.sipush (-200), 3) := by decide +kernel
theorem dX12_fixLine_78 : decode cX12_fixLine 78 = .ok (.sipush 200, 3) := by decide +kernel
theorem dX12_fixLine_81 : decode cX12_fixLine 81 = .ok (.iload_n 2, 1) := by decide +kernel
theorem dX12_fixLine_82 : decode cX12_fixLine 82 = .ok (.invokevirtual 164, 3) := by decide +kernel
theorem dX12_fixLine_85 : decode cX12_fixLine 85 = .ok (.iastore, 1) := by decide +kernel
theorem dX12_fixLine_86 : decode cX12_fixLine 86 = .ok (.aload_n 0, 1) := by decide +kernel
theorem dX12_fixLine_87 : decode cX12_fixLine 87 = .ok (.invokevirtual 168, 3) := by decide +kernel
theorem dX12_fixLine_90 : decode cX12_fixLine 90 = .ok (.ifCond .eq 7, 3) := by decide +kernel
theorem dX12_fixLine_93 : decode cX12_fixLine 93 = .ok (.aload_n 0, 1) := by decide +kernel
theorem dX12_fixLine_94 : decode cX12_fixLine 94 = .ok (.invokevirtual 158, 3) := by decide +kernel
theorem dX12_fixLine_97 : decode cX12_fixLine 97 = .ok (.aload_n 0, 1) := by decide +kernel
theorem dX12_fixLine_98 : decode cX12_fixLine 98 = .ok (.dup, 1) := by decide +kernel
theorem dX12_fixLine_99 : decode cX12_fixLine 99 = .ok (.getfield 203, 3) := by decide +kernel
theorem dX12_fixLine_102 : decode cX12_fixLine 102 = .ok (.iconst 1, 1) := by decide +kernel
theorem dX12_fixLine_103 : decode cX12_fixLine 103 = .ok (.iadd, 1) := by decide +kernel
theorem dX12_fixLine_104 : decode cX12_fixLine 104 = .ok (.putfield 203, 3) := by decide +kernel
theorem dX12_fixLine_107 : decode cX12_fixLine 107 = .ok (.return_, 1) := by decide +kernel
theorem dX12_coilLine_0 : decode cX12_coilLine 0 = .ok (.aload_n 0, 1) := by decide +kernel
theorem dX12_coilLine_1 : decode cX12_coilLine 1 = .ok (.getfield 206, 3) := by decide +kernel
theorem dX12_coilLine_4 : decode cX12_coilLine 4 = .ok (.ifCond .eq 8, 3) := by decide +kernel
theorem dX12_coilLine_7 : decode cX12_coilLine 7 = .ok (.aload_n 0, 1) := by decide +kernel
theorem dX12_coilLine_8 : decode cX12_coilLine 8 = .ok (.iconst 5, 1) := by decide +kernel
theorem dX12_coilLine_9 : decode cX12_coilLine 9 = .ok (.invokevirtual 161, 3) := by decide +kernel
theorem dX12_coilLine_12 : decode cX12_coilLine 12 = .ok (.aload_n 0, 1) := by decide +kernel
theorem dX12_coilLine_13 : decode cX12_coilLine 13 = .ok (.getfield 125, 3) := by decide +kernel
theorem dX12_coilLine_16 : decode cX12_coilLine 16 = .ok (.ifCond .le 4, 3) := by decide +kernel
theorem dX12_coilLine_19 : decode cX12_coilLine 19 = .ok (.return_, 1) := by decide +kernel
theorem dX12_coilLine_20 : decode cX12_coilLine 20 = .ok (.aload_n 0, 1) := by decide +kernel
theorem dX12_coilLine_21 : decode cX12_coilLine 21 = .ok (.iconst 1, 1) := by decide +kernel
theorem dX12_coilLine_22 : decode cX12_coilLine 22 = .ok (.putfield 206, 3) := by decide +kernel
theorem dX12_coilLine_25 : decode cX12_coilLine 25 = .ok (.aload_n 0, 1) := by decide +kernel
theorem dX12_coilLine_26 : decode cX12_coilLine 26 = .ok (.invokevirtual 158, 3) := by decide +kernel
theorem dX12_coilLine_29 : decode cX12_coilLine 29 = .ok (.aload_n 0, 1) := by decide +kernel
theorem dX12_coilLine_30 : decode cX12_coilLine 30 = .ok (.aload_n 0, 1) := by decide +kernel
theorem dX12_coilLine_31 : decode cX12_coilLine 31 = .ok (.ldc2_w 150, 3) := by decide +kernel
theorem dX12_coilLine_34 : decode cX12_coilLine 34 = .ok (.iconst 1, 1) := by decide +kernel
theorem dX12_coilLine_35 : decode cX12_coilLine 35 = .ok (.sipush 2000, 3) := by decide +kernel
theorem dX12_coilLine_38 : decode cX12_coilLine 38 = .ok (.invokevirtual 193, 3) := by decide +kernel
theorem dX12_coilLine_41 : decode cX12_coilLine 41 = .ok (.putfield 210, 3) := by decide +kernel
theorem dX12_coilLine_44 : decode cX12_coilLine 44 = .ok (.aload_n 0, 1) := by decide +kernel
theorem dX12_coilLine_45 : decode cX12_coilLine 45 = .ok (.aload_n 0, 1) := by decide +kernel
theorem dX12_coilLine_46 : decode cX12_coilLine 46 = .ok (.ldc2_w 152, 3) := by decide +kernel
theorem dX12_coilLine_49 : decode cX12_coilLine 49 = .ok (.iconst 1, 1) := by decide +kernel
theorem dX12_coilLine_50 : decode cX12_coilLine 50 = .ok (.bipush 99, 2) := by decide +kernel
theorem dX12_coilLine_52 : decode cX12_coilLine 52 = .ok (.invokevirtual 193, 3) := by decide +kernel
theorem dX12_coilLine_55 : decode cX12_coilLine 55 = .ok (.putfield 213, 3) := by decide +kernel
theorem dX12_coilLine_58 : decode cX12_coilLine 58 = .ok (.return_, 1) := by decide +kernel
theorem dX12_line_0 : decode cX12_line 0 = .ok (.aload_n 0, 1) := by decide +kernel
theorem dX12_line_1 : decode cX12_line 1 = .ok (.ldc2_w 128, 3) := by decide +kernel
theorem dX12_line_4 : decode cX12_line 4 = .ok (.invokevirtual 154, 3) := by decide +kernel
theorem dX12_line_7 : decode cX12_line 7 = .ok (.ifCond .eq 10, 3) := by decide +kernel
theorem dX12_line_10 : decode cX12_line 10 = .ok (.aload_n 0, 1) := by decide +kernel
theorem dX12_line_11 : decode cX12_line 11 = .ok (.invokevirtual 216, 3) := by decide +kernel
theorem dX12_line_14 : decode cX12_line 14 = .ok (.goto 76, 3) := by decide +kernel
theorem dX12_line_17 : decode cX12_line 17 = .ok (.aload_n 0, 1) := by decide +kernel
theorem dX12_line_18 : decode cX12_line 18 = .ok (.ldc2_w 130, 3) := by decide +kernel
theorem dX12_line_21 : decode cX12_line 21 = .ok (.invokevirtual 154, 3) := by decide +kernel
theorem dX12_line_24 : decode cX12_line 24 = .ok (.ifCond .eq 10, 3) := by decide +kernel
theorem dX12_line_27 : decode cX12_line 27 = .ok (.aload_n 0, 1) := by decide +kernel
theorem dX12_line_28 : decode cX12_line 28 = .ok (.invokevirtual 219, 3) := by decide +kernel
theorem dX12_line_31 : decode cX12_line 31 = .ok (.goto 59, 3) := by decide +kernel
theorem dX12_line_34 : decode cX12_line 34 = .ok (.aload_n 0, 1) := by decide +kernel
theorem dX12_line_35 : decode cX12_line 35 = .ok (.ldc2_w 132, 3) := by decide +kernel
theorem dX12_line_38 : decode cX12_line 38 = .ok (.invokevirtual 154, 3) := by decide +kernel
theorem dX12_line_41 : decode cX12_line 41 = .ok (.ifCond .eq 10, 3) := by decide +kernel
theorem dX12_line_44 : decode cX12_line 44 = .ok (.aload_n 0, 1) := by decide +kernel
theorem dX12_line_45 : decode cX12_line 45 = .ok (.invokevirtual 222, 3) := by decide +kernel
theorem dX12_line_48 : decode cX12_line 48 = .ok (.goto 42, 3) := by decide +kernel
theorem dX12_line_51 : decode cX12_line 51 = .ok (.aload_n 0, 1) := by decide +kernel
theorem dX12_line_52 : decode cX12_line 52 = .ok (.ldc2_w 134, 3) := by decide +kernel
theorem dX12_line_55 : decode cX12_line 55 = .ok (.invokevirtual 154, 3) := by decide +kernel
theorem dX12_line_58 : decode cX12_line 58 = .ok (.ifCond .eq 10, 3) := by decide +kernel
theorem dX12_line_61 : decode cX12_line 61 = .ok (.aload_n 0, 1) := by decide +kernel
theorem dX12_line_62 : decode cX12_line 62 = .ok (.invokevirtual 225, 3) := by decide +kernel
theorem dX12_line_65 : decode cX12_line 65 = .ok (.goto 25, 3) := by decide +kernel
theorem dX12_line_68 : decode cX12_line 68 = .ok (.aload_n 0, 1) := by decide +kernel
theorem dX12_line_69 : decode cX12_line 69 = .ok (.ldc2_w 136, 3) := by decide +kernel
theorem dX12_line_72 : decode cX12_line 72 = .ok (.invokevirtual 154, 3) := by decide +kernel
theorem dX12_line_75 : decode cX12_line 75 = .ok (.ifCond .eq 10, 3) := by decide +kernel
theorem dX12_line_78 : decode cX12_line 78 = .ok (.aload_n 0, 1) := by decide +kernel
theorem dX12_line_79 : decode cX12_line 79 = .ok (.invokevirtual 228, 3) := by decide +kernel
theorem dX12_line_82 : decode cX12_line 82 = .ok (.goto 8, 3) := by decide +kernel
theorem dX12_line_85 : decode cX12_line 85 = .ok (.aload_n 0, 1) := by decide +kernel
theorem dX12_line_86 : decode cX12_line 86 = .ok (.iconst 2, 1) := by decide +kernel
theorem dX12_line_87 : decode cX12_line 87 = .ok (.invokevirtual 161, 3) := by decide +kernel
theorem dX12_line_90 : decode cX12_line 90 = .ok (.aload_n 0, 1) := by decide +kernel
theorem dX12_line_91 : decode cX12_line 91 = .ok (.invokevirtual 168, 3) := by decide +kernel
theorem dX12_line_94 : decode cX12_line 94 = .ok (.ifCond .eq 16, 3) := by decide +kernel
theorem dX12_line_97 : decode cX12_line 97 = .ok (.aload_n 0, 1) := by decide +kernel
theorem dX12_line_98 : decode cX12_line 98 = .ok (.getfield 115, 3) := by decide +kernel
theorem dX12_line_101 : decode cX12_line 101 = .ok (.iconst 4, 1) := by decide +kernel
theorem dX12_line_102 : decode cX12_line 102 = .ok (.if_icmp .eq 8, 3) := by decide +kernel
theorem dX12_line_105 : decode cX12_line 105 = .ok (.aload_n 0, 1) := by decide +kernel
theorem dX12_line_106 : decode cX12_line 106 = .ok (.iconst 2, 1) := by decide +kernel
theorem dX12_line_107 : decode cX12_line 107 = .ok (.invokevirtual 161, 3) := by decide +kernel
theorem dX12_line_110 : decode cX12_line 110 = .ok (.aload_n 0, 1) := by decide +kernel
theorem dX12_line_111 : decode cX12_line 111 = .ok (.invokevirtual 168, 3) := by decide +kernel
theorem dX12_line_114 : decode cX12_line 114 = .ok (.ifCond .eq 7, 3) := by decide +kernel
theorem dX12_line_117 : decode cX12_line 117 = .ok (.aload_n 0, 1) := by decide +kernel
theorem dX12_line_118 : decode cX12_line 118 = .ok (.invokevirtual 158, 3) := by decide +kernel
theorem dX12_line_121 : decode cX12_line 121 = .ok (.return_, 1) := by decide +kernel
theorem dX12_takes_0 : decode cX12_takes 0 = .ok (.aload_n 0, 1) := by decide +kernel
theorem dX12_takes_1 : decode cX12_takes 1 = .ok (.aload_n 0, 1) := by decide +kernel
theorem dX12_takes_2 : decode cX12_takes 2 = .ok (.getfield 180, 3) := by decide +kernel
theorem dX12_takes_5 : decode cX12_takes 5 = .ok (.putfield 240, 3) := by decide +kernel
theorem dX12_takes_8 : decode cX12_takes 8 = .ok (.aload_n 0, 1) := by decide +kernel
theorem dX12_takes_9 : decode cX12_takes 9 = .ok (.aload_n 0, 1) := by decide +kernel
theorem dX12_takes_10 : decode cX12_takes 10 = .ok (.getfield 200, 3) := by decide +kernel
theorem dX12_takes_13 : decode cX12_takes 13 = .ok (.putfield 243, 3) := by decide +kernel
theorem dX12_takes_16 : decode cX12_takes 16 = .ok (.aload_n 0, 1) := by decide +kernel
theorem dX12_takes_17 : decode cX12_takes 17 = .ok (.aload_n 0, 1) := by decide +kernel
theorem dX12_takes_18 : decode cX12_takes 18 = .ok (.getfield 203, 3) := by decide +kernel
theorem dX12_takes_21 : decode cX12_takes 21 = .ok (.putfield 246, 3) := by decide +kernel
theorem dX12_takes_24 : decode cX12_takes 24 = .ok (.aload_n 0, 1) := by decide +kernel
theorem dX12_takes_25 : decode cX12_takes 25 = .ok (.aload_n 0, 1) := by decide +kernel
theorem dX12_takes_26 : decode cX12_takes 26 = .ok (.getfield 210, 3) := by decide +kernel
theorem dX12_takes_29 : decode cX12_takes 29 = .ok (.putfield 70, 3) := by decide +kernel
theorem dX12_takes_32 : decode cX12_takes 32 = .ok (.aload_n 0, 1) := by decide +kernel
theorem dX12_takes_33 : decode cX12_takes 33 = .ok (.aload_n 0, 1) := by decide +kernel
theorem dX12_takes_34 : decode cX12_takes 34 = .ok (.getfield 213, 3) := by decide +kernel
theorem dX12_takes_37 : decode cX12_takes 37 = .ok (.putfield 73, 3) := by decide +kernel
theorem dX12_takes_40 : decode cX12_takes 40 = .ok (.iconst 0, 1) := by decide +kernel
theorem dX12_takes_41 : decode cX12_takes 41 = .ok (.istore_n 1, 1) := by decide +kernel
theorem dX12_takes_42 : decode cX12_takes 42 = .ok (.iload_n 1, 1) := by decide +kernel
theorem dX12_takes_43 : decode cX12_takes 43 = .ok (.bipush 18, 2) := by decide +kernel
theorem dX12_takes_45 : decode cX12_takes 45 = .ok (.if_icmp .ge 33, 3) := by decide +kernel
theorem dX12_takes_48 : decode cX12_takes 48 = .ok (.aload_n 0, 1) := by decide +kernel
theorem dX12_takes_49 : decode cX12_takes 49 = .ok (.getfield 27, 3) := by decide +kernel
theorem dX12_takes_52 : decode cX12_takes 52 = .ok (.iload_n 1, 1) := by decide +kernel
theorem dX12_takes_53 : decode cX12_takes 53 = .ok (.aload_n 0, 1) := by decide +kernel
theorem dX12_takes_54 : decode cX12_takes 54 = .ok (.getfield 30, 3) := by decide +kernel
theorem dX12_takes_57 : decode cX12_takes 57 = .ok (.iload_n 1, 1) := by decide +kernel
theorem dX12_takes_58 : decode cX12_takes 58 = .ok (.iaload, 1) := by decide +kernel
theorem dX12_takes_59 : decode cX12_takes 59 = .ok (.iastore, 1) := by decide +kernel
theorem dX12_takes_60 : decode cX12_takes 60 = .ok (.aload_n 0, 1) := by decide +kernel
theorem dX12_takes_61 : decode cX12_takes 61 = .ok (.getfield 33, 3) := by decide +kernel
theorem dX12_takes_64 : decode cX12_takes 64 = .ok (.iload_n 1, 1) := by decide +kernel
theorem dX12_takes_65 : decode cX12_takes 65 = .ok (.aload_n 0, 1) := by decide +kernel
theorem dX12_takes_66 : decode cX12_takes 66 = .ok (.getfield 36, 3) := by decide +kernel
theorem dX12_takes_69 : decode cX12_takes 69 = .ok (.iload_n 1, 1) := by decide +kernel
theorem dX12_takes_70 : decode cX12_takes 70 = .ok (.iaload, 1) := by decide +kernel
theorem dX12_takes_71 : decode cX12_takes 71 = .ok (.iastore, 1) := by decide +kernel
theorem dX12_takes_72 : decode cX12_takes 72 = .ok (.iinc 1 1, 3) := by decide +kernel
theorem dX12_takes_75 : decode cX12_takes 75 = .ok (.goto (-33), 3) := by decide +kernel
theorem dX12_takes_78 : decode cX12_takes 78 = .ok (.iconst 0, 1) := by decide +kernel
theorem dX12_takes_79 : decode cX12_takes 79 = .ok (.istore_n 1, 1) := by decide +kernel
theorem dX12_takes_80 : decode cX12_takes 80 = .ok (.iload_n 1, 1) := by decide +kernel
theorem dX12_takes_81 : decode cX12_takes 81 = .ok (.bipush 64, 2) := by decide +kernel
theorem dX12_takes_83 : decode cX12_takes 83 = .ok (.if_icmp .gt 21, 3) := by decide +kernel
theorem dX12_takes_86 : decode cX12_takes 86 = .ok (.aload_n 0, 1) := by decide +kernel
theorem dX12_takes_87 : decode cX12_takes 87 = .ok (.getfield 39, 3) := by decide +kernel
theorem dX12_takes_90 : decode cX12_takes 90 = .ok (.iload_n 1, 1) := by decide +kernel
theorem dX12_takes_91 : decode cX12_takes 91 = .ok (.aload_n 0, 1) := by decide +kernel
theorem dX12_takes_92 : decode cX12_takes 92 = .ok (.getfield 42, 3) := by decide +kernel
theorem dX12_takes_95 : decode cX12_takes 95 = .ok (.iload_n 1, 1) := by decide +kernel
theorem dX12_takes_96 : decode cX12_takes 96 = .ok (.iaload, 1) := by decide +kernel
theorem dX12_takes_97 : decode cX12_takes 97 = .ok (.iastore, 1) := by decide +kernel
theorem dX12_takes_98 : decode cX12_takes 98 = .ok (.iinc 1 1, 3) := by decide +kernel
theorem dX12_takes_101 : decode cX12_takes 101 = .ok (.goto (-21), 3) := by decide +kernel
theorem dX12_takes_104 : decode cX12_takes 104 = .ok (.iconst 0, 1) := by decide +kernel
theorem dX12_takes_105 : decode cX12_takes 105 = .ok (.istore_n 1, 1) := by decide +kernel
theorem dX12_takes_106 : decode cX12_takes 106 = .ok (.iload_n 1, 1) := by decide +kernel
theorem dX12_takes_107 : decode cX12_takes 107 = .ok (.sipush 194, 3) := by decide +kernel
theorem dX12_takes_110 : decode cX12_takes 110 = .ok (.if_icmp .ge 16, 3) := by decide +kernel
theorem dX12_takes_113 : decode cX12_takes 113 = .ok (.aload_n 0, 1) := by decide +kernel
theorem dX12_takes_114 : decode cX12_takes 114 = .ok (.getfield 7, 3) := by decide +kernel
theorem dX12_takes_117 : decode cX12_takes 117 = .ok (.iload_n 1, 1) := by decide +kernel
theorem dX12_takes_118 : decode cX12_takes 118 = .ok (.iconst 0, 1) := by decide +kernel
theorem dX12_takes_119 : decode cX12_takes 119 = .ok (.iastore, 1) := by decide +kernel
theorem dX12_takes_120 : decode cX12_takes 120 = .ok (.iinc 1 1, 3) := by decide +kernel
theorem dX12_takes_123 : decode cX12_takes 123 = .ok (.goto (-17), 3) := by decide +kernel
theorem dX12_takes_126 : decode cX12_takes 126 = .ok (.aload_n 0, 1) := by decide +kernel
theorem dX12_takes_127 : decode cX12_takes 127 = .ok (.getfield 7, 3) := by decide +kernel
theorem dX12_takes_130 : decode cX12_takes 130 = .ok (.bipush 22, 2) := by decide +kernel
theorem dX12_takes_132 : decode cX12_takes 132 = .ok (.iconst (-1), 1) := by decide +kernel
theorem dX12_takes_133 : decode cX12_takes 133 = .ok (.iastore, 1) := by decide +kernel
theorem dX12_takes_134 : decode cX12_takes 134 = .ok (.aload_n 0, 1) := by decide +kernel
theorem dX12_takes_135 : decode cX12_takes 135 = .ok (.iconst 0, 1) := by decide +kernel
theorem dX12_takes_136 : decode cX12_takes 136 = .ok (.putfield 249, 3) := by decide +kernel
theorem dX12_takes_139 : decode cX12_takes 139 = .ok (.return_, 1) := by decide +kernel
theorem dX12_bench_0 : decode cX12_bench 0 = .ok (.aload_n 0, 1) := by decide +kernel
theorem dX12_bench_1 : decode cX12_bench 1 = .ok (.aload_n 0, 1) := by decide +kernel
theorem dX12_bench_2 : decode cX12_bench 2 = .ok (.getfield 84, 3) := by decide +kernel
theorem dX12_bench_5 : decode cX12_bench 5 = .ok (.putfield 98, 3) := by decide +kernel
theorem dX12_bench_8 : decode cX12_bench 8 = .ok (.aload_n 0, 1) := by decide +kernel
theorem dX12_bench_9 : decode cX12_bench 9 = .ok (.iconst 0, 1) := by decide +kernel
theorem dX12_bench_10 : decode cX12_bench 10 = .ok (.putfield 84, 3) := by decide +kernel
theorem dX12_bench_13 : decode cX12_bench 13 = .ok (.aload_n 0, 1) := by decide +kernel
theorem dX12_bench_14 : decode cX12_bench 14 = .ok (.iconst 0, 1) := by decide +kernel
theorem dX12_bench_15 : decode cX12_bench 15 = .ok (.putfield 95, 3) := by decide +kernel
theorem dX12_bench_18 : decode cX12_bench 18 = .ok (.aload_n 0, 1) := by decide +kernel
theorem dX12_bench_19 : decode cX12_bench 19 = .ok (.iconst 0, 1) := by decide +kernel
theorem dX12_bench_20 : decode cX12_bench 20 = .ok (.putfield 125, 3) := by decide +kernel
theorem dX12_bench_23 : decode cX12_bench 23 = .ok (.aload_n 0, 1) := by decide +kernel
theorem dX12_bench_24 : decode cX12_bench 24 = .ok (.iconst (-1), 1) := by decide +kernel
theorem dX12_bench_25 : decode cX12_bench 25 = .ok (.putfield 16, 3) := by decide +kernel
theorem dX12_bench_28 : decode cX12_bench 28 = .ok (.aload_n 0, 1) := by decide +kernel
theorem dX12_bench_29 : decode cX12_bench 29 = .ok (.iconst 0, 1) := by decide +kernel
theorem dX12_bench_30 : decode cX12_bench 30 = .ok (.putfield 180, 3) := by decide +kernel
theorem dX12_bench_33 : decode cX12_bench 33 = .ok (.aload_n 0, 1) := by decide +kernel
theorem dX12_bench_34 : decode cX12_bench 34 = .ok (.iconst 0, 1) := by decide +kernel
theorem dX12_bench_35 : decode cX12_bench 35 = .ok (.putfield 200, 3) := by decide +kernel
theorem dX12_bench_38 : decode cX12_bench 38 = .ok (.aload_n 0, 1) := by decide +kernel
theorem dX12_bench_39 : decode cX12_bench 39 = .ok (.iconst 0, 1) := by decide +kernel
theorem dX12_bench_40 : decode cX12_bench 40 = .ok (.putfield 203, 3) := by decide +kernel
theorem dX12_bench_43 : decode cX12_bench 43 = .ok (.aload_n 0, 1) := by decide +kernel
theorem dX12_bench_44 : decode cX12_bench 44 = .ok (.sipush 300, 3) := by decide +kernel
theorem dX12_bench_47 : decode cX12_bench 47 = .ok (.putfield 210, 3) := by decide +kernel
theorem dX12_bench_50 : decode cX12_bench 50 = .ok (.aload_n 0, 1) := by decide +kernel
theorem dX12_bench_51 : decode cX12_bench 51 = .ok (.iconst 5, 1) := by decide +kernel
theorem dX12_bench_52 : decode cX12_bench 52 = .ok (.putfield 213, 3) := by decide +kernel
theorem dX12_bench_55 : decode cX12_bench 55 = .ok (.aload_n 0, 1) := by decide +kernel
theorem dX12_bench_56 : decode cX12_bench 56 = .ok (.iconst 0, 1) := by decide +kernel
theorem dX12_bench_57 : decode cX12_bench 57 = .ok (.putfield 206, 3) := by decide +kernel
theorem dX12_bench_60 : decode cX12_bench 60 = .ok (.iconst 0, 1) := by decide +kernel
theorem dX12_bench_61 : decode cX12_bench 61 = .ok (.istore_n 1, 1) := by decide +kernel
theorem dX12_bench_62 : decode cX12_bench 62 = .ok (.iload_n 1, 1) := by decide +kernel
theorem dX12_bench_63 : decode cX12_bench 63 = .ok (.bipush 64, 2) := by decide +kernel
theorem dX12_bench_65 : decode cX12_bench 65 = .ok (.if_icmp .gt 23, 3) := by decide +kernel
theorem dX12_bench_68 : decode cX12_bench 68 = .ok (.aload_n 0, 1) := by decide +kernel
theorem dX12_bench_69 : decode cX12_bench 69 = .ok (.getfield 42, 3) := by decide +kernel
theorem dX12_bench_72 : decode cX12_bench 72 = .ok (.iload_n 1, 1) := by decide +kernel
theorem dX12_bench_73 : decode cX12_bench 73 = .ok (.iconst 0, 1) := by decide +kernel
theorem dX12_bench_74 : decode cX12_bench 74 = .ok (.iastore, 1) := by decide +kernel
theorem dX12_bench_75 : decode cX12_bench 75 = .ok (.aload_n 0, 1) := by decide +kernel
theorem dX12_bench_76 : decode cX12_bench 76 = .ok (.getfield 45, 3) := by decide +kernel
theorem dX12_bench_79 : decode cX12_bench 79 = .ok (.iload_n 1, 1) := by decide +kernel
theorem dX12_bench_80 : decode cX12_bench 80 = .ok (.iconst 0, 1) := by decide +kernel
theorem dX12_bench_81 : decode cX12_bench 81 = .ok (.bastore, 1) := by decide +kernel
theorem dX12_bench_82 : decode cX12_bench 82 = .ok (.iinc 1 1, 3) := by decide +kernel
theorem dX12_bench_85 : decode cX12_bench 85 = .ok (.goto (-23), 3) := by decide +kernel
theorem dX12_bench_88 : decode cX12_bench 88 = .ok (.aload_n 0, 1) := by decide +kernel
theorem dX12_bench_89 : decode cX12_bench 89 = .ok (.invokevirtual 158, 3) := by decide +kernel
theorem dX12_bench_92 : decode cX12_bench 92 = .ok (.aload_n 0, 1) := by decide +kernel
theorem dX12_bench_93 : decode cX12_bench 93 = .ok (.invokevirtual 168, 3) := by decide +kernel
theorem dX12_bench_96 : decode cX12_bench 96 = .ok (.ifCond .eq 17, 3) := by decide +kernel
theorem dX12_bench_99 : decode cX12_bench 99 = .ok (.aload_n 0, 1) := by decide +kernel
theorem dX12_bench_100 : decode cX12_bench 100 = .ok (.getfield 115, 3) := by decide +kernel
theorem dX12_bench_103 : decode cX12_bench 103 = .ok (.ifCond .eq 10, 3) := by decide +kernel
theorem dX12_bench_106 : decode cX12_bench 106 = .ok (.aload_n 0, 1) := by decide +kernel
theorem dX12_bench_107 : decode cX12_bench 107 = .ok (.invokevirtual 231, 3) := by decide +kernel
theorem dX12_bench_110 : decode cX12_bench 110 = .ok (.goto (-18), 3) := by decide +kernel
theorem dX12_bench_113 : decode cX12_bench 113 = .ok (.aload_n 0, 1) := by decide +kernel
theorem dX12_bench_114 : decode cX12_bench 114 = .ok (.aload_n 0, 1) := by decide +kernel
theorem dX12_bench_115 : decode cX12_bench 115 = .ok (.getfield 125, 3) := by decide +kernel
theorem dX12_bench_118 : decode cX12_bench 118 = .ok (.putfield 234, 3) := by decide +kernel
theorem dX12_bench_121 : decode cX12_bench 121 = .ok (.aload_n 0, 1) := by decide +kernel
theorem dX12_bench_122 : decode cX12_bench 122 = .ok (.aload_n 0, 1) := by decide +kernel
theorem dX12_bench_123 : decode cX12_bench 123 = .ok (.getfield 16, 3) := by decide +kernel
theorem dX12_bench_126 : decode cX12_bench 126 = .ok (.putfield 20, 3) := by decide +kernel
theorem dX12_bench_129 : decode cX12_bench 129 = .ok (.aload_n 0, 1) := by decide +kernel
theorem dX12_bench_130 : decode cX12_bench 130 = .ok (.getfield 125, 3) := by decide +kernel
theorem dX12_bench_133 : decode cX12_bench 133 = .ok (.ifCond .le 5, 3) := by decide +kernel
theorem dX12_bench_136 : decode cX12_bench 136 = .ok (.iconst (-1), 1) := by decide +kernel
theorem dX12_bench_137 : decode cX12_bench 137 = .ok (.ireturn, 1) := by decide +kernel
theorem dX12_bench_138 : decode cX12_bench 138 = .ok (.aload_n 0, 1) := by decide +kernel
theorem dX12_bench_139 : decode cX12_bench 139 = .ok (.invokevirtual 237, 3) := by decide +kernel
theorem dX12_bench_142 : decode cX12_bench 142 = .ok (.aload_n 0, 1) := by decide +kernel
theorem dX12_bench_143 : decode cX12_bench 143 = .ok (.getfield 240, 3) := by decide +kernel
theorem dX12_bench_146 : decode cX12_bench 146 = .ok (.ireturn, 1) := by decide +kernel
theorem dX12_fault_0 : decode cX12_fault 0 = .ok (.iload_n 1, 1) := by decide +kernel
theorem dX12_fault_1 : decode cX12_fault 1 = .ok (.ifCond .ne 10, 3) := by decide +kernel
theorem dX12_fault_4 : decode cX12_fault 4 = .ok (.aload_n 0, 1) := by decide +kernel
theorem dX12_fault_5 : decode cX12_fault 5 = .ok (.getfield 234, 3) := by decide +kernel
theorem dX12_fault_8 : decode cX12_fault 8 = .ok (.goto 16, 3) := by decide +kernel
theorem dX12_fault_11 : decode cX12_fault 11 = .ok (.iload_n 1, 1) := by decide +kernel
theorem dX12_fault_12 : decode cX12_fault 12 = .ok (.iconst 1, 1) := by decide +kernel
theorem dX12_fault_13 : decode cX12_fault 13 = .ok (.if_icmp .ne 10, 3) := by decide +kernel
theorem dX12_fault_16 : decode cX12_fault 16 = .ok (.aload_n 0, 1) := by decide +kernel
theorem dX12_fault_17 : decode cX12_fault 17 = .ok (.getfield 20, 3) := by decide +kernel
theorem dX12_fault_20 : decode cX12_fault 20 = .ok (.goto 4, 3) := by decide +kernel
theorem dX12_fault_23 : decode cX12_fault 23 = .ok (.iconst (-1), 1) := by decide +kernel
theorem dX12_fault_24 : decode cX12_fault 24 = .ok (.ireturn, 1) := by decide +kernel
theorem dX12_table_0 : decode cX12_table 0 = .ok (.iload_n 1, 1) := by decide +kernel
theorem dX12_table_1 : decode cX12_table 1 = .ok (.i2l, 1) := by decide +kernel
theorem dX12_table_2 : decode cX12_table 2 = .ok (.lconst 0, 1) := by decide +kernel
theorem dX12_table_3 : decode cX12_table 3 = .ok (.ldc2_w 252, 3) := by decide +kernel
theorem dX12_table_6 : decode cX12_table 6 = .ok (.invokestatic 91, 3) := by decide +kernel
theorem dX12_table_9 : decode cX12_table 9 = .ok (.ifCond .ne 8, 3) := by decide +kernel
theorem dX12_table_12 : decode cX12_table 12 = .ok (.ldc 254, 2) := by decide +kernel
theorem dX12_table_14 : decode cX12_table 14 = .ok (.goto 39, 3) := by decide +kernel
theorem dX12_table_17 : decode cX12_table 17 = .ok (.iload_n 2, 1) := by decide +kernel
theorem dX12_table_18 : decode cX12_table 18 = .ok (.ifCond .ne 12, 3) := by decide +kernel
theorem dX12_table_21 : decode cX12_table 21 = .ok (.aload_n 0, 1) := by decide +kernel
theorem dX12_table_22 : decode cX12_table 22 = .ok (.getfield 52, 3) := by decide +kernel
theorem dX12_table_25 : decode cX12_table 25 = .ok (.iload_n 1, 1) := by decide +kernel
theorem dX12_table_26 : decode cX12_table 26 = .ok (.iaload, 1) := by decide +kernel
theorem dX12_table_27 : decode cX12_table 27 = .ok (.goto 26, 3) := by decide +kernel
theorem dX12_table_30 : decode cX12_table 30 = .ok (.iload_n 2, 1) := by decide +kernel
theorem dX12_table_31 : decode cX12_table 31 = .ok (.iconst 1, 1) := by decide +kernel
theorem dX12_table_32 : decode cX12_table 32 = .ok (.if_icmp .ne 19, 3) := by decide +kernel
theorem dX12_table_35 : decode cX12_table 35 = .ok (.aload_n 0, 1) := by decide +kernel
theorem dX12_table_36 : decode cX12_table 36 = .ok (.getfield 52, 3) := by decide +kernel
theorem dX12_table_39 : decode cX12_table 39 = .ok (.iload_n 1, 1) := by decide +kernel
theorem dX12_table_40 : decode cX12_table 40 = .ok (.iaload, 1) := by decide +kernel
theorem dX12_table_41 : decode cX12_table 41 = .ok (.aload_n 0, 1) := by decide +kernel
theorem dX12_table_42 : decode cX12_table 42 = .ok (.getfield 39, 3) := by decide +kernel
theorem dX12_table_45 : decode cX12_table 45 = .ok (.iload_n 1, 1) := by decide +kernel
theorem dX12_table_46 : decode cX12_table 46 = .ok (.iaload, 1) := by decide +kernel
theorem dX12_table_47 : decode cX12_table 47 = .ok (.iadd, 1) := by decide +kernel
theorem dX12_table_48 : decode cX12_table 48 = .ok (.goto 5, 3) := by decide +kernel
theorem dX12_table_51 : decode cX12_table 51 = .ok (.ldc 254, 2) := by decide +kernel
theorem dX12_table_53 : decode cX12_table 53 = .ok (.ireturn, 1) := by decide +kernel
theorem dX12_tableAt_0 : decode cX12_tableAt 0 = .ok (.aload_n 0, 1) := by decide +kernel
theorem dX12_tableAt_1 : decode cX12_tableAt 1 = .ok (.getfield 52, 3) := by decide +kernel
theorem dX12_tableAt_4 : decode cX12_tableAt 4 = .ok (.iload_n 1, 1) := by decide +kernel
theorem dX12_tableAt_5 : decode cX12_tableAt 5 = .ok (.iaload, 1) := by decide +kernel
theorem dX12_tableAt_6 : decode cX12_tableAt 6 = .ok (.iload_n 2, 1) := by decide +kernel
theorem dX12_tableAt_7 : decode cX12_tableAt 7 = .ok (.ifCond .eq 12, 3) := by decide +kernel
theorem dX12_tableAt_10 : decode cX12_tableAt 10 = .ok (.aload_n 0, 1) := by decide +kernel
theorem dX12_tableAt_11 : decode cX12_tableAt 11 = .ok (.getfield 39, 3) := by decide +kernel
theorem dX12_tableAt_14 : decode cX12_tableAt 14 = .ok (.iload_n 1, 1) := by decide +kernel
theorem dX12_tableAt_15 : decode cX12_tableAt 15 = .ok (.iaload, 1) := by decide +kernel
theorem dX12_tableAt_16 : decode cX12_tableAt 16 = .ok (.goto 4, 3) := by decide +kernel
theorem dX12_tableAt_19 : decode cX12_tableAt 19 = .ok (.iconst 0, 1) := by decide +kernel
theorem dX12_tableAt_20 : decode cX12_tableAt 20 = .ok (.iadd, 1) := by decide +kernel
theorem dX12_tableAt_21 : decode cX12_tableAt 21 = .ok (.ireturn, 1) := by decide +kernel
theorem dX12_sine_0 : decode cX12_sine 0 = .ok (.iload_n 1, 1) := by decide +kernel
theorem dX12_sine_1 : decode cX12_sine 1 = .ok (.sipush 256, 3) := by decide +kernel
theorem dX12_sine_4 : decode cX12_sine 4 = .ok (.iload_n 1, 1) := by decide +kernel
theorem dX12_sine_5 : decode cX12_sine 5 = .ok (.sipush 256, 3) := by decide +kernel
theorem dX12_sine_8 : decode cX12_sine 8 = .ok (.invokestatic 255, 3) := by decide +kernel
theorem dX12_sine_11 : decode cX12_sine 11 = .ok (.imul, 1) := by decide +kernel
theorem dX12_sine_12 : decode cX12_sine 12 = .ok (.isub, 1) := by decide +kernel
theorem dX12_sine_13 : decode cX12_sine 13 = .ok (.istore_n 3, 1) := by decide +kernel
theorem dX12_sine_14 : decode cX12_sine 14 = .ok (.iload_n 3, 1) := by decide +kernel
theorem dX12_sine_15 : decode cX12_sine 15 = .ok (.bipush 64, 2) := by decide +kernel
theorem dX12_sine_17 : decode cX12_sine 17 = .ok (.irem, 1) := by decide +kernel
theorem dX12_sine_18 : decode cX12_sine 18 = .ok (.istore 4, 2) := by decide +kernel
theorem dX12_sine_20 : decode cX12_sine 20 = .ok (.iload_n 3, 1) := by decide +kernel
theorem dX12_sine_21 : decode cX12_sine 21 = .ok (.bipush 64, 2) := by decide +kernel
theorem dX12_sine_23 : decode cX12_sine 23 = .ok (.idiv, 1) := by decide +kernel
theorem dX12_sine_24 : decode cX12_sine 24 = .ok (.iconst 2, 1) := by decide +kernel
theorem dX12_sine_25 : decode cX12_sine 25 = .ok (.irem, 1) := by decide +kernel
theorem dX12_sine_26 : decode cX12_sine 26 = .ok (.ifCond .ne 13, 3) := by decide +kernel
theorem dX12_sine_29 : decode cX12_sine 29 = .ok (.aload_n 0, 1) := by decide +kernel
theorem dX12_sine_30 : decode cX12_sine 30 = .ok (.iload 4, 2) := by decide +kernel
theorem dX12_sine_32 : decode cX12_sine 32 = .ok (.iload_n 2, 1) := by decide +kernel
theorem dX12_sine_33 : decode cX12_sine 33 = .ok (.invokevirtual 258, 3) := by decide +kernel
theorem dX12_sine_36 : decode cX12_sine 36 = .ok (.goto 13, 3) := by decide +kernel
theorem dX12_sine_39 : decode cX12_sine 39 = .ok (.aload_n 0, 1) := by decide +kernel
theorem dX12_sine_40 : decode cX12_sine 40 = .ok (.bipush 64, 2) := by decide +kernel
theorem dX12_sine_42 : decode cX12_sine 42 = .ok (.iload 4, 2) := by decide +kernel
theorem dX12_sine_44 : decode cX12_sine 44 = .ok (.isub, 1) := by decide +kernel
theorem dX12_sine_45 : decode cX12_sine 45 = .ok (.iload_n 2, 1) := by decide +kernel
theorem dX12_sine_46 : decode cX12_sine 46 = .ok (.invokevirtual 258, 3) := by decide +kernel
theorem dX12_sine_49 : decode cX12_sine 49 = .ok (.istore 5, 2) := by decide +kernel
theorem dX12_sine_51 : decode cX12_sine 51 = .ok (.iload_n 3, 1) := by decide +kernel
theorem dX12_sine_52 : decode cX12_sine 52 = .ok (.sipush 128, 3) := by decide +kernel
theorem dX12_sine_55 : decode cX12_sine 55 = .ok (.if_icmp .ge 8, 3) := by decide +kernel
theorem dX12_sine_58 : decode cX12_sine 58 = .ok (.iload 5, 2) := by decide +kernel
theorem dX12_sine_60 : decode cX12_sine 60 = .ok (.goto 6, 3) := by decide +kernel
theorem dX12_sine_63 : decode cX12_sine 63 = .ok (.iload 5, 2) := by decide +kernel
theorem dX12_sine_65 : decode cX12_sine 65 = .ok (.ineg, 1) := by decide +kernel
theorem dX12_sine_66 : decode cX12_sine 66 = .ok (.ireturn, 1) := by decide +kernel
theorem dX12_currentOf_0 : decode cX12_currentOf 0 = .ok (.aload_n 0, 1) := by decide +kernel
theorem dX12_currentOf_1 : decode cX12_currentOf 1 = .ok (.iload_n 2, 1) := by decide +kernel
theorem dX12_currentOf_2 : decode cX12_currentOf 2 = .ok (.iconst 1, 1) := by decide +kernel
theorem dX12_currentOf_3 : decode cX12_currentOf 3 = .ok (.if_icmp .ne 7, 3) := by decide +kernel
theorem dX12_currentOf_6 : decode cX12_currentOf 6 = .ok (.iload_n 1, 1) := by decide +kernel
theorem dX12_currentOf_7 : decode cX12_currentOf 7 = .ok (.goto 19, 3) := by decide +kernel
theorem dX12_currentOf_10 : decode cX12_currentOf 10 = .ok (.iload_n 1, 1) := by decide +kernel
theorem dX12_currentOf_11 : decode cX12_currentOf 11 = .ok (.sipush 256, 3) := by decide +kernel
theorem dX12_currentOf_14 : decode cX12_currentOf 14 = .ok (.iload_n 1, 1) := by decide +kernel
theorem dX12_currentOf_15 : decode cX12_currentOf 15 = .ok (.sipush 256, 3) := by decide +kernel
theorem dX12_currentOf_18 : decode cX12_currentOf 18 = .ok (.invokestatic 255, 3) := by decide +kernel
theorem dX12_currentOf_21 : decode cX12_currentOf 21 = .ok (.imul, 1) := by decide +kernel
theorem dX12_currentOf_22 : decode cX12_currentOf 22 = .ok (.isub, 1) := by decide +kernel
theorem dX12_currentOf_23 : decode cX12_currentOf 23 = .ok (.bipush 64, 2) := by decide +kernel
theorem dX12_currentOf_25 : decode cX12_currentOf 25 = .ok (.iadd, 1) := by decide +kernel
theorem dX12_currentOf_26 : decode cX12_currentOf 26 = .ok (.iconst 1, 1) := by decide +kernel
theorem dX12_currentOf_27 : decode cX12_currentOf 27 = .ok (.invokevirtual 262, 3) := by decide +kernel
theorem dX12_currentOf_30 : decode cX12_currentOf 30 = .ok (.ireturn, 1) := by decide +kernel
theorem dX12_current_0 : decode cX12_current 0 = .ok (.iload_n 2, 1) := by decide +kernel
theorem dX12_current_1 : decode cX12_current 1 = .ok (.i2l, 1) := by decide +kernel
theorem dX12_current_2 : decode cX12_current 2 = .ok (.lconst 0, 1) := by decide +kernel
theorem dX12_current_3 : decode cX12_current 3 = .ok (.lconst 1, 1) := by decide +kernel
theorem dX12_current_4 : decode cX12_current 4 = .ok (.invokestatic 91, 3) := by decide +kernel
theorem dX12_current_7 : decode cX12_current 7 = .ok (.ifCond .eq 12, 3) := by decide +kernel
theorem dX12_current_10 : decode cX12_current 10 = .ok (.aload_n 0, 1) := by decide +kernel
theorem dX12_current_11 : decode cX12_current 11 = .ok (.iload_n 1, 1) := by decide +kernel
theorem dX12_current_12 : decode cX12_current 12 = .ok (.iload_n 2, 1) := by decide +kernel
theorem dX12_current_13 : decode cX12_current 13 = .ok (.invokevirtual 265, 3) := by decide +kernel
theorem dX12_current_16 : decode cX12_current 16 = .ok (.goto 5, 3) := by decide +kernel
theorem dX12_current_19 : decode cX12_current 19 = .ok (.ldc 254, 2) := by decide +kernel
theorem dX12_current_21 : decode cX12_current 21 = .ok (.ireturn, 1) := by decide +kernel
theorem dX12_rootAt_0 : decode cX12_rootAt 0 = .ok (.aload_n 0, 1) := by decide +kernel
theorem dX12_rootAt_1 : decode cX12_rootAt 1 = .ok (.iload_n 1, 1) := by decide +kernel
theorem dX12_rootAt_2 : decode cX12_rootAt 2 = .ok (.iconst 0, 1) := by decide +kernel
theorem dX12_rootAt_3 : decode cX12_rootAt 3 = .ok (.invokevirtual 265, 3) := by decide +kernel
theorem dX12_rootAt_6 : decode cX12_rootAt 6 = .ok (.istore_n 2, 1) := by decide +kernel
theorem dX12_rootAt_7 : decode cX12_rootAt 7 = .ok (.aload_n 0, 1) := by decide +kernel
theorem dX12_rootAt_8 : decode cX12_rootAt 8 = .ok (.iload_n 1, 1) := by decide +kernel
theorem dX12_rootAt_9 : decode cX12_rootAt 9 = .ok (.iconst 1, 1) := by decide +kernel
theorem dX12_rootAt_10 : decode cX12_rootAt 10 = .ok (.invokevirtual 265, 3) := by decide +kernel
theorem dX12_rootAt_13 : decode cX12_rootAt 13 = .ok (.istore_n 3, 1) := by decide +kernel
theorem dX12_rootAt_14 : decode cX12_rootAt 14 = .ok (.iload_n 2, 1) := by decide +kernel
theorem dX12_rootAt_15 : decode cX12_rootAt 15 = .ok (.iload_n 2, 1) := by decide +kernel
theorem dX12_rootAt_16 : decode cX12_rootAt 16 = .ok (.imul, 1) := by decide +kernel
theorem dX12_rootAt_17 : decode cX12_rootAt 17 = .ok (.iload_n 3, 1) := by decide +kernel
theorem dX12_rootAt_18 : decode cX12_rootAt 18 = .ok (.iload_n 3, 1) := by decide +kernel
theorem dX12_rootAt_19 : decode cX12_rootAt 19 = .ok (.imul, 1) := by decide +kernel
theorem dX12_rootAt_20 : decode cX12_rootAt 20 = .ok (.iadd, 1) := by decide +kernel
theorem dX12_rootAt_21 : decode cX12_rootAt 21 = .ok (.istore 4, 2) := by decide +kernel
theorem dX12_rootAt_23 : decode cX12_rootAt 23 = .ok (.iconst 0, 1) := by decide +kernel
theorem dX12_rootAt_24 : decode cX12_rootAt 24 = .ok (.istore 5, 2) := by decide +kernel
theorem dX12_rootAt_26 : decode cX12_rootAt 26 = .ok (.sipush 16384, 3) := by decide +kernel
theorem dX12_rootAt_29 : decode cX12_rootAt 29 = .ok (.istore 6, 2) := by decide +kernel
theorem dX12_rootAt_31 : decode cX12_rootAt 31 = .ok (.iload 6, 2) := by decide +kernel
theorem dX12_rootAt_33 : decode cX12_rootAt 33 = .ok (.ifCond .le 35, 3) := by decide +kernel
theorem dX12_rootAt_36 : decode cX12_rootAt 36 = .ok (.iload 5, 2) := by decide +kernel
theorem dX12_rootAt_38 : decode cX12_rootAt 38 = .ok (.iload 6, 2) := by decide +kernel
theorem dX12_rootAt_40 : decode cX12_rootAt 40 = .ok (.iadd, 1) := by decide +kernel
theorem dX12_rootAt_41 : decode cX12_rootAt 41 = .ok (.iload 5, 2) := by decide +kernel
theorem dX12_rootAt_43 : decode cX12_rootAt 43 = .ok (.iload 6, 2) := by decide +kernel
theorem dX12_rootAt_45 : decode cX12_rootAt 45 = .ok (.iadd, 1) := by decide +kernel
theorem dX12_rootAt_46 : decode cX12_rootAt 46 = .ok (.imul, 1) := by decide +kernel
theorem dX12_rootAt_47 : decode cX12_rootAt 47 = .ok (.iload 4, 2) := by decide +kernel
theorem dX12_rootAt_49 : decode cX12_rootAt 49 = .ok (.if_icmp .gt 10, 3) := by decide +kernel
theorem dX12_rootAt_52 : decode cX12_rootAt 52 = .ok (.iload 5, 2) := by decide +kernel
theorem dX12_rootAt_54 : decode cX12_rootAt 54 = .ok (.iload 6, 2) := by decide +kernel
theorem dX12_rootAt_56 : decode cX12_rootAt 56 = .ok (.iadd, 1) := by decide +kernel
theorem dX12_rootAt_57 : decode cX12_rootAt 57 = .ok (.istore 5, 2) := by decide +kernel
theorem dX12_rootAt_59 : decode cX12_rootAt 59 = .ok (.iload 6, 2) := by decide +kernel
theorem dX12_rootAt_61 : decode cX12_rootAt 61 = .ok (.iconst 1, 1) := by decide +kernel
theorem dX12_rootAt_62 : decode cX12_rootAt 62 = .ok (.ishr, 1) := by decide +kernel
theorem dX12_rootAt_63 : decode cX12_rootAt 63 = .ok (.istore 6, 2) := by decide +kernel
theorem dX12_rootAt_65 : decode cX12_rootAt 65 = .ok (.goto (-34), 3) := by decide +kernel
theorem dX12_rootAt_68 : decode cX12_rootAt 68 = .ok (.iload 5, 2) := by decide +kernel
theorem dX12_rootAt_70 : decode cX12_rootAt 70 = .ok (.ireturn, 1) := by decide +kernel
theorem dX12_field_0 : decode cX12_field 0 = .ok (.iload_n 1, 1) := by decide +kernel
theorem dX12_field_1 : decode cX12_field 1 = .ok (.i2l, 1) := by decide +kernel
theorem dX12_field_2 : decode cX12_field 2 = .ok (.lconst 0, 1) := by decide +kernel
theorem dX12_field_3 : decode cX12_field 3 = .ok (.ldc2_w 268, 3) := by decide +kernel
theorem dX12_field_6 : decode cX12_field 6 = .ok (.invokestatic 91, 3) := by decide +kernel
theorem dX12_field_9 : decode cX12_field 9 = .ok (.ifCond .ne 5, 3) := by decide +kernel
theorem dX12_field_12 : decode cX12_field 12 = .ok (.iconst (-1), 1) := by decide +kernel
theorem dX12_field_13 : decode cX12_field 13 = .ok (.ireturn, 1) := by decide +kernel
theorem dX12_field_14 : decode cX12_field 14 = .ok (.iconst 0, 1) := by decide +kernel
theorem dX12_field_15 : decode cX12_field 15 = .ok (.istore_n 2, 1) := by decide +kernel
theorem dX12_field_16 : decode cX12_field 16 = .ok (.iconst 0, 1) := by decide +kernel
theorem dX12_field_17 : decode cX12_field 17 = .ok (.istore_n 3, 1) := by decide +kernel
theorem dX12_field_18 : decode cX12_field 18 = .ok (.iconst 1, 1) := by decide +kernel
theorem dX12_field_19 : decode cX12_field 19 = .ok (.istore 4, 2) := by decide +kernel
theorem dX12_field_21 : decode cX12_field 21 = .ok (.iload 4, 2) := by decide +kernel
theorem dX12_field_23 : decode cX12_field 23 = .ok (.bipush 64, 2) := by decide +kernel
theorem dX12_field_25 : decode cX12_field 25 = .ok (.if_icmp .ge 43, 3) := by decide +kernel
theorem dX12_field_28 : decode cX12_field 28 = .ok (.aload_n 0, 1) := by decide +kernel
theorem dX12_field_29 : decode cX12_field 29 = .ok (.iload 4, 2) := by decide +kernel
theorem dX12_field_31 : decode cX12_field 31 = .ok (.invokevirtual 270, 3) := by decide +kernel
theorem dX12_field_34 : decode cX12_field 34 = .ok (.aload_n 0, 1) := by decide +kernel
theorem dX12_field_35 : decode cX12_field 35 = .ok (.iload_n 2, 1) := by decide +kernel
theorem dX12_field_36 : decode cX12_field 36 = .ok (.invokevirtual 270, 3) := by decide +kernel
theorem dX12_field_39 : decode cX12_field 39 = .ok (.if_icmp .ge 6, 3) := by decide +kernel
theorem dX12_field_42 : decode cX12_field 42 = .ok (.iload 4, 2) := by decide +kernel
theorem dX12_field_44 : decode cX12_field 44 = .ok (.istore_n 2, 1) := by decide +kernel
theorem dX12_field_45 : decode cX12_field 45 = .ok (.aload_n 0, 1) := by decide +kernel
theorem dX12_field_46 : decode cX12_field 46 = .ok (.iload 4, 2) := by decide +kernel
theorem dX12_field_48 : decode cX12_field 48 = .ok (.invokevirtual 270, 3) := by decide +kernel
theorem dX12_field_51 : decode cX12_field 51 = .ok (.aload_n 0, 1) := by decide +kernel
theorem dX12_field_52 : decode cX12_field 52 = .ok (.iload_n 3, 1) := by decide +kernel
theorem dX12_field_53 : decode cX12_field 53 = .ok (.invokevirtual 270, 3) := by decide +kernel
theorem dX12_field_56 : decode cX12_field 56 = .ok (.if_icmp .le 6, 3) := by decide +kernel
theorem dX12_field_59 : decode cX12_field 59 = .ok (.iload 4, 2) := by decide +kernel
theorem dX12_field_61 : decode cX12_field 61 = .ok (.istore_n 3, 1) := by decide +kernel
theorem dX12_field_62 : decode cX12_field 62 = .ok (.iinc 4 1, 3) := by decide +kernel
theorem dX12_field_65 : decode cX12_field 65 = .ok (.goto (-44), 3) := by decide +kernel
theorem dX12_field_68 : decode cX12_field 68 = .ok (.iload_n 1, 1) := by decide +kernel
theorem dX12_field_69 : decode cX12_field 69 = .ok (.ifCond .ne 11, 3) := by decide +kernel
theorem dX12_field_72 : decode cX12_field 72 = .ok (.aload_n 0, 1) := by decide +kernel
theorem dX12_field_73 : decode cX12_field 73 = .ok (.iload_n 2, 1) := by decide +kernel
theorem dX12_field_74 : decode cX12_field 74 = .ok (.invokevirtual 270, 3) := by decide +kernel
theorem dX12_field_77 : decode cX12_field 77 = .ok (.goto 17, 3) := by decide +kernel
theorem dX12_field_80 : decode cX12_field 80 = .ok (.iload_n 1, 1) := by decide +kernel
theorem dX12_field_81 : decode cX12_field 81 = .ok (.iconst 1, 1) := by decide +kernel
theorem dX12_field_82 : decode cX12_field 82 = .ok (.if_icmp .ne 11, 3) := by decide +kernel
theorem dX12_field_85 : decode cX12_field 85 = .ok (.aload_n 0, 1) := by decide +kernel
theorem dX12_field_86 : decode cX12_field 86 = .ok (.iload_n 3, 1) := by decide +kernel
theorem dX12_field_87 : decode cX12_field 87 = .ok (.invokevirtual 270, 3) := by decide +kernel
theorem dX12_field_90 : decode cX12_field 90 = .ok (.goto 4, 3) := by decide +kernel
theorem dX12_field_93 : decode cX12_field 93 = .ok (.iload_n 2, 1) := by decide +kernel
theorem dX12_field_94 : decode cX12_field 94 = .ok (.ireturn, 1) := by decide +kernel
theorem dX12_mend_0 : decode cX12_mend 0 = .ok (.iload_n 1, 1) := by decide +kernel
theorem dX12_mend_1 : decode cX12_mend 1 = .ok (.i2l, 1) := by decide +kernel
theorem dX12_mend_2 : decode cX12_mend 2 = .ok (.lconst 0, 1) := by decide +kernel
theorem dX12_mend_3 : decode cX12_mend 3 = .ok (.ldc2_w 252, 3) := by decide +kernel
theorem dX12_mend_6 : decode cX12_mend 6 = .ok (.invokestatic 91, 3) := by decide +kernel
theorem dX12_mend_9 : decode cX12_mend 9 = .ok (.ifCond .ne 6, 3) := by decide +kernel
theorem dX12_mend_12 : decode cX12_mend 12 = .ok (.ldc 254, 2) := by decide +kernel
theorem dX12_mend_14 : decode cX12_mend 14 = .ok (.ireturn, 1) := by decide +kernel
theorem dX12_mend_15 : decode cX12_mend 15 = .ok (.aload_n 0, 1) := by decide +kernel
theorem dX12_mend_16 : decode cX12_mend 16 = .ok (.getfield 39, 3) := by decide +kernel
theorem dX12_mend_19 : decode cX12_mend 19 = .ok (.iload_n 1, 1) := by decide +kernel
theorem dX12_mend_20 : decode cX12_mend 20 = .ok (.iaload, 1) := by decide +kernel
theorem dX12_mend_21 : decode cX12_mend 21 = .ok (.istore_n 2, 1) := by decide +kernel
theorem dX12_mend_22 : decode cX12_mend 22 = .ok (.iconst 0, 1) := by decide +kernel
theorem dX12_mend_23 : decode cX12_mend 23 = .ok (.istore_n 3, 1) := by decide +kernel
theorem dX12_mend_24 : decode cX12_mend 24 = .ok (.iconst (-1), 1) := by decide +kernel
theorem dX12_mend_25 : decode cX12_mend 25 = .ok (.istore 4, 2) := by decide +kernel
theorem dX12_mend_27 : decode cX12_mend 27 = .ok (.iconst 0, 1) := by decide +kernel
theorem dX12_mend_28 : decode cX12_mend 28 = .ok (.istore 5, 2) := by decide +kernel
theorem dX12_mend_30 : decode cX12_mend 30 = .ok (.iload 5, 2) := by decide +kernel
theorem dX12_mend_32 : decode cX12_mend 32 = .ok (.sipush 400, 3) := by decide +kernel
theorem dX12_mend_35 : decode cX12_mend 35 = .ok (.if_icmp .gt 78, 3) := by decide +kernel
theorem dX12_mend_38 : decode cX12_mend 38 = .ok (.iload 5, 2) := by decide +kernel
theorem dX12_mend_40 : decode cX12_mend 40 = .ok (.iconst 2, 1) := by decide +kernel
theorem dX12_mend_41 : decode cX12_mend 41 = .ok (.irem, 1) := by decide +kernel
theorem dX12_mend_42 : decode cX12_mend 42 = .ok (.iconst 1, 1) := by decide +kernel
theorem dX12_mend_43 : decode cX12_mend 43 = .ok (.if_icmp .ne 13, 3) := by decide +kernel
theorem dX12_mend_46 : decode cX12_mend 46 = .ok (.iload 5, 2) := by decide +kernel
theorem dX12_mend_48 : decode cX12_mend 48 = .ok (.iconst 1, 1) := by decide +kernel
theorem dX12_mend_49 : decode cX12_mend 49 = .ok (.iadd, 1) := by decide +kernel
theorem dX12_mend_50 : decode cX12_mend 50 = .ok (.iconst 2, 1) := by decide +kernel
theorem dX12_mend_51 : decode cX12_mend 51 = .ok (.idiv, 1) := by decide +kernel
theorem dX12_mend_52 : decode cX12_mend 52 = .ok (.ineg, 1) := by decide +kernel
theorem dX12_mend_53 : decode cX12_mend 53 = .ok (.goto 7, 3) := by decide +kernel
theorem dX12_mend_56 : decode cX12_mend 56 = .ok (.iload 5, 2) := by decide +kernel
theorem dX12_mend_58 : decode cX12_mend 58 = .ok (.iconst 2, 1) := by decide +kernel
theorem dX12_mend_59 : decode cX12_mend 59 = .ok (.idiv, 1) := by decide +kernel
theorem dX12_mend_60 : decode cX12_mend 60 = .ok (.istore 6, 2) := by decide +kernel
theorem dX12_mend_62 : decode cX12_mend 62 = .ok (.aload_n 0, 1) := by decide +kernel
theorem dX12_mend_63 : decode cX12_mend 63 = .ok (.getfield 39, 3) := by decide +kernel
theorem dX12_mend_66 : decode cX12_mend 66 = .ok (.iload_n 1, 1) := by decide +kernel
theorem dX12_mend_67 : decode cX12_mend 67 = .ok (.iload 6, 2) := by decide +kernel
theorem dX12_mend_69 : decode cX12_mend 69 = .ok (.iastore, 1) := by decide +kernel
theorem dX12_mend_70 : decode cX12_mend 70 = .ok (.aload_n 0, 1) := by decide +kernel
theorem dX12_mend_71 : decode cX12_mend 71 = .ok (.iload_n 1, 1) := by decide +kernel
theorem dX12_mend_72 : decode cX12_mend 72 = .ok (.invokevirtual 270, 3) := by decide +kernel
theorem dX12_mend_75 : decode cX12_mend 75 = .ok (.sipush 1000, 3) := by decide +kernel
theorem dX12_mend_78 : decode cX12_mend 78 = .ok (.isub, 1) := by decide +kernel
theorem dX12_mend_79 : decode cX12_mend 79 = .ok (.invokestatic 273, 3) := by decide +kernel
theorem dX12_mend_82 : decode cX12_mend 82 = .ok (.istore 7, 2) := by decide +kernel
theorem dX12_mend_84 : decode cX12_mend 84 = .ok (.iload 4, 2) := by decide +kernel
theorem dX12_mend_86 : decode cX12_mend 86 = .ok (.iconst (-1), 1) := by decide +kernel
theorem dX12_mend_87 : decode cX12_mend 87 = .ok (.if_icmp .eq 13, 3) := by decide +kernel
theorem dX12_mend_90 : decode cX12_mend 90 = .ok (.iload 7, 2) := by decide +kernel
theorem dX12_mend_92 : decode cX12_mend 92 = .ok (.iload 4, 2) := by decide +kernel
theorem dX12_mend_94 : decode cX12_mend 94 = .ok (.if_icmp .lt 6, 3) := by decide +kernel
theorem dX12_mend_97 : decode cX12_mend 97 = .ok (.goto 10, 3) := by decide +kernel
theorem dX12_mend_100 : decode cX12_mend 100 = .ok (.iload 6, 2) := by decide +kernel
theorem dX12_mend_102 : decode cX12_mend 102 = .ok (.istore_n 3, 1) := by decide +kernel
theorem dX12_mend_103 : decode cX12_mend 103 = .ok (.iload 7, 2) := by decide +kernel
theorem dX12_mend_105 : decode cX12_mend 105 = .ok (.istore 4, 2) := by decide +kernel
theorem dX12_mend_107 : decode cX12_mend 107 = .ok (.iinc 5 1, 3) := by decide +kernel
theorem dX12_mend_110 : decode cX12_mend 110 = .ok (.goto (-80), 3) := by decide +kernel
theorem dX12_mend_113 : decode cX12_mend 113 = .ok (.aload_n 0, 1) := by decide +kernel
theorem dX12_mend_114 : decode cX12_mend 114 = .ok (.getfield 39, 3) := by decide +kernel
theorem dX12_mend_117 : decode cX12_mend 117 = .ok (.iload_n 1, 1) := by decide +kernel
theorem dX12_mend_118 : decode cX12_mend 118 = .ok (.iload_n 2, 1) := by decide +kernel
theorem dX12_mend_119 : decode cX12_mend 119 = .ok (.iastore, 1) := by decide +kernel
theorem dX12_mend_120 : decode cX12_mend 120 = .ok (.iload_n 3, 1) := by decide +kernel
theorem dX12_mend_121 : decode cX12_mend 121 = .ok (.ireturn, 1) := by decide +kernel
theorem dX12_tuned_0 : decode cX12_tuned 0 = .ok (.iload_n 1, 1) := by decide +kernel
theorem dX12_tuned_1 : decode cX12_tuned 1 = .ok (.i2l, 1) := by decide +kernel
theorem dX12_tuned_2 : decode cX12_tuned 2 = .ok (.lconst 0, 1) := by decide +kernel
theorem dX12_tuned_3 : decode cX12_tuned 3 = .ok (.ldc2_w 268, 3) := by decide +kernel
theorem dX12_tuned_6 : decode cX12_tuned 6 = .ok (.invokestatic 91, 3) := by decide +kernel
theorem dX12_tuned_9 : decode cX12_tuned 9 = .ok (.ifCond .ne 5, 3) := by decide +kernel
theorem dX12_tuned_12 : decode cX12_tuned 12 = .ok (.iconst (-1), 1) := by decide +kernel
theorem dX12_tuned_13 : decode cX12_tuned 13 = .ok (.ireturn, 1) := by decide +kernel
theorem dX12_tuned_14 : decode cX12_tuned 14 = .ok (.iconst 0, 1) := by decide +kernel
theorem dX12_tuned_15 : decode cX12_tuned 15 = .ok (.istore_n 2, 1) := by decide +kernel
theorem dX12_tuned_16 : decode cX12_tuned 16 = .ok (.iconst 0, 1) := by decide +kernel
theorem dX12_tuned_17 : decode cX12_tuned 17 = .ok (.istore_n 3, 1) := by decide +kernel
theorem dX12_tuned_18 : decode cX12_tuned 18 = .ok (.iload_n 3, 1) := by decide +kernel
theorem dX12_tuned_19 : decode cX12_tuned 19 = .ok (.bipush 64, 2) := by decide +kernel
theorem dX12_tuned_21 : decode cX12_tuned 21 = .ok (.if_icmp .gt 21, 3) := by decide +kernel
theorem dX12_tuned_24 : decode cX12_tuned 24 = .ok (.aload_n 0, 1) := by decide +kernel
theorem dX12_tuned_25 : decode cX12_tuned 25 = .ok (.getfield 55, 3) := by decide +kernel
theorem dX12_tuned_28 : decode cX12_tuned 28 = .ok (.iload_n 3, 1) := by decide +kernel
theorem dX12_tuned_29 : decode cX12_tuned 29 = .ok (.aload_n 0, 1) := by decide +kernel
theorem dX12_tuned_30 : decode cX12_tuned 30 = .ok (.getfield 39, 3) := by decide +kernel
theorem dX12_tuned_33 : decode cX12_tuned 33 = .ok (.iload_n 3, 1) := by decide +kernel
theorem dX12_tuned_34 : decode cX12_tuned 34 = .ok (.iaload, 1) := by decide +kernel
theorem dX12_tuned_35 : decode cX12_tuned 35 = .ok (.iastore, 1) := by decide +kernel
theorem dX12_tuned_36 : decode cX12_tuned 36 = .ok (.iinc 3 1, 3) := by decide +kernel
theorem dX12_tuned_39 : decode cX12_tuned 39 = .ok (.goto (-21), 3) := by decide +kernel
theorem dX12_tuned_42 : decode cX12_tuned 42 = .ok (.iconst 0, 1) := by decide +kernel
theorem dX12_tuned_43 : decode cX12_tuned 43 = .ok (.istore_n 3, 1) := by decide +kernel
theorem dX12_tuned_44 : decode cX12_tuned 44 = .ok (.iload_n 3, 1) := by decide +kernel
theorem dX12_tuned_45 : decode cX12_tuned 45 = .ok (.bipush 64, 2) := by decide +kernel
theorem dX12_tuned_47 : decode cX12_tuned 47 = .ok (.if_icmp .gt 46, 3) := by decide +kernel
theorem dX12_tuned_50 : decode cX12_tuned 50 = .ok (.aload_n 0, 1) := by decide +kernel
theorem dX12_tuned_51 : decode cX12_tuned 51 = .ok (.getfield 39, 3) := by decide +kernel
theorem dX12_tuned_54 : decode cX12_tuned 54 = .ok (.iload_n 3, 1) := by decide +kernel
theorem dX12_tuned_55 : decode cX12_tuned 55 = .ok (.aload_n 0, 1) := by decide +kernel
theorem dX12_tuned_56 : decode cX12_tuned 56 = .ok (.iload_n 3, 1) := by decide +kernel
theorem dX12_tuned_57 : decode cX12_tuned 57 = .ok (.invokevirtual 276, 3) := by decide +kernel
theorem dX12_tuned_60 : decode cX12_tuned 60 = .ok (.iastore, 1) := by decide +kernel
theorem dX12_tuned_61 : decode cX12_tuned 61 = .ok (.iload_n 2, 1) := by decide +kernel
theorem dX12_tuned_62 : decode cX12_tuned 62 = .ok (.aload_n 0, 1) := by decide +kernel
theorem dX12_tuned_63 : decode cX12_tuned 63 = .ok (.getfield 39, 3) := by decide +kernel
theorem dX12_tuned_66 : decode cX12_tuned 66 = .ok (.iload_n 3, 1) := by decide +kernel
theorem dX12_tuned_67 : decode cX12_tuned 67 = .ok (.iaload, 1) := by decide +kernel
theorem dX12_tuned_68 : decode cX12_tuned 68 = .ok (.aload_n 0, 1) := by decide +kernel
theorem dX12_tuned_69 : decode cX12_tuned 69 = .ok (.getfield 55, 3) := by decide +kernel
theorem dX12_tuned_72 : decode cX12_tuned 72 = .ok (.iload_n 3, 1) := by decide +kernel
theorem dX12_tuned_73 : decode cX12_tuned 73 = .ok (.iaload, 1) := by decide +kernel
theorem dX12_tuned_74 : decode cX12_tuned 74 = .ok (.if_icmp .eq 7, 3) := by decide +kernel
theorem dX12_tuned_77 : decode cX12_tuned 77 = .ok (.iconst 1, 1) := by decide +kernel
theorem dX12_tuned_78 : decode cX12_tuned 78 = .ok (.goto 4, 3) := by decide +kernel
theorem dX12_tuned_81 : decode cX12_tuned 81 = .ok (.iconst 0, 1) := by decide +kernel
theorem dX12_tuned_82 : decode cX12_tuned 82 = .ok (.invokestatic 279, 3) := by decide +kernel
theorem dX12_tuned_85 : decode cX12_tuned 85 = .ok (.iadd, 1) := by decide +kernel
theorem dX12_tuned_86 : decode cX12_tuned 86 = .ok (.istore_n 2, 1) := by decide +kernel
theorem dX12_tuned_87 : decode cX12_tuned 87 = .ok (.iinc 3 1, 3) := by decide +kernel
theorem dX12_tuned_90 : decode cX12_tuned 90 = .ok (.goto (-46), 3) := by decide +kernel
theorem dX12_tuned_93 : decode cX12_tuned 93 = .ok (.iload_n 1, 1) := by decide +kernel
theorem dX12_tuned_94 : decode cX12_tuned 94 = .ok (.iconst 2, 1) := by decide +kernel
theorem dX12_tuned_95 : decode cX12_tuned 95 = .ok (.if_icmp .ne 7, 3) := by decide +kernel
theorem dX12_tuned_98 : decode cX12_tuned 98 = .ok (.iload_n 2, 1) := by decide +kernel
theorem dX12_tuned_99 : decode cX12_tuned 99 = .ok (.goto 8, 3) := by decide +kernel
theorem dX12_tuned_102 : decode cX12_tuned 102 = .ok (.aload_n 0, 1) := by decide +kernel
theorem dX12_tuned_103 : decode cX12_tuned 103 = .ok (.iload_n 1, 1) := by decide +kernel
theorem dX12_tuned_104 : decode cX12_tuned 104 = .ok (.invokevirtual 283, 3) := by decide +kernel
theorem dX12_tuned_107 : decode cX12_tuned 107 = .ok (.istore_n 3, 1) := by decide +kernel
theorem dX12_tuned_108 : decode cX12_tuned 108 = .ok (.iconst 0, 1) := by decide +kernel
theorem dX12_tuned_109 : decode cX12_tuned 109 = .ok (.istore 4, 2) := by decide +kernel
theorem dX12_tuned_111 : decode cX12_tuned 111 = .ok (.iload 4, 2) := by decide +kernel
theorem dX12_tuned_113 : decode cX12_tuned 113 = .ok (.bipush 64, 2) := by decide +kernel
theorem dX12_tuned_115 : decode cX12_tuned 115 = .ok (.if_icmp .gt 23, 3) := by decide +kernel
theorem dX12_tuned_118 : decode cX12_tuned 118 = .ok (.aload_n 0, 1) := by decide +kernel
theorem dX12_tuned_119 : decode cX12_tuned 119 = .ok (.getfield 39, 3) := by decide +kernel
theorem dX12_tuned_122 : decode cX12_tuned 122 = .ok (.iload 4, 2) := by decide +kernel
theorem dX12_tuned_124 : decode cX12_tuned 124 = .ok (.aload_n 0, 1) := by decide +kernel
theorem dX12_tuned_125 : decode cX12_tuned 125 = .ok (.getfield 55, 3) := by decide +kernel
theorem dX12_tuned_128 : decode cX12_tuned 128 = .ok (.iload 4, 2) := by decide +kernel
theorem dX12_tuned_130 : decode cX12_tuned 130 = .ok (.iaload, 1) := by decide +kernel
theorem dX12_tuned_131 : decode cX12_tuned 131 = .ok (.iastore, 1) := by decide +kernel
theorem dX12_tuned_132 : decode cX12_tuned 132 = .ok (.iinc 4 1, 3) := by decide +kernel
theorem dX12_tuned_135 : decode cX12_tuned 135 = .ok (.goto (-24), 3) := by decide +kernel
theorem dX12_tuned_138 : decode cX12_tuned 138 = .ok (.iload_n 3, 1) := by decide +kernel
theorem dX12_tuned_139 : decode cX12_tuned 139 = .ok (.ireturn, 1) := by decide +kernel
def zjX12_bandLine_14 (sh : zShp) (k0 : Nat)  (M : zMem) : Option (zMem) :=
  if (zI M k0 8) ≤ 0 then (
  zob2 (zX12_axisHere sh k0 M) fun r_3 M_4 =>
  if (zI M_4 k0 8) ≤ 0 then (
  zob (zX12_goOn sh k0 M_4) fun M_7 =>
  zob2 (zX12_number sh k0 (1 : Int32) (60 : Int32) M_7) fun r_9 M_10 =>
  zob2 (zX12_number sh k0 r_9 (60 : Int32) M_10) fun r_12 M_13 =>
  if (zI M_13 k0 8) ≤ 0 then (
  zgd (zin ((3 : Int32) * (zI M_13 k0 25)) (zlen sh (zR M_13 k0 17))) <|
  zbd (zpI M_13 (zR M_13 k0 17) (((3 : Int32) * (zI M_13 k0 25)).toNatClampNeg) r_3) fun M_17 =>
  zgd (zin (((3 : Int32) * (zI M_17 k0 25)) + (1 : Int32)) (zlen sh (zR M_17 k0 17))) <|
  zbd (zpI M_17 (zR M_17 k0 17) ((((3 : Int32) * (zI M_17 k0 25)) + (1 : Int32)).toNatClampNeg) r_9) fun M_20 =>
  zgd (zin (((3 : Int32) * (zI M_20 k0 25)) + (2 : Int32)) (zlen sh (zR M_20 k0 17))) <|
  zbd (zpI M_20 (zR M_20 k0 17) ((((3 : Int32) * (zI M_20 k0 25)) + (2 : Int32)).toNatClampNeg) r_12) fun M_23 =>
  zbd (zpI M_23 k0 25 ((zI M_23 k0 25) + (1 : Int32))) fun M_24 =>
  some M_24)
  else (
  some M_13))
  else (
  some M_4))
  else (
  some M)
def zX12_bandLine (sh : zShp) (k0 : Nat) (M : zMem) : Option (zMem) :=
  if (zI M k0 25) = (6 : Int32) then (
  zob (zX12_wrong sh k0 (5 : Int32) M) fun M_27 =>
  zjX12_bandLine_14 sh k0 M_27)
  else (
  zjX12_bandLine_14 sh k0 M)
set_option maxHeartbeats 4000000 in
set_option maxRecDepth 100000 in
theorem ztX12_bandLine (l : Launch) (D : va_G) (cy : Nat → ClassId) (sh : zShp) (ad : Nat → Nat) {k0 : Nat} (h0 : zT sh k0 12) {M : zMem} {M1 : zMem} (hd : zX12_bandLine sh k0 M = some M1) : zCV l yX12_bandLine cX12_bandLine 4 { frames := 3, cells := 0, slots := 0, locals := 71 } [.ref (ad k0)] D cy sh ad M M1 := by
  refine zcv_of (by decide) (Nat.le_of_ble_eq_true rfl) (fun p e s m below meth c ls F hr hlk hl hw => ?_)
  have hx := F.1.1
  have hb := F.1.2.1
  have hl : lv_has ls 4 [(0, .ref (ad k0))] := hl
  have J14 : ∀ (M : zMem) (H : Heap) (locs : List Loc) (ls : Array Slot), lv_has ls 4 [(0, .ref (ad k0))] → zWd D cy sh ad s M H locs → zjX12_bandLine_14 sh k0  M = some M1 → W p l e { frames := 3, cells := 0, slots := 0, locals := 71 } s m ([.ref (ad k0)] : List Value).toArray below meth c H locs 0 0 (zQV below D cy sh ad s [.ref (ad k0)] M1) (F0 m 14 ls []) := by
    intro  M H locs ls hl hw hd
    unfold zjX12_bandLine_14 at hd
    refine lv_aload_n hx hb dX12_bandLine_14 rfl (lv_at hl 0 rfl) ?_
    refine z_gI F hw h0 zc12 8 (by decide) rfl zf12_125 dX12_bandLine_15 ?_
    refine lv_if_le (tgt := 22) hx hb dX12_bandLine_18 (by decide) (fun c_1 => ?_) (fun c_1 => ?_)
    · have hd := zif_pos c_1 hd
      refine lv_aload_n hx hb dX12_bandLine_22 rfl (lv_at hl 0 rfl) ?_
      obtain ⟨r_3, M_4, hc_2, hd⟩ := zob2_some hd
      refine z_cvI F hw hl.1 (As := []) (rest := []) (ztX12_axisHere l D cy sh ad h0 hc_2) zyX12_axisHere h0 zc12 zk12_197 ⟨rfl, rfl⟩ ⟨by decide, by decide⟩ rfl rfl (Nat.le_of_ble_eq_true rfl) dX12_bandLine_23 (fun H locs hw => ?_)
      refine lv_istore_n (lv' := [(1, .int r_3), (0, .ref (ad k0))]) hx hb dX12_bandLine_26 rfl hl (by decide) rfl (fun ls hl => ?_)
      refine lv_aload_n hx hb dX12_bandLine_27 rfl (lv_at hl 1 rfl) ?_
      refine z_gI F hw h0 zc12 8 (by decide) rfl zf12_125 dX12_bandLine_28 ?_
      refine lv_if_le (tgt := 35) hx hb dX12_bandLine_31 (by decide) (fun c_5 => ?_) (fun c_5 => ?_)
      · have hd := zif_pos c_5 hd
        refine lv_aload_n hx hb dX12_bandLine_35 rfl (lv_at hl 1 rfl) ?_
        obtain ⟨M_7, hc_6, hd⟩ := zob_some hd
        refine z_cvV F hw hl.1 (As := []) (rest := []) (ztX12_goOn l D cy sh ad h0 hc_6) zyX12_goOn h0 zc12 zk12_158 ⟨rfl, rfl⟩ ⟨by decide, by decide⟩ rfl rfl (Nat.le_of_ble_eq_true rfl) dX12_bandLine_36 (fun H locs hw => ?_)
        refine lv_aload_n hx hb dX12_bandLine_39 rfl (lv_at hl 1 rfl) ?_
        refine lv_iconst (v := (1 : Int32)) hx hb dX12_bandLine_40 (by decide) ?_
        refine lv_bipush (v := (60 : Int32)) hx hb dX12_bandLine_41 (by decide) ?_
        obtain ⟨r_9, M_10, hc_8, hd⟩ := zob2_some hd
        refine z_cvI F hw hl.1 (As := [.int (1 : Int32), .int (60 : Int32)]) (rest := []) (ztX12_number l D cy sh ad h0 hc_8) zyX12_number h0 zc12 zk12_176 ⟨rfl, rfl⟩ ⟨by decide, by decide⟩ rfl rfl (Nat.le_of_ble_eq_true rfl) dX12_bandLine_43 (fun H locs hw => ?_)
        refine lv_istore_n (lv' := [(2, .int r_9), (1, .int r_3), (0, .ref (ad k0))]) hx hb dX12_bandLine_46 rfl hl (by decide) rfl (fun ls hl => ?_)
        refine lv_aload_n hx hb dX12_bandLine_47 rfl (lv_at hl 2 rfl) ?_
        refine lv_iload_n hx hb dX12_bandLine_48 rfl (lv_at hl 0 rfl) ?_
        refine lv_bipush (v := (60 : Int32)) hx hb dX12_bandLine_49 (by decide) ?_
        obtain ⟨r_12, M_13, hc_11, hd⟩ := zob2_some hd
        refine z_cvI F hw hl.1 (As := [.int r_9, .int (60 : Int32)]) (rest := []) (ztX12_number l D cy sh ad h0 hc_11) zyX12_number h0 zc12 zk12_176 ⟨rfl, rfl⟩ ⟨by decide, by decide⟩ rfl rfl (Nat.le_of_ble_eq_true rfl) dX12_bandLine_51 (fun H locs hw => ?_)
        refine lv_istore_n (lv' := [(3, .int r_12), (2, .int r_9), (1, .int r_3), (0, .ref (ad k0))]) hx hb dX12_bandLine_54 rfl hl (by decide) rfl (fun ls hl => ?_)
        refine lv_aload_n hx hb dX12_bandLine_55 rfl (lv_at hl 3 rfl) ?_
        refine z_gI F hw h0 zc12 8 (by decide) rfl zf12_125 dX12_bandLine_56 ?_
        refine lv_if_le (tgt := 63) hx hb dX12_bandLine_59 (by decide) (fun c_14 => ?_) (fun c_14 => ?_)
        · have hd := zif_pos c_14 hd
          refine lv_aload_n hx hb dX12_bandLine_63 rfl (lv_at hl 3 rfl) ?_
          refine z_gR F hw h0 zc12 17 (by decide) rfl zf12_36 dX12_bandLine_64 ?_
          have t_15 : zT sh (zR M_13 k0 17) 14 := hw.2.2.2.fld h0 17 14
          refine lv_iconst (v := (3 : Int32)) hx hb dX12_bandLine_67 (by decide) ?_
          refine lv_aload_n hx hb dX12_bandLine_68 rfl (lv_at hl 3 rfl) ?_
          refine z_gI F hw h0 zc12 25 (by decide) rfl zf12_200 dX12_bandLine_69 ?_
          refine lv_imul hx hb dX12_bandLine_72 ?_
          refine lv_iload_n hx hb dX12_bandLine_73 rfl (lv_at hl 2 rfl) ?_
          obtain ⟨g_16, hd⟩ := zgd_some hd
          refine z_iast F hw t_15 g_16 dX12_bandLine_74 (fun H locs M_17 eM_17 hw => ?_)
          have hd := zbd_eq eM_17 hd
          refine lv_aload_n hx hb dX12_bandLine_75 rfl (lv_at hl 3 rfl) ?_
          refine z_gR F hw h0 zc12 17 (by decide) rfl zf12_36 dX12_bandLine_76 ?_
          have t_18 : zT sh (zR M_17 k0 17) 14 := hw.2.2.2.fld h0 17 14
          refine lv_iconst (v := (3 : Int32)) hx hb dX12_bandLine_79 (by decide) ?_
          refine lv_aload_n hx hb dX12_bandLine_80 rfl (lv_at hl 3 rfl) ?_
          refine z_gI F hw h0 zc12 25 (by decide) rfl zf12_200 dX12_bandLine_81 ?_
          refine lv_imul hx hb dX12_bandLine_84 ?_
          refine lv_iconst (v := (1 : Int32)) hx hb dX12_bandLine_85 (by decide) ?_
          refine lv_iadd hx hb dX12_bandLine_86 ?_
          refine lv_iload_n hx hb dX12_bandLine_87 rfl (lv_at hl 1 rfl) ?_
          obtain ⟨g_19, hd⟩ := zgd_some hd
          refine z_iast F hw t_18 g_19 dX12_bandLine_88 (fun H locs M_20 eM_20 hw => ?_)
          have hd := zbd_eq eM_20 hd
          refine lv_aload_n hx hb dX12_bandLine_89 rfl (lv_at hl 3 rfl) ?_
          refine z_gR F hw h0 zc12 17 (by decide) rfl zf12_36 dX12_bandLine_90 ?_
          have t_21 : zT sh (zR M_20 k0 17) 14 := hw.2.2.2.fld h0 17 14
          refine lv_iconst (v := (3 : Int32)) hx hb dX12_bandLine_93 (by decide) ?_
          refine lv_aload_n hx hb dX12_bandLine_94 rfl (lv_at hl 3 rfl) ?_
          refine z_gI F hw h0 zc12 25 (by decide) rfl zf12_200 dX12_bandLine_95 ?_
          refine lv_imul hx hb dX12_bandLine_98 ?_
          refine lv_iconst (v := (2 : Int32)) hx hb dX12_bandLine_99 (by decide) ?_
          refine lv_iadd hx hb dX12_bandLine_100 ?_
          refine lv_iload_n hx hb dX12_bandLine_101 rfl (lv_at hl 0 rfl) ?_
          obtain ⟨g_22, hd⟩ := zgd_some hd
          refine z_iast F hw t_21 g_22 dX12_bandLine_102 (fun H locs M_23 eM_23 hw => ?_)
          have hd := zbd_eq eM_23 hd
          refine lv_aload_n hx hb dX12_bandLine_103 rfl (lv_at hl 3 rfl) ?_
          refine lv_dup hx hb dX12_bandLine_104 rfl ?_
          refine z_gI F hw h0 zc12 25 (by decide) rfl zf12_200 dX12_bandLine_105 ?_
          refine lv_iconst (v := (1 : Int32)) hx hb dX12_bandLine_108 (by decide) ?_
          refine lv_iadd hx hb dX12_bandLine_109 ?_
          refine z_pI F hw h0 zc12 25 (by decide) rfl zf12_200 rfl rfl rfl dX12_bandLine_110 (fun H locs M_24 eM_24 hw => ?_)
          have hd := zbd_eq eM_24 hd
          exact z_vret F hr hlk hw (Option.some.inj hd) dX12_bandLine_113
        · have hd := zif_neg c_14 hd
          exact z_vret F hr hlk hw (Option.some.inj hd) dX12_bandLine_62
      · have hd := zif_neg c_5 hd
        exact z_vret F hr hlk hw (Option.some.inj hd) dX12_bandLine_34
    · have hd := zif_neg c_1 hd
      exact z_vret F hr hlk hw (Option.some.inj hd) dX12_bandLine_21
  unfold zX12_bandLine at hd
  refine lv_aload_n hx hb dX12_bandLine_0 rfl (lv_at hl 0 rfl) ?_
  refine z_gI F hw h0 zc12 25 (by decide) rfl zf12_200 dX12_bandLine_1 ?_
  refine lv_bipush (v := (6 : Int32)) hx hb dX12_bandLine_4 (by decide) ?_
  refine lv_icmp_ne (tgt := 14) hx hb dX12_bandLine_6 (by decide) (fun c_25 => ?_) (fun c_25 => ?_)
  · have hd := zif_neg c_25 hd
    exact J14 _ _ _ _ (lv_sub hl [0] rfl) hw hd
  · have hd := zif_pos c_25 hd
    refine lv_aload_n hx hb dX12_bandLine_9 rfl (lv_at hl 0 rfl) ?_
    refine lv_iconst (v := (5 : Int32)) hx hb dX12_bandLine_10 (by decide) ?_
    obtain ⟨M_27, hc_26, hd⟩ := zob_some hd
    refine z_cvV F hw hl.1 (As := [.int (5 : Int32)]) (rest := []) (ztX12_wrong l D cy sh ad h0 hc_26) zyX12_wrong h0 zc12 zk12_161 ⟨rfl, rfl⟩ ⟨by decide, by decide⟩ rfl rfl (Nat.le_of_ble_eq_true rfl) dX12_bandLine_11 (fun H locs hw => ?_)
    exact J14 _ _ _ _ (lv_sub hl [0] rfl) hw hd

def zjX12_fixLine_97 (sh : zShp) (k0 : Nat)  (M : zMem) : Option (zMem) :=
  zbd (zpI M k0 27 ((zI M k0 27) + (1 : Int32))) fun M_1 =>
  some M_1
def zjX12_fixLine_69 (sh : zShp) (k0 : Nat)  (x1 : Int32) (x2 : Int32) (M : zMem) : Option (zMem) :=
  zob2 (zX12_numberHere sh k0 (-200 : Int32) (200 : Int32) x2 M) fun r_4 M_5 =>
  zgd (zin x1 (zlen sh (zR M k0 19))) <|
  zbd (zpI M_5 (zR M k0 19) (x1.toNatClampNeg) r_4) fun M_7 =>
  zob (zX12_isGood sh k0 M_7) fun r_9 =>
  if r_9 = 0 then (
  zjX12_fixLine_97 sh k0 M_7)
  else (
  zob (zX12_goOn sh k0 M_7) fun M_12 =>
  zjX12_fixLine_97 sh k0 M_12)
def zjX12_fixLine_34 (sh : zShp) (k0 : Nat)  (x1 : Int32) (M : zMem) : Option (zMem) :=
  if (zI M k0 8) ≤ 0 then (
  zgd (zin x1 (zlen sh (zR M k0 20))) <|
  zbd (zpI M (zR M k0 20) (x1.toNatClampNeg) (vp_nar .boolean (1 : Int32))) fun M_16 =>
  zob (zX12_goOn sh k0 M_16) fun M_18 =>
  if (zI M_18 k0 6) = (3 : Int32) then (
  zob (zX12_goOn sh k0 M_18) fun M_21 =>
  zjX12_fixLine_69 sh k0 x1 (-1 : Int32) M_21)
  else (
  zjX12_fixLine_69 sh k0 x1 (1 : Int32) M_18))
  else (
  some M)
def zX12_fixLine (sh : zShp) (k0 : Nat) (M : zMem) : Option (zMem) :=
  zob (zX12_goOn sh k0 M) fun M_23 =>
  zob2 (zX12_numberHere sh k0 (0 : Int32) (64 : Int32) (1 : Int32) M_23) fun r_25 M_26 =>
  zob (zX12_isGood sh k0 M_26) fun r_28 =>
  if r_28 = 0 then (
  zjX12_fixLine_34 sh k0 r_25 M_26)
  else (
  zgd (zin r_25 (zlen sh (zR M_26 k0 20))) <|
  if (zI M_26 (zR M_26 k0 20) r_25.toNatClampNeg) = 0 then (
  zjX12_fixLine_34 sh k0 r_25 M_26)
  else (
  zob (zX12_wrong sh k0 (5 : Int32) M_26) fun M_34 =>
  zjX12_fixLine_34 sh k0 r_25 M_34))
set_option maxHeartbeats 4000000 in
set_option maxRecDepth 100000 in
theorem ztX12_fixLine (l : Launch) (D : va_G) (cy : Nat → ClassId) (sh : zShp) (ad : Nat → Nat) {k0 : Nat} (h0 : zT sh k0 12) {M : zMem} {M1 : zMem} (hd : zX12_fixLine sh k0 M = some M1) : zCV l yX12_fixLine cX12_fixLine 3 { frames := 2, cells := 0, slots := 0, locals := 48 } [.ref (ad k0)] D cy sh ad M M1 := by
  refine zcv_of (by decide) (Nat.le_of_ble_eq_true rfl) (fun p e s m below meth c ls F hr hlk hl hw => ?_)
  have hx := F.1.1
  have hb := F.1.2.1
  have hl : lv_has ls 3 [(0, .ref (ad k0))] := hl
  have J97 : ∀ (M : zMem) (H : Heap) (locs : List Loc) (ls : Array Slot), lv_has ls 3 [(0, .ref (ad k0))] → zWd D cy sh ad s M H locs → zjX12_fixLine_97 sh k0  M = some M1 → W p l e { frames := 2, cells := 0, slots := 0, locals := 48 } s m ([.ref (ad k0)] : List Value).toArray below meth c H locs 0 0 (zQV below D cy sh ad s [.ref (ad k0)] M1) (F0 m 97 ls []) := by
    intro  M H locs ls hl hw hd
    unfold zjX12_fixLine_97 at hd
    refine lv_aload_n hx hb dX12_fixLine_97 rfl (lv_at hl 0 rfl) ?_
    refine lv_dup hx hb dX12_fixLine_98 rfl ?_
    refine z_gI F hw h0 zc12 27 (by decide) rfl zf12_203 dX12_fixLine_99 ?_
    refine lv_iconst (v := (1 : Int32)) hx hb dX12_fixLine_102 (by decide) ?_
    refine lv_iadd hx hb dX12_fixLine_103 ?_
    refine z_pI F hw h0 zc12 27 (by decide) rfl zf12_203 rfl rfl rfl dX12_fixLine_104 (fun H locs M_1 eM_1 hw => ?_)
    have hd := zbd_eq eM_1 hd
    exact z_vret F hr hlk hw (Option.some.inj hd) dX12_fixLine_107
  have J69 : ∀ (x1 : Int32) (x2 : Int32) (M : zMem) (H : Heap) (locs : List Loc) (ls : Array Slot), lv_has ls 3 [(0, .ref (ad k0)), (1, .int x1), (2, .int x2)] → zWd D cy sh ad s M H locs → zjX12_fixLine_69 sh k0  x1 x2 M = some M1 → W p l e { frames := 2, cells := 0, slots := 0, locals := 48 } s m ([.ref (ad k0)] : List Value).toArray below meth c H locs 0 0 (zQV below D cy sh ad s [.ref (ad k0)] M1) (F0 m 69 ls []) := by
    intro  x1 x2 M H locs ls hl hw hd
    unfold zjX12_fixLine_69 at hd
    refine lv_aload_n hx hb dX12_fixLine_69 rfl (lv_at hl 0 rfl) ?_
    refine z_gR F hw h0 zc12 19 (by decide) rfl zf12_42 dX12_fixLine_70 ?_
    have t_2 : zT sh (zR M k0 19) 14 := hw.2.2.2.fld h0 19 14
    refine lv_iload_n hx hb dX12_fixLine_73 rfl (lv_at hl 1 rfl) ?_
    refine lv_aload_n hx hb dX12_fixLine_74 rfl (lv_at hl 0 rfl) ?_
    refine lv_sipush (v := (-200 : Int32)) hx hb dX12_fixLine_75 (by decide) ?_
    refine lv_sipush (v := (200 : Int32)) hx hb dX12_fixLine_78 (by decide) ?_
    refine lv_iload_n hx hb dX12_fixLine_81 rfl (lv_at hl 2 rfl) ?_
    obtain ⟨r_4, M_5, hc_3, hd⟩ := zob2_some hd
    refine z_cvI F hw hl.1 (As := [.int (-200 : Int32), .int (200 : Int32), .int x2]) (rest := [.int x1, .ref (ad (zR M k0 19))]) (ztX12_numberHere l D cy sh ad h0 hc_3) zyX12_numberHere h0 zc12 zk12_164 ⟨rfl, rfl⟩ ⟨by decide, by decide⟩ rfl rfl (Nat.le_of_ble_eq_true rfl) dX12_fixLine_82 (fun H locs hw => ?_)
    obtain ⟨g_6, hd⟩ := zgd_some hd
    refine z_iast F hw t_2 g_6 dX12_fixLine_85 (fun H locs M_7 eM_7 hw => ?_)
    have hd := zbd_eq eM_7 hd
    refine lv_aload_n hx hb dX12_fixLine_86 rfl (lv_at hl 0 rfl) ?_
    obtain ⟨r_9, hc_8, hd⟩ := zob_some hd
    refine z_cvI F hw hl.1 (As := []) (rest := []) (ztX12_isGood l D cy sh ad h0 hc_8) zyX12_isGood h0 zc12 zk12_168 ⟨rfl, rfl⟩ ⟨by decide, by decide⟩ rfl rfl (Nat.le_of_ble_eq_true rfl) dX12_fixLine_87 (fun H locs hw => ?_)
    refine lv_if_eq (tgt := 97) hx hb dX12_fixLine_90 (by decide) (fun c_10 => ?_) (fun c_10 => ?_)
    · have hd := zif_pos c_10 hd
      exact J97 _ _ _ _ (lv_sub hl [0] rfl) hw hd
    · have hd := zif_neg c_10 hd
      refine lv_aload_n hx hb dX12_fixLine_93 rfl (lv_at hl 0 rfl) ?_
      obtain ⟨M_12, hc_11, hd⟩ := zob_some hd
      refine z_cvV F hw hl.1 (As := []) (rest := []) (ztX12_goOn l D cy sh ad h0 hc_11) zyX12_goOn h0 zc12 zk12_158 ⟨rfl, rfl⟩ ⟨by decide, by decide⟩ rfl rfl (Nat.le_of_ble_eq_true rfl) dX12_fixLine_94 (fun H locs hw => ?_)
      exact J97 _ _ _ _ (lv_sub hl [0] rfl) hw hd
  have J34 : ∀ (x1 : Int32) (M : zMem) (H : Heap) (locs : List Loc) (ls : Array Slot), lv_has ls 3 [(0, .ref (ad k0)), (1, .int x1)] → zWd D cy sh ad s M H locs → zjX12_fixLine_34 sh k0  x1 M = some M1 → W p l e { frames := 2, cells := 0, slots := 0, locals := 48 } s m ([.ref (ad k0)] : List Value).toArray below meth c H locs 0 0 (zQV below D cy sh ad s [.ref (ad k0)] M1) (F0 m 34 ls []) := by
    intro  x1 M H locs ls hl hw hd
    unfold zjX12_fixLine_34 at hd
    refine lv_aload_n hx hb dX12_fixLine_34 rfl (lv_at hl 0 rfl) ?_
    refine z_gI F hw h0 zc12 8 (by decide) rfl zf12_125 dX12_fixLine_35 ?_
    refine lv_if_le (tgt := 42) hx hb dX12_fixLine_38 (by decide) (fun c_13 => ?_) (fun c_13 => ?_)
    · have hd := zif_pos c_13 hd
      refine lv_aload_n hx hb dX12_fixLine_42 rfl (lv_at hl 0 rfl) ?_
      refine z_gR F hw h0 zc12 20 (by decide) rfl zf12_45 dX12_fixLine_43 ?_
      have t_14 : zT sh (zR M k0 20) 16 := hw.2.2.2.fld h0 20 16
      refine lv_iload_n hx hb dX12_fixLine_46 rfl (lv_at hl 1 rfl) ?_
      refine lv_iconst (v := (1 : Int32)) hx hb dX12_fixLine_47 (by decide) ?_
      obtain ⟨g_15, hd⟩ := zgd_some hd
      refine z_zast F hw t_14 g_15 dX12_fixLine_48 (fun H locs M_16 eM_16 hw => ?_)
      have hd := zbd_eq eM_16 hd
      refine lv_aload_n hx hb dX12_fixLine_49 rfl (lv_at hl 0 rfl) ?_
      obtain ⟨M_18, hc_17, hd⟩ := zob_some hd
      refine z_cvV F hw hl.1 (As := []) (rest := []) (ztX12_goOn l D cy sh ad h0 hc_17) zyX12_goOn h0 zc12 zk12_158 ⟨rfl, rfl⟩ ⟨by decide, by decide⟩ rfl rfl (Nat.le_of_ble_eq_true rfl) dX12_fixLine_50 (fun H locs hw => ?_)
      refine lv_iconst (v := (1 : Int32)) hx hb dX12_fixLine_53 (by decide) ?_
      refine lv_istore_n (lv' := [(2, .int (1 : Int32)), (0, .ref (ad k0)), (1, .int x1)]) hx hb dX12_fixLine_54 rfl hl (by decide) rfl (fun ls hl => ?_)
      refine lv_aload_n hx hb dX12_fixLine_55 rfl (lv_at hl 1 rfl) ?_
      refine z_gI F hw h0 zc12 6 (by decide) rfl zf12_115 dX12_fixLine_56 ?_
      refine lv_iconst (v := (3 : Int32)) hx hb dX12_fixLine_59 (by decide) ?_
      refine lv_icmp_ne (tgt := 69) hx hb dX12_fixLine_60 (by decide) (fun c_19 => ?_) (fun c_19 => ?_)
      · have hd := zif_neg c_19 hd
        exact J69 _ _ _ _ _ _ (lv_sub hl [1, 2, 0] rfl) hw hd
      · have hd := zif_pos c_19 hd
        refine lv_iconst (v := (-1 : Int32)) hx hb dX12_fixLine_63 (by decide) ?_
        refine lv_istore_n (lv' := [(2, .int (-1 : Int32)), (0, .ref (ad k0)), (1, .int x1)]) hx hb dX12_fixLine_64 rfl hl (by decide) rfl (fun ls hl => ?_)
        refine lv_aload_n hx hb dX12_fixLine_65 rfl (lv_at hl 1 rfl) ?_
        obtain ⟨M_21, hc_20, hd⟩ := zob_some hd
        refine z_cvV F hw hl.1 (As := []) (rest := []) (ztX12_goOn l D cy sh ad h0 hc_20) zyX12_goOn h0 zc12 zk12_158 ⟨rfl, rfl⟩ ⟨by decide, by decide⟩ rfl rfl (Nat.le_of_ble_eq_true rfl) dX12_fixLine_66 (fun H locs hw => ?_)
        exact J69 _ _ _ _ _ _ (lv_sub hl [1, 2, 0] rfl) hw hd
    · have hd := zif_neg c_13 hd
      exact z_vret F hr hlk hw (Option.some.inj hd) dX12_fixLine_41
  unfold zX12_fixLine at hd
  refine lv_aload_n hx hb dX12_fixLine_0 rfl (lv_at hl 0 rfl) ?_
  obtain ⟨M_23, hc_22, hd⟩ := zob_some hd
  refine z_cvV F hw hl.1 (As := []) (rest := []) (ztX12_goOn l D cy sh ad h0 hc_22) zyX12_goOn h0 zc12 zk12_158 ⟨rfl, rfl⟩ ⟨by decide, by decide⟩ rfl rfl (Nat.le_of_ble_eq_true rfl) dX12_fixLine_1 (fun H locs hw => ?_)
  refine lv_aload_n hx hb dX12_fixLine_4 rfl (lv_at hl 0 rfl) ?_
  refine lv_iconst (v := (0 : Int32)) hx hb dX12_fixLine_5 (by decide) ?_
  refine lv_bipush (v := (64 : Int32)) hx hb dX12_fixLine_6 (by decide) ?_
  refine lv_iconst (v := (1 : Int32)) hx hb dX12_fixLine_8 (by decide) ?_
  obtain ⟨r_25, M_26, hc_24, hd⟩ := zob2_some hd
  refine z_cvI F hw hl.1 (As := [.int (0 : Int32), .int (64 : Int32), .int (1 : Int32)]) (rest := []) (ztX12_numberHere l D cy sh ad h0 hc_24) zyX12_numberHere h0 zc12 zk12_164 ⟨rfl, rfl⟩ ⟨by decide, by decide⟩ rfl rfl (Nat.le_of_ble_eq_true rfl) dX12_fixLine_9 (fun H locs hw => ?_)
  refine lv_istore_n (lv' := [(1, .int r_25), (0, .ref (ad k0))]) hx hb dX12_fixLine_12 rfl hl (by decide) rfl (fun ls hl => ?_)
  refine lv_aload_n hx hb dX12_fixLine_13 rfl (lv_at hl 1 rfl) ?_
  obtain ⟨r_28, hc_27, hd⟩ := zob_some hd
  refine z_cvI F hw hl.1 (As := []) (rest := []) (ztX12_isGood l D cy sh ad h0 hc_27) zyX12_isGood h0 zc12 zk12_168 ⟨rfl, rfl⟩ ⟨by decide, by decide⟩ rfl rfl (Nat.le_of_ble_eq_true rfl) dX12_fixLine_14 (fun H locs hw => ?_)
  refine lv_if_eq (tgt := 34) hx hb dX12_fixLine_17 (by decide) (fun c_29 => ?_) (fun c_29 => ?_)
  · have hd := zif_pos c_29 hd
    exact J34 _ _ _ _ _ (lv_sub hl [1, 0] rfl) hw hd
  · have hd := zif_neg c_29 hd
    refine lv_aload_n hx hb dX12_fixLine_20 rfl (lv_at hl 1 rfl) ?_
    refine z_gR F hw h0 zc12 20 (by decide) rfl zf12_45 dX12_fixLine_21 ?_
    have t_30 : zT sh (zR M_26 k0 20) 16 := hw.2.2.2.fld h0 20 16
    refine lv_iload_n hx hb dX12_fixLine_24 rfl (lv_at hl 0 rfl) ?_
    obtain ⟨g_31, hd⟩ := zgd_some hd
    refine z_zald F hw t_30 g_31 dX12_fixLine_25 ?_
    refine lv_if_eq (tgt := 34) hx hb dX12_fixLine_26 (by decide) (fun c_32 => ?_) (fun c_32 => ?_)
    · have hd := zif_pos c_32 hd
      exact J34 _ _ _ _ _ (lv_sub hl [1, 0] rfl) hw hd
    · have hd := zif_neg c_32 hd
      refine lv_aload_n hx hb dX12_fixLine_29 rfl (lv_at hl 1 rfl) ?_
      refine lv_iconst (v := (5 : Int32)) hx hb dX12_fixLine_30 (by decide) ?_
      obtain ⟨M_34, hc_33, hd⟩ := zob_some hd
      refine z_cvV F hw hl.1 (As := [.int (5 : Int32)]) (rest := []) (ztX12_wrong l D cy sh ad h0 hc_33) zyX12_wrong h0 zc12 zk12_161 ⟨rfl, rfl⟩ ⟨by decide, by decide⟩ rfl rfl (Nat.le_of_ble_eq_true rfl) dX12_fixLine_31 (fun H locs hw => ?_)
      exact J34 _ _ _ _ _ (lv_sub hl [1, 0] rfl) hw hd

def zjX12_coilLine_12 (sh : zShp) (k0 : Nat)  (M : zMem) : Option (zMem) :=
  if (zI M k0 8) ≤ 0 then (
  zbd (zpI M k0 32 (1 : Int32)) fun M_2 =>
  zob (zX12_goOn sh k0 M_2) fun M_4 =>
  zob2 (zX12_behind sh k0 (126948234783865 : Int64) (1 : Int32) (2000 : Int32) M_4) fun r_6 M_7 =>
  zbd (zpI M_7 k0 30 r_6) fun M_8 =>
  zob2 (zX12_behind sh k0 (1819243379 : Int64) (1 : Int32) (99 : Int32) M_8) fun r_10 M_11 =>
  zbd (zpI M_11 k0 31 r_10) fun M_12 =>
  some M_12)
  else (
  some M)
def zX12_coilLine (sh : zShp) (k0 : Nat) (M : zMem) : Option (zMem) :=
  if (zI M k0 32) = 0 then (
  zjX12_coilLine_12 sh k0 M)
  else (
  zob (zX12_wrong sh k0 (5 : Int32) M) fun M_15 =>
  zjX12_coilLine_12 sh k0 M_15)
set_option maxHeartbeats 4000000 in
set_option maxRecDepth 100000 in
theorem ztX12_coilLine (l : Launch) (D : va_G) (cy : Nat → ClassId) (sh : zShp) (ad : Nat → Nat) {k0 : Nat} (h0 : zT sh k0 12) {M : zMem} {M1 : zMem} (hd : zX12_coilLine sh k0 M = some M1) : zCV l yX12_coilLine cX12_coilLine 1 { frames := 4, cells := 0, slots := 0, locals := 95 } [.ref (ad k0)] D cy sh ad M M1 := by
  refine zcv_of (by decide) (Nat.le_of_ble_eq_true rfl) (fun p e s m below meth c ls F hr hlk hl hw => ?_)
  have hx := F.1.1
  have hb := F.1.2.1
  have hl : lv_has ls 1 [(0, .ref (ad k0))] := hl
  have J12 : ∀ (M : zMem) (H : Heap) (locs : List Loc) (ls : Array Slot), lv_has ls 1 [(0, .ref (ad k0))] → zWd D cy sh ad s M H locs → zjX12_coilLine_12 sh k0  M = some M1 → W p l e { frames := 4, cells := 0, slots := 0, locals := 95 } s m ([.ref (ad k0)] : List Value).toArray below meth c H locs 0 0 (zQV below D cy sh ad s [.ref (ad k0)] M1) (F0 m 12 ls []) := by
    intro  M H locs ls hl hw hd
    unfold zjX12_coilLine_12 at hd
    refine lv_aload_n hx hb dX12_coilLine_12 rfl (lv_at hl 0 rfl) ?_
    refine z_gI F hw h0 zc12 8 (by decide) rfl zf12_125 dX12_coilLine_13 ?_
    refine lv_if_le (tgt := 20) hx hb dX12_coilLine_16 (by decide) (fun c_1 => ?_) (fun c_1 => ?_)
    · have hd := zif_pos c_1 hd
      refine lv_aload_n hx hb dX12_coilLine_20 rfl (lv_at hl 0 rfl) ?_
      refine lv_iconst (v := (1 : Int32)) hx hb dX12_coilLine_21 (by decide) ?_
      refine z_pI F hw h0 zc12 32 (by decide) rfl zf12_206 rfl (by decide) rfl dX12_coilLine_22 (fun H locs M_2 eM_2 hw => ?_)
      have hd := zbd_eq eM_2 hd
      refine lv_aload_n hx hb dX12_coilLine_25 rfl (lv_at hl 0 rfl) ?_
      obtain ⟨M_4, hc_3, hd⟩ := zob_some hd
      refine z_cvV F hw hl.1 (As := []) (rest := []) (ztX12_goOn l D cy sh ad h0 hc_3) zyX12_goOn h0 zc12 zk12_158 ⟨rfl, rfl⟩ ⟨by decide, by decide⟩ rfl rfl (Nat.le_of_ble_eq_true rfl) dX12_coilLine_26 (fun H locs hw => ?_)
      refine lv_aload_n hx hb dX12_coilLine_29 rfl (lv_at hl 0 rfl) ?_
      refine lv_aload_n hx hb dX12_coilLine_30 rfl (lv_at hl 0 rfl) ?_
      refine lv_ldc2 (v := (126948234783865 : Int64)) hx hb F.1.2.2.2.1 (F.1.2.2.2.2 _ zi12_150) dX12_coilLine_31 ?_
      refine lv_iconst (v := (1 : Int32)) hx hb dX12_coilLine_34 (by decide) ?_
      refine lv_sipush (v := (2000 : Int32)) hx hb dX12_coilLine_35 (by decide) ?_
      obtain ⟨r_6, M_7, hc_5, hd⟩ := zob2_some hd
      refine z_cvI F hw hl.1 (As := [.long (126948234783865 : Int64), .int (1 : Int32), .int (2000 : Int32)]) (rest := [.ref (ad k0)]) (ztX12_behind l D cy sh ad h0 hc_5) zyX12_behind h0 zc12 zk12_193 ⟨rfl, rfl⟩ ⟨by decide, by decide⟩ rfl rfl (Nat.le_of_ble_eq_true rfl) dX12_coilLine_38 (fun H locs hw => ?_)
      refine z_pI F hw h0 zc12 30 (by decide) rfl zf12_210 rfl rfl rfl dX12_coilLine_41 (fun H locs M_8 eM_8 hw => ?_)
      have hd := zbd_eq eM_8 hd
      refine lv_aload_n hx hb dX12_coilLine_44 rfl (lv_at hl 0 rfl) ?_
      refine lv_aload_n hx hb dX12_coilLine_45 rfl (lv_at hl 0 rfl) ?_
      refine lv_ldc2 (v := (1819243379 : Int64)) hx hb F.1.2.2.2.1 (F.1.2.2.2.2 _ zi12_152) dX12_coilLine_46 ?_
      refine lv_iconst (v := (1 : Int32)) hx hb dX12_coilLine_49 (by decide) ?_
      refine lv_bipush (v := (99 : Int32)) hx hb dX12_coilLine_50 (by decide) ?_
      obtain ⟨r_10, M_11, hc_9, hd⟩ := zob2_some hd
      refine z_cvI F hw hl.1 (As := [.long (1819243379 : Int64), .int (1 : Int32), .int (99 : Int32)]) (rest := [.ref (ad k0)]) (ztX12_behind l D cy sh ad h0 hc_9) zyX12_behind h0 zc12 zk12_193 ⟨rfl, rfl⟩ ⟨by decide, by decide⟩ rfl rfl (Nat.le_of_ble_eq_true rfl) dX12_coilLine_52 (fun H locs hw => ?_)
      refine z_pI F hw h0 zc12 31 (by decide) rfl zf12_213 rfl rfl rfl dX12_coilLine_55 (fun H locs M_12 eM_12 hw => ?_)
      have hd := zbd_eq eM_12 hd
      exact z_vret F hr hlk hw (Option.some.inj hd) dX12_coilLine_58
    · have hd := zif_neg c_1 hd
      exact z_vret F hr hlk hw (Option.some.inj hd) dX12_coilLine_19
  unfold zX12_coilLine at hd
  refine lv_aload_n hx hb dX12_coilLine_0 rfl (lv_at hl 0 rfl) ?_
  refine z_gI F hw h0 zc12 32 (by decide) rfl zf12_206 dX12_coilLine_1 ?_
  refine lv_if_eq (tgt := 12) hx hb dX12_coilLine_4 (by decide) (fun c_13 => ?_) (fun c_13 => ?_)
  · have hd := zif_pos c_13 hd
    exact J12 _ _ _ _ (lv_sub hl [0] rfl) hw hd
  · have hd := zif_neg c_13 hd
    refine lv_aload_n hx hb dX12_coilLine_7 rfl (lv_at hl 0 rfl) ?_
    refine lv_iconst (v := (5 : Int32)) hx hb dX12_coilLine_8 (by decide) ?_
    obtain ⟨M_15, hc_14, hd⟩ := zob_some hd
    refine z_cvV F hw hl.1 (As := [.int (5 : Int32)]) (rest := []) (ztX12_wrong l D cy sh ad h0 hc_14) zyX12_wrong h0 zc12 zk12_161 ⟨rfl, rfl⟩ ⟨by decide, by decide⟩ rfl rfl (Nat.le_of_ble_eq_true rfl) dX12_coilLine_9 (fun H locs hw => ?_)
    exact J12 _ _ _ _ (lv_sub hl [0] rfl) hw hd

def zjX12_line_121 (sh : zShp) (k0 : Nat)  (M : zMem) : Option (zMem) :=
  some M
def zjX12_line_110 (sh : zShp) (k0 : Nat)  (M : zMem) : Option (zMem) :=
  zob (zX12_isGood sh k0 M) fun r_2 =>
  if r_2 = 0 then (
  zjX12_line_121 sh k0 M)
  else (
  zob (zX12_goOn sh k0 M) fun M_5 =>
  zjX12_line_121 sh k0 M_5)
def zjX12_line_90 (sh : zShp) (k0 : Nat)  (M : zMem) : Option (zMem) :=
  zob (zX12_isGood sh k0 M) fun r_7 =>
  if r_7 = 0 then (
  zjX12_line_110 sh k0 M)
  else (
  if (zI M k0 6) = (4 : Int32) then (
  zjX12_line_110 sh k0 M)
  else (
  zob (zX12_wrong sh k0 (2 : Int32) M) fun M_11 =>
  zjX12_line_110 sh k0 M_11))
def zX12_line (sh : zShp) (k0 : Nat) (M : zMem) : Option (zMem) :=
  zob (zX12_isWord sh k0 (1635281267 : Int64) M) fun r_13 =>
  if r_13 = 0 then (
  zob (zX12_isWord sh k0 (470021336946 : Int64) M) fun r_16 =>
  if r_16 = 0 then (
  zob (zX12_isWord sh k0 (1650552420 : Int64) M) fun r_19 =>
  if r_19 = 0 then (
  zob (zX12_isWord sh k0 (6711672 : Int64) M) fun r_22 =>
  if r_22 = 0 then (
  zob (zX12_isWord sh k0 (1668245868 : Int64) M) fun r_25 =>
  if r_25 = 0 then (
  zob (zX12_wrong sh k0 (2 : Int32) M) fun M_28 =>
  zjX12_line_90 sh k0 M_28)
  else (
  zob (zX12_coilLine sh k0 M) fun M_30 =>
  zjX12_line_90 sh k0 M_30))
  else (
  zob (zX12_fixLine sh k0 M) fun M_32 =>
  zjX12_line_90 sh k0 M_32))
  else (
  zob (zX12_bandLine sh k0 M) fun M_34 =>
  zjX12_line_90 sh k0 M_34))
  else (
  zob (zX12_motorLine sh k0 M) fun M_36 =>
  zjX12_line_90 sh k0 M_36))
  else (
  zob (zX12_axisLine sh k0 M) fun M_38 =>
  zjX12_line_90 sh k0 M_38)
set_option maxHeartbeats 4000000 in
set_option maxRecDepth 100000 in
theorem ztX12_line (l : Launch) (D : va_G) (cy : Nat → ClassId) (sh : zShp) (ad : Nat → Nat) {k0 : Nat} (h0 : zT sh k0 12) {M : zMem} {M1 : zMem} (hd : zX12_line sh k0 M = some M1) : zCV l yX12_line cX12_line 1 { frames := 5, cells := 0, slots := 0, locals := 116 } [.ref (ad k0)] D cy sh ad M M1 := by
  refine zcv_of (by decide) (Nat.le_of_ble_eq_true rfl) (fun p e s m below meth c ls F hr hlk hl hw => ?_)
  have hx := F.1.1
  have hb := F.1.2.1
  have hl : lv_has ls 1 [(0, .ref (ad k0))] := hl
  have J121 : ∀ (M : zMem) (H : Heap) (locs : List Loc) (ls : Array Slot), lv_has ls 1 [] → zWd D cy sh ad s M H locs → zjX12_line_121 sh k0  M = some M1 → W p l e { frames := 5, cells := 0, slots := 0, locals := 116 } s m ([.ref (ad k0)] : List Value).toArray below meth c H locs 0 0 (zQV below D cy sh ad s [.ref (ad k0)] M1) (F0 m 121 ls []) := by
    intro  M H locs ls hl hw hd
    unfold zjX12_line_121 at hd
    exact z_vret F hr hlk hw (Option.some.inj hd) dX12_line_121
  have J110 : ∀ (M : zMem) (H : Heap) (locs : List Loc) (ls : Array Slot), lv_has ls 1 [(0, .ref (ad k0))] → zWd D cy sh ad s M H locs → zjX12_line_110 sh k0  M = some M1 → W p l e { frames := 5, cells := 0, slots := 0, locals := 116 } s m ([.ref (ad k0)] : List Value).toArray below meth c H locs 0 0 (zQV below D cy sh ad s [.ref (ad k0)] M1) (F0 m 110 ls []) := by
    intro  M H locs ls hl hw hd
    unfold zjX12_line_110 at hd
    refine lv_aload_n hx hb dX12_line_110 rfl (lv_at hl 0 rfl) ?_
    obtain ⟨r_2, hc_1, hd⟩ := zob_some hd
    refine z_cvI F hw hl.1 (As := []) (rest := []) (ztX12_isGood l D cy sh ad h0 hc_1) zyX12_isGood h0 zc12 zk12_168 ⟨rfl, rfl⟩ ⟨by decide, by decide⟩ rfl rfl (Nat.le_of_ble_eq_true rfl) dX12_line_111 (fun H locs hw => ?_)
    refine lv_if_eq (tgt := 121) hx hb dX12_line_114 (by decide) (fun c_3 => ?_) (fun c_3 => ?_)
    · have hd := zif_pos c_3 hd
      exact J121 _ _ _ _ (lv_sub hl [] rfl) hw hd
    · have hd := zif_neg c_3 hd
      refine lv_aload_n hx hb dX12_line_117 rfl (lv_at hl 0 rfl) ?_
      obtain ⟨M_5, hc_4, hd⟩ := zob_some hd
      refine z_cvV F hw hl.1 (As := []) (rest := []) (ztX12_goOn l D cy sh ad h0 hc_4) zyX12_goOn h0 zc12 zk12_158 ⟨rfl, rfl⟩ ⟨by decide, by decide⟩ rfl rfl (Nat.le_of_ble_eq_true rfl) dX12_line_118 (fun H locs hw => ?_)
      exact J121 _ _ _ _ (lv_sub hl [] rfl) hw hd
  have J90 : ∀ (M : zMem) (H : Heap) (locs : List Loc) (ls : Array Slot), lv_has ls 1 [(0, .ref (ad k0))] → zWd D cy sh ad s M H locs → zjX12_line_90 sh k0  M = some M1 → W p l e { frames := 5, cells := 0, slots := 0, locals := 116 } s m ([.ref (ad k0)] : List Value).toArray below meth c H locs 0 0 (zQV below D cy sh ad s [.ref (ad k0)] M1) (F0 m 90 ls []) := by
    intro  M H locs ls hl hw hd
    unfold zjX12_line_90 at hd
    refine lv_aload_n hx hb dX12_line_90 rfl (lv_at hl 0 rfl) ?_
    obtain ⟨r_7, hc_6, hd⟩ := zob_some hd
    refine z_cvI F hw hl.1 (As := []) (rest := []) (ztX12_isGood l D cy sh ad h0 hc_6) zyX12_isGood h0 zc12 zk12_168 ⟨rfl, rfl⟩ ⟨by decide, by decide⟩ rfl rfl (Nat.le_of_ble_eq_true rfl) dX12_line_91 (fun H locs hw => ?_)
    refine lv_if_eq (tgt := 110) hx hb dX12_line_94 (by decide) (fun c_8 => ?_) (fun c_8 => ?_)
    · have hd := zif_pos c_8 hd
      exact J110 _ _ _ _ (lv_sub hl [0] rfl) hw hd
    · have hd := zif_neg c_8 hd
      refine lv_aload_n hx hb dX12_line_97 rfl (lv_at hl 0 rfl) ?_
      refine z_gI F hw h0 zc12 6 (by decide) rfl zf12_115 dX12_line_98 ?_
      refine lv_iconst (v := (4 : Int32)) hx hb dX12_line_101 (by decide) ?_
      refine lv_icmp_eq (tgt := 110) hx hb dX12_line_102 (by decide) (fun c_9 => ?_) (fun c_9 => ?_)
      · have hd := zif_pos c_9 hd
        exact J110 _ _ _ _ (lv_sub hl [0] rfl) hw hd
      · have hd := zif_neg c_9 hd
        refine lv_aload_n hx hb dX12_line_105 rfl (lv_at hl 0 rfl) ?_
        refine lv_iconst (v := (2 : Int32)) hx hb dX12_line_106 (by decide) ?_
        obtain ⟨M_11, hc_10, hd⟩ := zob_some hd
        refine z_cvV F hw hl.1 (As := [.int (2 : Int32)]) (rest := []) (ztX12_wrong l D cy sh ad h0 hc_10) zyX12_wrong h0 zc12 zk12_161 ⟨rfl, rfl⟩ ⟨by decide, by decide⟩ rfl rfl (Nat.le_of_ble_eq_true rfl) dX12_line_107 (fun H locs hw => ?_)
        exact J110 _ _ _ _ (lv_sub hl [0] rfl) hw hd
  unfold zX12_line at hd
  refine lv_aload_n hx hb dX12_line_0 rfl (lv_at hl 0 rfl) ?_
  refine lv_ldc2 (v := (1635281267 : Int64)) hx hb F.1.2.2.2.1 (F.1.2.2.2.2 _ zi12_128) dX12_line_1 ?_
  obtain ⟨r_13, hc_12, hd⟩ := zob_some hd
  refine z_cvI F hw hl.1 (As := [.long (1635281267 : Int64)]) (rest := []) (ztX12_isWord l D cy sh ad h0 hc_12) zyX12_isWord h0 zc12 zk12_154 ⟨rfl, rfl⟩ ⟨by decide, by decide⟩ rfl rfl (Nat.le_of_ble_eq_true rfl) dX12_line_4 (fun H locs hw => ?_)
  refine lv_if_eq (tgt := 17) hx hb dX12_line_7 (by decide) (fun c_14 => ?_) (fun c_14 => ?_)
  · have hd := zif_pos c_14 hd
    refine lv_aload_n hx hb dX12_line_17 rfl (lv_at hl 0 rfl) ?_
    refine lv_ldc2 (v := (470021336946 : Int64)) hx hb F.1.2.2.2.1 (F.1.2.2.2.2 _ zi12_130) dX12_line_18 ?_
    obtain ⟨r_16, hc_15, hd⟩ := zob_some hd
    refine z_cvI F hw hl.1 (As := [.long (470021336946 : Int64)]) (rest := []) (ztX12_isWord l D cy sh ad h0 hc_15) zyX12_isWord h0 zc12 zk12_154 ⟨rfl, rfl⟩ ⟨by decide, by decide⟩ rfl rfl (Nat.le_of_ble_eq_true rfl) dX12_line_21 (fun H locs hw => ?_)
    refine lv_if_eq (tgt := 34) hx hb dX12_line_24 (by decide) (fun c_17 => ?_) (fun c_17 => ?_)
    · have hd := zif_pos c_17 hd
      refine lv_aload_n hx hb dX12_line_34 rfl (lv_at hl 0 rfl) ?_
      refine lv_ldc2 (v := (1650552420 : Int64)) hx hb F.1.2.2.2.1 (F.1.2.2.2.2 _ zi12_132) dX12_line_35 ?_
      obtain ⟨r_19, hc_18, hd⟩ := zob_some hd
      refine z_cvI F hw hl.1 (As := [.long (1650552420 : Int64)]) (rest := []) (ztX12_isWord l D cy sh ad h0 hc_18) zyX12_isWord h0 zc12 zk12_154 ⟨rfl, rfl⟩ ⟨by decide, by decide⟩ rfl rfl (Nat.le_of_ble_eq_true rfl) dX12_line_38 (fun H locs hw => ?_)
      refine lv_if_eq (tgt := 51) hx hb dX12_line_41 (by decide) (fun c_20 => ?_) (fun c_20 => ?_)
      · have hd := zif_pos c_20 hd
        refine lv_aload_n hx hb dX12_line_51 rfl (lv_at hl 0 rfl) ?_
        refine lv_ldc2 (v := (6711672 : Int64)) hx hb F.1.2.2.2.1 (F.1.2.2.2.2 _ zi12_134) dX12_line_52 ?_
        obtain ⟨r_22, hc_21, hd⟩ := zob_some hd
        refine z_cvI F hw hl.1 (As := [.long (6711672 : Int64)]) (rest := []) (ztX12_isWord l D cy sh ad h0 hc_21) zyX12_isWord h0 zc12 zk12_154 ⟨rfl, rfl⟩ ⟨by decide, by decide⟩ rfl rfl (Nat.le_of_ble_eq_true rfl) dX12_line_55 (fun H locs hw => ?_)
        refine lv_if_eq (tgt := 68) hx hb dX12_line_58 (by decide) (fun c_23 => ?_) (fun c_23 => ?_)
        · have hd := zif_pos c_23 hd
          refine lv_aload_n hx hb dX12_line_68 rfl (lv_at hl 0 rfl) ?_
          refine lv_ldc2 (v := (1668245868 : Int64)) hx hb F.1.2.2.2.1 (F.1.2.2.2.2 _ zi12_136) dX12_line_69 ?_
          obtain ⟨r_25, hc_24, hd⟩ := zob_some hd
          refine z_cvI F hw hl.1 (As := [.long (1668245868 : Int64)]) (rest := []) (ztX12_isWord l D cy sh ad h0 hc_24) zyX12_isWord h0 zc12 zk12_154 ⟨rfl, rfl⟩ ⟨by decide, by decide⟩ rfl rfl (Nat.le_of_ble_eq_true rfl) dX12_line_72 (fun H locs hw => ?_)
          refine lv_if_eq (tgt := 85) hx hb dX12_line_75 (by decide) (fun c_26 => ?_) (fun c_26 => ?_)
          · have hd := zif_pos c_26 hd
            refine lv_aload_n hx hb dX12_line_85 rfl (lv_at hl 0 rfl) ?_
            refine lv_iconst (v := (2 : Int32)) hx hb dX12_line_86 (by decide) ?_
            obtain ⟨M_28, hc_27, hd⟩ := zob_some hd
            refine z_cvV F hw hl.1 (As := [.int (2 : Int32)]) (rest := []) (ztX12_wrong l D cy sh ad h0 hc_27) zyX12_wrong h0 zc12 zk12_161 ⟨rfl, rfl⟩ ⟨by decide, by decide⟩ rfl rfl (Nat.le_of_ble_eq_true rfl) dX12_line_87 (fun H locs hw => ?_)
            exact J90 _ _ _ _ (lv_sub hl [0] rfl) hw hd
          · have hd := zif_neg c_26 hd
            refine lv_aload_n hx hb dX12_line_78 rfl (lv_at hl 0 rfl) ?_
            obtain ⟨M_30, hc_29, hd⟩ := zob_some hd
            refine z_cvV F hw hl.1 (As := []) (rest := []) (ztX12_coilLine l D cy sh ad h0 hc_29) zyX12_coilLine h0 zc12 zk12_228 ⟨rfl, rfl⟩ ⟨by decide, by decide⟩ rfl rfl (Nat.le_of_ble_eq_true rfl) dX12_line_79 (fun H locs hw => ?_)
            refine lv_goto (tgt := 90) hx hb dX12_line_82 (by decide) ?_
            exact J90 _ _ _ _ (lv_sub hl [0] rfl) hw hd
        · have hd := zif_neg c_23 hd
          refine lv_aload_n hx hb dX12_line_61 rfl (lv_at hl 0 rfl) ?_
          obtain ⟨M_32, hc_31, hd⟩ := zob_some hd
          refine z_cvV F hw hl.1 (As := []) (rest := []) (ztX12_fixLine l D cy sh ad h0 hc_31) zyX12_fixLine h0 zc12 zk12_225 ⟨rfl, rfl⟩ ⟨by decide, by decide⟩ rfl rfl (Nat.le_of_ble_eq_true rfl) dX12_line_62 (fun H locs hw => ?_)
          refine lv_goto (tgt := 90) hx hb dX12_line_65 (by decide) ?_
          exact J90 _ _ _ _ (lv_sub hl [0] rfl) hw hd
      · have hd := zif_neg c_20 hd
        refine lv_aload_n hx hb dX12_line_44 rfl (lv_at hl 0 rfl) ?_
        obtain ⟨M_34, hc_33, hd⟩ := zob_some hd
        refine z_cvV F hw hl.1 (As := []) (rest := []) (ztX12_bandLine l D cy sh ad h0 hc_33) zyX12_bandLine h0 zc12 zk12_222 ⟨rfl, rfl⟩ ⟨by decide, by decide⟩ rfl rfl (Nat.le_of_ble_eq_true rfl) dX12_line_45 (fun H locs hw => ?_)
        refine lv_goto (tgt := 90) hx hb dX12_line_48 (by decide) ?_
        exact J90 _ _ _ _ (lv_sub hl [0] rfl) hw hd
    · have hd := zif_neg c_17 hd
      refine lv_aload_n hx hb dX12_line_27 rfl (lv_at hl 0 rfl) ?_
      obtain ⟨M_36, hc_35, hd⟩ := zob_some hd
      refine z_cvV F hw hl.1 (As := []) (rest := []) (ztX12_motorLine l D cy sh ad h0 hc_35) zyX12_motorLine h0 zc12 zk12_219 ⟨rfl, rfl⟩ ⟨by decide, by decide⟩ rfl rfl (Nat.le_of_ble_eq_true rfl) dX12_line_28 (fun H locs hw => ?_)
      refine lv_goto (tgt := 90) hx hb dX12_line_31 (by decide) ?_
      exact J90 _ _ _ _ (lv_sub hl [0] rfl) hw hd
  · have hd := zif_neg c_14 hd
    refine lv_aload_n hx hb dX12_line_10 rfl (lv_at hl 0 rfl) ?_
    obtain ⟨M_38, hc_37, hd⟩ := zob_some hd
    refine z_cvV F hw hl.1 (As := []) (rest := []) (ztX12_axisLine l D cy sh ad h0 hc_37) zyX12_axisLine h0 zc12 zk12_216 ⟨rfl, rfl⟩ ⟨by decide, by decide⟩ rfl rfl (Nat.le_of_ble_eq_true rfl) dX12_line_11 (fun H locs hw => ?_)
    refine lv_goto (tgt := 90) hx hb dX12_line_14 (by decide) ?_
    exact J90 _ _ _ _ (lv_sub hl [0] rfl) hw hd

def zbX12_takes_106 (sh : zShp) (k0 : Nat)  (kk106 : Int32 → zMem → Option (zMem)) (x1 : Int32) (M : zMem) : Option (zMem) :=
  if (194 : Int32) ≤ x1 then (
  zgd (zin (22 : Int32) (zlen sh (zR M k0 0))) <|
  zbd (zpI M (zR M k0 0) ((22 : Int32).toNatClampNeg) (-1 : Int32)) fun M_4 =>
  zbd (zpI M_4 k0 46 (0 : Int32)) fun M_5 =>
  some M_5)
  else (
  zgd (zin x1 (zlen sh (zR M k0 0))) <|
  zbd (zpI M (zR M k0 0) (x1.toNatClampNeg) (0 : Int32)) fun M_8 =>
  kk106 (x1 + (1 : Int32)) M_8)
def zlX12_takes_106 (sh : zShp) (k0 : Nat)  : Nat → Int32 → zMem → Option (zMem)
  | 0 => fun _ _ => none
  | n + 1 => fun x1 M => zbX12_takes_106 sh k0  (zlX12_takes_106 sh k0  n) x1 M
def zbX12_takes_80 (sh : zShp) (k0 : Nat)  (kk80 : Int32 → zMem → Option (zMem)) (x1 : Int32) (M : zMem) : Option (zMem) :=
  if (64 : Int32) < x1 then (
  zlX12_takes_106 sh k0 zF (0 : Int32) M)
  else (
  zgd (zin x1 (zlen sh (zR M k0 19))) <|
  zgd (zin x1 (zlen sh (zR M k0 18))) <|
  zbd (zpI M (zR M k0 18) (x1.toNatClampNeg) (zI M (zR M k0 19) x1.toNatClampNeg)) fun M_14 =>
  kk80 (x1 + (1 : Int32)) M_14)
def zlX12_takes_80 (sh : zShp) (k0 : Nat)  : Nat → Int32 → zMem → Option (zMem)
  | 0 => fun _ _ => none
  | n + 1 => fun x1 M => zbX12_takes_80 sh k0  (zlX12_takes_80 sh k0  n) x1 M
def zbX12_takes_42 (sh : zShp) (k0 : Nat)  (kk42 : Int32 → zMem → Option (zMem)) (x1 : Int32) (M : zMem) : Option (zMem) :=
  if (18 : Int32) ≤ x1 then (
  zlX12_takes_80 sh k0 zF (0 : Int32) M)
  else (
  zgd (zin x1 (zlen sh (zR M k0 15))) <|
  zgd (zin x1 (zlen sh (zR M k0 14))) <|
  zbd (zpI M (zR M k0 14) (x1.toNatClampNeg) (zI M (zR M k0 15) x1.toNatClampNeg)) fun M_20 =>
  zgd (zin x1 (zlen sh (zR M_20 k0 17))) <|
  zgd (zin x1 (zlen sh (zR M_20 k0 16))) <|
  zbd (zpI M_20 (zR M_20 k0 16) (x1.toNatClampNeg) (zI M_20 (zR M_20 k0 17) x1.toNatClampNeg)) fun M_25 =>
  kk42 (x1 + (1 : Int32)) M_25)
def zlX12_takes_42 (sh : zShp) (k0 : Nat)  : Nat → Int32 → zMem → Option (zMem)
  | 0 => fun _ _ => none
  | n + 1 => fun x1 M => zbX12_takes_42 sh k0  (zlX12_takes_42 sh k0  n) x1 M
def zX12_takes (sh : zShp) (k0 : Nat) (M : zMem) : Option (zMem) :=
  zbd (zpI M k0 22 (zI M k0 23)) fun M_26 =>
  zbd (zpI M_26 k0 24 (zI M_26 k0 25)) fun M_27 =>
  zbd (zpI M_27 k0 26 (zI M_27 k0 27)) fun M_28 =>
  zbd (zpI M_28 k0 28 (zI M_28 k0 30)) fun M_29 =>
  zbd (zpI M_29 k0 29 (zI M_29 k0 31)) fun M_30 =>
  zlX12_takes_42 sh k0 zF (0 : Int32) M_30
set_option maxHeartbeats 4000000 in
set_option maxRecDepth 100000 in
theorem ztX12_takes (l : Launch) (D : va_G) (cy : Nat → ClassId) (sh : zShp) (ad : Nat → Nat) {k0 : Nat} (h0 : zT sh k0 12) {M : zMem} {M1 : zMem} (hd : zX12_takes sh k0 M = some M1) : zCV l yX12_takes cX12_takes 2 { frames := 0, cells := 0, slots := 0, locals := 0 } [.ref (ad k0)] D cy sh ad M M1 := by
  refine zcv_of (by decide) (Nat.le_of_ble_eq_true rfl) (fun p e s m below meth c ls F hr hlk hl hw => ?_)
  have hx := F.1.1
  have hb := F.1.2.1
  have hl : lv_has ls 2 [(0, .ref (ad k0))] := hl
  have L106 : ∀  (n : Nat), ∀ (x1 : Int32) (M : zMem) (H : Heap) (locs : List Loc) (ls : Array Slot), lv_has ls 2 [(0, .ref (ad k0)), (1, .int x1)] → zWd D cy sh ad s M H locs → zlX12_takes_106 sh k0  n x1 M = some M1 → W p l e { frames := 0, cells := 0, slots := 0, locals := 0 } s m ([.ref (ad k0)] : List Value).toArray below meth c H locs 0 0 (zQV below D cy sh ad s [.ref (ad k0)] M1) (F0 m 106 ls []) := by
    intro  n
    induction n with
    | zero => intro x1 M H locs ls hl hw hd; exact (znone hd).elim
    | succ n hk106 =>
      intro x1 M H locs ls hl hw hd
      have hd : zbX12_takes_106 sh k0  (zlX12_takes_106 sh k0  n) x1 M = some M1 := hd
      unfold zbX12_takes_106 at hd
      refine lv_iload_n hx hb dX12_takes_106 rfl (lv_at hl 1 rfl) ?_
      refine lv_sipush (v := (194 : Int32)) hx hb dX12_takes_107 (by decide) ?_
      refine lv_icmp_ge (tgt := 126) hx hb dX12_takes_110 (by decide) (fun c_1 => ?_) (fun c_1 => ?_)
      · have hd := zif_pos c_1 hd
        refine lv_aload_n hx hb dX12_takes_126 rfl (lv_at hl 0 rfl) ?_
        refine z_gR F hw h0 zc12 0 (by decide) rfl zf12_7 dX12_takes_127 ?_
        have t_2 : zT sh (zR M k0 0) 14 := hw.2.2.2.fld h0 0 14
        refine lv_bipush (v := (22 : Int32)) hx hb dX12_takes_130 (by decide) ?_
        refine lv_iconst (v := (-1 : Int32)) hx hb dX12_takes_132 (by decide) ?_
        obtain ⟨g_3, hd⟩ := zgd_some hd
        refine z_iast F hw t_2 g_3 dX12_takes_133 (fun H locs M_4 eM_4 hw => ?_)
        have hd := zbd_eq eM_4 hd
        refine lv_aload_n hx hb dX12_takes_134 rfl (lv_at hl 0 rfl) ?_
        refine lv_iconst (v := (0 : Int32)) hx hb dX12_takes_135 (by decide) ?_
        refine z_pI F hw h0 zc12 46 (by decide) rfl zf12_249 rfl rfl rfl dX12_takes_136 (fun H locs M_5 eM_5 hw => ?_)
        have hd := zbd_eq eM_5 hd
        exact z_vret F hr hlk hw (Option.some.inj hd) dX12_takes_139
      · have hd := zif_neg c_1 hd
        refine lv_aload_n hx hb dX12_takes_113 rfl (lv_at hl 0 rfl) ?_
        refine z_gR F hw h0 zc12 0 (by decide) rfl zf12_7 dX12_takes_114 ?_
        have t_6 : zT sh (zR M k0 0) 14 := hw.2.2.2.fld h0 0 14
        refine lv_iload_n hx hb dX12_takes_117 rfl (lv_at hl 1 rfl) ?_
        refine lv_iconst (v := (0 : Int32)) hx hb dX12_takes_118 (by decide) ?_
        obtain ⟨g_7, hd⟩ := zgd_some hd
        refine z_iast F hw t_6 g_7 dX12_takes_119 (fun H locs M_8 eM_8 hw => ?_)
        have hd := zbd_eq eM_8 hd
        refine lv_iinc (v := (x1 + (1 : Int32))) (lv' := [(1, .int (x1 + (1 : Int32))), (0, .ref (ad k0))]) hx hb dX12_takes_120 hl (k := 1) rfl (ziinc (by decide)) (by decide) rfl (fun ls hl => ?_)
        refine lv_goto (tgt := 106) hx hb dX12_takes_123 (by decide) ?_
        exact hk106 _ _ _ _ _ (lv_sub hl [1, 0] rfl) hw hd
  have L80 : ∀  (n : Nat), ∀ (x1 : Int32) (M : zMem) (H : Heap) (locs : List Loc) (ls : Array Slot), lv_has ls 2 [(0, .ref (ad k0)), (1, .int x1)] → zWd D cy sh ad s M H locs → zlX12_takes_80 sh k0  n x1 M = some M1 → W p l e { frames := 0, cells := 0, slots := 0, locals := 0 } s m ([.ref (ad k0)] : List Value).toArray below meth c H locs 0 0 (zQV below D cy sh ad s [.ref (ad k0)] M1) (F0 m 80 ls []) := by
    intro  n
    induction n with
    | zero => intro x1 M H locs ls hl hw hd; exact (znone hd).elim
    | succ n hk80 =>
      intro x1 M H locs ls hl hw hd
      have hd : zbX12_takes_80 sh k0  (zlX12_takes_80 sh k0  n) x1 M = some M1 := hd
      unfold zbX12_takes_80 at hd
      refine lv_iload_n hx hb dX12_takes_80 rfl (lv_at hl 1 rfl) ?_
      refine lv_bipush (v := (64 : Int32)) hx hb dX12_takes_81 (by decide) ?_
      refine lv_icmp_gt (tgt := 104) hx hb dX12_takes_83 (by decide) (fun c_9 => ?_) (fun c_9 => ?_)
      · have hd := zif_pos c_9 hd
        refine lv_iconst (v := (0 : Int32)) hx hb dX12_takes_104 (by decide) ?_
        refine lv_istore_n (lv' := [(1, .int (0 : Int32)), (0, .ref (ad k0))]) hx hb dX12_takes_105 rfl hl (by decide) rfl (fun ls hl => ?_)
        exact L106 zF _ _ _ _ _ (lv_sub hl [1, 0] rfl) hw hd
      · have hd := zif_neg c_9 hd
        refine lv_aload_n hx hb dX12_takes_86 rfl (lv_at hl 0 rfl) ?_
        refine z_gR F hw h0 zc12 18 (by decide) rfl zf12_39 dX12_takes_87 ?_
        have t_10 : zT sh (zR M k0 18) 14 := hw.2.2.2.fld h0 18 14
        refine lv_iload_n hx hb dX12_takes_90 rfl (lv_at hl 1 rfl) ?_
        refine lv_aload_n hx hb dX12_takes_91 rfl (lv_at hl 0 rfl) ?_
        refine z_gR F hw h0 zc12 19 (by decide) rfl zf12_42 dX12_takes_92 ?_
        have t_11 : zT sh (zR M k0 19) 14 := hw.2.2.2.fld h0 19 14
        refine lv_iload_n hx hb dX12_takes_95 rfl (lv_at hl 1 rfl) ?_
        obtain ⟨g_12, hd⟩ := zgd_some hd
        refine z_iald F hw t_11 g_12 dX12_takes_96 ?_
        obtain ⟨g_13, hd⟩ := zgd_some hd
        refine z_iast F hw t_10 g_13 dX12_takes_97 (fun H locs M_14 eM_14 hw => ?_)
        have hd := zbd_eq eM_14 hd
        refine lv_iinc (v := (x1 + (1 : Int32))) (lv' := [(1, .int (x1 + (1 : Int32))), (0, .ref (ad k0))]) hx hb dX12_takes_98 hl (k := 1) rfl (ziinc (by decide)) (by decide) rfl (fun ls hl => ?_)
        refine lv_goto (tgt := 80) hx hb dX12_takes_101 (by decide) ?_
        exact hk80 _ _ _ _ _ (lv_sub hl [1, 0] rfl) hw hd
  have L42 : ∀  (n : Nat), ∀ (x1 : Int32) (M : zMem) (H : Heap) (locs : List Loc) (ls : Array Slot), lv_has ls 2 [(0, .ref (ad k0)), (1, .int x1)] → zWd D cy sh ad s M H locs → zlX12_takes_42 sh k0  n x1 M = some M1 → W p l e { frames := 0, cells := 0, slots := 0, locals := 0 } s m ([.ref (ad k0)] : List Value).toArray below meth c H locs 0 0 (zQV below D cy sh ad s [.ref (ad k0)] M1) (F0 m 42 ls []) := by
    intro  n
    induction n with
    | zero => intro x1 M H locs ls hl hw hd; exact (znone hd).elim
    | succ n hk42 =>
      intro x1 M H locs ls hl hw hd
      have hd : zbX12_takes_42 sh k0  (zlX12_takes_42 sh k0  n) x1 M = some M1 := hd
      unfold zbX12_takes_42 at hd
      refine lv_iload_n hx hb dX12_takes_42 rfl (lv_at hl 1 rfl) ?_
      refine lv_bipush (v := (18 : Int32)) hx hb dX12_takes_43 (by decide) ?_
      refine lv_icmp_ge (tgt := 78) hx hb dX12_takes_45 (by decide) (fun c_15 => ?_) (fun c_15 => ?_)
      · have hd := zif_pos c_15 hd
        refine lv_iconst (v := (0 : Int32)) hx hb dX12_takes_78 (by decide) ?_
        refine lv_istore_n (lv' := [(1, .int (0 : Int32)), (0, .ref (ad k0))]) hx hb dX12_takes_79 rfl hl (by decide) rfl (fun ls hl => ?_)
        exact L80 zF _ _ _ _ _ (lv_sub hl [1, 0] rfl) hw hd
      · have hd := zif_neg c_15 hd
        refine lv_aload_n hx hb dX12_takes_48 rfl (lv_at hl 0 rfl) ?_
        refine z_gR F hw h0 zc12 14 (by decide) rfl zf12_27 dX12_takes_49 ?_
        have t_16 : zT sh (zR M k0 14) 14 := hw.2.2.2.fld h0 14 14
        refine lv_iload_n hx hb dX12_takes_52 rfl (lv_at hl 1 rfl) ?_
        refine lv_aload_n hx hb dX12_takes_53 rfl (lv_at hl 0 rfl) ?_
        refine z_gR F hw h0 zc12 15 (by decide) rfl zf12_30 dX12_takes_54 ?_
        have t_17 : zT sh (zR M k0 15) 14 := hw.2.2.2.fld h0 15 14
        refine lv_iload_n hx hb dX12_takes_57 rfl (lv_at hl 1 rfl) ?_
        obtain ⟨g_18, hd⟩ := zgd_some hd
        refine z_iald F hw t_17 g_18 dX12_takes_58 ?_
        obtain ⟨g_19, hd⟩ := zgd_some hd
        refine z_iast F hw t_16 g_19 dX12_takes_59 (fun H locs M_20 eM_20 hw => ?_)
        have hd := zbd_eq eM_20 hd
        refine lv_aload_n hx hb dX12_takes_60 rfl (lv_at hl 0 rfl) ?_
        refine z_gR F hw h0 zc12 16 (by decide) rfl zf12_33 dX12_takes_61 ?_
        have t_21 : zT sh (zR M_20 k0 16) 14 := hw.2.2.2.fld h0 16 14
        refine lv_iload_n hx hb dX12_takes_64 rfl (lv_at hl 1 rfl) ?_
        refine lv_aload_n hx hb dX12_takes_65 rfl (lv_at hl 0 rfl) ?_
        refine z_gR F hw h0 zc12 17 (by decide) rfl zf12_36 dX12_takes_66 ?_
        have t_22 : zT sh (zR M_20 k0 17) 14 := hw.2.2.2.fld h0 17 14
        refine lv_iload_n hx hb dX12_takes_69 rfl (lv_at hl 1 rfl) ?_
        obtain ⟨g_23, hd⟩ := zgd_some hd
        refine z_iald F hw t_22 g_23 dX12_takes_70 ?_
        obtain ⟨g_24, hd⟩ := zgd_some hd
        refine z_iast F hw t_21 g_24 dX12_takes_71 (fun H locs M_25 eM_25 hw => ?_)
        have hd := zbd_eq eM_25 hd
        refine lv_iinc (v := (x1 + (1 : Int32))) (lv' := [(1, .int (x1 + (1 : Int32))), (0, .ref (ad k0))]) hx hb dX12_takes_72 hl (k := 1) rfl (ziinc (by decide)) (by decide) rfl (fun ls hl => ?_)
        refine lv_goto (tgt := 42) hx hb dX12_takes_75 (by decide) ?_
        exact hk42 _ _ _ _ _ (lv_sub hl [1, 0] rfl) hw hd
  unfold zX12_takes at hd
  refine lv_aload_n hx hb dX12_takes_0 rfl (lv_at hl 0 rfl) ?_
  refine lv_aload_n hx hb dX12_takes_1 rfl (lv_at hl 0 rfl) ?_
  refine z_gI F hw h0 zc12 23 (by decide) rfl zf12_180 dX12_takes_2 ?_
  refine z_pI F hw h0 zc12 22 (by decide) rfl zf12_240 rfl rfl rfl dX12_takes_5 (fun H locs M_26 eM_26 hw => ?_)
  have hd := zbd_eq eM_26 hd
  refine lv_aload_n hx hb dX12_takes_8 rfl (lv_at hl 0 rfl) ?_
  refine lv_aload_n hx hb dX12_takes_9 rfl (lv_at hl 0 rfl) ?_
  refine z_gI F hw h0 zc12 25 (by decide) rfl zf12_200 dX12_takes_10 ?_
  refine z_pI F hw h0 zc12 24 (by decide) rfl zf12_243 rfl rfl rfl dX12_takes_13 (fun H locs M_27 eM_27 hw => ?_)
  have hd := zbd_eq eM_27 hd
  refine lv_aload_n hx hb dX12_takes_16 rfl (lv_at hl 0 rfl) ?_
  refine lv_aload_n hx hb dX12_takes_17 rfl (lv_at hl 0 rfl) ?_
  refine z_gI F hw h0 zc12 27 (by decide) rfl zf12_203 dX12_takes_18 ?_
  refine z_pI F hw h0 zc12 26 (by decide) rfl zf12_246 rfl rfl rfl dX12_takes_21 (fun H locs M_28 eM_28 hw => ?_)
  have hd := zbd_eq eM_28 hd
  refine lv_aload_n hx hb dX12_takes_24 rfl (lv_at hl 0 rfl) ?_
  refine lv_aload_n hx hb dX12_takes_25 rfl (lv_at hl 0 rfl) ?_
  refine z_gI F hw h0 zc12 30 (by decide) rfl zf12_210 dX12_takes_26 ?_
  refine z_pI F hw h0 zc12 28 (by decide) rfl zf12_70 rfl rfl rfl dX12_takes_29 (fun H locs M_29 eM_29 hw => ?_)
  have hd := zbd_eq eM_29 hd
  refine lv_aload_n hx hb dX12_takes_32 rfl (lv_at hl 0 rfl) ?_
  refine lv_aload_n hx hb dX12_takes_33 rfl (lv_at hl 0 rfl) ?_
  refine z_gI F hw h0 zc12 31 (by decide) rfl zf12_213 dX12_takes_34 ?_
  refine z_pI F hw h0 zc12 29 (by decide) rfl zf12_73 rfl rfl rfl dX12_takes_37 (fun H locs M_30 eM_30 hw => ?_)
  have hd := zbd_eq eM_30 hd
  refine lv_iconst (v := (0 : Int32)) hx hb dX12_takes_40 (by decide) ?_
  refine lv_istore_n (lv' := [(1, .int (0 : Int32)), (0, .ref (ad k0))]) hx hb dX12_takes_41 rfl hl (by decide) rfl (fun ls hl => ?_)
  exact L42 zF _ _ _ _ _ (lv_sub hl [1, 0] rfl) hw hd

def zjX12_bench_113 (sh : zShp) (k0 : Nat)  (M : zMem) : Option (Int32 × zMem) :=
  zbd (zpI M k0 10 (zI M k0 8)) fun M_1 =>
  zbd (zpI M_1 k0 11 (zI M_1 k0 9)) fun M_2 =>
  if (zI M_2 k0 8) ≤ 0 then (
  zob (zX12_takes sh k0 M_2) fun M_5 =>
  some ((zI M_5 k0 22), M_5))
  else (
  some ((-1 : Int32), M_2))
def zbX12_bench_92 (sh : zShp) (k0 : Nat)  (kk92 : zMem → Option (Int32 × zMem)) (M : zMem) : Option (Int32 × zMem) :=
  zob (zX12_isGood sh k0 M) fun r_7 =>
  if r_7 = 0 then (
  zjX12_bench_113 sh k0 M)
  else (
  if (zI M k0 6) = 0 then (
  zjX12_bench_113 sh k0 M)
  else (
  zob (zX12_line sh k0 M) fun M_11 =>
  kk92 M_11))
def zlX12_bench_92 (sh : zShp) (k0 : Nat)  : Nat → zMem → Option (Int32 × zMem)
  | 0 => fun _ => none
  | n + 1 => fun M => zbX12_bench_92 sh k0  (zlX12_bench_92 sh k0  n) M
def zbX12_bench_62 (sh : zShp) (k0 : Nat)  (kk62 : Int32 → zMem → Option (Int32 × zMem)) (x1 : Int32) (M : zMem) : Option (Int32 × zMem) :=
  if (64 : Int32) < x1 then (
  zob (zX12_goOn sh k0 M) fun M_14 =>
  zlX12_bench_92 sh k0 zF M_14)
  else (
  zgd (zin x1 (zlen sh (zR M k0 19))) <|
  zbd (zpI M (zR M k0 19) (x1.toNatClampNeg) (0 : Int32)) fun M_17 =>
  zgd (zin x1 (zlen sh (zR M_17 k0 20))) <|
  zbd (zpI M_17 (zR M_17 k0 20) (x1.toNatClampNeg) (vp_nar .boolean (0 : Int32))) fun M_20 =>
  kk62 (x1 + (1 : Int32)) M_20)
def zlX12_bench_62 (sh : zShp) (k0 : Nat)  : Nat → Int32 → zMem → Option (Int32 × zMem)
  | 0 => fun _ _ => none
  | n + 1 => fun x1 M => zbX12_bench_62 sh k0  (zlX12_bench_62 sh k0  n) x1 M
def zX12_bench (sh : zShp) (k0 : Nat) (M : zMem) : Option (Int32 × zMem) :=
  zbd (zpI M k0 3 (zI M k0 2)) fun M_21 =>
  zbd (zpI M_21 k0 2 (0 : Int32)) fun M_22 =>
  zbd (zpI M_22 k0 4 (0 : Int32)) fun M_23 =>
  zbd (zpI M_23 k0 8 (0 : Int32)) fun M_24 =>
  zbd (zpI M_24 k0 9 (-1 : Int32)) fun M_25 =>
  zbd (zpI M_25 k0 23 (0 : Int32)) fun M_26 =>
  zbd (zpI M_26 k0 25 (0 : Int32)) fun M_27 =>
  zbd (zpI M_27 k0 27 (0 : Int32)) fun M_28 =>
  zbd (zpI M_28 k0 30 (300 : Int32)) fun M_29 =>
  zbd (zpI M_29 k0 31 (5 : Int32)) fun M_30 =>
  zbd (zpI M_30 k0 32 (0 : Int32)) fun M_31 =>
  zlX12_bench_62 sh k0 zF (0 : Int32) M_31
set_option maxHeartbeats 4000000 in
set_option maxRecDepth 100000 in
theorem ztX12_bench (l : Launch) (D : va_G) (cy : Nat → ClassId) (sh : zShp) (ad : Nat → Nat) {k0 : Nat} (h0 : zT sh k0 12) {M : zMem} {r : Int32} {M1 : zMem} (hd : zX12_bench sh k0 M = some (r, M1)) : zCI l yX12_bench cX12_bench 2 .int { frames := 6, cells := 0, slots := 0, locals := 136 } [.ref (ad k0)] D cy sh ad M r M1 := by
  refine zci_of (by decide) (Nat.le_of_ble_eq_true rfl) (fun p e s m below meth c ls F hr hlk hl hw => ?_)
  have hx := F.1.1
  have hb := F.1.2.1
  have hl : lv_has ls 2 [(0, .ref (ad k0))] := hl
  have J113 : ∀ (M : zMem) (H : Heap) (locs : List Loc) (ls : Array Slot), lv_has ls 2 [(0, .ref (ad k0))] → zWd D cy sh ad s M H locs → zjX12_bench_113 sh k0  M = some (r, M1) → W p l e { frames := 6, cells := 0, slots := 0, locals := 136 } s m ([.ref (ad k0)] : List Value).toArray below meth c H locs 0 0 (zQI below D cy sh ad s [.ref (ad k0)] r M1) (F0 m 113 ls []) := by
    intro  M H locs ls hl hw hd
    unfold zjX12_bench_113 at hd
    refine lv_aload_n hx hb dX12_bench_113 rfl (lv_at hl 0 rfl) ?_
    refine lv_aload_n hx hb dX12_bench_114 rfl (lv_at hl 0 rfl) ?_
    refine z_gI F hw h0 zc12 8 (by decide) rfl zf12_125 dX12_bench_115 ?_
    refine z_pI F hw h0 zc12 10 (by decide) rfl zf12_234 rfl rfl rfl dX12_bench_118 (fun H locs M_1 eM_1 hw => ?_)
    have hd := zbd_eq eM_1 hd
    refine lv_aload_n hx hb dX12_bench_121 rfl (lv_at hl 0 rfl) ?_
    refine lv_aload_n hx hb dX12_bench_122 rfl (lv_at hl 0 rfl) ?_
    refine z_gI F hw h0 zc12 9 (by decide) rfl zf12_16 dX12_bench_123 ?_
    refine z_pI F hw h0 zc12 11 (by decide) rfl zf12_20 rfl rfl rfl dX12_bench_126 (fun H locs M_2 eM_2 hw => ?_)
    have hd := zbd_eq eM_2 hd
    refine lv_aload_n hx hb dX12_bench_129 rfl (lv_at hl 0 rfl) ?_
    refine z_gI F hw h0 zc12 8 (by decide) rfl zf12_125 dX12_bench_130 ?_
    refine lv_if_le (tgt := 138) hx hb dX12_bench_133 (by decide) (fun c_3 => ?_) (fun c_3 => ?_)
    · have hd := zif_pos c_3 hd
      refine lv_aload_n hx hb dX12_bench_138 rfl (lv_at hl 0 rfl) ?_
      obtain ⟨M_5, hc_4, hd⟩ := zob_some hd
      refine z_cvV F hw hl.1 (As := []) (rest := []) (ztX12_takes l D cy sh ad h0 hc_4) zyX12_takes h0 zc12 zk12_237 ⟨rfl, rfl⟩ ⟨by decide, by decide⟩ rfl rfl (Nat.le_of_ble_eq_true rfl) dX12_bench_139 (fun H locs hw => ?_)
      refine lv_aload_n hx hb dX12_bench_142 rfl (lv_at hl 0 rfl) ?_
      refine z_gI F hw h0 zc12 22 (by decide) rfl zf12_240 dX12_bench_143 ?_
      exact z_iret F hr hlk hw (zpr1 hd) (zpr2 hd) dX12_bench_146
    · have hd := zif_neg c_3 hd
      refine lv_iconst (v := (-1 : Int32)) hx hb dX12_bench_136 (by decide) ?_
      exact z_iret F hr hlk hw (zpr1 hd) (zpr2 hd) dX12_bench_137
  have L92 : ∀  (n : Nat), ∀ (M : zMem) (H : Heap) (locs : List Loc) (ls : Array Slot), lv_has ls 2 [(0, .ref (ad k0))] → zWd D cy sh ad s M H locs → zlX12_bench_92 sh k0  n M = some (r, M1) → W p l e { frames := 6, cells := 0, slots := 0, locals := 136 } s m ([.ref (ad k0)] : List Value).toArray below meth c H locs 0 0 (zQI below D cy sh ad s [.ref (ad k0)] r M1) (F0 m 92 ls []) := by
    intro  n
    induction n with
    | zero => intro M H locs ls hl hw hd; exact (znone hd).elim
    | succ n hk92 =>
      intro M H locs ls hl hw hd
      have hd : zbX12_bench_92 sh k0  (zlX12_bench_92 sh k0  n) M = some (r, M1) := hd
      unfold zbX12_bench_92 at hd
      refine lv_aload_n hx hb dX12_bench_92 rfl (lv_at hl 0 rfl) ?_
      obtain ⟨r_7, hc_6, hd⟩ := zob_some hd
      refine z_cvI F hw hl.1 (As := []) (rest := []) (ztX12_isGood l D cy sh ad h0 hc_6) zyX12_isGood h0 zc12 zk12_168 ⟨rfl, rfl⟩ ⟨by decide, by decide⟩ rfl rfl (Nat.le_of_ble_eq_true rfl) dX12_bench_93 (fun H locs hw => ?_)
      refine lv_if_eq (tgt := 113) hx hb dX12_bench_96 (by decide) (fun c_8 => ?_) (fun c_8 => ?_)
      · have hd := zif_pos c_8 hd
        exact J113 _ _ _ _ (lv_sub hl [0] rfl) hw hd
      · have hd := zif_neg c_8 hd
        refine lv_aload_n hx hb dX12_bench_99 rfl (lv_at hl 0 rfl) ?_
        refine z_gI F hw h0 zc12 6 (by decide) rfl zf12_115 dX12_bench_100 ?_
        refine lv_if_eq (tgt := 113) hx hb dX12_bench_103 (by decide) (fun c_9 => ?_) (fun c_9 => ?_)
        · have hd := zif_pos c_9 hd
          exact J113 _ _ _ _ (lv_sub hl [0] rfl) hw hd
        · have hd := zif_neg c_9 hd
          refine lv_aload_n hx hb dX12_bench_106 rfl (lv_at hl 0 rfl) ?_
          obtain ⟨M_11, hc_10, hd⟩ := zob_some hd
          refine z_cvV F hw hl.1 (As := []) (rest := []) (ztX12_line l D cy sh ad h0 hc_10) zyX12_line h0 zc12 zk12_231 ⟨rfl, rfl⟩ ⟨by decide, by decide⟩ rfl rfl (Nat.le_of_ble_eq_true rfl) dX12_bench_107 (fun H locs hw => ?_)
          refine lv_goto (tgt := 92) hx hb dX12_bench_110 (by decide) ?_
          exact hk92 _ _ _ _ (lv_sub hl [0] rfl) hw hd
  have L62 : ∀  (n : Nat), ∀ (x1 : Int32) (M : zMem) (H : Heap) (locs : List Loc) (ls : Array Slot), lv_has ls 2 [(0, .ref (ad k0)), (1, .int x1)] → zWd D cy sh ad s M H locs → zlX12_bench_62 sh k0  n x1 M = some (r, M1) → W p l e { frames := 6, cells := 0, slots := 0, locals := 136 } s m ([.ref (ad k0)] : List Value).toArray below meth c H locs 0 0 (zQI below D cy sh ad s [.ref (ad k0)] r M1) (F0 m 62 ls []) := by
    intro  n
    induction n with
    | zero => intro x1 M H locs ls hl hw hd; exact (znone hd).elim
    | succ n hk62 =>
      intro x1 M H locs ls hl hw hd
      have hd : zbX12_bench_62 sh k0  (zlX12_bench_62 sh k0  n) x1 M = some (r, M1) := hd
      unfold zbX12_bench_62 at hd
      refine lv_iload_n hx hb dX12_bench_62 rfl (lv_at hl 1 rfl) ?_
      refine lv_bipush (v := (64 : Int32)) hx hb dX12_bench_63 (by decide) ?_
      refine lv_icmp_gt (tgt := 88) hx hb dX12_bench_65 (by decide) (fun c_12 => ?_) (fun c_12 => ?_)
      · have hd := zif_pos c_12 hd
        refine lv_aload_n hx hb dX12_bench_88 rfl (lv_at hl 0 rfl) ?_
        obtain ⟨M_14, hc_13, hd⟩ := zob_some hd
        refine z_cvV F hw hl.1 (As := []) (rest := []) (ztX12_goOn l D cy sh ad h0 hc_13) zyX12_goOn h0 zc12 zk12_158 ⟨rfl, rfl⟩ ⟨by decide, by decide⟩ rfl rfl (Nat.le_of_ble_eq_true rfl) dX12_bench_89 (fun H locs hw => ?_)
        exact L92 zF _ _ _ _ (lv_sub hl [0] rfl) hw hd
      · have hd := zif_neg c_12 hd
        refine lv_aload_n hx hb dX12_bench_68 rfl (lv_at hl 0 rfl) ?_
        refine z_gR F hw h0 zc12 19 (by decide) rfl zf12_42 dX12_bench_69 ?_
        have t_15 : zT sh (zR M k0 19) 14 := hw.2.2.2.fld h0 19 14
        refine lv_iload_n hx hb dX12_bench_72 rfl (lv_at hl 1 rfl) ?_
        refine lv_iconst (v := (0 : Int32)) hx hb dX12_bench_73 (by decide) ?_
        obtain ⟨g_16, hd⟩ := zgd_some hd
        refine z_iast F hw t_15 g_16 dX12_bench_74 (fun H locs M_17 eM_17 hw => ?_)
        have hd := zbd_eq eM_17 hd
        refine lv_aload_n hx hb dX12_bench_75 rfl (lv_at hl 0 rfl) ?_
        refine z_gR F hw h0 zc12 20 (by decide) rfl zf12_45 dX12_bench_76 ?_
        have t_18 : zT sh (zR M_17 k0 20) 16 := hw.2.2.2.fld h0 20 16
        refine lv_iload_n hx hb dX12_bench_79 rfl (lv_at hl 1 rfl) ?_
        refine lv_iconst (v := (0 : Int32)) hx hb dX12_bench_80 (by decide) ?_
        obtain ⟨g_19, hd⟩ := zgd_some hd
        refine z_zast F hw t_18 g_19 dX12_bench_81 (fun H locs M_20 eM_20 hw => ?_)
        have hd := zbd_eq eM_20 hd
        refine lv_iinc (v := (x1 + (1 : Int32))) (lv' := [(1, .int (x1 + (1 : Int32))), (0, .ref (ad k0))]) hx hb dX12_bench_82 hl (k := 1) rfl (ziinc (by decide)) (by decide) rfl (fun ls hl => ?_)
        refine lv_goto (tgt := 62) hx hb dX12_bench_85 (by decide) ?_
        exact hk62 _ _ _ _ _ (lv_sub hl [1, 0] rfl) hw hd
  unfold zX12_bench at hd
  refine lv_aload_n hx hb dX12_bench_0 rfl (lv_at hl 0 rfl) ?_
  refine lv_aload_n hx hb dX12_bench_1 rfl (lv_at hl 0 rfl) ?_
  refine z_gI F hw h0 zc12 2 (by decide) rfl zf12_84 dX12_bench_2 ?_
  refine z_pI F hw h0 zc12 3 (by decide) rfl zf12_98 rfl rfl rfl dX12_bench_5 (fun H locs M_21 eM_21 hw => ?_)
  have hd := zbd_eq eM_21 hd
  refine lv_aload_n hx hb dX12_bench_8 rfl (lv_at hl 0 rfl) ?_
  refine lv_iconst (v := (0 : Int32)) hx hb dX12_bench_9 (by decide) ?_
  refine z_pI F hw h0 zc12 2 (by decide) rfl zf12_84 rfl rfl rfl dX12_bench_10 (fun H locs M_22 eM_22 hw => ?_)
  have hd := zbd_eq eM_22 hd
  refine lv_aload_n hx hb dX12_bench_13 rfl (lv_at hl 0 rfl) ?_
  refine lv_iconst (v := (0 : Int32)) hx hb dX12_bench_14 (by decide) ?_
  refine z_pI F hw h0 zc12 4 (by decide) rfl zf12_95 rfl rfl rfl dX12_bench_15 (fun H locs M_23 eM_23 hw => ?_)
  have hd := zbd_eq eM_23 hd
  refine lv_aload_n hx hb dX12_bench_18 rfl (lv_at hl 0 rfl) ?_
  refine lv_iconst (v := (0 : Int32)) hx hb dX12_bench_19 (by decide) ?_
  refine z_pI F hw h0 zc12 8 (by decide) rfl zf12_125 rfl rfl rfl dX12_bench_20 (fun H locs M_24 eM_24 hw => ?_)
  have hd := zbd_eq eM_24 hd
  refine lv_aload_n hx hb dX12_bench_23 rfl (lv_at hl 0 rfl) ?_
  refine lv_iconst (v := (-1 : Int32)) hx hb dX12_bench_24 (by decide) ?_
  refine z_pI F hw h0 zc12 9 (by decide) rfl zf12_16 rfl rfl rfl dX12_bench_25 (fun H locs M_25 eM_25 hw => ?_)
  have hd := zbd_eq eM_25 hd
  refine lv_aload_n hx hb dX12_bench_28 rfl (lv_at hl 0 rfl) ?_
  refine lv_iconst (v := (0 : Int32)) hx hb dX12_bench_29 (by decide) ?_
  refine z_pI F hw h0 zc12 23 (by decide) rfl zf12_180 rfl rfl rfl dX12_bench_30 (fun H locs M_26 eM_26 hw => ?_)
  have hd := zbd_eq eM_26 hd
  refine lv_aload_n hx hb dX12_bench_33 rfl (lv_at hl 0 rfl) ?_
  refine lv_iconst (v := (0 : Int32)) hx hb dX12_bench_34 (by decide) ?_
  refine z_pI F hw h0 zc12 25 (by decide) rfl zf12_200 rfl rfl rfl dX12_bench_35 (fun H locs M_27 eM_27 hw => ?_)
  have hd := zbd_eq eM_27 hd
  refine lv_aload_n hx hb dX12_bench_38 rfl (lv_at hl 0 rfl) ?_
  refine lv_iconst (v := (0 : Int32)) hx hb dX12_bench_39 (by decide) ?_
  refine z_pI F hw h0 zc12 27 (by decide) rfl zf12_203 rfl rfl rfl dX12_bench_40 (fun H locs M_28 eM_28 hw => ?_)
  have hd := zbd_eq eM_28 hd
  refine lv_aload_n hx hb dX12_bench_43 rfl (lv_at hl 0 rfl) ?_
  refine lv_sipush (v := (300 : Int32)) hx hb dX12_bench_44 (by decide) ?_
  refine z_pI F hw h0 zc12 30 (by decide) rfl zf12_210 rfl rfl rfl dX12_bench_47 (fun H locs M_29 eM_29 hw => ?_)
  have hd := zbd_eq eM_29 hd
  refine lv_aload_n hx hb dX12_bench_50 rfl (lv_at hl 0 rfl) ?_
  refine lv_iconst (v := (5 : Int32)) hx hb dX12_bench_51 (by decide) ?_
  refine z_pI F hw h0 zc12 31 (by decide) rfl zf12_213 rfl rfl rfl dX12_bench_52 (fun H locs M_30 eM_30 hw => ?_)
  have hd := zbd_eq eM_30 hd
  refine lv_aload_n hx hb dX12_bench_55 rfl (lv_at hl 0 rfl) ?_
  refine lv_iconst (v := (0 : Int32)) hx hb dX12_bench_56 (by decide) ?_
  refine z_pI F hw h0 zc12 32 (by decide) rfl zf12_206 rfl (by decide) rfl dX12_bench_57 (fun H locs M_31 eM_31 hw => ?_)
  have hd := zbd_eq eM_31 hd
  refine lv_iconst (v := (0 : Int32)) hx hb dX12_bench_60 (by decide) ?_
  refine lv_istore_n (lv' := [(1, .int (0 : Int32)), (0, .ref (ad k0))]) hx hb dX12_bench_61 rfl hl (by decide) rfl (fun ls hl => ?_)
  exact L62 zF _ _ _ _ _ (lv_sub hl [1, 0] rfl) hw hd

def zjX12_fault_24 (sh : zShp) (k0 : Nat) (p1 : Int32) (M : zMem)  (s0 : Int32) : Option (Int32) :=
  some s0
def zX12_fault (sh : zShp) (k0 : Nat) (p1 : Int32) (M : zMem) : Option (Int32) :=
  if p1 = 0 then (
  zjX12_fault_24 sh k0 p1 M (zI M k0 10))
  else (
  if p1 = (1 : Int32) then (
  zjX12_fault_24 sh k0 p1 M (zI M k0 11))
  else (
  zjX12_fault_24 sh k0 p1 M (-1 : Int32)))
set_option maxHeartbeats 4000000 in
set_option maxRecDepth 100000 in
theorem ztX12_fault (l : Launch) (D : va_G) (cy : Nat → ClassId) (sh : zShp) (ad : Nat → Nat) {k0 : Nat} {p1 : Int32} (h0 : zT sh k0 12) {M : zMem} {r : Int32} (hd : zX12_fault sh k0 p1 M = some r) : zCI l yX12_fault cX12_fault 2 .int { frames := 0, cells := 0, slots := 0, locals := 0 } [.ref (ad k0), .int p1] D cy sh ad M r M := by
  refine zci_of (by decide) (Nat.le_of_ble_eq_true rfl) (fun p e s m below meth c ls F hr hlk hl hw => ?_)
  have hx := F.1.1
  have hb := F.1.2.1
  have hl : lv_has ls 2 [(0, .ref (ad k0)), (1, .int p1)] := hl
  have J24 : ∀ (s0 : Int32) (H : Heap) (locs : List Loc) (ls : Array Slot), lv_has ls 2 [] → zWd D cy sh ad s M H locs → zjX12_fault_24 sh k0 p1 M  s0 = some r → W p l e { frames := 0, cells := 0, slots := 0, locals := 0 } s m ([.ref (ad k0), .int p1] : List Value).toArray below meth c H locs 0 0 (zQI below D cy sh ad s [.ref (ad k0), .int p1] r M) (F0 m 24 ls [.int s0]) := by
    intro  s0 H locs ls hl hw hd
    unfold zjX12_fault_24 at hd
    exact z_iret F hr hlk hw (Option.some.inj hd) rfl dX12_fault_24
  unfold zX12_fault at hd
  refine lv_iload_n hx hb dX12_fault_0 rfl (lv_at hl 1 rfl) ?_
  refine lv_if_ne (tgt := 11) hx hb dX12_fault_1 (by decide) (fun c_1 => ?_) (fun c_1 => ?_)
  · have hd := zif_neg c_1 hd
    refine lv_iload_n hx hb dX12_fault_11 rfl (lv_at hl 1 rfl) ?_
    refine lv_iconst (v := (1 : Int32)) hx hb dX12_fault_12 (by decide) ?_
    refine lv_icmp_ne (tgt := 23) hx hb dX12_fault_13 (by decide) (fun c_2 => ?_) (fun c_2 => ?_)
    · have hd := zif_neg c_2 hd
      refine lv_iconst (v := (-1 : Int32)) hx hb dX12_fault_23 (by decide) ?_
      exact J24 _ _ _ _ (lv_sub hl [] rfl) hw hd
    · have hd := zif_pos c_2 hd
      refine lv_aload_n hx hb dX12_fault_16 rfl (lv_at hl 0 rfl) ?_
      refine z_gI F hw h0 zc12 11 (by decide) rfl zf12_20 dX12_fault_17 ?_
      refine lv_goto (tgt := 24) hx hb dX12_fault_20 (by decide) ?_
      exact J24 _ _ _ _ (lv_sub hl [] rfl) hw hd
  · have hd := zif_pos c_1 hd
    refine lv_aload_n hx hb dX12_fault_4 rfl (lv_at hl 0 rfl) ?_
    refine z_gI F hw h0 zc12 10 (by decide) rfl zf12_234 dX12_fault_5 ?_
    refine lv_goto (tgt := 24) hx hb dX12_fault_8 (by decide) ?_
    exact J24 _ _ _ _ (lv_sub hl [] rfl) hw hd

def zjX12_table_53 (sh : zShp) (k0 : Nat) (p1 : Int32) (p2 : Int32) (M : zMem)  (s0 : Int32) : Option (Int32) :=
  some s0
def zX12_table (sh : zShp) (k0 : Nat) (p1 : Int32) (p2 : Int32) (M : zMem) : Option (Int32) :=
  zob (zX12_isIn sh (p1.toInt64) (0 : Int64) (64 : Int64) M) fun r_2 =>
  if r_2 = 0 then (
  zjX12_table_53 sh k0 p1 p2 M (-2147483648 : Int32))
  else (
  if p2 = 0 then (
  zgd (zin p1 (zlen sh (zR M k0 33))) <|
  zjX12_table_53 sh k0 p1 p2 M (zI M (zR M k0 33) p1.toNatClampNeg))
  else (
  if p2 = (1 : Int32) then (
  zgd (zin p1 (zlen sh (zR M k0 33))) <|
  zgd (zin p1 (zlen sh (zR M k0 18))) <|
  zjX12_table_53 sh k0 p1 p2 M ((zI M (zR M k0 33) p1.toNatClampNeg) + (zI M (zR M k0 18) p1.toNatClampNeg)))
  else (
  zjX12_table_53 sh k0 p1 p2 M (-2147483648 : Int32))))
set_option maxHeartbeats 4000000 in
set_option maxRecDepth 100000 in
theorem ztX12_table (l : Launch) (D : va_G) (cy : Nat → ClassId) (sh : zShp) (ad : Nat → Nat) {k0 : Nat} {p1 : Int32} {p2 : Int32} (h0 : zT sh k0 12) {M : zMem} {r : Int32} (hd : zX12_table sh k0 p1 p2 M = some r) : zCI l yX12_table cX12_table 3 .int { frames := 1, cells := 0, slots := 0, locals := 25 } [.ref (ad k0), .int p1, .int p2] D cy sh ad M r M := by
  refine zci_of (by decide) (Nat.le_of_ble_eq_true rfl) (fun p e s m below meth c ls F hr hlk hl hw => ?_)
  have hx := F.1.1
  have hb := F.1.2.1
  have hl : lv_has ls 3 [(0, .ref (ad k0)), (1, .int p1), (2, .int p2)] := hl
  have J53 : ∀ (s0 : Int32) (H : Heap) (locs : List Loc) (ls : Array Slot), lv_has ls 3 [] → zWd D cy sh ad s M H locs → zjX12_table_53 sh k0 p1 p2 M  s0 = some r → W p l e { frames := 1, cells := 0, slots := 0, locals := 25 } s m ([.ref (ad k0), .int p1, .int p2] : List Value).toArray below meth c H locs 0 0 (zQI below D cy sh ad s [.ref (ad k0), .int p1, .int p2] r M) (F0 m 53 ls [.int s0]) := by
    intro  s0 H locs ls hl hw hd
    unfold zjX12_table_53 at hd
    exact z_iret F hr hlk hw (Option.some.inj hd) rfl dX12_table_53
  unfold zX12_table at hd
  refine lv_iload_n hx hb dX12_table_0 rfl (lv_at hl 1 rfl) ?_
  refine lv_i2l (v := p1.toInt64) hx hb dX12_table_1 rfl ?_
  refine lv_lconst (v := (0 : Int64)) hx hb dX12_table_2 (by decide) ?_
  refine lv_ldc2 (v := (64 : Int64)) hx hb F.1.2.2.2.1 (F.1.2.2.2.2 _ zi12_252) dX12_table_3 ?_
  obtain ⟨r_2, hc_1, hd⟩ := zob_some hd
  refine z_csI F hw hl.1 (As := [.long (p1.toInt64), .long (0 : Int64), .long (64 : Int64)]) (rest := []) (ztX12_isIn l D cy sh ad  hc_1) zyX12_isIn zk12_91 ⟨rfl, rfl⟩ ⟨by decide, by decide⟩ rfl rfl (Nat.le_of_ble_eq_true rfl) dX12_table_6 (fun H locs hw => ?_)
  refine lv_if_ne (tgt := 17) hx hb dX12_table_9 (by decide) (fun c_3 => ?_) (fun c_3 => ?_)
  · have hd := zif_neg c_3 hd
    refine lv_iload_n hx hb dX12_table_17 rfl (lv_at hl 2 rfl) ?_
    refine lv_if_ne (tgt := 30) hx hb dX12_table_18 (by decide) (fun c_4 => ?_) (fun c_4 => ?_)
    · have hd := zif_neg c_4 hd
      refine lv_iload_n hx hb dX12_table_30 rfl (lv_at hl 2 rfl) ?_
      refine lv_iconst (v := (1 : Int32)) hx hb dX12_table_31 (by decide) ?_
      refine lv_icmp_ne (tgt := 51) hx hb dX12_table_32 (by decide) (fun c_5 => ?_) (fun c_5 => ?_)
      · have hd := zif_neg c_5 hd
        refine lv_ldc (v := (-2147483648 : Int32)) hx hb F.1.2.2.2.1 (F.1.2.2.2.2 _ zi12_254) dX12_table_51 ?_
        exact J53 _ _ _ _ (lv_sub hl [] rfl) hw hd
      · have hd := zif_pos c_5 hd
        refine lv_aload_n hx hb dX12_table_35 rfl (lv_at hl 0 rfl) ?_
        refine z_gR F hw h0 zc12 33 (by decide) rfl zf12_52 dX12_table_36 ?_
        have t_6 : zT sh (zR M k0 33) 14 := hw.2.2.2.fld h0 33 14
        refine lv_iload_n hx hb dX12_table_39 rfl (lv_at hl 1 rfl) ?_
        obtain ⟨g_7, hd⟩ := zgd_some hd
        refine z_iald F hw t_6 g_7 dX12_table_40 ?_
        refine lv_aload_n hx hb dX12_table_41 rfl (lv_at hl 0 rfl) ?_
        refine z_gR F hw h0 zc12 18 (by decide) rfl zf12_39 dX12_table_42 ?_
        have t_8 : zT sh (zR M k0 18) 14 := hw.2.2.2.fld h0 18 14
        refine lv_iload_n hx hb dX12_table_45 rfl (lv_at hl 1 rfl) ?_
        obtain ⟨g_9, hd⟩ := zgd_some hd
        refine z_iald F hw t_8 g_9 dX12_table_46 ?_
        refine lv_iadd hx hb dX12_table_47 ?_
        refine lv_goto (tgt := 53) hx hb dX12_table_48 (by decide) ?_
        exact J53 _ _ _ _ (lv_sub hl [] rfl) hw hd
    · have hd := zif_pos c_4 hd
      refine lv_aload_n hx hb dX12_table_21 rfl (lv_at hl 0 rfl) ?_
      refine z_gR F hw h0 zc12 33 (by decide) rfl zf12_52 dX12_table_22 ?_
      have t_10 : zT sh (zR M k0 33) 14 := hw.2.2.2.fld h0 33 14
      refine lv_iload_n hx hb dX12_table_25 rfl (lv_at hl 1 rfl) ?_
      obtain ⟨g_11, hd⟩ := zgd_some hd
      refine z_iald F hw t_10 g_11 dX12_table_26 ?_
      refine lv_goto (tgt := 53) hx hb dX12_table_27 (by decide) ?_
      exact J53 _ _ _ _ (lv_sub hl [] rfl) hw hd
  · have hd := zif_pos c_3 hd
    refine lv_ldc (v := (-2147483648 : Int32)) hx hb F.1.2.2.2.1 (F.1.2.2.2.2 _ zi12_254) dX12_table_12 ?_
    refine lv_goto (tgt := 53) hx hb dX12_table_14 (by decide) ?_
    exact J53 _ _ _ _ (lv_sub hl [] rfl) hw hd

def zjX12_tableAt_20 (sh : zShp) (k0 : Nat) (p1 : Int32) (p2 : Int32) (M : zMem)  (s0 : Int32) (s1 : Int32) : Option (Int32) :=
  some (s0 + s1)
def zX12_tableAt (sh : zShp) (k0 : Nat) (p1 : Int32) (p2 : Int32) (M : zMem) : Option (Int32) :=
  zgd (zin p1 (zlen sh (zR M k0 33))) <|
  if p2 = 0 then (
  zjX12_tableAt_20 sh k0 p1 p2 M (zI M (zR M k0 33) p1.toNatClampNeg) (0 : Int32))
  else (
  zgd (zin p1 (zlen sh (zR M k0 18))) <|
  zjX12_tableAt_20 sh k0 p1 p2 M (zI M (zR M k0 33) p1.toNatClampNeg) (zI M (zR M k0 18) p1.toNatClampNeg))
set_option maxHeartbeats 4000000 in
set_option maxRecDepth 100000 in
theorem ztX12_tableAt (l : Launch) (D : va_G) (cy : Nat → ClassId) (sh : zShp) (ad : Nat → Nat) {k0 : Nat} {p1 : Int32} {p2 : Int32} (h0 : zT sh k0 12) {M : zMem} {r : Int32} (hd : zX12_tableAt sh k0 p1 p2 M = some r) : zCI l yX12_tableAt cX12_tableAt 3 .int { frames := 0, cells := 0, slots := 0, locals := 0 } [.ref (ad k0), .int p1, .int p2] D cy sh ad M r M := by
  refine zci_of (by decide) (Nat.le_of_ble_eq_true rfl) (fun p e s m below meth c ls F hr hlk hl hw => ?_)
  have hx := F.1.1
  have hb := F.1.2.1
  have hl : lv_has ls 3 [(0, .ref (ad k0)), (1, .int p1), (2, .int p2)] := hl
  have J20 : ∀ (s0 : Int32) (s1 : Int32) (H : Heap) (locs : List Loc) (ls : Array Slot), lv_has ls 3 [] → zWd D cy sh ad s M H locs → zjX12_tableAt_20 sh k0 p1 p2 M  s0 s1 = some r → W p l e { frames := 0, cells := 0, slots := 0, locals := 0 } s m ([.ref (ad k0), .int p1, .int p2] : List Value).toArray below meth c H locs 0 0 (zQI below D cy sh ad s [.ref (ad k0), .int p1, .int p2] r M) (F0 m 20 ls [.int s1, .int s0]) := by
    intro  s0 s1 H locs ls hl hw hd
    unfold zjX12_tableAt_20 at hd
    refine lv_iadd hx hb dX12_tableAt_20 ?_
    exact z_iret F hr hlk hw (Option.some.inj hd) rfl dX12_tableAt_21
  unfold zX12_tableAt at hd
  refine lv_aload_n hx hb dX12_tableAt_0 rfl (lv_at hl 0 rfl) ?_
  refine z_gR F hw h0 zc12 33 (by decide) rfl zf12_52 dX12_tableAt_1 ?_
  have t_1 : zT sh (zR M k0 33) 14 := hw.2.2.2.fld h0 33 14
  refine lv_iload_n hx hb dX12_tableAt_4 rfl (lv_at hl 1 rfl) ?_
  obtain ⟨g_2, hd⟩ := zgd_some hd
  refine z_iald F hw t_1 g_2 dX12_tableAt_5 ?_
  refine lv_iload_n hx hb dX12_tableAt_6 rfl (lv_at hl 2 rfl) ?_
  refine lv_if_eq (tgt := 19) hx hb dX12_tableAt_7 (by decide) (fun c_3 => ?_) (fun c_3 => ?_)
  · have hd := zif_pos c_3 hd
    refine lv_iconst (v := (0 : Int32)) hx hb dX12_tableAt_19 (by decide) ?_
    exact J20 _ _ _ _ _ (lv_sub hl [] rfl) hw hd
  · have hd := zif_neg c_3 hd
    refine lv_aload_n hx hb dX12_tableAt_10 rfl (lv_at hl 0 rfl) ?_
    refine z_gR F hw h0 zc12 18 (by decide) rfl zf12_39 dX12_tableAt_11 ?_
    have t_4 : zT sh (zR M k0 18) 14 := hw.2.2.2.fld h0 18 14
    refine lv_iload_n hx hb dX12_tableAt_14 rfl (lv_at hl 1 rfl) ?_
    obtain ⟨g_5, hd⟩ := zgd_some hd
    refine z_iald F hw t_4 g_5 dX12_tableAt_15 ?_
    refine lv_goto (tgt := 20) hx hb dX12_tableAt_16 (by decide) ?_
    exact J20 _ _ _ _ _ (lv_sub hl [] rfl) hw hd

def zjX12_sine_66 (sh : zShp) (k0 : Nat) (p1 : Int32) (p2 : Int32) (M : zMem)  (s0 : Int32) : Option (Int32) :=
  some s0
def zjX12_sine_49 (sh : zShp) (k0 : Nat) (p1 : Int32) (p2 : Int32) (M : zMem)  (x3 : Int32) (s0 : Int32) : Option (Int32) :=
  if (128 : Int32) ≤ x3 then (
  zjX12_sine_66 sh k0 p1 p2 M (-s0))
  else (
  zjX12_sine_66 sh k0 p1 p2 M s0)
def zX12_sine (sh : zShp) (k0 : Nat) (p1 : Int32) (p2 : Int32) (M : zMem) : Option (Int32) :=
  zob (zX12_floor sh p1 (256 : Int32) M) fun r_3 =>
  zbd ((p1 - ((256 : Int32) * r_3))) fun v_4 =>
  if (zrem (v_4 / (64 : Int32)) (2 : Int32)) = 0 then (
  zob (zX12_tableAt sh k0 (zrem v_4 (64 : Int32)) p2 M) fun r_9 =>
  zjX12_sine_49 sh k0 p1 p2 M v_4 r_9)
  else (
  zob (zX12_tableAt sh k0 ((64 : Int32) - (zrem v_4 (64 : Int32))) p2 M) fun r_7 =>
  zjX12_sine_49 sh k0 p1 p2 M v_4 r_7)
set_option maxHeartbeats 4000000 in
set_option maxRecDepth 100000 in
theorem ztX12_sine (l : Launch) (D : va_G) (cy : Nat → ClassId) (sh : zShp) (ad : Nat → Nat) {k0 : Nat} {p1 : Int32} {p2 : Int32} (h0 : zT sh k0 12) {M : zMem} {r : Int32} (hd : zX12_sine sh k0 p1 p2 M = some r) : zCI l yX12_sine cX12_sine 6 .int { frames := 1, cells := 0, slots := 0, locals := 22 } [.ref (ad k0), .int p1, .int p2] D cy sh ad M r M := by
  refine zci_of (by decide) (Nat.le_of_ble_eq_true rfl) (fun p e s m below meth c ls F hr hlk hl hw => ?_)
  have hx := F.1.1
  have hb := F.1.2.1
  have hl : lv_has ls 6 [(0, .ref (ad k0)), (1, .int p1), (2, .int p2)] := hl
  have J66 : ∀ (s0 : Int32) (H : Heap) (locs : List Loc) (ls : Array Slot), lv_has ls 6 [] → zWd D cy sh ad s M H locs → zjX12_sine_66 sh k0 p1 p2 M  s0 = some r → W p l e { frames := 1, cells := 0, slots := 0, locals := 22 } s m ([.ref (ad k0), .int p1, .int p2] : List Value).toArray below meth c H locs 0 0 (zQI below D cy sh ad s [.ref (ad k0), .int p1, .int p2] r M) (F0 m 66 ls [.int s0]) := by
    intro  s0 H locs ls hl hw hd
    unfold zjX12_sine_66 at hd
    exact z_iret F hr hlk hw (Option.some.inj hd) rfl dX12_sine_66
  have J49 : ∀ (x3 : Int32) (s0 : Int32) (H : Heap) (locs : List Loc) (ls : Array Slot), lv_has ls 6 [(3, .int x3)] → zWd D cy sh ad s M H locs → zjX12_sine_49 sh k0 p1 p2 M  x3 s0 = some r → W p l e { frames := 1, cells := 0, slots := 0, locals := 22 } s m ([.ref (ad k0), .int p1, .int p2] : List Value).toArray below meth c H locs 0 0 (zQI below D cy sh ad s [.ref (ad k0), .int p1, .int p2] r M) (F0 m 49 ls [.int s0]) := by
    intro  x3 s0 H locs ls hl hw hd
    unfold zjX12_sine_49 at hd
    refine lv_istore (lv' := [(5, .int s0), (3, .int x3)]) hx hb dX12_sine_49 hl (by decide) rfl (fun ls hl => ?_)
    refine lv_iload_n hx hb dX12_sine_51 rfl (lv_at hl 1 rfl) ?_
    refine lv_sipush (v := (128 : Int32)) hx hb dX12_sine_52 (by decide) ?_
    refine lv_icmp_ge (tgt := 63) hx hb dX12_sine_55 (by decide) (fun c_1 => ?_) (fun c_1 => ?_)
    · have hd := zif_pos c_1 hd
      refine lv_iload hx hb dX12_sine_63 (lv_at hl 0 rfl) ?_
      refine lv_ineg hx hb dX12_sine_65 ?_
      exact J66 _ _ _ _ (lv_sub hl [] rfl) hw hd
    · have hd := zif_neg c_1 hd
      refine lv_iload hx hb dX12_sine_58 (lv_at hl 0 rfl) ?_
      refine lv_goto (tgt := 66) hx hb dX12_sine_60 (by decide) ?_
      exact J66 _ _ _ _ (lv_sub hl [] rfl) hw hd
  unfold zX12_sine at hd
  refine lv_iload_n hx hb dX12_sine_0 rfl (lv_at hl 1 rfl) ?_
  refine lv_sipush (v := (256 : Int32)) hx hb dX12_sine_1 (by decide) ?_
  refine lv_iload_n hx hb dX12_sine_4 rfl (lv_at hl 1 rfl) ?_
  refine lv_sipush (v := (256 : Int32)) hx hb dX12_sine_5 (by decide) ?_
  obtain ⟨r_3, hc_2, hd⟩ := zob_some hd
  refine z_csI F hw hl.1 (As := [.int p1, .int (256 : Int32)]) (rest := [.int (256 : Int32), .int p1]) (ztX12_floor l D cy sh ad  hc_2) zyX12_floor zk12_255 ⟨rfl, rfl⟩ ⟨by decide, by decide⟩ rfl rfl (Nat.le_of_ble_eq_true rfl) dX12_sine_8 (fun H locs hw => ?_)
  refine lv_imul hx hb dX12_sine_11 ?_
  refine lv_isub hx hb dX12_sine_12 ?_
  refine lv_topi (fun v_4 ev_4 => ?_)
  have hd := zbd_eq ev_4 hd
  refine lv_istore_n (lv' := [(3, .int v_4), (0, .ref (ad k0)), (1, .int p1), (2, .int p2)]) hx hb dX12_sine_13 rfl hl (by decide) rfl (fun ls hl => ?_)
  refine lv_iload_n hx hb dX12_sine_14 rfl (lv_at hl 0 rfl) ?_
  refine lv_bipush (v := (64 : Int32)) hx hb dX12_sine_15 (by decide) ?_
  refine z_irem hx hb dX12_sine_17 (by decide) ?_
  refine lv_istore (lv' := [(4, .int (zrem v_4 (64 : Int32))), (3, .int v_4), (0, .ref (ad k0)), (1, .int p1), (2, .int p2)]) hx hb dX12_sine_18 hl (by decide) rfl (fun ls hl => ?_)
  refine lv_iload_n hx hb dX12_sine_20 rfl (lv_at hl 1 rfl) ?_
  refine lv_bipush (v := (64 : Int32)) hx hb dX12_sine_21 (by decide) ?_
  refine lv_idiv hx hb dX12_sine_23 (by decide) ?_
  refine lv_iconst (v := (2 : Int32)) hx hb dX12_sine_24 (by decide) ?_
  refine z_irem hx hb dX12_sine_25 (by decide) ?_
  refine lv_if_ne (tgt := 39) hx hb dX12_sine_26 (by decide) (fun c_5 => ?_) (fun c_5 => ?_)
  · have hd := zif_neg c_5 hd
    refine lv_aload_n hx hb dX12_sine_39 rfl (lv_at hl 2 rfl) ?_
    refine lv_bipush (v := (64 : Int32)) hx hb dX12_sine_40 (by decide) ?_
    refine lv_iload hx hb dX12_sine_42 (lv_at hl 0 rfl) ?_
    refine lv_isub hx hb dX12_sine_44 ?_
    refine lv_iload_n hx hb dX12_sine_45 rfl (lv_at hl 4 rfl) ?_
    obtain ⟨r_7, hc_6, hd⟩ := zob_some hd
    refine z_cvI F hw hl.1 (As := [.int ((64 : Int32) - (zrem v_4 (64 : Int32))), .int p2]) (rest := []) (ztX12_tableAt l D cy sh ad h0 hc_6) zyX12_tableAt h0 zc12 zk12_258 ⟨rfl, rfl⟩ ⟨by decide, by decide⟩ rfl rfl (Nat.le_of_ble_eq_true rfl) dX12_sine_46 (fun H locs hw => ?_)
    exact J49 _ _ _ _ _ (lv_sub hl [1] rfl) hw hd
  · have hd := zif_pos c_5 hd
    refine lv_aload_n hx hb dX12_sine_29 rfl (lv_at hl 2 rfl) ?_
    refine lv_iload hx hb dX12_sine_30 (lv_at hl 0 rfl) ?_
    refine lv_iload_n hx hb dX12_sine_32 rfl (lv_at hl 4 rfl) ?_
    obtain ⟨r_9, hc_8, hd⟩ := zob_some hd
    refine z_cvI F hw hl.1 (As := [.int (zrem v_4 (64 : Int32)), .int p2]) (rest := []) (ztX12_tableAt l D cy sh ad h0 hc_8) zyX12_tableAt h0 zc12 zk12_258 ⟨rfl, rfl⟩ ⟨by decide, by decide⟩ rfl rfl (Nat.le_of_ble_eq_true rfl) dX12_sine_33 (fun H locs hw => ?_)
    refine lv_goto (tgt := 49) hx hb dX12_sine_36 (by decide) ?_
    exact J49 _ _ _ _ _ (lv_sub hl [1] rfl) hw hd

def zjX12_currentOf_26 (sh : zShp) (k0 : Nat) (p1 : Int32) (p2 : Int32) (M : zMem)  (s0 : Nat) (s1 : Int32) : Option (Int32) :=
  zob (zX12_sine sh s0 s1 (1 : Int32) M) fun r_2 =>
  some r_2
def zX12_currentOf (sh : zShp) (k0 : Nat) (p1 : Int32) (p2 : Int32) (M : zMem) : Option (Int32) :=
  if p2 = (1 : Int32) then (
  zjX12_currentOf_26 sh k0 p1 p2 M k0 p1)
  else (
  zob (zX12_floor sh p1 (256 : Int32) M) fun r_5 =>
  zjX12_currentOf_26 sh k0 p1 p2 M k0 ((p1 - ((256 : Int32) * r_5)) + (64 : Int32)))
set_option maxHeartbeats 4000000 in
set_option maxRecDepth 100000 in
theorem ztX12_currentOf (l : Launch) (D : va_G) (cy : Nat → ClassId) (sh : zShp) (ad : Nat → Nat) {k0 : Nat} {p1 : Int32} {p2 : Int32} (h0 : zT sh k0 12) {M : zMem} {r : Int32} (hd : zX12_currentOf sh k0 p1 p2 M = some r) : zCI l yX12_currentOf cX12_currentOf 3 .int { frames := 2, cells := 0, slots := 0, locals := 47 } [.ref (ad k0), .int p1, .int p2] D cy sh ad M r M := by
  refine zci_of (by decide) (Nat.le_of_ble_eq_true rfl) (fun p e s m below meth c ls F hr hlk hl hw => ?_)
  have hx := F.1.1
  have hb := F.1.2.1
  have hl : lv_has ls 3 [(0, .ref (ad k0)), (1, .int p1), (2, .int p2)] := hl
  have J26 : ∀ (s0 : Nat) (s1 : Int32) (ts0 : zT sh s0 12) (H : Heap) (locs : List Loc) (ls : Array Slot), lv_has ls 3 [] → zWd D cy sh ad s M H locs → zjX12_currentOf_26 sh k0 p1 p2 M  s0 s1 = some r → W p l e { frames := 2, cells := 0, slots := 0, locals := 47 } s m ([.ref (ad k0), .int p1, .int p2] : List Value).toArray below meth c H locs 0 0 (zQI below D cy sh ad s [.ref (ad k0), .int p1, .int p2] r M) (F0 m 26 ls [.int s1, .ref (ad s0)]) := by
    intro  s0 s1 ts0 H locs ls hl hw hd
    unfold zjX12_currentOf_26 at hd
    refine lv_iconst (v := (1 : Int32)) hx hb dX12_currentOf_26 (by decide) ?_
    obtain ⟨r_2, hc_1, hd⟩ := zob_some hd
    refine z_cvI F hw hl.1 (As := [.int s1, .int (1 : Int32)]) (rest := []) (ztX12_sine l D cy sh ad ts0 hc_1) zyX12_sine ts0 zc12 zk12_262 ⟨rfl, rfl⟩ ⟨by decide, by decide⟩ rfl rfl (Nat.le_of_ble_eq_true rfl) dX12_currentOf_27 (fun H locs hw => ?_)
    exact z_iret F hr hlk hw (Option.some.inj hd) rfl dX12_currentOf_30
  unfold zX12_currentOf at hd
  refine lv_aload_n hx hb dX12_currentOf_0 rfl (lv_at hl 0 rfl) ?_
  refine lv_iload_n hx hb dX12_currentOf_1 rfl (lv_at hl 2 rfl) ?_
  refine lv_iconst (v := (1 : Int32)) hx hb dX12_currentOf_2 (by decide) ?_
  refine lv_icmp_ne (tgt := 10) hx hb dX12_currentOf_3 (by decide) (fun c_3 => ?_) (fun c_3 => ?_)
  · have hd := zif_neg c_3 hd
    refine lv_iload_n hx hb dX12_currentOf_10 rfl (lv_at hl 1 rfl) ?_
    refine lv_sipush (v := (256 : Int32)) hx hb dX12_currentOf_11 (by decide) ?_
    refine lv_iload_n hx hb dX12_currentOf_14 rfl (lv_at hl 1 rfl) ?_
    refine lv_sipush (v := (256 : Int32)) hx hb dX12_currentOf_15 (by decide) ?_
    obtain ⟨r_5, hc_4, hd⟩ := zob_some hd
    refine z_csI F hw hl.1 (As := [.int p1, .int (256 : Int32)]) (rest := [.int (256 : Int32), .int p1, .ref (ad k0)]) (ztX12_floor l D cy sh ad  hc_4) zyX12_floor zk12_255 ⟨rfl, rfl⟩ ⟨by decide, by decide⟩ rfl rfl (Nat.le_of_ble_eq_true rfl) dX12_currentOf_18 (fun H locs hw => ?_)
    refine lv_imul hx hb dX12_currentOf_21 ?_
    refine lv_isub hx hb dX12_currentOf_22 ?_
    refine lv_bipush (v := (64 : Int32)) hx hb dX12_currentOf_23 (by decide) ?_
    refine lv_iadd hx hb dX12_currentOf_25 ?_
    exact J26 _ _ h0 _ _ _ (lv_sub hl [] rfl) hw hd
  · have hd := zif_pos c_3 hd
    refine lv_iload_n hx hb dX12_currentOf_6 rfl (lv_at hl 1 rfl) ?_
    refine lv_goto (tgt := 26) hx hb dX12_currentOf_7 (by decide) ?_
    exact J26 _ _ h0 _ _ _ (lv_sub hl [] rfl) hw hd

def zjX12_current_21 (sh : zShp) (k0 : Nat) (p1 : Int32) (p2 : Int32) (M : zMem)  (s0 : Int32) : Option (Int32) :=
  some s0
def zX12_current (sh : zShp) (k0 : Nat) (p1 : Int32) (p2 : Int32) (M : zMem) : Option (Int32) :=
  zob (zX12_isIn sh (p2.toInt64) (0 : Int64) (1 : Int64) M) fun r_2 =>
  if r_2 = 0 then (
  zjX12_current_21 sh k0 p1 p2 M (-2147483648 : Int32))
  else (
  zob (zX12_currentOf sh k0 p1 p2 M) fun r_5 =>
  zjX12_current_21 sh k0 p1 p2 M r_5)
set_option maxHeartbeats 4000000 in
set_option maxRecDepth 100000 in
theorem ztX12_current (l : Launch) (D : va_G) (cy : Nat → ClassId) (sh : zShp) (ad : Nat → Nat) {k0 : Nat} {p1 : Int32} {p2 : Int32} (h0 : zT sh k0 12) {M : zMem} {r : Int32} (hd : zX12_current sh k0 p1 p2 M = some r) : zCI l yX12_current cX12_current 3 .int { frames := 3, cells := 0, slots := 0, locals := 69 } [.ref (ad k0), .int p1, .int p2] D cy sh ad M r M := by
  refine zci_of (by decide) (Nat.le_of_ble_eq_true rfl) (fun p e s m below meth c ls F hr hlk hl hw => ?_)
  have hx := F.1.1
  have hb := F.1.2.1
  have hl : lv_has ls 3 [(0, .ref (ad k0)), (1, .int p1), (2, .int p2)] := hl
  have J21 : ∀ (s0 : Int32) (H : Heap) (locs : List Loc) (ls : Array Slot), lv_has ls 3 [] → zWd D cy sh ad s M H locs → zjX12_current_21 sh k0 p1 p2 M  s0 = some r → W p l e { frames := 3, cells := 0, slots := 0, locals := 69 } s m ([.ref (ad k0), .int p1, .int p2] : List Value).toArray below meth c H locs 0 0 (zQI below D cy sh ad s [.ref (ad k0), .int p1, .int p2] r M) (F0 m 21 ls [.int s0]) := by
    intro  s0 H locs ls hl hw hd
    unfold zjX12_current_21 at hd
    exact z_iret F hr hlk hw (Option.some.inj hd) rfl dX12_current_21
  unfold zX12_current at hd
  refine lv_iload_n hx hb dX12_current_0 rfl (lv_at hl 2 rfl) ?_
  refine lv_i2l (v := p2.toInt64) hx hb dX12_current_1 rfl ?_
  refine lv_lconst (v := (0 : Int64)) hx hb dX12_current_2 (by decide) ?_
  refine lv_lconst (v := (1 : Int64)) hx hb dX12_current_3 (by decide) ?_
  obtain ⟨r_2, hc_1, hd⟩ := zob_some hd
  refine z_csI F hw hl.1 (As := [.long (p2.toInt64), .long (0 : Int64), .long (1 : Int64)]) (rest := []) (ztX12_isIn l D cy sh ad  hc_1) zyX12_isIn zk12_91 ⟨rfl, rfl⟩ ⟨by decide, by decide⟩ rfl rfl (Nat.le_of_ble_eq_true rfl) dX12_current_4 (fun H locs hw => ?_)
  refine lv_if_eq (tgt := 19) hx hb dX12_current_7 (by decide) (fun c_3 => ?_) (fun c_3 => ?_)
  · have hd := zif_pos c_3 hd
    refine lv_ldc (v := (-2147483648 : Int32)) hx hb F.1.2.2.2.1 (F.1.2.2.2.2 _ zi12_254) dX12_current_19 ?_
    exact J21 _ _ _ _ (lv_sub hl [] rfl) hw hd
  · have hd := zif_neg c_3 hd
    refine lv_aload_n hx hb dX12_current_10 rfl (lv_at hl 0 rfl) ?_
    refine lv_iload_n hx hb dX12_current_11 rfl (lv_at hl 1 rfl) ?_
    refine lv_iload_n hx hb dX12_current_12 rfl (lv_at hl 2 rfl) ?_
    obtain ⟨r_5, hc_4, hd⟩ := zob_some hd
    refine z_cvI F hw hl.1 (As := [.int p1, .int p2]) (rest := []) (ztX12_currentOf l D cy sh ad h0 hc_4) zyX12_currentOf h0 zc12 zk12_265 ⟨rfl, rfl⟩ ⟨by decide, by decide⟩ rfl rfl (Nat.le_of_ble_eq_true rfl) dX12_current_13 (fun H locs hw => ?_)
    refine lv_goto (tgt := 21) hx hb dX12_current_16 (by decide) ?_
    exact J21 _ _ _ _ (lv_sub hl [] rfl) hw hd

def zjX12_rootAt_59 (sh : zShp) (k0 : Nat) (p1 : Int32) (M : zMem) (kk31 : Int32 → Int32 → Int32 → Option (Int32)) (x4 : Int32) (x5 : Int32) (x6 : Int32) : Option (Int32) :=
  zbd ((x6 >>> ((1 : Int32) &&& 31))) fun v_1 =>
  kk31 x4 x5 v_1
def zbX12_rootAt_31 (sh : zShp) (k0 : Nat) (p1 : Int32) (M : zMem)  (kk31 : Int32 → Int32 → Int32 → Option (Int32)) (x4 : Int32) (x5 : Int32) (x6 : Int32) : Option (Int32) :=
  if x6 ≤ 0 then (
  some x5)
  else (
  if x4 < ((x5 + x6) * (x5 + x6)) then (
  zjX12_rootAt_59 sh k0 p1 M kk31 x4 x5 x6)
  else (
  zjX12_rootAt_59 sh k0 p1 M kk31 x4 (x5 + x6) x6))
def zlX12_rootAt_31 (sh : zShp) (k0 : Nat) (p1 : Int32) (M : zMem)  : Nat → Int32 → Int32 → Int32 → Option (Int32)
  | 0 => fun _ _ _ => none
  | n + 1 => fun x4 x5 x6 => zbX12_rootAt_31 sh k0 p1 M  (zlX12_rootAt_31 sh k0 p1 M  n) x4 x5 x6
def zX12_rootAt (sh : zShp) (k0 : Nat) (p1 : Int32) (M : zMem) : Option (Int32) :=
  zob (zX12_currentOf sh k0 p1 (0 : Int32) M) fun r_5 =>
  zob (zX12_currentOf sh k0 p1 (1 : Int32) M) fun r_7 =>
  zbd (((r_5 * r_5) + (r_7 * r_7))) fun v_8 =>
  zlX12_rootAt_31 sh k0 p1 M zF v_8 (0 : Int32) (16384 : Int32)
set_option maxHeartbeats 4000000 in
set_option maxRecDepth 100000 in
theorem ztX12_rootAt (l : Launch) (D : va_G) (cy : Nat → ClassId) (sh : zShp) (ad : Nat → Nat) {k0 : Nat} {p1 : Int32} (h0 : zT sh k0 12) {M : zMem} {r : Int32} (hd : zX12_rootAt sh k0 p1 M = some r) : zCI l yX12_rootAt cX12_rootAt 7 .int { frames := 3, cells := 0, slots := 0, locals := 69 } [.ref (ad k0), .int p1] D cy sh ad M r M := by
  refine zci_of (by decide) (Nat.le_of_ble_eq_true rfl) (fun p e s m below meth c ls F hr hlk hl hw => ?_)
  have hx := F.1.1
  have hb := F.1.2.1
  have hl : lv_has ls 7 [(0, .ref (ad k0)), (1, .int p1)] := hl
  have J59 : ∀ (kk31 : Int32 → Int32 → Int32 → Option (Int32)) (hk31 : ∀ (x4 : Int32) (x5 : Int32) (x6 : Int32) (H : Heap) (locs : List Loc) (ls : Array Slot), lv_has ls 7 [(4, .int x4), (5, .int x5), (6, .int x6)] → zWd D cy sh ad s M H locs → kk31 x4 x5 x6 = some r → W p l e { frames := 3, cells := 0, slots := 0, locals := 69 } s m ([.ref (ad k0), .int p1] : List Value).toArray below meth c H locs 0 0 (zQI below D cy sh ad s [.ref (ad k0), .int p1] r M) (F0 m 31 ls [])), ∀ (x4 : Int32) (x5 : Int32) (x6 : Int32) (H : Heap) (locs : List Loc) (ls : Array Slot), lv_has ls 7 [(4, .int x4), (5, .int x5), (6, .int x6)] → zWd D cy sh ad s M H locs → zjX12_rootAt_59 sh k0 p1 M kk31 x4 x5 x6 = some r → W p l e { frames := 3, cells := 0, slots := 0, locals := 69 } s m ([.ref (ad k0), .int p1] : List Value).toArray below meth c H locs 0 0 (zQI below D cy sh ad s [.ref (ad k0), .int p1] r M) (F0 m 59 ls []) := by
    intro kk31 hk31 x4 x5 x6 H locs ls hl hw hd
    unfold zjX12_rootAt_59 at hd
    refine lv_iload hx hb dX12_rootAt_59 (lv_at hl 2 rfl) ?_
    refine lv_iconst (v := (1 : Int32)) hx hb dX12_rootAt_61 (by decide) ?_
    refine lv_ishr hx hb dX12_rootAt_62 ?_
    refine lv_topi (fun v_1 ev_1 => ?_)
    have hd := zbd_eq ev_1 hd
    refine lv_istore (lv' := [(6, .int v_1), (4, .int x4), (5, .int x5)]) hx hb dX12_rootAt_63 hl (by decide) rfl (fun ls hl => ?_)
    refine lv_goto (tgt := 31) hx hb dX12_rootAt_65 (by decide) ?_
    exact hk31 _ _ _ _ _ _ (lv_sub hl [1, 2, 0] rfl) hw hd
  have L31 : ∀  (n : Nat), ∀ (x4 : Int32) (x5 : Int32) (x6 : Int32) (H : Heap) (locs : List Loc) (ls : Array Slot), lv_has ls 7 [(4, .int x4), (5, .int x5), (6, .int x6)] → zWd D cy sh ad s M H locs → zlX12_rootAt_31 sh k0 p1 M  n x4 x5 x6 = some r → W p l e { frames := 3, cells := 0, slots := 0, locals := 69 } s m ([.ref (ad k0), .int p1] : List Value).toArray below meth c H locs 0 0 (zQI below D cy sh ad s [.ref (ad k0), .int p1] r M) (F0 m 31 ls []) := by
    intro  n
    induction n with
    | zero => intro x4 x5 x6 H locs ls hl hw hd; exact (znone hd).elim
    | succ n hk31 =>
      intro x4 x5 x6 H locs ls hl hw hd
      have hd : zbX12_rootAt_31 sh k0 p1 M  (zlX12_rootAt_31 sh k0 p1 M  n) x4 x5 x6 = some r := hd
      unfold zbX12_rootAt_31 at hd
      refine lv_iload hx hb dX12_rootAt_31 (lv_at hl 2 rfl) ?_
      refine lv_if_le (tgt := 68) hx hb dX12_rootAt_33 (by decide) (fun c_2 => ?_) (fun c_2 => ?_)
      · have hd := zif_pos c_2 hd
        refine lv_iload hx hb dX12_rootAt_68 (lv_at hl 1 rfl) ?_
        exact z_iret F hr hlk hw (Option.some.inj hd) rfl dX12_rootAt_70
      · have hd := zif_neg c_2 hd
        refine lv_iload hx hb dX12_rootAt_36 (lv_at hl 1 rfl) ?_
        refine lv_iload hx hb dX12_rootAt_38 (lv_at hl 2 rfl) ?_
        refine lv_iadd hx hb dX12_rootAt_40 ?_
        refine lv_iload hx hb dX12_rootAt_41 (lv_at hl 1 rfl) ?_
        refine lv_iload hx hb dX12_rootAt_43 (lv_at hl 2 rfl) ?_
        refine lv_iadd hx hb dX12_rootAt_45 ?_
        refine lv_imul hx hb dX12_rootAt_46 ?_
        refine lv_iload hx hb dX12_rootAt_47 (lv_at hl 0 rfl) ?_
        refine lv_icmp_gt (tgt := 59) hx hb dX12_rootAt_49 (by decide) (fun c_3 => ?_) (fun c_3 => ?_)
        · have hd := zif_pos c_3 hd
          exact J59 _ hk31 _ _ _ _ _ _ (lv_sub hl [0, 1, 2] rfl) hw hd
        · have hd := zif_neg c_3 hd
          refine lv_iload hx hb dX12_rootAt_52 (lv_at hl 1 rfl) ?_
          refine lv_iload hx hb dX12_rootAt_54 (lv_at hl 2 rfl) ?_
          refine lv_iadd hx hb dX12_rootAt_56 ?_
          refine lv_istore (lv' := [(5, .int (x5 + x6)), (4, .int x4), (6, .int x6)]) hx hb dX12_rootAt_57 hl (by decide) rfl (fun ls hl => ?_)
          exact J59 _ hk31 _ _ _ _ _ _ (lv_sub hl [1, 0, 2] rfl) hw hd
  unfold zX12_rootAt at hd
  refine lv_aload_n hx hb dX12_rootAt_0 rfl (lv_at hl 0 rfl) ?_
  refine lv_iload_n hx hb dX12_rootAt_1 rfl (lv_at hl 1 rfl) ?_
  refine lv_iconst (v := (0 : Int32)) hx hb dX12_rootAt_2 (by decide) ?_
  obtain ⟨r_5, hc_4, hd⟩ := zob_some hd
  refine z_cvI F hw hl.1 (As := [.int p1, .int (0 : Int32)]) (rest := []) (ztX12_currentOf l D cy sh ad h0 hc_4) zyX12_currentOf h0 zc12 zk12_265 ⟨rfl, rfl⟩ ⟨by decide, by decide⟩ rfl rfl (Nat.le_of_ble_eq_true rfl) dX12_rootAt_3 (fun H locs hw => ?_)
  refine lv_istore_n (lv' := [(2, .int r_5), (0, .ref (ad k0)), (1, .int p1)]) hx hb dX12_rootAt_6 rfl hl (by decide) rfl (fun ls hl => ?_)
  refine lv_aload_n hx hb dX12_rootAt_7 rfl (lv_at hl 1 rfl) ?_
  refine lv_iload_n hx hb dX12_rootAt_8 rfl (lv_at hl 2 rfl) ?_
  refine lv_iconst (v := (1 : Int32)) hx hb dX12_rootAt_9 (by decide) ?_
  obtain ⟨r_7, hc_6, hd⟩ := zob_some hd
  refine z_cvI F hw hl.1 (As := [.int p1, .int (1 : Int32)]) (rest := []) (ztX12_currentOf l D cy sh ad h0 hc_6) zyX12_currentOf h0 zc12 zk12_265 ⟨rfl, rfl⟩ ⟨by decide, by decide⟩ rfl rfl (Nat.le_of_ble_eq_true rfl) dX12_rootAt_10 (fun H locs hw => ?_)
  refine lv_istore_n (lv' := [(3, .int r_7), (2, .int r_5), (0, .ref (ad k0)), (1, .int p1)]) hx hb dX12_rootAt_13 rfl hl (by decide) rfl (fun ls hl => ?_)
  refine lv_iload_n hx hb dX12_rootAt_14 rfl (lv_at hl 1 rfl) ?_
  refine lv_iload_n hx hb dX12_rootAt_15 rfl (lv_at hl 1 rfl) ?_
  refine lv_imul hx hb dX12_rootAt_16 ?_
  refine lv_iload_n hx hb dX12_rootAt_17 rfl (lv_at hl 0 rfl) ?_
  refine lv_iload_n hx hb dX12_rootAt_18 rfl (lv_at hl 0 rfl) ?_
  refine lv_imul hx hb dX12_rootAt_19 ?_
  refine lv_iadd hx hb dX12_rootAt_20 ?_
  refine lv_topi (fun v_8 ev_8 => ?_)
  have hd := zbd_eq ev_8 hd
  refine lv_istore (lv' := [(4, .int v_8), (3, .int r_7), (2, .int r_5), (0, .ref (ad k0)), (1, .int p1)]) hx hb dX12_rootAt_21 hl (by decide) rfl (fun ls hl => ?_)
  refine lv_iconst (v := (0 : Int32)) hx hb dX12_rootAt_23 (by decide) ?_
  refine lv_istore (lv' := [(5, .int (0 : Int32)), (4, .int v_8), (3, .int r_7), (2, .int r_5), (0, .ref (ad k0)), (1, .int p1)]) hx hb dX12_rootAt_24 hl (by decide) rfl (fun ls hl => ?_)
  refine lv_sipush (v := (16384 : Int32)) hx hb dX12_rootAt_26 (by decide) ?_
  refine lv_istore (lv' := [(6, .int (16384 : Int32)), (5, .int (0 : Int32)), (4, .int v_8), (3, .int r_7), (2, .int r_5), (0, .ref (ad k0)), (1, .int p1)]) hx hb dX12_rootAt_29 hl (by decide) rfl (fun ls hl => ?_)
  exact L31 zF _ _ _ _ _ _ (lv_sub hl [2, 1, 0] rfl) hw hd

def zjX12_field_94 (sh : zShp) (k0 : Nat) (p1 : Int32) (M : zMem)  (s0 : Int32) : Option (Int32) :=
  some s0
def zjX12_field_62 (sh : zShp) (k0 : Nat) (p1 : Int32) (M : zMem) (kk21 : Int32 → Int32 → Int32 → Option (Int32)) (x2 : Int32) (x3 : Int32) (x4 : Int32) : Option (Int32) :=
  kk21 x2 x3 (x4 + (1 : Int32))
def zjX12_field_45 (sh : zShp) (k0 : Nat) (p1 : Int32) (M : zMem) (kk21 : Int32 → Int32 → Int32 → Option (Int32)) (x2 : Int32) (x3 : Int32) (x4 : Int32) : Option (Int32) :=
  zob (zX12_rootAt sh k0 x4 M) fun r_2 =>
  zob (zX12_rootAt sh k0 x3 M) fun r_4 =>
  if r_2 ≤ r_4 then (
  zjX12_field_62 sh k0 p1 M kk21 x2 x3 x4)
  else (
  zjX12_field_62 sh k0 p1 M kk21 x2 x4 x4)
def zbX12_field_21 (sh : zShp) (k0 : Nat) (p1 : Int32) (M : zMem)  (kk21 : Int32 → Int32 → Int32 → Option (Int32)) (x2 : Int32) (x3 : Int32) (x4 : Int32) : Option (Int32) :=
  if (64 : Int32) ≤ x4 then (
  if p1 = 0 then (
  zob (zX12_rootAt sh k0 x2 M) fun r_12 =>
  zjX12_field_94 sh k0 p1 M r_12)
  else (
  if p1 = (1 : Int32) then (
  zob (zX12_rootAt sh k0 x3 M) fun r_10 =>
  zjX12_field_94 sh k0 p1 M r_10)
  else (
  zjX12_field_94 sh k0 p1 M x2)))
  else (
  zob (zX12_rootAt sh k0 x4 M) fun r_14 =>
  zob (zX12_rootAt sh k0 x2 M) fun r_16 =>
  if r_16 ≤ r_14 then (
  zjX12_field_45 sh k0 p1 M kk21 x2 x3 x4)
  else (
  zjX12_field_45 sh k0 p1 M kk21 x4 x3 x4))
def zlX12_field_21 (sh : zShp) (k0 : Nat) (p1 : Int32) (M : zMem)  : Nat → Int32 → Int32 → Int32 → Option (Int32)
  | 0 => fun _ _ _ => none
  | n + 1 => fun x2 x3 x4 => zbX12_field_21 sh k0 p1 M  (zlX12_field_21 sh k0 p1 M  n) x2 x3 x4
def zX12_field (sh : zShp) (k0 : Nat) (p1 : Int32) (M : zMem) : Option (Int32) :=
  zob (zX12_isIn sh (p1.toInt64) (0 : Int64) (2 : Int64) M) fun r_19 =>
  if r_19 = 0 then (
  some (-1 : Int32))
  else (
  zlX12_field_21 sh k0 p1 M zF (0 : Int32) (0 : Int32) (1 : Int32))
set_option maxHeartbeats 4000000 in
set_option maxRecDepth 100000 in
theorem ztX12_field (l : Launch) (D : va_G) (cy : Nat → ClassId) (sh : zShp) (ad : Nat → Nat) {k0 : Nat} {p1 : Int32} (h0 : zT sh k0 12) {M : zMem} {r : Int32} (hd : zX12_field sh k0 p1 M = some r) : zCI l yX12_field cX12_field 5 .int { frames := 4, cells := 0, slots := 0, locals := 95 } [.ref (ad k0), .int p1] D cy sh ad M r M := by
  refine zci_of (by decide) (Nat.le_of_ble_eq_true rfl) (fun p e s m below meth c ls F hr hlk hl hw => ?_)
  have hx := F.1.1
  have hb := F.1.2.1
  have hl : lv_has ls 5 [(0, .ref (ad k0)), (1, .int p1)] := hl
  have J94 : ∀ (s0 : Int32) (H : Heap) (locs : List Loc) (ls : Array Slot), lv_has ls 5 [] → zWd D cy sh ad s M H locs → zjX12_field_94 sh k0 p1 M  s0 = some r → W p l e { frames := 4, cells := 0, slots := 0, locals := 95 } s m ([.ref (ad k0), .int p1] : List Value).toArray below meth c H locs 0 0 (zQI below D cy sh ad s [.ref (ad k0), .int p1] r M) (F0 m 94 ls [.int s0]) := by
    intro  s0 H locs ls hl hw hd
    unfold zjX12_field_94 at hd
    exact z_iret F hr hlk hw (Option.some.inj hd) rfl dX12_field_94
  have J62 : ∀ (kk21 : Int32 → Int32 → Int32 → Option (Int32)) (hk21 : ∀ (x2 : Int32) (x3 : Int32) (x4 : Int32) (H : Heap) (locs : List Loc) (ls : Array Slot), lv_has ls 5 [(0, .ref (ad k0)), (1, .int p1), (2, .int x2), (3, .int x3), (4, .int x4)] → zWd D cy sh ad s M H locs → kk21 x2 x3 x4 = some r → W p l e { frames := 4, cells := 0, slots := 0, locals := 95 } s m ([.ref (ad k0), .int p1] : List Value).toArray below meth c H locs 0 0 (zQI below D cy sh ad s [.ref (ad k0), .int p1] r M) (F0 m 21 ls [])), ∀ (x2 : Int32) (x3 : Int32) (x4 : Int32) (H : Heap) (locs : List Loc) (ls : Array Slot), lv_has ls 5 [(0, .ref (ad k0)), (1, .int p1), (2, .int x2), (3, .int x3), (4, .int x4)] → zWd D cy sh ad s M H locs → zjX12_field_62 sh k0 p1 M kk21 x2 x3 x4 = some r → W p l e { frames := 4, cells := 0, slots := 0, locals := 95 } s m ([.ref (ad k0), .int p1] : List Value).toArray below meth c H locs 0 0 (zQI below D cy sh ad s [.ref (ad k0), .int p1] r M) (F0 m 62 ls []) := by
    intro kk21 hk21 x2 x3 x4 H locs ls hl hw hd
    unfold zjX12_field_62 at hd
    refine lv_iinc (v := (x4 + (1 : Int32))) (lv' := [(4, .int (x4 + (1 : Int32))), (0, .ref (ad k0)), (1, .int p1), (2, .int x2), (3, .int x3)]) hx hb dX12_field_62 hl (k := 4) rfl (ziinc (by decide)) (by decide) rfl (fun ls hl => ?_)
    refine lv_goto (tgt := 21) hx hb dX12_field_65 (by decide) ?_
    exact hk21 _ _ _ _ _ _ (lv_sub hl [1, 2, 3, 4, 0] rfl) hw hd
  have J45 : ∀ (kk21 : Int32 → Int32 → Int32 → Option (Int32)) (hk21 : ∀ (x2 : Int32) (x3 : Int32) (x4 : Int32) (H : Heap) (locs : List Loc) (ls : Array Slot), lv_has ls 5 [(0, .ref (ad k0)), (1, .int p1), (2, .int x2), (3, .int x3), (4, .int x4)] → zWd D cy sh ad s M H locs → kk21 x2 x3 x4 = some r → W p l e { frames := 4, cells := 0, slots := 0, locals := 95 } s m ([.ref (ad k0), .int p1] : List Value).toArray below meth c H locs 0 0 (zQI below D cy sh ad s [.ref (ad k0), .int p1] r M) (F0 m 21 ls [])), ∀ (x2 : Int32) (x3 : Int32) (x4 : Int32) (H : Heap) (locs : List Loc) (ls : Array Slot), lv_has ls 5 [(0, .ref (ad k0)), (1, .int p1), (2, .int x2), (3, .int x3), (4, .int x4)] → zWd D cy sh ad s M H locs → zjX12_field_45 sh k0 p1 M kk21 x2 x3 x4 = some r → W p l e { frames := 4, cells := 0, slots := 0, locals := 95 } s m ([.ref (ad k0), .int p1] : List Value).toArray below meth c H locs 0 0 (zQI below D cy sh ad s [.ref (ad k0), .int p1] r M) (F0 m 45 ls []) := by
    intro kk21 hk21 x2 x3 x4 H locs ls hl hw hd
    unfold zjX12_field_45 at hd
    refine lv_aload_n hx hb dX12_field_45 rfl (lv_at hl 0 rfl) ?_
    refine lv_iload hx hb dX12_field_46 (lv_at hl 4 rfl) ?_
    obtain ⟨r_2, hc_1, hd⟩ := zob_some hd
    refine z_cvI F hw hl.1 (As := [.int x4]) (rest := []) (ztX12_rootAt l D cy sh ad h0 hc_1) zyX12_rootAt h0 zc12 zk12_270 ⟨rfl, rfl⟩ ⟨by decide, by decide⟩ rfl rfl (Nat.le_of_ble_eq_true rfl) dX12_field_48 (fun H locs hw => ?_)
    refine lv_aload_n hx hb dX12_field_51 rfl (lv_at hl 0 rfl) ?_
    refine lv_iload_n hx hb dX12_field_52 rfl (lv_at hl 3 rfl) ?_
    obtain ⟨r_4, hc_3, hd⟩ := zob_some hd
    refine z_cvI F hw hl.1 (As := [.int x3]) (rest := [.int r_2]) (ztX12_rootAt l D cy sh ad h0 hc_3) zyX12_rootAt h0 zc12 zk12_270 ⟨rfl, rfl⟩ ⟨by decide, by decide⟩ rfl rfl (Nat.le_of_ble_eq_true rfl) dX12_field_53 (fun H locs hw => ?_)
    refine lv_icmp_le (tgt := 62) hx hb dX12_field_56 (by decide) (fun c_5 => ?_) (fun c_5 => ?_)
    · have hd := zif_pos c_5 hd
      exact J62 _ hk21 _ _ _ _ _ _ (lv_sub hl [0, 1, 2, 3, 4] rfl) hw hd
    · have hd := zif_neg c_5 hd
      refine lv_iload hx hb dX12_field_59 (lv_at hl 4 rfl) ?_
      refine lv_istore_n (lv' := [(3, .int x4), (0, .ref (ad k0)), (1, .int p1), (2, .int x2), (4, .int x4)]) hx hb dX12_field_61 rfl hl (by decide) rfl (fun ls hl => ?_)
      exact J62 _ hk21 _ _ _ _ _ _ (lv_sub hl [1, 2, 3, 0, 4] rfl) hw hd
  have L21 : ∀  (n : Nat), ∀ (x2 : Int32) (x3 : Int32) (x4 : Int32) (H : Heap) (locs : List Loc) (ls : Array Slot), lv_has ls 5 [(0, .ref (ad k0)), (1, .int p1), (2, .int x2), (3, .int x3), (4, .int x4)] → zWd D cy sh ad s M H locs → zlX12_field_21 sh k0 p1 M  n x2 x3 x4 = some r → W p l e { frames := 4, cells := 0, slots := 0, locals := 95 } s m ([.ref (ad k0), .int p1] : List Value).toArray below meth c H locs 0 0 (zQI below D cy sh ad s [.ref (ad k0), .int p1] r M) (F0 m 21 ls []) := by
    intro  n
    induction n with
    | zero => intro x2 x3 x4 H locs ls hl hw hd; exact (znone hd).elim
    | succ n hk21 =>
      intro x2 x3 x4 H locs ls hl hw hd
      have hd : zbX12_field_21 sh k0 p1 M  (zlX12_field_21 sh k0 p1 M  n) x2 x3 x4 = some r := hd
      unfold zbX12_field_21 at hd
      refine lv_iload hx hb dX12_field_21 (lv_at hl 4 rfl) ?_
      refine lv_bipush (v := (64 : Int32)) hx hb dX12_field_23 (by decide) ?_
      refine lv_icmp_ge (tgt := 68) hx hb dX12_field_25 (by decide) (fun c_6 => ?_) (fun c_6 => ?_)
      · have hd := zif_pos c_6 hd
        refine lv_iload_n hx hb dX12_field_68 rfl (lv_at hl 1 rfl) ?_
        refine lv_if_ne (tgt := 80) hx hb dX12_field_69 (by decide) (fun c_7 => ?_) (fun c_7 => ?_)
        · have hd := zif_neg c_7 hd
          refine lv_iload_n hx hb dX12_field_80 rfl (lv_at hl 1 rfl) ?_
          refine lv_iconst (v := (1 : Int32)) hx hb dX12_field_81 (by decide) ?_
          refine lv_icmp_ne (tgt := 93) hx hb dX12_field_82 (by decide) (fun c_8 => ?_) (fun c_8 => ?_)
          · have hd := zif_neg c_8 hd
            refine lv_iload_n hx hb dX12_field_93 rfl (lv_at hl 2 rfl) ?_
            exact J94 _ _ _ _ (lv_sub hl [] rfl) hw hd
          · have hd := zif_pos c_8 hd
            refine lv_aload_n hx hb dX12_field_85 rfl (lv_at hl 0 rfl) ?_
            refine lv_iload_n hx hb dX12_field_86 rfl (lv_at hl 3 rfl) ?_
            obtain ⟨r_10, hc_9, hd⟩ := zob_some hd
            refine z_cvI F hw hl.1 (As := [.int x3]) (rest := []) (ztX12_rootAt l D cy sh ad h0 hc_9) zyX12_rootAt h0 zc12 zk12_270 ⟨rfl, rfl⟩ ⟨by decide, by decide⟩ rfl rfl (Nat.le_of_ble_eq_true rfl) dX12_field_87 (fun H locs hw => ?_)
            refine lv_goto (tgt := 94) hx hb dX12_field_90 (by decide) ?_
            exact J94 _ _ _ _ (lv_sub hl [] rfl) hw hd
        · have hd := zif_pos c_7 hd
          refine lv_aload_n hx hb dX12_field_72 rfl (lv_at hl 0 rfl) ?_
          refine lv_iload_n hx hb dX12_field_73 rfl (lv_at hl 2 rfl) ?_
          obtain ⟨r_12, hc_11, hd⟩ := zob_some hd
          refine z_cvI F hw hl.1 (As := [.int x2]) (rest := []) (ztX12_rootAt l D cy sh ad h0 hc_11) zyX12_rootAt h0 zc12 zk12_270 ⟨rfl, rfl⟩ ⟨by decide, by decide⟩ rfl rfl (Nat.le_of_ble_eq_true rfl) dX12_field_74 (fun H locs hw => ?_)
          refine lv_goto (tgt := 94) hx hb dX12_field_77 (by decide) ?_
          exact J94 _ _ _ _ (lv_sub hl [] rfl) hw hd
      · have hd := zif_neg c_6 hd
        refine lv_aload_n hx hb dX12_field_28 rfl (lv_at hl 0 rfl) ?_
        refine lv_iload hx hb dX12_field_29 (lv_at hl 4 rfl) ?_
        obtain ⟨r_14, hc_13, hd⟩ := zob_some hd
        refine z_cvI F hw hl.1 (As := [.int x4]) (rest := []) (ztX12_rootAt l D cy sh ad h0 hc_13) zyX12_rootAt h0 zc12 zk12_270 ⟨rfl, rfl⟩ ⟨by decide, by decide⟩ rfl rfl (Nat.le_of_ble_eq_true rfl) dX12_field_31 (fun H locs hw => ?_)
        refine lv_aload_n hx hb dX12_field_34 rfl (lv_at hl 0 rfl) ?_
        refine lv_iload_n hx hb dX12_field_35 rfl (lv_at hl 2 rfl) ?_
        obtain ⟨r_16, hc_15, hd⟩ := zob_some hd
        refine z_cvI F hw hl.1 (As := [.int x2]) (rest := [.int r_14]) (ztX12_rootAt l D cy sh ad h0 hc_15) zyX12_rootAt h0 zc12 zk12_270 ⟨rfl, rfl⟩ ⟨by decide, by decide⟩ rfl rfl (Nat.le_of_ble_eq_true rfl) dX12_field_36 (fun H locs hw => ?_)
        refine lv_icmp_ge (tgt := 45) hx hb dX12_field_39 (by decide) (fun c_17 => ?_) (fun c_17 => ?_)
        · have hd := zif_pos c_17 hd
          exact J45 _ hk21 _ _ _ _ _ _ (lv_sub hl [0, 1, 2, 3, 4] rfl) hw hd
        · have hd := zif_neg c_17 hd
          refine lv_iload hx hb dX12_field_42 (lv_at hl 4 rfl) ?_
          refine lv_istore_n (lv' := [(2, .int x4), (0, .ref (ad k0)), (1, .int p1), (3, .int x3), (4, .int x4)]) hx hb dX12_field_44 rfl hl (by decide) rfl (fun ls hl => ?_)
          exact J45 _ hk21 _ _ _ _ _ _ (lv_sub hl [1, 2, 0, 3, 4] rfl) hw hd
  unfold zX12_field at hd
  refine lv_iload_n hx hb dX12_field_0 rfl (lv_at hl 1 rfl) ?_
  refine lv_i2l (v := p1.toInt64) hx hb dX12_field_1 rfl ?_
  refine lv_lconst (v := (0 : Int64)) hx hb dX12_field_2 (by decide) ?_
  refine lv_ldc2 (v := (2 : Int64)) hx hb F.1.2.2.2.1 (F.1.2.2.2.2 _ zi12_268) dX12_field_3 ?_
  obtain ⟨r_19, hc_18, hd⟩ := zob_some hd
  refine z_csI F hw hl.1 (As := [.long (p1.toInt64), .long (0 : Int64), .long (2 : Int64)]) (rest := []) (ztX12_isIn l D cy sh ad  hc_18) zyX12_isIn zk12_91 ⟨rfl, rfl⟩ ⟨by decide, by decide⟩ rfl rfl (Nat.le_of_ble_eq_true rfl) dX12_field_6 (fun H locs hw => ?_)
  refine lv_if_ne (tgt := 14) hx hb dX12_field_9 (by decide) (fun c_20 => ?_) (fun c_20 => ?_)
  · have hd := zif_neg c_20 hd
    refine lv_iconst (v := (0 : Int32)) hx hb dX12_field_14 (by decide) ?_
    refine lv_istore_n (lv' := [(2, .int (0 : Int32)), (0, .ref (ad k0)), (1, .int p1)]) hx hb dX12_field_15 rfl hl (by decide) rfl (fun ls hl => ?_)
    refine lv_iconst (v := (0 : Int32)) hx hb dX12_field_16 (by decide) ?_
    refine lv_istore_n (lv' := [(3, .int (0 : Int32)), (2, .int (0 : Int32)), (0, .ref (ad k0)), (1, .int p1)]) hx hb dX12_field_17 rfl hl (by decide) rfl (fun ls hl => ?_)
    refine lv_iconst (v := (1 : Int32)) hx hb dX12_field_18 (by decide) ?_
    refine lv_istore (lv' := [(4, .int (1 : Int32)), (3, .int (0 : Int32)), (2, .int (0 : Int32)), (0, .ref (ad k0)), (1, .int p1)]) hx hb dX12_field_19 hl (by decide) rfl (fun ls hl => ?_)
    exact L21 zF _ _ _ _ _ _ (lv_sub hl [3, 4, 2, 1, 0] rfl) hw hd
  · have hd := zif_pos c_20 hd
    refine lv_iconst (v := (-1 : Int32)) hx hb dX12_field_12 (by decide) ?_
    exact z_iret F hr hlk hw (Option.some.inj hd) rfl dX12_field_13

def zjX12_mend_107 (sh : zShp) (k0 : Nat) (p1 : Int32) (kk30 : Int32 → Int32 → Int32 → Int32 → zMem → Option (Int32 × zMem)) (x2 : Int32) (x3 : Int32) (x4 : Int32) (x5 : Int32) (M : zMem) : Option (Int32 × zMem) :=
  kk30 x2 x3 x4 (x5 + (1 : Int32)) M
def zjX12_mend_100 (sh : zShp) (k0 : Nat) (p1 : Int32) (kk30 : Int32 → Int32 → Int32 → Int32 → zMem → Option (Int32 × zMem)) (x2 : Int32) (x5 : Int32) (x6 : Int32) (x7 : Int32) (M : zMem) : Option (Int32 × zMem) :=
  zjX12_mend_107 sh k0 p1 kk30 x2 x6 x7 x5 M
def zjX12_mend_60 (sh : zShp) (k0 : Nat) (p1 : Int32) (kk30 : Int32 → Int32 → Int32 → Int32 → zMem → Option (Int32 × zMem)) (x2 : Int32) (x3 : Int32) (x4 : Int32) (x5 : Int32) (s0 : Int32) (M : zMem) : Option (Int32 × zMem) :=
  zgd (zin p1 (zlen sh (zR M k0 18))) <|
  zbd (zpI M (zR M k0 18) (p1.toNatClampNeg) s0) fun M_3 =>
  zob (zX12_rootAt sh k0 p1 M_3) fun r_5 =>
  zob (zX12_size sh (r_5 - (1000 : Int32)) M_3) fun r_7 =>
  if x4 = (-1 : Int32) then (
  zjX12_mend_100 sh k0 p1 kk30 x2 x5 s0 r_7 M_3)
  else (
  if r_7 < x4 then (
  zjX12_mend_100 sh k0 p1 kk30 x2 x5 s0 r_7 M_3)
  else (
  zjX12_mend_107 sh k0 p1 kk30 x2 x3 x4 x5 M_3))
def zbX12_mend_30 (sh : zShp) (k0 : Nat) (p1 : Int32)  (kk30 : Int32 → Int32 → Int32 → Int32 → zMem → Option (Int32 × zMem)) (x2 : Int32) (x3 : Int32) (x4 : Int32) (x5 : Int32) (M : zMem) : Option (Int32 × zMem) :=
  if (400 : Int32) < x5 then (
  zgd (zin p1 (zlen sh (zR M k0 18))) <|
  zbd (zpI M (zR M k0 18) (p1.toNatClampNeg) x2) fun M_13 =>
  some (x3, M_13))
  else (
  if (zrem x5 (2 : Int32)) = (1 : Int32) then (
  zjX12_mend_60 sh k0 p1 kk30 x2 x3 x4 x5 (-((x5 + (1 : Int32)) / (2 : Int32))) M)
  else (
  zjX12_mend_60 sh k0 p1 kk30 x2 x3 x4 x5 (x5 / (2 : Int32)) M))
def zlX12_mend_30 (sh : zShp) (k0 : Nat) (p1 : Int32)  : Nat → Int32 → Int32 → Int32 → Int32 → zMem → Option (Int32 × zMem)
  | 0 => fun _ _ _ _ _ => none
  | n + 1 => fun x2 x3 x4 x5 M => zbX12_mend_30 sh k0 p1  (zlX12_mend_30 sh k0 p1  n) x2 x3 x4 x5 M
def zX12_mend (sh : zShp) (k0 : Nat) (p1 : Int32) (M : zMem) : Option (Int32 × zMem) :=
  zob (zX12_isIn sh (p1.toInt64) (0 : Int64) (64 : Int64) M) fun r_16 =>
  if r_16 = 0 then (
  some ((-2147483648 : Int32), M))
  else (
  zgd (zin p1 (zlen sh (zR M k0 18))) <|
  zbd ((zI M (zR M k0 18) p1.toNatClampNeg)) fun v_20 =>
  zlX12_mend_30 sh k0 p1 zF v_20 (0 : Int32) (-1 : Int32) (0 : Int32) M)
set_option maxHeartbeats 4000000 in
set_option maxRecDepth 100000 in
theorem ztX12_mend (l : Launch) (D : va_G) (cy : Nat → ClassId) (sh : zShp) (ad : Nat → Nat) {k0 : Nat} {p1 : Int32} (h0 : zT sh k0 12) {M : zMem} {r : Int32} {M1 : zMem} (hd : zX12_mend sh k0 p1 M = some (r, M1)) : zCI l yX12_mend cX12_mend 8 .int { frames := 4, cells := 0, slots := 0, locals := 95 } [.ref (ad k0), .int p1] D cy sh ad M r M1 := by
  refine zci_of (by decide) (Nat.le_of_ble_eq_true rfl) (fun p e s m below meth c ls F hr hlk hl hw => ?_)
  have hx := F.1.1
  have hb := F.1.2.1
  have hl : lv_has ls 8 [(0, .ref (ad k0)), (1, .int p1)] := hl
  have J107 : ∀ (kk30 : Int32 → Int32 → Int32 → Int32 → zMem → Option (Int32 × zMem)) (hk30 : ∀ (x2 : Int32) (x3 : Int32) (x4 : Int32) (x5 : Int32) (M : zMem) (H : Heap) (locs : List Loc) (ls : Array Slot), lv_has ls 8 [(0, .ref (ad k0)), (1, .int p1), (2, .int x2), (3, .int x3), (4, .int x4), (5, .int x5)] → zWd D cy sh ad s M H locs → kk30 x2 x3 x4 x5 M = some (r, M1) → W p l e { frames := 4, cells := 0, slots := 0, locals := 95 } s m ([.ref (ad k0), .int p1] : List Value).toArray below meth c H locs 0 0 (zQI below D cy sh ad s [.ref (ad k0), .int p1] r M1) (F0 m 30 ls [])), ∀ (x2 : Int32) (x3 : Int32) (x4 : Int32) (x5 : Int32) (M : zMem) (H : Heap) (locs : List Loc) (ls : Array Slot), lv_has ls 8 [(0, .ref (ad k0)), (1, .int p1), (2, .int x2), (3, .int x3), (4, .int x4), (5, .int x5)] → zWd D cy sh ad s M H locs → zjX12_mend_107 sh k0 p1 kk30 x2 x3 x4 x5 M = some (r, M1) → W p l e { frames := 4, cells := 0, slots := 0, locals := 95 } s m ([.ref (ad k0), .int p1] : List Value).toArray below meth c H locs 0 0 (zQI below D cy sh ad s [.ref (ad k0), .int p1] r M1) (F0 m 107 ls []) := by
    intro kk30 hk30 x2 x3 x4 x5 M H locs ls hl hw hd
    unfold zjX12_mend_107 at hd
    refine lv_iinc (v := (x5 + (1 : Int32))) (lv' := [(5, .int (x5 + (1 : Int32))), (0, .ref (ad k0)), (1, .int p1), (2, .int x2), (3, .int x3), (4, .int x4)]) hx hb dX12_mend_107 hl (k := 5) rfl (ziinc (by decide)) (by decide) rfl (fun ls hl => ?_)
    refine lv_goto (tgt := 30) hx hb dX12_mend_110 (by decide) ?_
    exact hk30 _ _ _ _ _ _ _ _ (lv_sub hl [1, 2, 3, 4, 5, 0] rfl) hw hd
  have J100 : ∀ (kk30 : Int32 → Int32 → Int32 → Int32 → zMem → Option (Int32 × zMem)) (hk30 : ∀ (x2 : Int32) (x3 : Int32) (x4 : Int32) (x5 : Int32) (M : zMem) (H : Heap) (locs : List Loc) (ls : Array Slot), lv_has ls 8 [(0, .ref (ad k0)), (1, .int p1), (2, .int x2), (3, .int x3), (4, .int x4), (5, .int x5)] → zWd D cy sh ad s M H locs → kk30 x2 x3 x4 x5 M = some (r, M1) → W p l e { frames := 4, cells := 0, slots := 0, locals := 95 } s m ([.ref (ad k0), .int p1] : List Value).toArray below meth c H locs 0 0 (zQI below D cy sh ad s [.ref (ad k0), .int p1] r M1) (F0 m 30 ls [])), ∀ (x2 : Int32) (x5 : Int32) (x6 : Int32) (x7 : Int32) (M : zMem) (H : Heap) (locs : List Loc) (ls : Array Slot), lv_has ls 8 [(0, .ref (ad k0)), (1, .int p1), (2, .int x2), (5, .int x5), (6, .int x6), (7, .int x7)] → zWd D cy sh ad s M H locs → zjX12_mend_100 sh k0 p1 kk30 x2 x5 x6 x7 M = some (r, M1) → W p l e { frames := 4, cells := 0, slots := 0, locals := 95 } s m ([.ref (ad k0), .int p1] : List Value).toArray below meth c H locs 0 0 (zQI below D cy sh ad s [.ref (ad k0), .int p1] r M1) (F0 m 100 ls []) := by
    intro kk30 hk30 x2 x5 x6 x7 M H locs ls hl hw hd
    unfold zjX12_mend_100 at hd
    refine lv_iload hx hb dX12_mend_100 (lv_at hl 4 rfl) ?_
    refine lv_istore_n (lv' := [(3, .int x6), (0, .ref (ad k0)), (1, .int p1), (2, .int x2), (5, .int x5), (6, .int x6), (7, .int x7)]) hx hb dX12_mend_102 rfl hl (by decide) rfl (fun ls hl => ?_)
    refine lv_iload hx hb dX12_mend_103 (lv_at hl 6 rfl) ?_
    refine lv_istore (lv' := [(4, .int x7), (3, .int x6), (0, .ref (ad k0)), (1, .int p1), (2, .int x2), (5, .int x5), (6, .int x6), (7, .int x7)]) hx hb dX12_mend_105 hl (by decide) rfl (fun ls hl => ?_)
    exact J107 _ hk30 _ _ _ _ _ _ _ _ (lv_sub hl [2, 3, 4, 1, 0, 5] rfl) hw hd
  have J60 : ∀ (kk30 : Int32 → Int32 → Int32 → Int32 → zMem → Option (Int32 × zMem)) (hk30 : ∀ (x2 : Int32) (x3 : Int32) (x4 : Int32) (x5 : Int32) (M : zMem) (H : Heap) (locs : List Loc) (ls : Array Slot), lv_has ls 8 [(0, .ref (ad k0)), (1, .int p1), (2, .int x2), (3, .int x3), (4, .int x4), (5, .int x5)] → zWd D cy sh ad s M H locs → kk30 x2 x3 x4 x5 M = some (r, M1) → W p l e { frames := 4, cells := 0, slots := 0, locals := 95 } s m ([.ref (ad k0), .int p1] : List Value).toArray below meth c H locs 0 0 (zQI below D cy sh ad s [.ref (ad k0), .int p1] r M1) (F0 m 30 ls [])), ∀ (x2 : Int32) (x3 : Int32) (x4 : Int32) (x5 : Int32) (s0 : Int32) (M : zMem) (H : Heap) (locs : List Loc) (ls : Array Slot), lv_has ls 8 [(0, .ref (ad k0)), (1, .int p1), (2, .int x2), (3, .int x3), (4, .int x4), (5, .int x5)] → zWd D cy sh ad s M H locs → zjX12_mend_60 sh k0 p1 kk30 x2 x3 x4 x5 s0 M = some (r, M1) → W p l e { frames := 4, cells := 0, slots := 0, locals := 95 } s m ([.ref (ad k0), .int p1] : List Value).toArray below meth c H locs 0 0 (zQI below D cy sh ad s [.ref (ad k0), .int p1] r M1) (F0 m 60 ls [.int s0]) := by
    intro kk30 hk30 x2 x3 x4 x5 s0 M H locs ls hl hw hd
    unfold zjX12_mend_60 at hd
    refine lv_istore (lv' := [(6, .int s0), (0, .ref (ad k0)), (1, .int p1), (2, .int x2), (3, .int x3), (4, .int x4), (5, .int x5)]) hx hb dX12_mend_60 hl (by decide) rfl (fun ls hl => ?_)
    refine lv_aload_n hx hb dX12_mend_62 rfl (lv_at hl 1 rfl) ?_
    refine z_gR F hw h0 zc12 18 (by decide) rfl zf12_39 dX12_mend_63 ?_
    have t_1 : zT sh (zR M k0 18) 14 := hw.2.2.2.fld h0 18 14
    refine lv_iload_n hx hb dX12_mend_66 rfl (lv_at hl 2 rfl) ?_
    refine lv_iload hx hb dX12_mend_67 (lv_at hl 0 rfl) ?_
    obtain ⟨g_2, hd⟩ := zgd_some hd
    refine z_iast F hw t_1 g_2 dX12_mend_69 (fun H locs M_3 eM_3 hw => ?_)
    have hd := zbd_eq eM_3 hd
    refine lv_aload_n hx hb dX12_mend_70 rfl (lv_at hl 1 rfl) ?_
    refine lv_iload_n hx hb dX12_mend_71 rfl (lv_at hl 2 rfl) ?_
    obtain ⟨r_5, hc_4, hd⟩ := zob_some hd
    refine z_cvI F hw hl.1 (As := [.int p1]) (rest := []) (ztX12_rootAt l D cy sh ad h0 hc_4) zyX12_rootAt h0 zc12 zk12_270 ⟨rfl, rfl⟩ ⟨by decide, by decide⟩ rfl rfl (Nat.le_of_ble_eq_true rfl) dX12_mend_72 (fun H locs hw => ?_)
    refine lv_sipush (v := (1000 : Int32)) hx hb dX12_mend_75 (by decide) ?_
    refine lv_isub hx hb dX12_mend_78 ?_
    obtain ⟨r_7, hc_6, hd⟩ := zob_some hd
    refine z_csI F hw hl.1 (As := [.int (r_5 - (1000 : Int32))]) (rest := []) (ztX12_size l D cy sh ad  hc_6) zyX12_size zk12_273 ⟨rfl, rfl⟩ ⟨by decide, by decide⟩ rfl rfl (Nat.le_of_ble_eq_true rfl) dX12_mend_79 (fun H locs hw => ?_)
    refine lv_istore (lv' := [(7, .int r_7), (6, .int s0), (0, .ref (ad k0)), (1, .int p1), (2, .int x2), (3, .int x3), (4, .int x4), (5, .int x5)]) hx hb dX12_mend_82 hl (by decide) rfl (fun ls hl => ?_)
    refine lv_iload hx hb dX12_mend_84 (lv_at hl 6 rfl) ?_
    refine lv_iconst (v := (-1 : Int32)) hx hb dX12_mend_86 (by decide) ?_
    refine lv_icmp_eq (tgt := 100) hx hb dX12_mend_87 (by decide) (fun c_8 => ?_) (fun c_8 => ?_)
    · have hd := zif_pos c_8 hd
      exact J100 _ hk30 _ _ _ _ _ _ _ _ (lv_sub hl [2, 3, 4, 7, 1, 0] rfl) hw hd
    · have hd := zif_neg c_8 hd
      refine lv_iload hx hb dX12_mend_90 (lv_at hl 0 rfl) ?_
      refine lv_iload hx hb dX12_mend_92 (lv_at hl 6 rfl) ?_
      refine lv_icmp_lt (tgt := 100) hx hb dX12_mend_94 (by decide) (fun c_9 => ?_) (fun c_9 => ?_)
      · have hd := zif_pos c_9 hd
        exact J100 _ hk30 _ _ _ _ _ _ _ _ (lv_sub hl [2, 3, 4, 7, 1, 0] rfl) hw hd
      · have hd := zif_neg c_9 hd
        refine lv_goto (tgt := 107) hx hb dX12_mend_97 (by decide) ?_
        exact J107 _ hk30 _ _ _ _ _ _ _ _ (lv_sub hl [2, 3, 4, 5, 6, 7] rfl) hw hd
  have L30 : ∀  (n : Nat), ∀ (x2 : Int32) (x3 : Int32) (x4 : Int32) (x5 : Int32) (M : zMem) (H : Heap) (locs : List Loc) (ls : Array Slot), lv_has ls 8 [(0, .ref (ad k0)), (1, .int p1), (2, .int x2), (3, .int x3), (4, .int x4), (5, .int x5)] → zWd D cy sh ad s M H locs → zlX12_mend_30 sh k0 p1  n x2 x3 x4 x5 M = some (r, M1) → W p l e { frames := 4, cells := 0, slots := 0, locals := 95 } s m ([.ref (ad k0), .int p1] : List Value).toArray below meth c H locs 0 0 (zQI below D cy sh ad s [.ref (ad k0), .int p1] r M1) (F0 m 30 ls []) := by
    intro  n
    induction n with
    | zero => intro x2 x3 x4 x5 M H locs ls hl hw hd; exact (znone hd).elim
    | succ n hk30 =>
      intro x2 x3 x4 x5 M H locs ls hl hw hd
      have hd : zbX12_mend_30 sh k0 p1  (zlX12_mend_30 sh k0 p1  n) x2 x3 x4 x5 M = some (r, M1) := hd
      unfold zbX12_mend_30 at hd
      refine lv_iload hx hb dX12_mend_30 (lv_at hl 5 rfl) ?_
      refine lv_sipush (v := (400 : Int32)) hx hb dX12_mend_32 (by decide) ?_
      refine lv_icmp_gt (tgt := 113) hx hb dX12_mend_35 (by decide) (fun c_10 => ?_) (fun c_10 => ?_)
      · have hd := zif_pos c_10 hd
        refine lv_aload_n hx hb dX12_mend_113 rfl (lv_at hl 0 rfl) ?_
        refine z_gR F hw h0 zc12 18 (by decide) rfl zf12_39 dX12_mend_114 ?_
        have t_11 : zT sh (zR M k0 18) 14 := hw.2.2.2.fld h0 18 14
        refine lv_iload_n hx hb dX12_mend_117 rfl (lv_at hl 1 rfl) ?_
        refine lv_iload_n hx hb dX12_mend_118 rfl (lv_at hl 2 rfl) ?_
        obtain ⟨g_12, hd⟩ := zgd_some hd
        refine z_iast F hw t_11 g_12 dX12_mend_119 (fun H locs M_13 eM_13 hw => ?_)
        have hd := zbd_eq eM_13 hd
        refine lv_iload_n hx hb dX12_mend_120 rfl (lv_at hl 3 rfl) ?_
        exact z_iret F hr hlk hw (zpr1 hd) (zpr2 hd) dX12_mend_121
      · have hd := zif_neg c_10 hd
        refine lv_iload hx hb dX12_mend_38 (lv_at hl 5 rfl) ?_
        refine lv_iconst (v := (2 : Int32)) hx hb dX12_mend_40 (by decide) ?_
        refine z_irem hx hb dX12_mend_41 (by decide) ?_
        refine lv_iconst (v := (1 : Int32)) hx hb dX12_mend_42 (by decide) ?_
        refine lv_icmp_ne (tgt := 56) hx hb dX12_mend_43 (by decide) (fun c_14 => ?_) (fun c_14 => ?_)
        · have hd := zif_neg c_14 hd
          refine lv_iload hx hb dX12_mend_56 (lv_at hl 5 rfl) ?_
          refine lv_iconst (v := (2 : Int32)) hx hb dX12_mend_58 (by decide) ?_
          refine lv_idiv hx hb dX12_mend_59 (by decide) ?_
          exact J60 _ hk30 _ _ _ _ _ _ _ _ _ (lv_sub hl [0, 1, 2, 3, 4, 5] rfl) hw hd
        · have hd := zif_pos c_14 hd
          refine lv_iload hx hb dX12_mend_46 (lv_at hl 5 rfl) ?_
          refine lv_iconst (v := (1 : Int32)) hx hb dX12_mend_48 (by decide) ?_
          refine lv_iadd hx hb dX12_mend_49 ?_
          refine lv_iconst (v := (2 : Int32)) hx hb dX12_mend_50 (by decide) ?_
          refine lv_idiv hx hb dX12_mend_51 (by decide) ?_
          refine lv_ineg hx hb dX12_mend_52 ?_
          refine lv_goto (tgt := 60) hx hb dX12_mend_53 (by decide) ?_
          exact J60 _ hk30 _ _ _ _ _ _ _ _ _ (lv_sub hl [0, 1, 2, 3, 4, 5] rfl) hw hd
  unfold zX12_mend at hd
  refine lv_iload_n hx hb dX12_mend_0 rfl (lv_at hl 1 rfl) ?_
  refine lv_i2l (v := p1.toInt64) hx hb dX12_mend_1 rfl ?_
  refine lv_lconst (v := (0 : Int64)) hx hb dX12_mend_2 (by decide) ?_
  refine lv_ldc2 (v := (64 : Int64)) hx hb F.1.2.2.2.1 (F.1.2.2.2.2 _ zi12_252) dX12_mend_3 ?_
  obtain ⟨r_16, hc_15, hd⟩ := zob_some hd
  refine z_csI F hw hl.1 (As := [.long (p1.toInt64), .long (0 : Int64), .long (64 : Int64)]) (rest := []) (ztX12_isIn l D cy sh ad  hc_15) zyX12_isIn zk12_91 ⟨rfl, rfl⟩ ⟨by decide, by decide⟩ rfl rfl (Nat.le_of_ble_eq_true rfl) dX12_mend_6 (fun H locs hw => ?_)
  refine lv_if_ne (tgt := 15) hx hb dX12_mend_9 (by decide) (fun c_17 => ?_) (fun c_17 => ?_)
  · have hd := zif_neg c_17 hd
    refine lv_aload_n hx hb dX12_mend_15 rfl (lv_at hl 0 rfl) ?_
    refine z_gR F hw h0 zc12 18 (by decide) rfl zf12_39 dX12_mend_16 ?_
    have t_18 : zT sh (zR M k0 18) 14 := hw.2.2.2.fld h0 18 14
    refine lv_iload_n hx hb dX12_mend_19 rfl (lv_at hl 1 rfl) ?_
    obtain ⟨g_19, hd⟩ := zgd_some hd
    refine z_iald F hw t_18 g_19 dX12_mend_20 ?_
    refine lv_topi (fun v_20 ev_20 => ?_)
    have hd := zbd_eq ev_20 hd
    refine lv_istore_n (lv' := [(2, .int v_20), (0, .ref (ad k0)), (1, .int p1)]) hx hb dX12_mend_21 rfl hl (by decide) rfl (fun ls hl => ?_)
    refine lv_iconst (v := (0 : Int32)) hx hb dX12_mend_22 (by decide) ?_
    refine lv_istore_n (lv' := [(3, .int (0 : Int32)), (2, .int v_20), (0, .ref (ad k0)), (1, .int p1)]) hx hb dX12_mend_23 rfl hl (by decide) rfl (fun ls hl => ?_)
    refine lv_iconst (v := (-1 : Int32)) hx hb dX12_mend_24 (by decide) ?_
    refine lv_istore (lv' := [(4, .int (-1 : Int32)), (3, .int (0 : Int32)), (2, .int v_20), (0, .ref (ad k0)), (1, .int p1)]) hx hb dX12_mend_25 hl (by decide) rfl (fun ls hl => ?_)
    refine lv_iconst (v := (0 : Int32)) hx hb dX12_mend_27 (by decide) ?_
    refine lv_istore (lv' := [(5, .int (0 : Int32)), (4, .int (-1 : Int32)), (3, .int (0 : Int32)), (2, .int v_20), (0, .ref (ad k0)), (1, .int p1)]) hx hb dX12_mend_28 hl (by decide) rfl (fun ls hl => ?_)
    exact L30 zF _ _ _ _ _ _ _ _ (lv_sub hl [4, 5, 3, 2, 1, 0] rfl) hw hd
  · have hd := zif_pos c_17 hd
    refine lv_ldc (v := (-2147483648 : Int32)) hx hb F.1.2.2.2.1 (F.1.2.2.2.2 _ zi12_254) dX12_mend_12 ?_
    exact z_iret F hr hlk hw (zpr1 hd) (zpr2 hd) dX12_mend_14

def zbX12_tuned_111 (sh : zShp) (k0 : Nat) (p1 : Int32)  (kk111 : Int32 → Int32 → zMem → Option (Int32 × zMem)) (x3 : Int32) (x4 : Int32) (M : zMem) : Option (Int32 × zMem) :=
  if (64 : Int32) < x4 then (
  some (x3, M))
  else (
  zgd (zin x4 (zlen sh (zR M k0 34))) <|
  zgd (zin x4 (zlen sh (zR M k0 18))) <|
  zbd (zpI M (zR M k0 18) (x4.toNatClampNeg) (zI M (zR M k0 34) x4.toNatClampNeg)) fun M_6 =>
  kk111 x3 (x4 + (1 : Int32)) M_6)
def zlX12_tuned_111 (sh : zShp) (k0 : Nat) (p1 : Int32)  : Nat → Int32 → Int32 → zMem → Option (Int32 × zMem)
  | 0 => fun _ _ _ => none
  | n + 1 => fun x3 x4 M => zbX12_tuned_111 sh k0 p1  (zlX12_tuned_111 sh k0 p1  n) x3 x4 M
def zjX12_tuned_107 (sh : zShp) (k0 : Nat) (p1 : Int32)  (s0 : Int32) (M : zMem) : Option (Int32 × zMem) :=
  zlX12_tuned_111 sh k0 p1 zF s0 (0 : Int32) M
def zjX12_tuned_82 (sh : zShp) (k0 : Nat) (p1 : Int32) (kk44 : Int32 → Int32 → zMem → Option (Int32 × zMem)) (x3 : Int32) (s0 : Int32) (s1 : Int32) (M : zMem) : Option (Int32 × zMem) :=
  zob (zX12_truth sh s1 M) fun r_8 =>
  kk44 (s0 + r_8) (x3 + (1 : Int32)) M
def zbX12_tuned_44 (sh : zShp) (k0 : Nat) (p1 : Int32)  (kk44 : Int32 → Int32 → zMem → Option (Int32 × zMem)) (x2 : Int32) (x3 : Int32) (M : zMem) : Option (Int32 × zMem) :=
  if (64 : Int32) < x3 then (
  if p1 = (2 : Int32) then (
  zjX12_tuned_107 sh k0 p1 x2 M)
  else (
  zob (zX12_field sh k0 p1 M) fun r_12 =>
  zjX12_tuned_107 sh k0 p1 r_12 M))
  else (
  zob2 (zX12_mend sh k0 x3 M) fun r_15 M_16 =>
  zgd (zin x3 (zlen sh (zR M k0 18))) <|
  zbd (zpI M_16 (zR M k0 18) (x3.toNatClampNeg) r_15) fun M_18 =>
  zgd (zin x3 (zlen sh (zR M_18 k0 18))) <|
  zgd (zin x3 (zlen sh (zR M_18 k0 34))) <|
  if (zI M_18 (zR M_18 k0 18) x3.toNatClampNeg) = (zI M_18 (zR M_18 k0 34) x3.toNatClampNeg) then (
  zjX12_tuned_82 sh k0 p1 kk44 x3 x2 (0 : Int32) M_18)
  else (
  zjX12_tuned_82 sh k0 p1 kk44 x3 x2 (1 : Int32) M_18))
def zlX12_tuned_44 (sh : zShp) (k0 : Nat) (p1 : Int32)  : Nat → Int32 → Int32 → zMem → Option (Int32 × zMem)
  | 0 => fun _ _ _ => none
  | n + 1 => fun x2 x3 M => zbX12_tuned_44 sh k0 p1  (zlX12_tuned_44 sh k0 p1  n) x2 x3 M
def zbX12_tuned_18 (sh : zShp) (k0 : Nat) (p1 : Int32)  (kk18 : Int32 → Int32 → zMem → Option (Int32 × zMem)) (x2 : Int32) (x3 : Int32) (M : zMem) : Option (Int32 × zMem) :=
  if (64 : Int32) < x3 then (
  zlX12_tuned_44 sh k0 p1 zF x2 (0 : Int32) M)
  else (
  zgd (zin x3 (zlen sh (zR M k0 18))) <|
  zgd (zin x3 (zlen sh (zR M k0 34))) <|
  zbd (zpI M (zR M k0 34) (x3.toNatClampNeg) (zI M (zR M k0 18) x3.toNatClampNeg)) fun M_29 =>
  kk18 x2 (x3 + (1 : Int32)) M_29)
def zlX12_tuned_18 (sh : zShp) (k0 : Nat) (p1 : Int32)  : Nat → Int32 → Int32 → zMem → Option (Int32 × zMem)
  | 0 => fun _ _ _ => none
  | n + 1 => fun x2 x3 M => zbX12_tuned_18 sh k0 p1  (zlX12_tuned_18 sh k0 p1  n) x2 x3 M
def zX12_tuned (sh : zShp) (k0 : Nat) (p1 : Int32) (M : zMem) : Option (Int32 × zMem) :=
  zob (zX12_isIn sh (p1.toInt64) (0 : Int64) (2 : Int64) M) fun r_31 =>
  if r_31 = 0 then (
  some ((-1 : Int32), M))
  else (
  zlX12_tuned_18 sh k0 p1 zF (0 : Int32) (0 : Int32) M)
set_option maxHeartbeats 4000000 in
set_option maxRecDepth 100000 in
theorem ztX12_tuned (l : Launch) (D : va_G) (cy : Nat → ClassId) (sh : zShp) (ad : Nat → Nat) {k0 : Nat} {p1 : Int32} (h0 : zT sh k0 12) {M : zMem} {r : Int32} {M1 : zMem} (hd : zX12_tuned sh k0 p1 M = some (r, M1)) : zCI l yX12_tuned cX12_tuned 5 .int { frames := 5, cells := 0, slots := 0, locals := 122 } [.ref (ad k0), .int p1] D cy sh ad M r M1 := by
  refine zci_of (by decide) (Nat.le_of_ble_eq_true rfl) (fun p e s m below meth c ls F hr hlk hl hw => ?_)
  have hx := F.1.1
  have hb := F.1.2.1
  have hl : lv_has ls 5 [(0, .ref (ad k0)), (1, .int p1)] := hl
  have L111 : ∀  (n : Nat), ∀ (x3 : Int32) (x4 : Int32) (M : zMem) (H : Heap) (locs : List Loc) (ls : Array Slot), lv_has ls 5 [(0, .ref (ad k0)), (3, .int x3), (4, .int x4)] → zWd D cy sh ad s M H locs → zlX12_tuned_111 sh k0 p1  n x3 x4 M = some (r, M1) → W p l e { frames := 5, cells := 0, slots := 0, locals := 122 } s m ([.ref (ad k0), .int p1] : List Value).toArray below meth c H locs 0 0 (zQI below D cy sh ad s [.ref (ad k0), .int p1] r M1) (F0 m 111 ls []) := by
    intro  n
    induction n with
    | zero => intro x3 x4 M H locs ls hl hw hd; exact (znone hd).elim
    | succ n hk111 =>
      intro x3 x4 M H locs ls hl hw hd
      have hd : zbX12_tuned_111 sh k0 p1  (zlX12_tuned_111 sh k0 p1  n) x3 x4 M = some (r, M1) := hd
      unfold zbX12_tuned_111 at hd
      refine lv_iload hx hb dX12_tuned_111 (lv_at hl 2 rfl) ?_
      refine lv_bipush (v := (64 : Int32)) hx hb dX12_tuned_113 (by decide) ?_
      refine lv_icmp_gt (tgt := 138) hx hb dX12_tuned_115 (by decide) (fun c_1 => ?_) (fun c_1 => ?_)
      · have hd := zif_pos c_1 hd
        refine lv_iload_n hx hb dX12_tuned_138 rfl (lv_at hl 1 rfl) ?_
        exact z_iret F hr hlk hw (zpr1 hd) (zpr2 hd) dX12_tuned_139
      · have hd := zif_neg c_1 hd
        refine lv_aload_n hx hb dX12_tuned_118 rfl (lv_at hl 0 rfl) ?_
        refine z_gR F hw h0 zc12 18 (by decide) rfl zf12_39 dX12_tuned_119 ?_
        have t_2 : zT sh (zR M k0 18) 14 := hw.2.2.2.fld h0 18 14
        refine lv_iload hx hb dX12_tuned_122 (lv_at hl 2 rfl) ?_
        refine lv_aload_n hx hb dX12_tuned_124 rfl (lv_at hl 0 rfl) ?_
        refine z_gR F hw h0 zc12 34 (by decide) rfl zf12_55 dX12_tuned_125 ?_
        have t_3 : zT sh (zR M k0 34) 14 := hw.2.2.2.fld h0 34 14
        refine lv_iload hx hb dX12_tuned_128 (lv_at hl 2 rfl) ?_
        obtain ⟨g_4, hd⟩ := zgd_some hd
        refine z_iald F hw t_3 g_4 dX12_tuned_130 ?_
        obtain ⟨g_5, hd⟩ := zgd_some hd
        refine z_iast F hw t_2 g_5 dX12_tuned_131 (fun H locs M_6 eM_6 hw => ?_)
        have hd := zbd_eq eM_6 hd
        refine lv_iinc (v := (x4 + (1 : Int32))) (lv' := [(4, .int (x4 + (1 : Int32))), (0, .ref (ad k0)), (3, .int x3)]) hx hb dX12_tuned_132 hl (k := 2) rfl (ziinc (by decide)) (by decide) rfl (fun ls hl => ?_)
        refine lv_goto (tgt := 111) hx hb dX12_tuned_135 (by decide) ?_
        exact hk111 _ _ _ _ _ _ (lv_sub hl [1, 2, 0] rfl) hw hd
  have J107 : ∀ (s0 : Int32) (M : zMem) (H : Heap) (locs : List Loc) (ls : Array Slot), lv_has ls 5 [(0, .ref (ad k0))] → zWd D cy sh ad s M H locs → zjX12_tuned_107 sh k0 p1  s0 M = some (r, M1) → W p l e { frames := 5, cells := 0, slots := 0, locals := 122 } s m ([.ref (ad k0), .int p1] : List Value).toArray below meth c H locs 0 0 (zQI below D cy sh ad s [.ref (ad k0), .int p1] r M1) (F0 m 107 ls [.int s0]) := by
    intro  s0 M H locs ls hl hw hd
    unfold zjX12_tuned_107 at hd
    refine lv_istore_n (lv' := [(3, .int s0), (0, .ref (ad k0))]) hx hb dX12_tuned_107 rfl hl (by decide) rfl (fun ls hl => ?_)
    refine lv_iconst (v := (0 : Int32)) hx hb dX12_tuned_108 (by decide) ?_
    refine lv_istore (lv' := [(4, .int (0 : Int32)), (3, .int s0), (0, .ref (ad k0))]) hx hb dX12_tuned_109 hl (by decide) rfl (fun ls hl => ?_)
    exact L111 zF _ _ _ _ _ _ (lv_sub hl [2, 1, 0] rfl) hw hd
  have J82 : ∀ (kk44 : Int32 → Int32 → zMem → Option (Int32 × zMem)) (hk44 : ∀ (x2 : Int32) (x3 : Int32) (M : zMem) (H : Heap) (locs : List Loc) (ls : Array Slot), lv_has ls 5 [(0, .ref (ad k0)), (1, .int p1), (2, .int x2), (3, .int x3)] → zWd D cy sh ad s M H locs → kk44 x2 x3 M = some (r, M1) → W p l e { frames := 5, cells := 0, slots := 0, locals := 122 } s m ([.ref (ad k0), .int p1] : List Value).toArray below meth c H locs 0 0 (zQI below D cy sh ad s [.ref (ad k0), .int p1] r M1) (F0 m 44 ls [])), ∀ (x3 : Int32) (s0 : Int32) (s1 : Int32) (M : zMem) (H : Heap) (locs : List Loc) (ls : Array Slot), lv_has ls 5 [(0, .ref (ad k0)), (1, .int p1), (3, .int x3)] → zWd D cy sh ad s M H locs → zjX12_tuned_82 sh k0 p1 kk44 x3 s0 s1 M = some (r, M1) → W p l e { frames := 5, cells := 0, slots := 0, locals := 122 } s m ([.ref (ad k0), .int p1] : List Value).toArray below meth c H locs 0 0 (zQI below D cy sh ad s [.ref (ad k0), .int p1] r M1) (F0 m 82 ls [.int s1, .int s0]) := by
    intro kk44 hk44 x3 s0 s1 M H locs ls hl hw hd
    unfold zjX12_tuned_82 at hd
    obtain ⟨r_8, hc_7, hd⟩ := zob_some hd
    refine z_csI F hw hl.1 (As := [.int s1]) (rest := [.int s0]) (ztX12_truth l D cy sh ad  hc_7) zyX12_truth zk12_279 ⟨rfl, rfl⟩ ⟨by decide, by decide⟩ rfl rfl (Nat.le_of_ble_eq_true rfl) dX12_tuned_82 (fun H locs hw => ?_)
    refine lv_iadd hx hb dX12_tuned_85 ?_
    refine lv_istore_n (lv' := [(2, .int (s0 + r_8)), (0, .ref (ad k0)), (1, .int p1), (3, .int x3)]) hx hb dX12_tuned_86 rfl hl (by decide) rfl (fun ls hl => ?_)
    refine lv_iinc (v := (x3 + (1 : Int32))) (lv' := [(3, .int (x3 + (1 : Int32))), (2, .int (s0 + r_8)), (0, .ref (ad k0)), (1, .int p1)]) hx hb dX12_tuned_87 hl (k := 3) rfl (ziinc (by decide)) (by decide) rfl (fun ls hl => ?_)
    refine lv_goto (tgt := 44) hx hb dX12_tuned_90 (by decide) ?_
    exact hk44 _ _ _ _ _ _ (lv_sub hl [2, 3, 1, 0] rfl) hw hd
  have L44 : ∀  (n : Nat), ∀ (x2 : Int32) (x3 : Int32) (M : zMem) (H : Heap) (locs : List Loc) (ls : Array Slot), lv_has ls 5 [(0, .ref (ad k0)), (1, .int p1), (2, .int x2), (3, .int x3)] → zWd D cy sh ad s M H locs → zlX12_tuned_44 sh k0 p1  n x2 x3 M = some (r, M1) → W p l e { frames := 5, cells := 0, slots := 0, locals := 122 } s m ([.ref (ad k0), .int p1] : List Value).toArray below meth c H locs 0 0 (zQI below D cy sh ad s [.ref (ad k0), .int p1] r M1) (F0 m 44 ls []) := by
    intro  n
    induction n with
    | zero => intro x2 x3 M H locs ls hl hw hd; exact (znone hd).elim
    | succ n hk44 =>
      intro x2 x3 M H locs ls hl hw hd
      have hd : zbX12_tuned_44 sh k0 p1  (zlX12_tuned_44 sh k0 p1  n) x2 x3 M = some (r, M1) := hd
      unfold zbX12_tuned_44 at hd
      refine lv_iload_n hx hb dX12_tuned_44 rfl (lv_at hl 3 rfl) ?_
      refine lv_bipush (v := (64 : Int32)) hx hb dX12_tuned_45 (by decide) ?_
      refine lv_icmp_gt (tgt := 93) hx hb dX12_tuned_47 (by decide) (fun c_9 => ?_) (fun c_9 => ?_)
      · have hd := zif_pos c_9 hd
        refine lv_iload_n hx hb dX12_tuned_93 rfl (lv_at hl 1 rfl) ?_
        refine lv_iconst (v := (2 : Int32)) hx hb dX12_tuned_94 (by decide) ?_
        refine lv_icmp_ne (tgt := 102) hx hb dX12_tuned_95 (by decide) (fun c_10 => ?_) (fun c_10 => ?_)
        · have hd := zif_neg c_10 hd
          refine lv_aload_n hx hb dX12_tuned_102 rfl (lv_at hl 0 rfl) ?_
          refine lv_iload_n hx hb dX12_tuned_103 rfl (lv_at hl 1 rfl) ?_
          obtain ⟨r_12, hc_11, hd⟩ := zob_some hd
          refine z_cvI F hw hl.1 (As := [.int p1]) (rest := []) (ztX12_field l D cy sh ad h0 hc_11) zyX12_field h0 zc12 zk12_283 ⟨rfl, rfl⟩ ⟨by decide, by decide⟩ rfl rfl (Nat.le_of_ble_eq_true rfl) dX12_tuned_104 (fun H locs hw => ?_)
          exact J107 _ _ _ _ _ (lv_sub hl [0] rfl) hw hd
        · have hd := zif_pos c_10 hd
          refine lv_iload_n hx hb dX12_tuned_98 rfl (lv_at hl 2 rfl) ?_
          refine lv_goto (tgt := 107) hx hb dX12_tuned_99 (by decide) ?_
          exact J107 _ _ _ _ _ (lv_sub hl [0] rfl) hw hd
      · have hd := zif_neg c_9 hd
        refine lv_aload_n hx hb dX12_tuned_50 rfl (lv_at hl 0 rfl) ?_
        refine z_gR F hw h0 zc12 18 (by decide) rfl zf12_39 dX12_tuned_51 ?_
        have t_13 : zT sh (zR M k0 18) 14 := hw.2.2.2.fld h0 18 14
        refine lv_iload_n hx hb dX12_tuned_54 rfl (lv_at hl 3 rfl) ?_
        refine lv_aload_n hx hb dX12_tuned_55 rfl (lv_at hl 0 rfl) ?_
        refine lv_iload_n hx hb dX12_tuned_56 rfl (lv_at hl 3 rfl) ?_
        obtain ⟨r_15, M_16, hc_14, hd⟩ := zob2_some hd
        refine z_cvI F hw hl.1 (As := [.int x3]) (rest := [.int x3, .ref (ad (zR M k0 18))]) (ztX12_mend l D cy sh ad h0 hc_14) zyX12_mend h0 zc12 zk12_276 ⟨rfl, rfl⟩ ⟨by decide, by decide⟩ rfl rfl (Nat.le_of_ble_eq_true rfl) dX12_tuned_57 (fun H locs hw => ?_)
        obtain ⟨g_17, hd⟩ := zgd_some hd
        refine z_iast F hw t_13 g_17 dX12_tuned_60 (fun H locs M_18 eM_18 hw => ?_)
        have hd := zbd_eq eM_18 hd
        refine lv_iload_n hx hb dX12_tuned_61 rfl (lv_at hl 2 rfl) ?_
        refine lv_aload_n hx hb dX12_tuned_62 rfl (lv_at hl 0 rfl) ?_
        refine z_gR F hw h0 zc12 18 (by decide) rfl zf12_39 dX12_tuned_63 ?_
        have t_19 : zT sh (zR M_18 k0 18) 14 := hw.2.2.2.fld h0 18 14
        refine lv_iload_n hx hb dX12_tuned_66 rfl (lv_at hl 3 rfl) ?_
        obtain ⟨g_20, hd⟩ := zgd_some hd
        refine z_iald F hw t_19 g_20 dX12_tuned_67 ?_
        refine lv_aload_n hx hb dX12_tuned_68 rfl (lv_at hl 0 rfl) ?_
        refine z_gR F hw h0 zc12 34 (by decide) rfl zf12_55 dX12_tuned_69 ?_
        have t_21 : zT sh (zR M_18 k0 34) 14 := hw.2.2.2.fld h0 34 14
        refine lv_iload_n hx hb dX12_tuned_72 rfl (lv_at hl 3 rfl) ?_
        obtain ⟨g_22, hd⟩ := zgd_some hd
        refine z_iald F hw t_21 g_22 dX12_tuned_73 ?_
        refine lv_icmp_eq (tgt := 81) hx hb dX12_tuned_74 (by decide) (fun c_23 => ?_) (fun c_23 => ?_)
        · have hd := zif_pos c_23 hd
          refine lv_iconst (v := (0 : Int32)) hx hb dX12_tuned_81 (by decide) ?_
          exact J82 _ hk44 _ _ _ _ _ _ _ (lv_sub hl [0, 1, 3] rfl) hw hd
        · have hd := zif_neg c_23 hd
          refine lv_iconst (v := (1 : Int32)) hx hb dX12_tuned_77 (by decide) ?_
          refine lv_goto (tgt := 82) hx hb dX12_tuned_78 (by decide) ?_
          exact J82 _ hk44 _ _ _ _ _ _ _ (lv_sub hl [0, 1, 3] rfl) hw hd
  have L18 : ∀  (n : Nat), ∀ (x2 : Int32) (x3 : Int32) (M : zMem) (H : Heap) (locs : List Loc) (ls : Array Slot), lv_has ls 5 [(0, .ref (ad k0)), (1, .int p1), (2, .int x2), (3, .int x3)] → zWd D cy sh ad s M H locs → zlX12_tuned_18 sh k0 p1  n x2 x3 M = some (r, M1) → W p l e { frames := 5, cells := 0, slots := 0, locals := 122 } s m ([.ref (ad k0), .int p1] : List Value).toArray below meth c H locs 0 0 (zQI below D cy sh ad s [.ref (ad k0), .int p1] r M1) (F0 m 18 ls []) := by
    intro  n
    induction n with
    | zero => intro x2 x3 M H locs ls hl hw hd; exact (znone hd).elim
    | succ n hk18 =>
      intro x2 x3 M H locs ls hl hw hd
      have hd : zbX12_tuned_18 sh k0 p1  (zlX12_tuned_18 sh k0 p1  n) x2 x3 M = some (r, M1) := hd
      unfold zbX12_tuned_18 at hd
      refine lv_iload_n hx hb dX12_tuned_18 rfl (lv_at hl 3 rfl) ?_
      refine lv_bipush (v := (64 : Int32)) hx hb dX12_tuned_19 (by decide) ?_
      refine lv_icmp_gt (tgt := 42) hx hb dX12_tuned_21 (by decide) (fun c_24 => ?_) (fun c_24 => ?_)
      · have hd := zif_pos c_24 hd
        refine lv_iconst (v := (0 : Int32)) hx hb dX12_tuned_42 (by decide) ?_
        refine lv_istore_n (lv' := [(3, .int (0 : Int32)), (0, .ref (ad k0)), (1, .int p1), (2, .int x2)]) hx hb dX12_tuned_43 rfl hl (by decide) rfl (fun ls hl => ?_)
        exact L44 zF _ _ _ _ _ _ (lv_sub hl [1, 2, 3, 0] rfl) hw hd
      · have hd := zif_neg c_24 hd
        refine lv_aload_n hx hb dX12_tuned_24 rfl (lv_at hl 0 rfl) ?_
        refine z_gR F hw h0 zc12 34 (by decide) rfl zf12_55 dX12_tuned_25 ?_
        have t_25 : zT sh (zR M k0 34) 14 := hw.2.2.2.fld h0 34 14
        refine lv_iload_n hx hb dX12_tuned_28 rfl (lv_at hl 3 rfl) ?_
        refine lv_aload_n hx hb dX12_tuned_29 rfl (lv_at hl 0 rfl) ?_
        refine z_gR F hw h0 zc12 18 (by decide) rfl zf12_39 dX12_tuned_30 ?_
        have t_26 : zT sh (zR M k0 18) 14 := hw.2.2.2.fld h0 18 14
        refine lv_iload_n hx hb dX12_tuned_33 rfl (lv_at hl 3 rfl) ?_
        obtain ⟨g_27, hd⟩ := zgd_some hd
        refine z_iald F hw t_26 g_27 dX12_tuned_34 ?_
        obtain ⟨g_28, hd⟩ := zgd_some hd
        refine z_iast F hw t_25 g_28 dX12_tuned_35 (fun H locs M_29 eM_29 hw => ?_)
        have hd := zbd_eq eM_29 hd
        refine lv_iinc (v := (x3 + (1 : Int32))) (lv' := [(3, .int (x3 + (1 : Int32))), (0, .ref (ad k0)), (1, .int p1), (2, .int x2)]) hx hb dX12_tuned_36 hl (k := 3) rfl (ziinc (by decide)) (by decide) rfl (fun ls hl => ?_)
        refine lv_goto (tgt := 18) hx hb dX12_tuned_39 (by decide) ?_
        exact hk18 _ _ _ _ _ _ (lv_sub hl [1, 2, 3, 0] rfl) hw hd
  unfold zX12_tuned at hd
  refine lv_iload_n hx hb dX12_tuned_0 rfl (lv_at hl 1 rfl) ?_
  refine lv_i2l (v := p1.toInt64) hx hb dX12_tuned_1 rfl ?_
  refine lv_lconst (v := (0 : Int64)) hx hb dX12_tuned_2 (by decide) ?_
  refine lv_ldc2 (v := (2 : Int64)) hx hb F.1.2.2.2.1 (F.1.2.2.2.2 _ zi12_268) dX12_tuned_3 ?_
  obtain ⟨r_31, hc_30, hd⟩ := zob_some hd
  refine z_csI F hw hl.1 (As := [.long (p1.toInt64), .long (0 : Int64), .long (2 : Int64)]) (rest := []) (ztX12_isIn l D cy sh ad  hc_30) zyX12_isIn zk12_91 ⟨rfl, rfl⟩ ⟨by decide, by decide⟩ rfl rfl (Nat.le_of_ble_eq_true rfl) dX12_tuned_6 (fun H locs hw => ?_)
  refine lv_if_ne (tgt := 14) hx hb dX12_tuned_9 (by decide) (fun c_32 => ?_) (fun c_32 => ?_)
  · have hd := zif_neg c_32 hd
    refine lv_iconst (v := (0 : Int32)) hx hb dX12_tuned_14 (by decide) ?_
    refine lv_istore_n (lv' := [(2, .int (0 : Int32)), (0, .ref (ad k0)), (1, .int p1)]) hx hb dX12_tuned_15 rfl hl (by decide) rfl (fun ls hl => ?_)
    refine lv_iconst (v := (0 : Int32)) hx hb dX12_tuned_16 (by decide) ?_
    refine lv_istore_n (lv' := [(3, .int (0 : Int32)), (2, .int (0 : Int32)), (0, .ref (ad k0)), (1, .int p1)]) hx hb dX12_tuned_17 rfl hl (by decide) rfl (fun ls hl => ?_)
    exact L18 zF _ _ _ _ _ _ (lv_sub hl [2, 3, 1, 0] rfl) hw hd
  · have hd := zif_pos c_32 hd
    refine lv_iconst (v := (-1 : Int32)) hx hb dX12_tuned_12 (by decide) ?_
    exact z_iret F hr hlk hw (zpr1 hd) (zpr2 hd) dX12_tuned_13
