theorem dX12_coil_0 : decode cX12_coil 0 = .ok (.iload_n 1, 1) := by decide +kernel
theorem dX12_coil_1 : decode cX12_coil 1 = .ok (.i2l, 1) := by decide +kernel
theorem dX12_coil_2 : decode cX12_coil 2 = .ok (.lconst 0, 1) := by decide +kernel
theorem dX12_coil_3 : decode cX12_coil 3 = .ok (.ldc2_w 416, 3) := by decide +kernel
theorem dX12_coil_6 : decode cX12_coil 6 = .ok (.invokestatic 91, 3) := by decide +kernel
theorem dX12_coil_9 : decode cX12_coil 9 = .ok (.ifCond .eq 27, 3) := by decide +kernel
theorem dX12_coil_12 : decode cX12_coil 12 = .ok (.iload_n 2, 1) := by decide +kernel
theorem dX12_coil_13 : decode cX12_coil 13 = .ok (.i2l, 1) := by decide +kernel
theorem dX12_coil_14 : decode cX12_coil 14 = .ok (.lconst 0, 1) := by decide +kernel
theorem dX12_coil_15 : decode cX12_coil 15 = .ok (.ldc2_w 395, 3) := by decide +kernel
theorem dX12_coil_18 : decode cX12_coil 18 = .ok (.invokestatic 91, 3) := by decide +kernel
theorem dX12_coil_21 : decode cX12_coil 21 = .ok (.ifCond .eq 15, 3) := by decide +kernel
theorem dX12_coil_24 : decode cX12_coil 24 = .ok (.iload_n 3, 1) := by decide +kernel
theorem dX12_coil_25 : decode cX12_coil 25 = .ok (.i2l, 1) := by decide +kernel
theorem dX12_coil_26 : decode cX12_coil 26 = .ok (.lconst 0, 1) := by decide +kernel
theorem dX12_coil_27 : decode cX12_coil 27 = .ok (.ldc2_w 421, 3) := by decide +kernel
theorem dX12_coil_30 : decode cX12_coil 30 = .ok (.invokestatic 91, 3) := by decide +kernel
theorem dX12_coil_33 : decode cX12_coil 33 = .ok (.ifCond .ne 5, 3) := by decide +kernel
theorem dX12_coil_36 : decode cX12_coil 36 = .ok (.iconst (-1), 1) := by decide +kernel
theorem dX12_coil_37 : decode cX12_coil 37 = .ok (.ireturn, 1) := by decide +kernel
theorem dX12_coil_38 : decode cX12_coil 38 = .ok (.iconst 0, 1) := by decide +kernel
theorem dX12_coil_39 : decode cX12_coil 39 = .ok (.istore 4, 2) := by decide +kernel
theorem dX12_coil_41 : decode cX12_coil 41 = .ok (.iconst 0, 1) := by decide +kernel
theorem dX12_coil_42 : decode cX12_coil 42 = .ok (.istore 5, 2) := by decide +kernel
theorem dX12_coil_44 : decode cX12_coil 44 = .ok (.iload 5, 2) := by decide +kernel
theorem dX12_coil_46 : decode cX12_coil 46 = .ok (.iload_n 3, 1) := by decide +kernel
theorem dX12_coil_47 : decode cX12_coil 47 = .ok (.if_icmp .ge 21, 3) := by decide +kernel
theorem dX12_coil_50 : decode cX12_coil 50 = .ok (.aload_n 0, 1) := by decide +kernel
theorem dX12_coil_51 : decode cX12_coil 51 = .ok (.iload 4, 2) := by decide +kernel
theorem dX12_coil_53 : decode cX12_coil 53 = .ok (.iload_n 1, 1) := by decide +kernel
theorem dX12_coil_54 : decode cX12_coil 54 = .ok (.iload_n 2, 1) := by decide +kernel
theorem dX12_coil_55 : decode cX12_coil 55 = .ok (.iload 5, 2) := by decide +kernel
theorem dX12_coil_57 : decode cX12_coil 57 = .ok (.invokevirtual 397, 3) := by decide +kernel
theorem dX12_coil_60 : decode cX12_coil 60 = .ok (.istore 4, 2) := by decide +kernel
theorem dX12_coil_62 : decode cX12_coil 62 = .ok (.iinc 5 1, 3) := by decide +kernel
theorem dX12_coil_65 : decode cX12_coil 65 = .ok (.goto (-21), 3) := by decide +kernel
theorem dX12_coil_68 : decode cX12_coil 68 = .ok (.iload 4, 2) := by decide +kernel
theorem dX12_coil_70 : decode cX12_coil 70 = .ok (.ireturn, 1) := by decide +kernel
theorem dX12_laysFollow_0 : decode cX12_laysFollow 0 = .ok (.iconst 0, 1) := by decide +kernel
theorem dX12_laysFollow_1 : decode cX12_laysFollow 1 = .ok (.istore_n 3, 1) := by decide +kernel
theorem dX12_laysFollow_2 : decode cX12_laysFollow 2 = .ok (.aload_n 0, 1) := by decide +kernel
theorem dX12_laysFollow_3 : decode cX12_laysFollow 3 = .ok (.iconst 0, 1) := by decide +kernel
theorem dX12_laysFollow_4 : decode cX12_laysFollow 4 = .ok (.putfield 483, 3) := by decide +kernel
theorem dX12_laysFollow_7 : decode cX12_laysFollow 7 = .ok (.aload_n 0, 1) := by decide +kernel
theorem dX12_laysFollow_8 : decode cX12_laysFollow 8 = .ok (.iconst 0, 1) := by decide +kernel
theorem dX12_laysFollow_9 : decode cX12_laysFollow 9 = .ok (.putfield 486, 3) := by decide +kernel
theorem dX12_laysFollow_12 : decode cX12_laysFollow 12 = .ok (.aload_n 0, 1) := by decide +kernel
theorem dX12_laysFollow_13 : decode cX12_laysFollow 13 = .ok (.iconst 0, 1) := by decide +kernel
theorem dX12_laysFollow_14 : decode cX12_laysFollow 14 = .ok (.putfield 489, 3) := by decide +kernel
theorem dX12_laysFollow_17 : decode cX12_laysFollow 17 = .ok (.iconst 0, 1) := by decide +kernel
theorem dX12_laysFollow_18 : decode cX12_laysFollow 18 = .ok (.istore 4, 2) := by decide +kernel
theorem dX12_laysFollow_20 : decode cX12_laysFollow 20 = .ok (.iconst 0, 1) := by decide +kernel
theorem dX12_laysFollow_21 : decode cX12_laysFollow 21 = .ok (.istore 5, 2) := by decide +kernel
theorem dX12_laysFollow_23 : decode cX12_laysFollow 23 = .ok (.iload 5, 2) := by decide +kernel
theorem dX12_laysFollow_25 : decode cX12_laysFollow 25 = .ok (.sipush 128, 3) := by decide +kernel
theorem dX12_laysFollow_28 : decode cX12_laysFollow 28 = .ok (.if_icmp .gt 120, 3) := by decide +kernel
theorem dX12_laysFollow_31 : decode cX12_laysFollow 31 = .ok (.aload_n 0, 1) := by decide +kernel
theorem dX12_laysFollow_32 : decode cX12_laysFollow 32 = .ok (.iload 5, 2) := by decide +kernel
theorem dX12_laysFollow_34 : decode cX12_laysFollow 34 = .ok (.bipush 64, 2) := by decide +kernel
theorem dX12_laysFollow_36 : decode cX12_laysFollow 36 = .ok (.if_icmp .gt 8, 3) := by decide +kernel
theorem dX12_laysFollow_39 : decode cX12_laysFollow 39 = .ok (.iload 5, 2) := by decide +kernel
theorem dX12_laysFollow_41 : decode cX12_laysFollow 41 = .ok (.goto 9, 3) := by decide +kernel
theorem dX12_laysFollow_44 : decode cX12_laysFollow 44 = .ok (.sipush 128, 3) := by decide +kernel
theorem dX12_laysFollow_47 : decode cX12_laysFollow 47 = .ok (.iload 5, 2) := by decide +kernel
theorem dX12_laysFollow_49 : decode cX12_laysFollow 49 = .ok (.isub, 1) := by decide +kernel
theorem dX12_laysFollow_50 : decode cX12_laysFollow 50 = .ok (.iconst 1, 1) := by decide +kernel
theorem dX12_laysFollow_51 : decode cX12_laysFollow 51 = .ok (.invokevirtual 265, 3) := by decide +kernel
theorem dX12_laysFollow_54 : decode cX12_laysFollow 54 = .ok (.istore 6, 2) := by decide +kernel
theorem dX12_laysFollow_56 : decode cX12_laysFollow 56 = .ok (.iconst 0, 1) := by decide +kernel
theorem dX12_laysFollow_57 : decode cX12_laysFollow 57 = .ok (.istore 7, 2) := by decide +kernel
theorem dX12_laysFollow_59 : decode cX12_laysFollow 59 = .ok (.iload 7, 2) := by decide +kernel
theorem dX12_laysFollow_61 : decode cX12_laysFollow 61 = .ok (.iload_n 1, 1) := by decide +kernel
theorem dX12_laysFollow_62 : decode cX12_laysFollow 62 = .ok (.if_icmp .ge 80, 3) := by decide +kernel
theorem dX12_laysFollow_65 : decode cX12_laysFollow 65 = .ok (.aload_n 0, 1) := by decide +kernel
theorem dX12_laysFollow_66 : decode cX12_laysFollow 66 = .ok (.iload_n 3, 1) := by decide +kernel
theorem dX12_laysFollow_67 : decode cX12_laysFollow 67 = .ok (.iload 6, 2) := by decide +kernel
theorem dX12_laysFollow_69 : decode cX12_laysFollow 69 = .ok (.iload_n 2, 1) := by decide +kernel
theorem dX12_laysFollow_70 : decode cX12_laysFollow 70 = .ok (.iload 4, 2) := by decide +kernel
theorem dX12_laysFollow_72 : decode cX12_laysFollow 72 = .ok (.invokevirtual 397, 3) := by decide +kernel
theorem dX12_laysFollow_75 : decode cX12_laysFollow 75 = .ok (.istore_n 3, 1) := by decide +kernel
theorem dX12_laysFollow_76 : decode cX12_laysFollow 76 = .ok (.iinc 4 1, 3) := by decide +kernel
theorem dX12_laysFollow_79 : decode cX12_laysFollow 79 = .ok (.aload_n 0, 1) := by decide +kernel
theorem dX12_laysFollow_80 : decode cX12_laysFollow 80 = .ok (.aload_n 0, 1) := by decide +kernel
theorem dX12_laysFollow_81 : decode cX12_laysFollow 81 = .ok (.getfield 483, 3) := by decide +kernel
theorem dX12_laysFollow_84 : decode cX12_laysFollow 84 = .ok (.iload_n 3, 1) := by decide +kernel
theorem dX12_laysFollow_85 : decode cX12_laysFollow 85 = .ok (.iload 6, 2) := by decide +kernel
theorem dX12_laysFollow_87 : decode cX12_laysFollow 87 = .ok (.isub, 1) := by decide +kernel
theorem dX12_laysFollow_88 : decode cX12_laysFollow 88 = .ok (.invokestatic 273, 3) := by decide +kernel
theorem dX12_laysFollow_91 : decode cX12_laysFollow 91 = .ok (.invokestatic 318, 3) := by decide +kernel
theorem dX12_laysFollow_94 : decode cX12_laysFollow 94 = .ok (.putfield 483, 3) := by decide +kernel
theorem dX12_laysFollow_97 : decode cX12_laysFollow 97 = .ok (.aload_n 0, 1) := by decide +kernel
theorem dX12_laysFollow_98 : decode cX12_laysFollow 98 = .ok (.dup, 1) := by decide +kernel
theorem dX12_laysFollow_99 : decode cX12_laysFollow 99 = .ok (.getfield 486, 3) := by decide +kernel
theorem dX12_laysFollow_102 : decode cX12_laysFollow 102 = .ok (.iload_n 3, 1) := by decide +kernel
theorem dX12_laysFollow_103 : decode cX12_laysFollow 103 = .ok (.iload 6, 2) := by decide +kernel
theorem dX12_laysFollow_105 : decode cX12_laysFollow 105 = .ok (.if_icmp .le 7, 3) := by decide +kernel
theorem dX12_laysFollow_108 : decode cX12_laysFollow 108 = .ok (.iconst 1, 1) := by decide +kernel
theorem dX12_laysFollow_109 : decode cX12_laysFollow 109 = .ok (.goto 4, 3) := by decide +kernel
theorem dX12_laysFollow_112 : decode cX12_laysFollow 112 = .ok (.iconst 0, 1) := by decide +kernel
theorem dX12_laysFollow_113 : decode cX12_laysFollow 113 = .ok (.invokestatic 279, 3) := by decide +kernel
theorem dX12_laysFollow_116 : decode cX12_laysFollow 116 = .ok (.iadd, 1) := by decide +kernel
theorem dX12_laysFollow_117 : decode cX12_laysFollow 117 = .ok (.putfield 486, 3) := by decide +kernel
theorem dX12_laysFollow_120 : decode cX12_laysFollow 120 = .ok (.aload_n 0, 1) := by decide +kernel
theorem dX12_laysFollow_121 : decode cX12_laysFollow 121 = .ok (.dup, 1) := by decide +kernel
theorem dX12_laysFollow_122 : decode cX12_laysFollow 122 = .ok (.getfield 489, 3) := by decide +kernel
theorem dX12_laysFollow_125 : decode cX12_laysFollow 125 = .ok (.iload_n 3, 1) := by decide +kernel
theorem dX12_laysFollow_126 : decode cX12_laysFollow 126 = .ok (.iload 6, 2) := by decide +kernel
theorem dX12_laysFollow_128 : decode cX12_laysFollow 128 = .ok (.isub, 1) := by decide +kernel
theorem dX12_laysFollow_129 : decode cX12_laysFollow 129 = .ok (.invokestatic 273, 3) := by decide +kernel
theorem dX12_laysFollow_132 : decode cX12_laysFollow 132 = .ok (.iadd, 1) := by decide +kernel
theorem dX12_laysFollow_133 : decode cX12_laysFollow 133 = .ok (.putfield 489, 3) := by decide +kernel
theorem dX12_laysFollow_136 : decode cX12_laysFollow 136 = .ok (.iinc 7 1, 3) := by decide +kernel
theorem dX12_laysFollow_139 : decode cX12_laysFollow 139 = .ok (.goto (-80), 3) := by decide +kernel
theorem dX12_laysFollow_142 : decode cX12_laysFollow 142 = .ok (.iinc 5 1, 3) := by decide +kernel
theorem dX12_laysFollow_145 : decode cX12_laysFollow 145 = .ok (.goto (-122), 3) := by decide +kernel
theorem dX12_laysFollow_148 : decode cX12_laysFollow 148 = .ok (.return_, 1) := by decide +kernel
theorem dX12_follows_0 : decode cX12_follows 0 = .ok (.iload_n 1, 1) := by decide +kernel
theorem dX12_follows_1 : decode cX12_follows 1 = .ok (.i2l, 1) := by decide +kernel
theorem dX12_follows_2 : decode cX12_follows 2 = .ok (.lconst 1, 1) := by decide +kernel
theorem dX12_follows_3 : decode cX12_follows 3 = .ok (.ldc2_w 492, 3) := by decide +kernel
theorem dX12_follows_6 : decode cX12_follows 6 = .ok (.invokestatic 91, 3) := by decide +kernel
theorem dX12_follows_9 : decode cX12_follows 9 = .ok (.ifCond .eq 27, 3) := by decide +kernel
theorem dX12_follows_12 : decode cX12_follows 12 = .ok (.iload_n 2, 1) := by decide +kernel
theorem dX12_follows_13 : decode cX12_follows 13 = .ok (.i2l, 1) := by decide +kernel
theorem dX12_follows_14 : decode cX12_follows 14 = .ok (.lconst 0, 1) := by decide +kernel
theorem dX12_follows_15 : decode cX12_follows 15 = .ok (.ldc2_w 395, 3) := by decide +kernel
theorem dX12_follows_18 : decode cX12_follows 18 = .ok (.invokestatic 91, 3) := by decide +kernel
theorem dX12_follows_21 : decode cX12_follows 21 = .ok (.ifCond .eq 15, 3) := by decide +kernel
theorem dX12_follows_24 : decode cX12_follows 24 = .ok (.iload_n 3, 1) := by decide +kernel
theorem dX12_follows_25 : decode cX12_follows 25 = .ok (.i2l, 1) := by decide +kernel
theorem dX12_follows_26 : decode cX12_follows 26 = .ok (.lconst 0, 1) := by decide +kernel
theorem dX12_follows_27 : decode cX12_follows 27 = .ok (.ldc2_w 268, 3) := by decide +kernel
theorem dX12_follows_30 : decode cX12_follows 30 = .ok (.invokestatic 91, 3) := by decide +kernel
theorem dX12_follows_33 : decode cX12_follows 33 = .ok (.ifCond .ne 5, 3) := by decide +kernel
theorem dX12_follows_36 : decode cX12_follows 36 = .ok (.iconst (-1), 1) := by decide +kernel
theorem dX12_follows_37 : decode cX12_follows 37 = .ok (.ireturn, 1) := by decide +kernel
theorem dX12_follows_38 : decode cX12_follows 38 = .ok (.aload_n 0, 1) := by decide +kernel
theorem dX12_follows_39 : decode cX12_follows 39 = .ok (.iload_n 1, 1) := by decide +kernel
theorem dX12_follows_40 : decode cX12_follows 40 = .ok (.iload_n 2, 1) := by decide +kernel
theorem dX12_follows_41 : decode cX12_follows 41 = .ok (.invokevirtual 494, 3) := by decide +kernel
theorem dX12_follows_44 : decode cX12_follows 44 = .ok (.iload_n 3, 1) := by decide +kernel
theorem dX12_follows_45 : decode cX12_follows 45 = .ok (.ifCond .ne 10, 3) := by decide +kernel
theorem dX12_follows_48 : decode cX12_follows 48 = .ok (.aload_n 0, 1) := by decide +kernel
theorem dX12_follows_49 : decode cX12_follows 49 = .ok (.getfield 483, 3) := by decide +kernel
theorem dX12_follows_52 : decode cX12_follows 52 = .ok (.goto 19, 3) := by decide +kernel
theorem dX12_follows_55 : decode cX12_follows 55 = .ok (.iload_n 3, 1) := by decide +kernel
theorem dX12_follows_56 : decode cX12_follows 56 = .ok (.iconst 1, 1) := by decide +kernel
theorem dX12_follows_57 : decode cX12_follows 57 = .ok (.if_icmp .ne 10, 3) := by decide +kernel
theorem dX12_follows_60 : decode cX12_follows 60 = .ok (.aload_n 0, 1) := by decide +kernel
theorem dX12_follows_61 : decode cX12_follows 61 = .ok (.getfield 486, 3) := by decide +kernel
theorem dX12_follows_64 : decode cX12_follows 64 = .ok (.goto 7, 3) := by decide +kernel
theorem dX12_follows_67 : decode cX12_follows 67 = .ok (.aload_n 0, 1) := by decide +kernel
theorem dX12_follows_68 : decode cX12_follows 68 = .ok (.getfield 489, 3) := by decide +kernel
theorem dX12_follows_71 : decode cX12_follows 71 = .ok (.ireturn, 1) := by decide +kernel
theorem dX12_mode_0 : decode cX12_mode 0 = .ok (.iload_n 1, 1) := by decide +kernel
theorem dX12_mode_1 : decode cX12_mode 1 = .ok (.i2l, 1) := by decide +kernel
theorem dX12_mode_2 : decode cX12_mode 2 = .ok (.lconst 1, 1) := by decide +kernel
theorem dX12_mode_3 : decode cX12_mode 3 = .ok (.ldc2_w 492, 3) := by decide +kernel
theorem dX12_mode_6 : decode cX12_mode 6 = .ok (.invokestatic 91, 3) := by decide +kernel
theorem dX12_mode_9 : decode cX12_mode 9 = .ok (.ifCond .ne 5, 3) := by decide +kernel
theorem dX12_mode_12 : decode cX12_mode 12 = .ok (.iconst (-1), 1) := by decide +kernel
theorem dX12_mode_13 : decode cX12_mode 13 = .ok (.ireturn, 1) := by decide +kernel
theorem dX12_mode_14 : decode cX12_mode 14 = .ok (.iconst 0, 1) := by decide +kernel
theorem dX12_mode_15 : decode cX12_mode 15 = .ok (.istore_n 2, 1) := by decide +kernel
theorem dX12_mode_16 : decode cX12_mode 16 = .ok (.iconst (-1), 1) := by decide +kernel
theorem dX12_mode_17 : decode cX12_mode 17 = .ok (.istore_n 3, 1) := by decide +kernel
theorem dX12_mode_18 : decode cX12_mode 18 = .ok (.iconst 0, 1) := by decide +kernel
theorem dX12_mode_19 : decode cX12_mode 19 = .ok (.istore 4, 2) := by decide +kernel
theorem dX12_mode_21 : decode cX12_mode 21 = .ok (.iload 4, 2) := by decide +kernel
theorem dX12_mode_23 : decode cX12_mode 23 = .ok (.bipush 8, 2) := by decide +kernel
theorem dX12_mode_25 : decode cX12_mode 25 = .ok (.if_icmp .gt 40, 3) := by decide +kernel
theorem dX12_mode_28 : decode cX12_mode 28 = .ok (.aload_n 0, 1) := by decide +kernel
theorem dX12_mode_29 : decode cX12_mode 29 = .ok (.iload_n 1, 1) := by decide +kernel
theorem dX12_mode_30 : decode cX12_mode 30 = .ok (.iload 4, 2) := by decide +kernel
theorem dX12_mode_32 : decode cX12_mode 32 = .ok (.invokevirtual 494, 3) := by decide +kernel
theorem dX12_mode_35 : decode cX12_mode 35 = .ok (.iload_n 3, 1) := by decide +kernel
theorem dX12_mode_36 : decode cX12_mode 36 = .ok (.iconst (-1), 1) := by decide +kernel
theorem dX12_mode_37 : decode cX12_mode 37 = .ok (.if_icmp .eq 14, 3) := by decide +kernel
theorem dX12_mode_40 : decode cX12_mode 40 = .ok (.aload_n 0, 1) := by decide +kernel
theorem dX12_mode_41 : decode cX12_mode 41 = .ok (.getfield 489, 3) := by decide +kernel
theorem dX12_mode_44 : decode cX12_mode 44 = .ok (.iload_n 3, 1) := by decide +kernel
theorem dX12_mode_45 : decode cX12_mode 45 = .ok (.if_icmp .lt 6, 3) := by decide +kernel
theorem dX12_mode_48 : decode cX12_mode 48 = .ok (.goto 11, 3) := by decide +kernel
theorem dX12_mode_51 : decode cX12_mode 51 = .ok (.iload 4, 2) := by decide +kernel
theorem dX12_mode_53 : decode cX12_mode 53 = .ok (.istore_n 2, 1) := by decide +kernel
theorem dX12_mode_54 : decode cX12_mode 54 = .ok (.aload_n 0, 1) := by decide +kernel
theorem dX12_mode_55 : decode cX12_mode 55 = .ok (.getfield 489, 3) := by decide +kernel
theorem dX12_mode_58 : decode cX12_mode 58 = .ok (.istore_n 3, 1) := by decide +kernel
theorem dX12_mode_59 : decode cX12_mode 59 = .ok (.iinc 4 1, 3) := by decide +kernel
theorem dX12_mode_62 : decode cX12_mode 62 = .ok (.goto (-41), 3) := by decide +kernel
theorem dX12_mode_65 : decode cX12_mode 65 = .ok (.iload_n 2, 1) := by decide +kernel
theorem dX12_mode_66 : decode cX12_mode 66 = .ok (.ireturn, 1) := by decide +kernel
theorem dX12_ripple_0 : decode cX12_ripple 0 = .ok (.iload_n 1, 1) := by decide +kernel
theorem dX12_ripple_1 : decode cX12_ripple 1 = .ok (.i2l, 1) := by decide +kernel
theorem dX12_ripple_2 : decode cX12_ripple 2 = .ok (.lconst 0, 1) := by decide +kernel
theorem dX12_ripple_3 : decode cX12_ripple 3 = .ok (.ldc2_w 416, 3) := by decide +kernel
theorem dX12_ripple_6 : decode cX12_ripple 6 = .ok (.invokestatic 91, 3) := by decide +kernel
theorem dX12_ripple_9 : decode cX12_ripple 9 = .ok (.ifCond .eq 15, 3) := by decide +kernel
theorem dX12_ripple_12 : decode cX12_ripple 12 = .ok (.iload_n 2, 1) := by decide +kernel
theorem dX12_ripple_13 : decode cX12_ripple 13 = .ok (.i2l, 1) := by decide +kernel
theorem dX12_ripple_14 : decode cX12_ripple 14 = .ok (.lconst 0, 1) := by decide +kernel
theorem dX12_ripple_15 : decode cX12_ripple 15 = .ok (.ldc2_w 395, 3) := by decide +kernel
theorem dX12_ripple_18 : decode cX12_ripple 18 = .ok (.invokestatic 91, 3) := by decide +kernel
theorem dX12_ripple_21 : decode cX12_ripple 21 = .ok (.ifCond .ne 5, 3) := by decide +kernel
theorem dX12_ripple_24 : decode cX12_ripple 24 = .ok (.iconst (-1), 1) := by decide +kernel
theorem dX12_ripple_25 : decode cX12_ripple 25 = .ok (.ireturn, 1) := by decide +kernel
theorem dX12_ripple_26 : decode cX12_ripple 26 = .ok (.iconst 0, 1) := by decide +kernel
theorem dX12_ripple_27 : decode cX12_ripple 27 = .ok (.istore_n 3, 1) := by decide +kernel
theorem dX12_ripple_28 : decode cX12_ripple 28 = .ok (.iconst (-1), 1) := by decide +kernel
theorem dX12_ripple_29 : decode cX12_ripple 29 = .ok (.istore 4, 2) := by decide +kernel
theorem dX12_ripple_31 : decode cX12_ripple 31 = .ok (.iconst (-1), 1) := by decide +kernel
theorem dX12_ripple_32 : decode cX12_ripple 32 = .ok (.istore 5, 2) := by decide +kernel
theorem dX12_ripple_34 : decode cX12_ripple 34 = .ok (.iconst 0, 1) := by decide +kernel
theorem dX12_ripple_35 : decode cX12_ripple 35 = .ok (.istore 6, 2) := by decide +kernel
theorem dX12_ripple_37 : decode cX12_ripple 37 = .ok (.iload 6, 2) := by decide +kernel
theorem dX12_ripple_39 : decode cX12_ripple 39 = .ok (.sipush 264, 3) := by decide +kernel
theorem dX12_ripple_42 : decode cX12_ripple 42 = .ok (.if_icmp .ge 56, 3) := by decide +kernel
theorem dX12_ripple_45 : decode cX12_ripple 45 = .ok (.aload_n 0, 1) := by decide +kernel
theorem dX12_ripple_46 : decode cX12_ripple 46 = .ok (.iload_n 3, 1) := by decide +kernel
theorem dX12_ripple_47 : decode cX12_ripple 47 = .ok (.iload_n 1, 1) := by decide +kernel
theorem dX12_ripple_48 : decode cX12_ripple 48 = .ok (.iload_n 2, 1) := by decide +kernel
theorem dX12_ripple_49 : decode cX12_ripple 49 = .ok (.iload 6, 2) := by decide +kernel
theorem dX12_ripple_51 : decode cX12_ripple 51 = .ok (.invokevirtual 397, 3) := by decide +kernel
theorem dX12_ripple_54 : decode cX12_ripple 54 = .ok (.istore_n 3, 1) := by decide +kernel
theorem dX12_ripple_55 : decode cX12_ripple 55 = .ok (.iload 6, 2) := by decide +kernel
theorem dX12_ripple_57 : decode cX12_ripple 57 = .ok (.sipush 200, 3) := by decide +kernel
theorem dX12_ripple_60 : decode cX12_ripple 60 = .ok (.if_icmp .ge 6, 3) := by decide +kernel
theorem dX12_ripple_63 : decode cX12_ripple 63 = .ok (.goto 29, 3) := by decide +kernel
theorem dX12_ripple_66 : decode cX12_ripple 66 = .ok (.iload 4, 2) := by decide +kernel
theorem dX12_ripple_68 : decode cX12_ripple 68 = .ok (.iconst (-1), 1) := by decide +kernel
theorem dX12_ripple_69 : decode cX12_ripple 69 = .ok (.if_icmp .ne 7, 3) := by decide +kernel
theorem dX12_ripple_72 : decode cX12_ripple 72 = .ok (.iload_n 3, 1) := by decide +kernel
theorem dX12_ripple_73 : decode cX12_ripple 73 = .ok (.goto 9, 3) := by decide +kernel
theorem dX12_ripple_76 : decode cX12_ripple 76 = .ok (.iload 4, 2) := by decide +kernel
theorem dX12_ripple_78 : decode cX12_ripple 78 = .ok (.iload_n 3, 1) := by decide +kernel
theorem dX12_ripple_79 : decode cX12_ripple 79 = .ok (.invokestatic 332, 3) := by decide +kernel
theorem dX12_ripple_82 : decode cX12_ripple 82 = .ok (.istore 4, 2) := by decide +kernel
theorem dX12_ripple_84 : decode cX12_ripple 84 = .ok (.iload 5, 2) := by decide +kernel
theorem dX12_ripple_86 : decode cX12_ripple 86 = .ok (.iload_n 3, 1) := by decide +kernel
theorem dX12_ripple_87 : decode cX12_ripple 87 = .ok (.invokestatic 318, 3) := by decide +kernel
theorem dX12_ripple_90 : decode cX12_ripple 90 = .ok (.istore 5, 2) := by decide +kernel
theorem dX12_ripple_92 : decode cX12_ripple 92 = .ok (.iinc 6 1, 3) := by decide +kernel
theorem dX12_ripple_95 : decode cX12_ripple 95 = .ok (.goto (-58), 3) := by decide +kernel
theorem dX12_ripple_98 : decode cX12_ripple 98 = .ok (.iload 5, 2) := by decide +kernel
theorem dX12_ripple_100 : decode cX12_ripple 100 = .ok (.iload 4, 2) := by decide +kernel
theorem dX12_ripple_102 : decode cX12_ripple 102 = .ok (.isub, 1) := by decide +kernel
theorem dX12_ripple_103 : decode cX12_ripple 103 = .ok (.ireturn, 1) := by decide +kernel
theorem dX12_about_0 : decode cX12_about 0 = .ok (.iload_n 1, 1) := by decide +kernel
theorem dX12_about_1 : decode cX12_about 1 = .ok (.tableswitch 167 0 12 #[67, 72, 77, 82, 87, 92, 99, 106, 133, 138, 143, 151, 159], 67) := by decide +kernel
theorem dX12_about_68 : decode cX12_about 68 = .ok (.aload_n 0, 1) := by decide +kernel
theorem dX12_about_69 : decode cX12_about 69 = .ok (.getfield 240, 3) := by decide +kernel
theorem dX12_about_72 : decode cX12_about 72 = .ok (.ireturn, 1) := by decide +kernel
theorem dX12_about_73 : decode cX12_about 73 = .ok (.aload_n 0, 1) := by decide +kernel
theorem dX12_about_74 : decode cX12_about 74 = .ok (.getfield 243, 3) := by decide +kernel
theorem dX12_about_77 : decode cX12_about 77 = .ok (.ireturn, 1) := by decide +kernel
theorem dX12_about_78 : decode cX12_about 78 = .ok (.aload_n 0, 1) := by decide +kernel
theorem dX12_about_79 : decode cX12_about 79 = .ok (.getfield 246, 3) := by decide +kernel
theorem dX12_about_82 : decode cX12_about 82 = .ok (.ireturn, 1) := by decide +kernel
theorem dX12_about_83 : decode cX12_about 83 = .ok (.aload_n 0, 1) := by decide +kernel
theorem dX12_about_84 : decode cX12_about 84 = .ok (.getfield 70, 3) := by decide +kernel
theorem dX12_about_87 : decode cX12_about 87 = .ok (.ireturn, 1) := by decide +kernel
theorem dX12_about_88 : decode cX12_about 88 = .ok (.aload_n 0, 1) := by decide +kernel
theorem dX12_about_89 : decode cX12_about 89 = .ok (.getfield 73, 3) := by decide +kernel
theorem dX12_about_92 : decode cX12_about 92 = .ok (.ireturn, 1) := by decide +kernel
theorem dX12_about_93 : decode cX12_about 93 = .ok (.aload_n 0, 1) := by decide +kernel
theorem dX12_about_94 : decode cX12_about 94 = .ok (.getfield 7, 3) := by decide +kernel
theorem dX12_about_97 : decode cX12_about 97 = .ok (.iconst 0, 1) := by decide +kernel
theorem dX12_about_98 : decode cX12_about 98 = .ok (.iaload, 1) := by decide +kernel
theorem dX12_about_99 : decode cX12_about 99 = .ok (.ireturn, 1) := by decide +kernel
theorem dX12_about_100 : decode cX12_about 100 = .ok (.aload_n 0, 1) := by decide +kernel
theorem dX12_about_101 : decode cX12_about 101 = .ok (.getfield 7, 3) := by decide +kernel
theorem dX12_about_104 : decode cX12_about 104 = .ok (.iconst 1, 1) := by decide +kernel
theorem dX12_about_105 : decode cX12_about 105 = .ok (.iaload, 1) := by decide +kernel
theorem dX12_about_106 : decode cX12_about 106 = .ok (.ireturn, 1) := by decide +kernel
theorem dX12_about_107 : decode cX12_about 107 = .ok (.aload_n 0, 1) := by decide +kernel
theorem dX12_about_108 : decode cX12_about 108 = .ok (.getfield 7, 3) := by decide +kernel
theorem dX12_about_111 : decode cX12_about 111 = .ok (.iconst 1, 1) := by decide +kernel
theorem dX12_about_112 : decode cX12_about 112 = .ok (.iaload, 1) := by decide +kernel
theorem dX12_about_113 : decode cX12_about 113 = .ok (.iconst 1, 1) := by decide +kernel
theorem dX12_about_114 : decode cX12_about 114 = .ok (.if_icmp .ne 18, 3) := by decide +kernel
theorem dX12_about_117 : decode cX12_about 117 = .ok (.aload_n 0, 1) := by decide +kernel
theorem dX12_about_118 : decode cX12_about 118 = .ok (.invokevirtual 406, 3) := by decide +kernel
theorem dX12_about_121 : decode cX12_about 121 = .ok (.aload_n 0, 1) := by decide +kernel
theorem dX12_about_122 : decode cX12_about 122 = .ok (.getfield 7, 3) := by decide +kernel
theorem dX12_about_125 : decode cX12_about 125 = .ok (.bipush 15, 2) := by decide +kernel
theorem dX12_about_127 : decode cX12_about 127 = .ok (.iaload, 1) := by decide +kernel
theorem dX12_about_128 : decode cX12_about 128 = .ok (.isub, 1) := by decide +kernel
theorem dX12_about_129 : decode cX12_about 129 = .ok (.goto 4, 3) := by decide +kernel
theorem dX12_about_132 : decode cX12_about 132 = .ok (.iconst 0, 1) := by decide +kernel
theorem dX12_about_133 : decode cX12_about 133 = .ok (.ireturn, 1) := by decide +kernel
theorem dX12_about_134 : decode cX12_about 134 = .ok (.aload_n 0, 1) := by decide +kernel
theorem dX12_about_135 : decode cX12_about 135 = .ok (.getfield 249, 3) := by decide +kernel
theorem dX12_about_138 : decode cX12_about 138 = .ok (.ireturn, 1) := by decide +kernel
theorem dX12_about_139 : decode cX12_about 139 = .ok (.aload_n 0, 1) := by decide +kernel
theorem dX12_about_140 : decode cX12_about 140 = .ok (.getfield 84, 3) := by decide +kernel
theorem dX12_about_143 : decode cX12_about 143 = .ok (.ireturn, 1) := by decide +kernel
theorem dX12_about_144 : decode cX12_about 144 = .ok (.aload_n 0, 1) := by decide +kernel
theorem dX12_about_145 : decode cX12_about 145 = .ok (.getfield 7, 3) := by decide +kernel
theorem dX12_about_148 : decode cX12_about 148 = .ok (.bipush 23, 2) := by decide +kernel
theorem dX12_about_150 : decode cX12_about 150 = .ok (.iaload, 1) := by decide +kernel
theorem dX12_about_151 : decode cX12_about 151 = .ok (.ireturn, 1) := by decide +kernel
theorem dX12_about_152 : decode cX12_about 152 = .ok (.aload_n 0, 1) := by decide +kernel
theorem dX12_about_153 : decode cX12_about 153 = .ok (.getfield 7, 3) := by decide +kernel
theorem dX12_about_156 : decode cX12_about 156 = .ok (.bipush 21, 2) := by decide +kernel
theorem dX12_about_158 : decode cX12_about 158 = .ok (.iaload, 1) := by decide +kernel
theorem dX12_about_159 : decode cX12_about 159 = .ok (.ireturn, 1) := by decide +kernel
theorem dX12_about_160 : decode cX12_about 160 = .ok (.aload_n 0, 1) := by decide +kernel
theorem dX12_about_161 : decode cX12_about 161 = .ok (.getfield 7, 3) := by decide +kernel
theorem dX12_about_164 : decode cX12_about 164 = .ok (.bipush 22, 2) := by decide +kernel
theorem dX12_about_166 : decode cX12_about 166 = .ok (.iaload, 1) := by decide +kernel
theorem dX12_about_167 : decode cX12_about 167 = .ok (.ireturn, 1) := by decide +kernel
theorem dX12_about_168 : decode cX12_about 168 = .ok (.iconst (-1), 1) := by decide +kernel
theorem dX12_about_169 : decode cX12_about 169 = .ok (.ireturn, 1) := by decide +kernel
def zjX12_coil_36 (sh : zShp) (k0 : Nat) (p1 : Int32) (p2 : Int32) (p3 : Int32) (M : zMem)   : Option (Int32) :=
  some (-1 : Int32)
def zbX12_coil_44 (sh : zShp) (k0 : Nat) (p1 : Int32) (p2 : Int32) (p3 : Int32) (M : zMem)  (kk44 : Int32 → Int32 → Option (Int32)) (x4 : Int32) (x5 : Int32) : Option (Int32) :=
  if p3 ≤ x5 then (
  some x4)
  else (
  zob (zX12_pulls sh k0 x4 p1 p2 x5 M) fun r_3 =>
  kk44 r_3 (x5 + (1 : Int32)))
def zlX12_coil_44 (sh : zShp) (k0 : Nat) (p1 : Int32) (p2 : Int32) (p3 : Int32) (M : zMem)  : Nat → Int32 → Int32 → Option (Int32)
  | 0 => fun _ _ => none
  | n + 1 => fun x4 x5 => zbX12_coil_44 sh k0 p1 p2 p3 M  (zlX12_coil_44 sh k0 p1 p2 p3 M  n) x4 x5
def zX12_coil (sh : zShp) (k0 : Nat) (p1 : Int32) (p2 : Int32) (p3 : Int32) (M : zMem) : Option (Int32) :=
  zob (zX12_isIn sh (p1.toInt64) (0 : Int64) (2000 : Int64) M) fun r_5 =>
  if r_5 = 0 then (
  zjX12_coil_36 sh k0 p1 p2 p3 M)
  else (
  zob (zX12_isIn sh (p2.toInt64) (0 : Int64) (8 : Int64) M) fun r_8 =>
  if r_8 = 0 then (
  zjX12_coil_36 sh k0 p1 p2 p3 M)
  else (
  zob (zX12_isIn sh (p3.toInt64) (0 : Int64) (1000 : Int64) M) fun r_11 =>
  if r_11 = 0 then (
  zjX12_coil_36 sh k0 p1 p2 p3 M)
  else (
  zlX12_coil_44 sh k0 p1 p2 p3 M zF (0 : Int32) (0 : Int32))))
set_option maxHeartbeats 4000000 in
set_option maxRecDepth 100000 in
theorem ztX12_coil (l : Launch) (D : va_G) (cy : Nat → ClassId) (sh : zShp) (ad : Nat → Nat) {k0 : Nat} {p1 : Int32} {p2 : Int32} {p3 : Int32} (h0 : zT sh k0 12) {M : zMem} {r : Int32} (hd : zX12_coil sh k0 p1 p2 p3 M = some r) : zCI l yX12_coil cX12_coil 6 .int { frames := 2, cells := 0, slots := 0, locals := 46 } [.ref (ad k0), .int p1, .int p2, .int p3] D cy sh ad M r M := by
  refine zci_of (by decide) (Nat.le_of_ble_eq_true rfl) (fun p e s m below meth c ls F hr hlk hl hw => ?_)
  have hx := F.1.1
  have hb := F.1.2.1
  have hl : lv_has ls 6 [(0, .ref (ad k0)), (1, .int p1), (2, .int p2), (3, .int p3)] := hl
  have J36 : ∀  (H : Heap) (locs : List Loc) (ls : Array Slot), lv_has ls 6 [] → zWd D cy sh ad s M H locs → zjX12_coil_36 sh k0 p1 p2 p3 M   = some r → W p l e { frames := 2, cells := 0, slots := 0, locals := 46 } s m ([.ref (ad k0), .int p1, .int p2, .int p3] : List Value).toArray below meth c H locs 0 0 (zQI below D cy sh ad s [.ref (ad k0), .int p1, .int p2, .int p3] r M) (F0 m 36 ls []) := by
    intro  H locs ls hl hw hd
    unfold zjX12_coil_36 at hd
    refine lv_iconst (v := (-1 : Int32)) hx hb dX12_coil_36 (by decide) ?_
    exact z_iret F hr hlk hw (Option.some.inj hd) rfl dX12_coil_37
  have L44 : ∀  (n : Nat), ∀ (x4 : Int32) (x5 : Int32) (H : Heap) (locs : List Loc) (ls : Array Slot), lv_has ls 6 [(0, .ref (ad k0)), (1, .int p1), (2, .int p2), (3, .int p3), (4, .int x4), (5, .int x5)] → zWd D cy sh ad s M H locs → zlX12_coil_44 sh k0 p1 p2 p3 M  n x4 x5 = some r → W p l e { frames := 2, cells := 0, slots := 0, locals := 46 } s m ([.ref (ad k0), .int p1, .int p2, .int p3] : List Value).toArray below meth c H locs 0 0 (zQI below D cy sh ad s [.ref (ad k0), .int p1, .int p2, .int p3] r M) (F0 m 44 ls []) := by
    intro  n
    induction n with
    | zero => intro x4 x5 H locs ls hl hw hd; exact (znone hd).elim
    | succ n hk44 =>
      intro x4 x5 H locs ls hl hw hd
      have hd : zbX12_coil_44 sh k0 p1 p2 p3 M  (zlX12_coil_44 sh k0 p1 p2 p3 M  n) x4 x5 = some r := hd
      unfold zbX12_coil_44 at hd
      refine lv_iload hx hb dX12_coil_44 (lv_at hl 5 rfl) ?_
      refine lv_iload_n hx hb dX12_coil_46 rfl (lv_at hl 3 rfl) ?_
      refine lv_icmp_ge (tgt := 68) hx hb dX12_coil_47 (by decide) (fun c_1 => ?_) (fun c_1 => ?_)
      · have hd := zif_pos c_1 hd
        refine lv_iload hx hb dX12_coil_68 (lv_at hl 4 rfl) ?_
        exact z_iret F hr hlk hw (Option.some.inj hd) rfl dX12_coil_70
      · have hd := zif_neg c_1 hd
        refine lv_aload_n hx hb dX12_coil_50 rfl (lv_at hl 0 rfl) ?_
        refine lv_iload hx hb dX12_coil_51 (lv_at hl 4 rfl) ?_
        refine lv_iload_n hx hb dX12_coil_53 rfl (lv_at hl 1 rfl) ?_
        refine lv_iload_n hx hb dX12_coil_54 rfl (lv_at hl 2 rfl) ?_
        refine lv_iload hx hb dX12_coil_55 (lv_at hl 5 rfl) ?_
        obtain ⟨r_3, hc_2, hd⟩ := zob_some hd
        refine z_cvI F hw hl.1 (As := [.int x4, .int p1, .int p2, .int x5]) (rest := []) (ztX12_pulls l D cy sh ad h0 hc_2) zyX12_pulls h0 zc12 zk12_397 ⟨rfl, rfl⟩ ⟨by decide, by decide⟩ rfl rfl (Nat.le_of_ble_eq_true rfl) dX12_coil_57 (fun H locs hw => ?_)
        refine lv_istore (lv' := [(4, .int r_3), (0, .ref (ad k0)), (1, .int p1), (2, .int p2), (3, .int p3), (5, .int x5)]) hx hb dX12_coil_60 hl (by decide) rfl (fun ls hl => ?_)
        refine lv_iinc (v := (x5 + (1 : Int32))) (lv' := [(5, .int (x5 + (1 : Int32))), (4, .int r_3), (0, .ref (ad k0)), (1, .int p1), (2, .int p2), (3, .int p3)]) hx hb dX12_coil_62 hl (k := 5) rfl (ziinc (by decide)) (by decide) rfl (fun ls hl => ?_)
        refine lv_goto (tgt := 44) hx hb dX12_coil_65 (by decide) ?_
        exact hk44 _ _ _ _ _ (lv_sub hl [2, 3, 4, 5, 1, 0] rfl) hw hd
  unfold zX12_coil at hd
  refine lv_iload_n hx hb dX12_coil_0 rfl (lv_at hl 1 rfl) ?_
  refine lv_i2l (v := p1.toInt64) hx hb dX12_coil_1 rfl ?_
  refine lv_lconst (v := (0 : Int64)) hx hb dX12_coil_2 (by decide) ?_
  refine lv_ldc2 (v := (2000 : Int64)) hx hb F.1.2.2.2.1 (F.1.2.2.2.2 _ zi12_416) dX12_coil_3 ?_
  obtain ⟨r_5, hc_4, hd⟩ := zob_some hd
  refine z_csI F hw hl.1 (As := [.long (p1.toInt64), .long (0 : Int64), .long (2000 : Int64)]) (rest := []) (ztX12_isIn l D cy sh ad  hc_4) zyX12_isIn zk12_91 ⟨rfl, rfl⟩ ⟨by decide, by decide⟩ rfl rfl (Nat.le_of_ble_eq_true rfl) dX12_coil_6 (fun H locs hw => ?_)
  refine lv_if_eq (tgt := 36) hx hb dX12_coil_9 (by decide) (fun c_6 => ?_) (fun c_6 => ?_)
  · have hd := zif_pos c_6 hd
    exact J36 _ _ _ (lv_sub hl [] rfl) hw hd
  · have hd := zif_neg c_6 hd
    refine lv_iload_n hx hb dX12_coil_12 rfl (lv_at hl 2 rfl) ?_
    refine lv_i2l (v := p2.toInt64) hx hb dX12_coil_13 rfl ?_
    refine lv_lconst (v := (0 : Int64)) hx hb dX12_coil_14 (by decide) ?_
    refine lv_ldc2 (v := (8 : Int64)) hx hb F.1.2.2.2.1 (F.1.2.2.2.2 _ zi12_395) dX12_coil_15 ?_
    obtain ⟨r_8, hc_7, hd⟩ := zob_some hd
    refine z_csI F hw hl.1 (As := [.long (p2.toInt64), .long (0 : Int64), .long (8 : Int64)]) (rest := []) (ztX12_isIn l D cy sh ad  hc_7) zyX12_isIn zk12_91 ⟨rfl, rfl⟩ ⟨by decide, by decide⟩ rfl rfl (Nat.le_of_ble_eq_true rfl) dX12_coil_18 (fun H locs hw => ?_)
    refine lv_if_eq (tgt := 36) hx hb dX12_coil_21 (by decide) (fun c_9 => ?_) (fun c_9 => ?_)
    · have hd := zif_pos c_9 hd
      exact J36 _ _ _ (lv_sub hl [] rfl) hw hd
    · have hd := zif_neg c_9 hd
      refine lv_iload_n hx hb dX12_coil_24 rfl (lv_at hl 3 rfl) ?_
      refine lv_i2l (v := p3.toInt64) hx hb dX12_coil_25 rfl ?_
      refine lv_lconst (v := (0 : Int64)) hx hb dX12_coil_26 (by decide) ?_
      refine lv_ldc2 (v := (1000 : Int64)) hx hb F.1.2.2.2.1 (F.1.2.2.2.2 _ zi12_421) dX12_coil_27 ?_
      obtain ⟨r_11, hc_10, hd⟩ := zob_some hd
      refine z_csI F hw hl.1 (As := [.long (p3.toInt64), .long (0 : Int64), .long (1000 : Int64)]) (rest := []) (ztX12_isIn l D cy sh ad  hc_10) zyX12_isIn zk12_91 ⟨rfl, rfl⟩ ⟨by decide, by decide⟩ rfl rfl (Nat.le_of_ble_eq_true rfl) dX12_coil_30 (fun H locs hw => ?_)
      refine lv_if_ne (tgt := 38) hx hb dX12_coil_33 (by decide) (fun c_12 => ?_) (fun c_12 => ?_)
      · have hd := zif_neg c_12 hd
        refine lv_iconst (v := (0 : Int32)) hx hb dX12_coil_38 (by decide) ?_
        refine lv_istore (lv' := [(4, .int (0 : Int32)), (0, .ref (ad k0)), (1, .int p1), (2, .int p2), (3, .int p3)]) hx hb dX12_coil_39 hl (by decide) rfl (fun ls hl => ?_)
        refine lv_iconst (v := (0 : Int32)) hx hb dX12_coil_41 (by decide) ?_
        refine lv_istore (lv' := [(5, .int (0 : Int32)), (4, .int (0 : Int32)), (0, .ref (ad k0)), (1, .int p1), (2, .int p2), (3, .int p3)]) hx hb dX12_coil_42 hl (by decide) rfl (fun ls hl => ?_)
        exact L44 zF _ _ _ _ _ (lv_sub hl [2, 3, 4, 5, 1, 0] rfl) hw hd
      · have hd := zif_pos c_12 hd
        exact J36 _ _ _ (lv_sub hl [] rfl) hw hd

def zjX12_laysFollow_113 (sh : zShp) (k0 : Nat) (p1 : Int32) (p2 : Int32) (kk23 : Int32 → Int32 → Int32 → zMem → Option (zMem)) (kk59 : Int32 → Int32 → Int32 → Int32 → Int32 → zMem → Option (zMem)) (x3 : Int32) (x4 : Int32) (x5 : Int32) (x6 : Int32) (x7 : Int32) (s0 : Nat) (s1 : Int32) (s2 : Int32) (M : zMem) : Option (zMem) :=
  zob (zX12_truth sh s2 M) fun r_2 =>
  zbd (zpI M s0 49 (s1 + r_2)) fun M_3 =>
  zob (zX12_size sh (x3 - x6) M_3) fun r_5 =>
  zbd (zpI M_3 k0 50 ((zI M_3 k0 50) + r_5)) fun M_6 =>
  kk59 x3 x4 x5 x6 (x7 + (1 : Int32)) M_6
def zbX12_laysFollow_59 (sh : zShp) (k0 : Nat) (p1 : Int32) (p2 : Int32) (kk23 : Int32 → Int32 → Int32 → zMem → Option (zMem)) (kk59 : Int32 → Int32 → Int32 → Int32 → Int32 → zMem → Option (zMem)) (x3 : Int32) (x4 : Int32) (x5 : Int32) (x6 : Int32) (x7 : Int32) (M : zMem) : Option (zMem) :=
  if p1 ≤ x7 then (
  kk23 x3 x4 (x5 + (1 : Int32)) M)
  else (
  zob (zX12_pulls sh k0 x3 x6 p2 x4 M) fun r_9 =>
  zob (zX12_size sh (r_9 - x6) M) fun r_11 =>
  zob (zX12_greater sh (zI M k0 48) r_11 M) fun r_13 =>
  zbd (zpI M k0 48 r_13) fun M_14 =>
  if r_9 ≤ x6 then (
  zjX12_laysFollow_113 sh k0 p1 p2 kk23 kk59 r_9 (x4 + (1 : Int32)) x5 x6 x7 k0 (zI M_14 k0 49) (0 : Int32) M_14)
  else (
  zjX12_laysFollow_113 sh k0 p1 p2 kk23 kk59 r_9 (x4 + (1 : Int32)) x5 x6 x7 k0 (zI M_14 k0 49) (1 : Int32) M_14))
def zlX12_laysFollow_59 (sh : zShp) (k0 : Nat) (p1 : Int32) (p2 : Int32) (kk23 : Int32 → Int32 → Int32 → zMem → Option (zMem)) : Nat → Int32 → Int32 → Int32 → Int32 → Int32 → zMem → Option (zMem)
  | 0 => fun _ _ _ _ _ _ => none
  | n + 1 => fun x3 x4 x5 x6 x7 M => zbX12_laysFollow_59 sh k0 p1 p2 kk23 (zlX12_laysFollow_59 sh k0 p1 p2 kk23 n) x3 x4 x5 x6 x7 M
def zjX12_laysFollow_50 (sh : zShp) (k0 : Nat) (p1 : Int32) (p2 : Int32) (kk23 : Int32 → Int32 → Int32 → zMem → Option (zMem)) (x3 : Int32) (x4 : Int32) (x5 : Int32) (s0 : Nat) (s1 : Int32) (M : zMem) : Option (zMem) :=
  zob (zX12_currentOf sh s0 s1 (1 : Int32) M) fun r_17 =>
  zlX12_laysFollow_59 sh k0 p1 p2 kk23 zF x3 x4 x5 r_17 (0 : Int32) M
def zbX12_laysFollow_23 (sh : zShp) (k0 : Nat) (p1 : Int32) (p2 : Int32)  (kk23 : Int32 → Int32 → Int32 → zMem → Option (zMem)) (x3 : Int32) (x4 : Int32) (x5 : Int32) (M : zMem) : Option (zMem) :=
  if (128 : Int32) < x5 then (
  some M)
  else (
  if (64 : Int32) < x5 then (
  zjX12_laysFollow_50 sh k0 p1 p2 kk23 x3 x4 x5 k0 ((128 : Int32) - x5) M)
  else (
  zjX12_laysFollow_50 sh k0 p1 p2 kk23 x3 x4 x5 k0 x5 M))
def zlX12_laysFollow_23 (sh : zShp) (k0 : Nat) (p1 : Int32) (p2 : Int32)  : Nat → Int32 → Int32 → Int32 → zMem → Option (zMem)
  | 0 => fun _ _ _ _ => none
  | n + 1 => fun x3 x4 x5 M => zbX12_laysFollow_23 sh k0 p1 p2  (zlX12_laysFollow_23 sh k0 p1 p2  n) x3 x4 x5 M
def zX12_laysFollow (sh : zShp) (k0 : Nat) (p1 : Int32) (p2 : Int32) (M : zMem) : Option (zMem) :=
  zbd (zpI M k0 48 (0 : Int32)) fun M_20 =>
  zbd (zpI M_20 k0 49 (0 : Int32)) fun M_21 =>
  zbd (zpI M_21 k0 50 (0 : Int32)) fun M_22 =>
  zlX12_laysFollow_23 sh k0 p1 p2 zF (0 : Int32) (0 : Int32) (0 : Int32) M_22
set_option maxHeartbeats 4000000 in
set_option maxRecDepth 100000 in
theorem ztX12_laysFollow (l : Launch) (D : va_G) (cy : Nat → ClassId) (sh : zShp) (ad : Nat → Nat) {k0 : Nat} {p1 : Int32} {p2 : Int32} (h0 : zT sh k0 12) {M : zMem} {M1 : zMem} (hd : zX12_laysFollow sh k0 p1 p2 M = some M1) : zCV l yX12_laysFollow cX12_laysFollow 8 { frames := 3, cells := 0, slots := 0, locals := 69 } [.ref (ad k0), .int p1, .int p2] D cy sh ad M M1 := by
  refine zcv_of (by decide) (Nat.le_of_ble_eq_true rfl) (fun p e s m below meth c ls F hr hlk hl hw => ?_)
  have hx := F.1.1
  have hb := F.1.2.1
  have hl : lv_has ls 8 [(0, .ref (ad k0)), (1, .int p1), (2, .int p2)] := hl
  have J113 : ∀ (kk23 : Int32 → Int32 → Int32 → zMem → Option (zMem)) (hk23 : ∀ (x3 : Int32) (x4 : Int32) (x5 : Int32) (M : zMem) (H : Heap) (locs : List Loc) (ls : Array Slot), lv_has ls 8 [(0, .ref (ad k0)), (1, .int p1), (2, .int p2), (3, .int x3), (4, .int x4), (5, .int x5)] → zWd D cy sh ad s M H locs → kk23 x3 x4 x5 M = some M1 → W p l e { frames := 3, cells := 0, slots := 0, locals := 69 } s m ([.ref (ad k0), .int p1, .int p2] : List Value).toArray below meth c H locs 0 0 (zQV below D cy sh ad s [.ref (ad k0), .int p1, .int p2] M1) (F0 m 23 ls [])) (kk59 : Int32 → Int32 → Int32 → Int32 → Int32 → zMem → Option (zMem)) (hk59 : ∀ (x3 : Int32) (x4 : Int32) (x5 : Int32) (x6 : Int32) (x7 : Int32) (M : zMem) (H : Heap) (locs : List Loc) (ls : Array Slot), lv_has ls 8 [(0, .ref (ad k0)), (1, .int p1), (2, .int p2), (3, .int x3), (4, .int x4), (5, .int x5), (6, .int x6), (7, .int x7)] → zWd D cy sh ad s M H locs → kk59 x3 x4 x5 x6 x7 M = some M1 → W p l e { frames := 3, cells := 0, slots := 0, locals := 69 } s m ([.ref (ad k0), .int p1, .int p2] : List Value).toArray below meth c H locs 0 0 (zQV below D cy sh ad s [.ref (ad k0), .int p1, .int p2] M1) (F0 m 59 ls [])), ∀ (x3 : Int32) (x4 : Int32) (x5 : Int32) (x6 : Int32) (x7 : Int32) (s0 : Nat) (s1 : Int32) (s2 : Int32) (ts0 : zT sh s0 12) (M : zMem) (H : Heap) (locs : List Loc) (ls : Array Slot), lv_has ls 8 [(0, .ref (ad k0)), (1, .int p1), (2, .int p2), (3, .int x3), (4, .int x4), (5, .int x5), (6, .int x6), (7, .int x7)] → zWd D cy sh ad s M H locs → zjX12_laysFollow_113 sh k0 p1 p2 kk23 kk59 x3 x4 x5 x6 x7 s0 s1 s2 M = some M1 → W p l e { frames := 3, cells := 0, slots := 0, locals := 69 } s m ([.ref (ad k0), .int p1, .int p2] : List Value).toArray below meth c H locs 0 0 (zQV below D cy sh ad s [.ref (ad k0), .int p1, .int p2] M1) (F0 m 113 ls [.int s2, .int s1, .ref (ad s0)]) := by
    intro kk23 hk23 kk59 hk59 x3 x4 x5 x6 x7 s0 s1 s2 ts0 M H locs ls hl hw hd
    unfold zjX12_laysFollow_113 at hd
    obtain ⟨r_2, hc_1, hd⟩ := zob_some hd
    refine z_csI F hw hl.1 (As := [.int s2]) (rest := [.int s1, .ref (ad s0)]) (ztX12_truth l D cy sh ad  hc_1) zyX12_truth zk12_279 ⟨rfl, rfl⟩ ⟨by decide, by decide⟩ rfl rfl (Nat.le_of_ble_eq_true rfl) dX12_laysFollow_113 (fun H locs hw => ?_)
    refine lv_iadd hx hb dX12_laysFollow_116 ?_
    refine z_pI F hw ts0 zc12 49 (by decide) rfl zf12_486 rfl rfl rfl dX12_laysFollow_117 (fun H locs M_3 eM_3 hw => ?_)
    have hd := zbd_eq eM_3 hd
    refine lv_aload_n hx hb dX12_laysFollow_120 rfl (lv_at hl 0 rfl) ?_
    refine lv_dup hx hb dX12_laysFollow_121 rfl ?_
    refine z_gI F hw h0 zc12 50 (by decide) rfl zf12_489 dX12_laysFollow_122 ?_
    refine lv_iload_n hx hb dX12_laysFollow_125 rfl (lv_at hl 3 rfl) ?_
    refine lv_iload hx hb dX12_laysFollow_126 (lv_at hl 6 rfl) ?_
    refine lv_isub hx hb dX12_laysFollow_128 ?_
    obtain ⟨r_5, hc_4, hd⟩ := zob_some hd
    refine z_csI F hw hl.1 (As := [.int (x3 - x6)]) (rest := [.int (zI M_3 k0 50), .ref (ad k0)]) (ztX12_size l D cy sh ad  hc_4) zyX12_size zk12_273 ⟨rfl, rfl⟩ ⟨by decide, by decide⟩ rfl rfl (Nat.le_of_ble_eq_true rfl) dX12_laysFollow_129 (fun H locs hw => ?_)
    refine lv_iadd hx hb dX12_laysFollow_132 ?_
    refine z_pI F hw h0 zc12 50 (by decide) rfl zf12_489 rfl rfl rfl dX12_laysFollow_133 (fun H locs M_6 eM_6 hw => ?_)
    have hd := zbd_eq eM_6 hd
    refine lv_iinc (v := (x7 + (1 : Int32))) (lv' := [(7, .int (x7 + (1 : Int32))), (0, .ref (ad k0)), (1, .int p1), (2, .int p2), (3, .int x3), (4, .int x4), (5, .int x5), (6, .int x6)]) hx hb dX12_laysFollow_136 hl (k := 7) rfl (ziinc (by decide)) (by decide) rfl (fun ls hl => ?_)
    refine lv_goto (tgt := 59) hx hb dX12_laysFollow_139 (by decide) ?_
    exact hk59 _ _ _ _ _ _ _ _ _ (lv_sub hl [1, 2, 3, 4, 5, 6, 7, 0] rfl) hw hd
  have L59 : ∀ (kk23 : Int32 → Int32 → Int32 → zMem → Option (zMem)) (hk23 : ∀ (x3 : Int32) (x4 : Int32) (x5 : Int32) (M : zMem) (H : Heap) (locs : List Loc) (ls : Array Slot), lv_has ls 8 [(0, .ref (ad k0)), (1, .int p1), (2, .int p2), (3, .int x3), (4, .int x4), (5, .int x5)] → zWd D cy sh ad s M H locs → kk23 x3 x4 x5 M = some M1 → W p l e { frames := 3, cells := 0, slots := 0, locals := 69 } s m ([.ref (ad k0), .int p1, .int p2] : List Value).toArray below meth c H locs 0 0 (zQV below D cy sh ad s [.ref (ad k0), .int p1, .int p2] M1) (F0 m 23 ls [])) (n : Nat), ∀ (x3 : Int32) (x4 : Int32) (x5 : Int32) (x6 : Int32) (x7 : Int32) (M : zMem) (H : Heap) (locs : List Loc) (ls : Array Slot), lv_has ls 8 [(0, .ref (ad k0)), (1, .int p1), (2, .int p2), (3, .int x3), (4, .int x4), (5, .int x5), (6, .int x6), (7, .int x7)] → zWd D cy sh ad s M H locs → zlX12_laysFollow_59 sh k0 p1 p2 kk23 n x3 x4 x5 x6 x7 M = some M1 → W p l e { frames := 3, cells := 0, slots := 0, locals := 69 } s m ([.ref (ad k0), .int p1, .int p2] : List Value).toArray below meth c H locs 0 0 (zQV below D cy sh ad s [.ref (ad k0), .int p1, .int p2] M1) (F0 m 59 ls []) := by
    intro kk23 hk23 n
    induction n with
    | zero => intro x3 x4 x5 x6 x7 M H locs ls hl hw hd; exact (znone hd).elim
    | succ n hk59 =>
      intro x3 x4 x5 x6 x7 M H locs ls hl hw hd
      have hd : zbX12_laysFollow_59 sh k0 p1 p2 kk23 (zlX12_laysFollow_59 sh k0 p1 p2 kk23 n) x3 x4 x5 x6 x7 M = some M1 := hd
      unfold zbX12_laysFollow_59 at hd
      refine lv_iload hx hb dX12_laysFollow_59 (lv_at hl 7 rfl) ?_
      refine lv_iload_n hx hb dX12_laysFollow_61 rfl (lv_at hl 1 rfl) ?_
      refine lv_icmp_ge (tgt := 142) hx hb dX12_laysFollow_62 (by decide) (fun c_7 => ?_) (fun c_7 => ?_)
      · have hd := zif_pos c_7 hd
        refine lv_iinc (v := (x5 + (1 : Int32))) (lv' := [(5, .int (x5 + (1 : Int32))), (0, .ref (ad k0)), (1, .int p1), (2, .int p2), (3, .int x3), (4, .int x4), (6, .int x6), (7, .int x7)]) hx hb dX12_laysFollow_142 hl (k := 5) rfl (ziinc (by decide)) (by decide) rfl (fun ls hl => ?_)
        refine lv_goto (tgt := 23) hx hb dX12_laysFollow_145 (by decide) ?_
        exact hk23 _ _ _ _ _ _ _ (lv_sub hl [1, 2, 3, 4, 5, 0] rfl) hw hd
      · have hd := zif_neg c_7 hd
        refine lv_aload_n hx hb dX12_laysFollow_65 rfl (lv_at hl 0 rfl) ?_
        refine lv_iload_n hx hb dX12_laysFollow_66 rfl (lv_at hl 3 rfl) ?_
        refine lv_iload hx hb dX12_laysFollow_67 (lv_at hl 6 rfl) ?_
        refine lv_iload_n hx hb dX12_laysFollow_69 rfl (lv_at hl 2 rfl) ?_
        refine lv_iload hx hb dX12_laysFollow_70 (lv_at hl 4 rfl) ?_
        obtain ⟨r_9, hc_8, hd⟩ := zob_some hd
        refine z_cvI F hw hl.1 (As := [.int x3, .int x6, .int p2, .int x4]) (rest := []) (ztX12_pulls l D cy sh ad h0 hc_8) zyX12_pulls h0 zc12 zk12_397 ⟨rfl, rfl⟩ ⟨by decide, by decide⟩ rfl rfl (Nat.le_of_ble_eq_true rfl) dX12_laysFollow_72 (fun H locs hw => ?_)
        refine lv_istore_n (lv' := [(3, .int r_9), (0, .ref (ad k0)), (1, .int p1), (2, .int p2), (4, .int x4), (5, .int x5), (6, .int x6), (7, .int x7)]) hx hb dX12_laysFollow_75 rfl hl (by decide) rfl (fun ls hl => ?_)
        refine lv_iinc (v := (x4 + (1 : Int32))) (lv' := [(4, .int (x4 + (1 : Int32))), (3, .int r_9), (0, .ref (ad k0)), (1, .int p1), (2, .int p2), (5, .int x5), (6, .int x6), (7, .int x7)]) hx hb dX12_laysFollow_76 hl (k := 4) rfl (ziinc (by decide)) (by decide) rfl (fun ls hl => ?_)
        refine lv_aload_n hx hb dX12_laysFollow_79 rfl (lv_at hl 2 rfl) ?_
        refine lv_aload_n hx hb dX12_laysFollow_80 rfl (lv_at hl 2 rfl) ?_
        refine z_gI F hw h0 zc12 48 (by decide) rfl zf12_483 dX12_laysFollow_81 ?_
        refine lv_iload_n hx hb dX12_laysFollow_84 rfl (lv_at hl 1 rfl) ?_
        refine lv_iload hx hb dX12_laysFollow_85 (lv_at hl 6 rfl) ?_
        refine lv_isub hx hb dX12_laysFollow_87 ?_
        obtain ⟨r_11, hc_10, hd⟩ := zob_some hd
        refine z_csI F hw hl.1 (As := [.int (r_9 - x6)]) (rest := [.int (zI M k0 48), .ref (ad k0)]) (ztX12_size l D cy sh ad  hc_10) zyX12_size zk12_273 ⟨rfl, rfl⟩ ⟨by decide, by decide⟩ rfl rfl (Nat.le_of_ble_eq_true rfl) dX12_laysFollow_88 (fun H locs hw => ?_)
        obtain ⟨r_13, hc_12, hd⟩ := zob_some hd
        refine z_csI F hw hl.1 (As := [.int (zI M k0 48), .int r_11]) (rest := [.ref (ad k0)]) (ztX12_greater l D cy sh ad  hc_12) zyX12_greater zk12_318 ⟨rfl, rfl⟩ ⟨by decide, by decide⟩ rfl rfl (Nat.le_of_ble_eq_true rfl) dX12_laysFollow_91 (fun H locs hw => ?_)
        refine z_pI F hw h0 zc12 48 (by decide) rfl zf12_483 rfl rfl rfl dX12_laysFollow_94 (fun H locs M_14 eM_14 hw => ?_)
        have hd := zbd_eq eM_14 hd
        refine lv_aload_n hx hb dX12_laysFollow_97 rfl (lv_at hl 2 rfl) ?_
        refine lv_dup hx hb dX12_laysFollow_98 rfl ?_
        refine z_gI F hw h0 zc12 49 (by decide) rfl zf12_486 dX12_laysFollow_99 ?_
        refine lv_iload_n hx hb dX12_laysFollow_102 rfl (lv_at hl 1 rfl) ?_
        refine lv_iload hx hb dX12_laysFollow_103 (lv_at hl 6 rfl) ?_
        refine lv_icmp_le (tgt := 112) hx hb dX12_laysFollow_105 (by decide) (fun c_15 => ?_) (fun c_15 => ?_)
        · have hd := zif_pos c_15 hd
          refine lv_iconst (v := (0 : Int32)) hx hb dX12_laysFollow_112 (by decide) ?_
          exact J113 _ hk23 _ hk59 _ _ _ _ _ _ _ _ h0 _ _ _ _ (lv_sub hl [2, 3, 4, 1, 0, 5, 6, 7] rfl) hw hd
        · have hd := zif_neg c_15 hd
          refine lv_iconst (v := (1 : Int32)) hx hb dX12_laysFollow_108 (by decide) ?_
          refine lv_goto (tgt := 113) hx hb dX12_laysFollow_109 (by decide) ?_
          exact J113 _ hk23 _ hk59 _ _ _ _ _ _ _ _ h0 _ _ _ _ (lv_sub hl [2, 3, 4, 1, 0, 5, 6, 7] rfl) hw hd
  have J50 : ∀ (kk23 : Int32 → Int32 → Int32 → zMem → Option (zMem)) (hk23 : ∀ (x3 : Int32) (x4 : Int32) (x5 : Int32) (M : zMem) (H : Heap) (locs : List Loc) (ls : Array Slot), lv_has ls 8 [(0, .ref (ad k0)), (1, .int p1), (2, .int p2), (3, .int x3), (4, .int x4), (5, .int x5)] → zWd D cy sh ad s M H locs → kk23 x3 x4 x5 M = some M1 → W p l e { frames := 3, cells := 0, slots := 0, locals := 69 } s m ([.ref (ad k0), .int p1, .int p2] : List Value).toArray below meth c H locs 0 0 (zQV below D cy sh ad s [.ref (ad k0), .int p1, .int p2] M1) (F0 m 23 ls [])), ∀ (x3 : Int32) (x4 : Int32) (x5 : Int32) (s0 : Nat) (s1 : Int32) (ts0 : zT sh s0 12) (M : zMem) (H : Heap) (locs : List Loc) (ls : Array Slot), lv_has ls 8 [(0, .ref (ad k0)), (1, .int p1), (2, .int p2), (3, .int x3), (4, .int x4), (5, .int x5)] → zWd D cy sh ad s M H locs → zjX12_laysFollow_50 sh k0 p1 p2 kk23 x3 x4 x5 s0 s1 M = some M1 → W p l e { frames := 3, cells := 0, slots := 0, locals := 69 } s m ([.ref (ad k0), .int p1, .int p2] : List Value).toArray below meth c H locs 0 0 (zQV below D cy sh ad s [.ref (ad k0), .int p1, .int p2] M1) (F0 m 50 ls [.int s1, .ref (ad s0)]) := by
    intro kk23 hk23 x3 x4 x5 s0 s1 ts0 M H locs ls hl hw hd
    unfold zjX12_laysFollow_50 at hd
    refine lv_iconst (v := (1 : Int32)) hx hb dX12_laysFollow_50 (by decide) ?_
    obtain ⟨r_17, hc_16, hd⟩ := zob_some hd
    refine z_cvI F hw hl.1 (As := [.int s1, .int (1 : Int32)]) (rest := []) (ztX12_currentOf l D cy sh ad ts0 hc_16) zyX12_currentOf ts0 zc12 zk12_265 ⟨rfl, rfl⟩ ⟨by decide, by decide⟩ rfl rfl (Nat.le_of_ble_eq_true rfl) dX12_laysFollow_51 (fun H locs hw => ?_)
    refine lv_istore (lv' := [(6, .int r_17), (0, .ref (ad k0)), (1, .int p1), (2, .int p2), (3, .int x3), (4, .int x4), (5, .int x5)]) hx hb dX12_laysFollow_54 hl (by decide) rfl (fun ls hl => ?_)
    refine lv_iconst (v := (0 : Int32)) hx hb dX12_laysFollow_56 (by decide) ?_
    refine lv_istore (lv' := [(7, .int (0 : Int32)), (6, .int r_17), (0, .ref (ad k0)), (1, .int p1), (2, .int p2), (3, .int x3), (4, .int x4), (5, .int x5)]) hx hb dX12_laysFollow_57 hl (by decide) rfl (fun ls hl => ?_)
    exact L59 _ hk23 zF _ _ _ _ _ _ _ _ _ (lv_sub hl [2, 3, 4, 5, 6, 7, 1, 0] rfl) hw hd
  have L23 : ∀  (n : Nat), ∀ (x3 : Int32) (x4 : Int32) (x5 : Int32) (M : zMem) (H : Heap) (locs : List Loc) (ls : Array Slot), lv_has ls 8 [(0, .ref (ad k0)), (1, .int p1), (2, .int p2), (3, .int x3), (4, .int x4), (5, .int x5)] → zWd D cy sh ad s M H locs → zlX12_laysFollow_23 sh k0 p1 p2  n x3 x4 x5 M = some M1 → W p l e { frames := 3, cells := 0, slots := 0, locals := 69 } s m ([.ref (ad k0), .int p1, .int p2] : List Value).toArray below meth c H locs 0 0 (zQV below D cy sh ad s [.ref (ad k0), .int p1, .int p2] M1) (F0 m 23 ls []) := by
    intro  n
    induction n with
    | zero => intro x3 x4 x5 M H locs ls hl hw hd; exact (znone hd).elim
    | succ n hk23 =>
      intro x3 x4 x5 M H locs ls hl hw hd
      have hd : zbX12_laysFollow_23 sh k0 p1 p2  (zlX12_laysFollow_23 sh k0 p1 p2  n) x3 x4 x5 M = some M1 := hd
      unfold zbX12_laysFollow_23 at hd
      refine lv_iload hx hb dX12_laysFollow_23 (lv_at hl 5 rfl) ?_
      refine lv_sipush (v := (128 : Int32)) hx hb dX12_laysFollow_25 (by decide) ?_
      refine lv_icmp_gt (tgt := 148) hx hb dX12_laysFollow_28 (by decide) (fun c_18 => ?_) (fun c_18 => ?_)
      · have hd := zif_pos c_18 hd
        exact z_vret F hr hlk hw (Option.some.inj hd) dX12_laysFollow_148
      · have hd := zif_neg c_18 hd
        refine lv_aload_n hx hb dX12_laysFollow_31 rfl (lv_at hl 0 rfl) ?_
        refine lv_iload hx hb dX12_laysFollow_32 (lv_at hl 5 rfl) ?_
        refine lv_bipush (v := (64 : Int32)) hx hb dX12_laysFollow_34 (by decide) ?_
        refine lv_icmp_gt (tgt := 44) hx hb dX12_laysFollow_36 (by decide) (fun c_19 => ?_) (fun c_19 => ?_)
        · have hd := zif_pos c_19 hd
          refine lv_sipush (v := (128 : Int32)) hx hb dX12_laysFollow_44 (by decide) ?_
          refine lv_iload hx hb dX12_laysFollow_47 (lv_at hl 5 rfl) ?_
          refine lv_isub hx hb dX12_laysFollow_49 ?_
          exact J50 _ hk23 _ _ _ _ _ h0 _ _ _ _ (lv_sub hl [0, 1, 2, 3, 4, 5] rfl) hw hd
        · have hd := zif_neg c_19 hd
          refine lv_iload hx hb dX12_laysFollow_39 (lv_at hl 5 rfl) ?_
          refine lv_goto (tgt := 50) hx hb dX12_laysFollow_41 (by decide) ?_
          exact J50 _ hk23 _ _ _ _ _ h0 _ _ _ _ (lv_sub hl [0, 1, 2, 3, 4, 5] rfl) hw hd
  unfold zX12_laysFollow at hd
  refine lv_iconst (v := (0 : Int32)) hx hb dX12_laysFollow_0 (by decide) ?_
  refine lv_istore_n (lv' := [(3, .int (0 : Int32)), (0, .ref (ad k0)), (1, .int p1), (2, .int p2)]) hx hb dX12_laysFollow_1 rfl hl (by decide) rfl (fun ls hl => ?_)
  refine lv_aload_n hx hb dX12_laysFollow_2 rfl (lv_at hl 1 rfl) ?_
  refine lv_iconst (v := (0 : Int32)) hx hb dX12_laysFollow_3 (by decide) ?_
  refine z_pI F hw h0 zc12 48 (by decide) rfl zf12_483 rfl rfl rfl dX12_laysFollow_4 (fun H locs M_20 eM_20 hw => ?_)
  have hd := zbd_eq eM_20 hd
  refine lv_aload_n hx hb dX12_laysFollow_7 rfl (lv_at hl 1 rfl) ?_
  refine lv_iconst (v := (0 : Int32)) hx hb dX12_laysFollow_8 (by decide) ?_
  refine z_pI F hw h0 zc12 49 (by decide) rfl zf12_486 rfl rfl rfl dX12_laysFollow_9 (fun H locs M_21 eM_21 hw => ?_)
  have hd := zbd_eq eM_21 hd
  refine lv_aload_n hx hb dX12_laysFollow_12 rfl (lv_at hl 1 rfl) ?_
  refine lv_iconst (v := (0 : Int32)) hx hb dX12_laysFollow_13 (by decide) ?_
  refine z_pI F hw h0 zc12 50 (by decide) rfl zf12_489 rfl rfl rfl dX12_laysFollow_14 (fun H locs M_22 eM_22 hw => ?_)
  have hd := zbd_eq eM_22 hd
  refine lv_iconst (v := (0 : Int32)) hx hb dX12_laysFollow_17 (by decide) ?_
  refine lv_istore (lv' := [(4, .int (0 : Int32)), (3, .int (0 : Int32)), (0, .ref (ad k0)), (1, .int p1), (2, .int p2)]) hx hb dX12_laysFollow_18 hl (by decide) rfl (fun ls hl => ?_)
  refine lv_iconst (v := (0 : Int32)) hx hb dX12_laysFollow_20 (by decide) ?_
  refine lv_istore (lv' := [(5, .int (0 : Int32)), (4, .int (0 : Int32)), (3, .int (0 : Int32)), (0, .ref (ad k0)), (1, .int p1), (2, .int p2)]) hx hb dX12_laysFollow_21 hl (by decide) rfl (fun ls hl => ?_)
  exact L23 zF _ _ _ _ _ _ _ (lv_sub hl [3, 4, 5, 2, 1, 0] rfl) hw hd

def zjX12_follows_36 (sh : zShp) (k0 : Nat) (p1 : Int32) (p2 : Int32) (p3 : Int32)  (M : zMem) : Option (Int32 × zMem) :=
  some ((-1 : Int32), M)
def zjX12_follows_71 (sh : zShp) (k0 : Nat) (p1 : Int32) (p2 : Int32) (p3 : Int32)  (s0 : Int32) (M : zMem) : Option (Int32 × zMem) :=
  some (s0, M)
def zX12_follows (sh : zShp) (k0 : Nat) (p1 : Int32) (p2 : Int32) (p3 : Int32) (M : zMem) : Option (Int32 × zMem) :=
  zob (zX12_isIn sh (p1.toInt64) (1 : Int64) (50 : Int64) M) fun r_2 =>
  if r_2 = 0 then (
  zjX12_follows_36 sh k0 p1 p2 p3 M)
  else (
  zob (zX12_isIn sh (p2.toInt64) (0 : Int64) (8 : Int64) M) fun r_5 =>
  if r_5 = 0 then (
  zjX12_follows_36 sh k0 p1 p2 p3 M)
  else (
  zob (zX12_isIn sh (p3.toInt64) (0 : Int64) (2 : Int64) M) fun r_8 =>
  if r_8 = 0 then (
  zjX12_follows_36 sh k0 p1 p2 p3 M)
  else (
  zob (zX12_laysFollow sh k0 p1 p2 M) fun M_11 =>
  if p3 = 0 then (
  zjX12_follows_71 sh k0 p1 p2 p3 (zI M_11 k0 48) M_11)
  else (
  if p3 = (1 : Int32) then (
  zjX12_follows_71 sh k0 p1 p2 p3 (zI M_11 k0 49) M_11)
  else (
  zjX12_follows_71 sh k0 p1 p2 p3 (zI M_11 k0 50) M_11)))))
set_option maxHeartbeats 4000000 in
set_option maxRecDepth 100000 in
theorem ztX12_follows (l : Launch) (D : va_G) (cy : Nat → ClassId) (sh : zShp) (ad : Nat → Nat) {k0 : Nat} {p1 : Int32} {p2 : Int32} {p3 : Int32} (h0 : zT sh k0 12) {M : zMem} {r : Int32} {M1 : zMem} (hd : zX12_follows sh k0 p1 p2 p3 M = some (r, M1)) : zCI l yX12_follows cX12_follows 4 .int { frames := 4, cells := 0, slots := 0, locals := 96 } [.ref (ad k0), .int p1, .int p2, .int p3] D cy sh ad M r M1 := by
  refine zci_of (by decide) (Nat.le_of_ble_eq_true rfl) (fun p e s m below meth c ls F hr hlk hl hw => ?_)
  have hx := F.1.1
  have hb := F.1.2.1
  have hl : lv_has ls 4 [(0, .ref (ad k0)), (1, .int p1), (2, .int p2), (3, .int p3)] := hl
  have J36 : ∀ (M : zMem) (H : Heap) (locs : List Loc) (ls : Array Slot), lv_has ls 4 [] → zWd D cy sh ad s M H locs → zjX12_follows_36 sh k0 p1 p2 p3  M = some (r, M1) → W p l e { frames := 4, cells := 0, slots := 0, locals := 96 } s m ([.ref (ad k0), .int p1, .int p2, .int p3] : List Value).toArray below meth c H locs 0 0 (zQI below D cy sh ad s [.ref (ad k0), .int p1, .int p2, .int p3] r M1) (F0 m 36 ls []) := by
    intro  M H locs ls hl hw hd
    unfold zjX12_follows_36 at hd
    refine lv_iconst (v := (-1 : Int32)) hx hb dX12_follows_36 (by decide) ?_
    exact z_iret F hr hlk hw (zpr1 hd) (zpr2 hd) dX12_follows_37
  have J71 : ∀ (s0 : Int32) (M : zMem) (H : Heap) (locs : List Loc) (ls : Array Slot), lv_has ls 4 [] → zWd D cy sh ad s M H locs → zjX12_follows_71 sh k0 p1 p2 p3  s0 M = some (r, M1) → W p l e { frames := 4, cells := 0, slots := 0, locals := 96 } s m ([.ref (ad k0), .int p1, .int p2, .int p3] : List Value).toArray below meth c H locs 0 0 (zQI below D cy sh ad s [.ref (ad k0), .int p1, .int p2, .int p3] r M1) (F0 m 71 ls [.int s0]) := by
    intro  s0 M H locs ls hl hw hd
    unfold zjX12_follows_71 at hd
    exact z_iret F hr hlk hw (zpr1 hd) (zpr2 hd) dX12_follows_71
  unfold zX12_follows at hd
  refine lv_iload_n hx hb dX12_follows_0 rfl (lv_at hl 1 rfl) ?_
  refine lv_i2l (v := p1.toInt64) hx hb dX12_follows_1 rfl ?_
  refine lv_lconst (v := (1 : Int64)) hx hb dX12_follows_2 (by decide) ?_
  refine lv_ldc2 (v := (50 : Int64)) hx hb F.1.2.2.2.1 (F.1.2.2.2.2 _ zi12_492) dX12_follows_3 ?_
  obtain ⟨r_2, hc_1, hd⟩ := zob_some hd
  refine z_csI F hw hl.1 (As := [.long (p1.toInt64), .long (1 : Int64), .long (50 : Int64)]) (rest := []) (ztX12_isIn l D cy sh ad  hc_1) zyX12_isIn zk12_91 ⟨rfl, rfl⟩ ⟨by decide, by decide⟩ rfl rfl (Nat.le_of_ble_eq_true rfl) dX12_follows_6 (fun H locs hw => ?_)
  refine lv_if_eq (tgt := 36) hx hb dX12_follows_9 (by decide) (fun c_3 => ?_) (fun c_3 => ?_)
  · have hd := zif_pos c_3 hd
    exact J36 _ _ _ _ (lv_sub hl [] rfl) hw hd
  · have hd := zif_neg c_3 hd
    refine lv_iload_n hx hb dX12_follows_12 rfl (lv_at hl 2 rfl) ?_
    refine lv_i2l (v := p2.toInt64) hx hb dX12_follows_13 rfl ?_
    refine lv_lconst (v := (0 : Int64)) hx hb dX12_follows_14 (by decide) ?_
    refine lv_ldc2 (v := (8 : Int64)) hx hb F.1.2.2.2.1 (F.1.2.2.2.2 _ zi12_395) dX12_follows_15 ?_
    obtain ⟨r_5, hc_4, hd⟩ := zob_some hd
    refine z_csI F hw hl.1 (As := [.long (p2.toInt64), .long (0 : Int64), .long (8 : Int64)]) (rest := []) (ztX12_isIn l D cy sh ad  hc_4) zyX12_isIn zk12_91 ⟨rfl, rfl⟩ ⟨by decide, by decide⟩ rfl rfl (Nat.le_of_ble_eq_true rfl) dX12_follows_18 (fun H locs hw => ?_)
    refine lv_if_eq (tgt := 36) hx hb dX12_follows_21 (by decide) (fun c_6 => ?_) (fun c_6 => ?_)
    · have hd := zif_pos c_6 hd
      exact J36 _ _ _ _ (lv_sub hl [] rfl) hw hd
    · have hd := zif_neg c_6 hd
      refine lv_iload_n hx hb dX12_follows_24 rfl (lv_at hl 3 rfl) ?_
      refine lv_i2l (v := p3.toInt64) hx hb dX12_follows_25 rfl ?_
      refine lv_lconst (v := (0 : Int64)) hx hb dX12_follows_26 (by decide) ?_
      refine lv_ldc2 (v := (2 : Int64)) hx hb F.1.2.2.2.1 (F.1.2.2.2.2 _ zi12_268) dX12_follows_27 ?_
      obtain ⟨r_8, hc_7, hd⟩ := zob_some hd
      refine z_csI F hw hl.1 (As := [.long (p3.toInt64), .long (0 : Int64), .long (2 : Int64)]) (rest := []) (ztX12_isIn l D cy sh ad  hc_7) zyX12_isIn zk12_91 ⟨rfl, rfl⟩ ⟨by decide, by decide⟩ rfl rfl (Nat.le_of_ble_eq_true rfl) dX12_follows_30 (fun H locs hw => ?_)
      refine lv_if_ne (tgt := 38) hx hb dX12_follows_33 (by decide) (fun c_9 => ?_) (fun c_9 => ?_)
      · have hd := zif_neg c_9 hd
        refine lv_aload_n hx hb dX12_follows_38 rfl (lv_at hl 0 rfl) ?_
        refine lv_iload_n hx hb dX12_follows_39 rfl (lv_at hl 1 rfl) ?_
        refine lv_iload_n hx hb dX12_follows_40 rfl (lv_at hl 2 rfl) ?_
        obtain ⟨M_11, hc_10, hd⟩ := zob_some hd
        refine z_cvV F hw hl.1 (As := [.int p1, .int p2]) (rest := []) (ztX12_laysFollow l D cy sh ad h0 hc_10) zyX12_laysFollow h0 zc12 zk12_494 ⟨rfl, rfl⟩ ⟨by decide, by decide⟩ rfl rfl (Nat.le_of_ble_eq_true rfl) dX12_follows_41 (fun H locs hw => ?_)
        refine lv_iload_n hx hb dX12_follows_44 rfl (lv_at hl 3 rfl) ?_
        refine lv_if_ne (tgt := 55) hx hb dX12_follows_45 (by decide) (fun c_12 => ?_) (fun c_12 => ?_)
        · have hd := zif_neg c_12 hd
          refine lv_iload_n hx hb dX12_follows_55 rfl (lv_at hl 3 rfl) ?_
          refine lv_iconst (v := (1 : Int32)) hx hb dX12_follows_56 (by decide) ?_
          refine lv_icmp_ne (tgt := 67) hx hb dX12_follows_57 (by decide) (fun c_13 => ?_) (fun c_13 => ?_)
          · have hd := zif_neg c_13 hd
            refine lv_aload_n hx hb dX12_follows_67 rfl (lv_at hl 0 rfl) ?_
            refine z_gI F hw h0 zc12 50 (by decide) rfl zf12_489 dX12_follows_68 ?_
            exact J71 _ _ _ _ _ (lv_sub hl [] rfl) hw hd
          · have hd := zif_pos c_13 hd
            refine lv_aload_n hx hb dX12_follows_60 rfl (lv_at hl 0 rfl) ?_
            refine z_gI F hw h0 zc12 49 (by decide) rfl zf12_486 dX12_follows_61 ?_
            refine lv_goto (tgt := 71) hx hb dX12_follows_64 (by decide) ?_
            exact J71 _ _ _ _ _ (lv_sub hl [] rfl) hw hd
        · have hd := zif_pos c_12 hd
          refine lv_aload_n hx hb dX12_follows_48 rfl (lv_at hl 0 rfl) ?_
          refine z_gI F hw h0 zc12 48 (by decide) rfl zf12_483 dX12_follows_49 ?_
          refine lv_goto (tgt := 71) hx hb dX12_follows_52 (by decide) ?_
          exact J71 _ _ _ _ _ (lv_sub hl [] rfl) hw hd
      · have hd := zif_pos c_9 hd
        exact J36 _ _ _ _ (lv_sub hl [] rfl) hw hd

def zjX12_mode_59 (sh : zShp) (k0 : Nat) (p1 : Int32) (kk21 : Int32 → Int32 → Int32 → zMem → Option (Int32 × zMem)) (x2 : Int32) (x3 : Int32) (x4 : Int32) (M : zMem) : Option (Int32 × zMem) :=
  kk21 x2 x3 (x4 + (1 : Int32)) M
def zjX12_mode_51 (sh : zShp) (k0 : Nat) (p1 : Int32) (kk21 : Int32 → Int32 → Int32 → zMem → Option (Int32 × zMem)) (x4 : Int32) (M : zMem) : Option (Int32 × zMem) :=
  zjX12_mode_59 sh k0 p1 kk21 x4 (zI M k0 50) x4 M
def zbX12_mode_21 (sh : zShp) (k0 : Nat) (p1 : Int32)  (kk21 : Int32 → Int32 → Int32 → zMem → Option (Int32 × zMem)) (x2 : Int32) (x3 : Int32) (x4 : Int32) (M : zMem) : Option (Int32 × zMem) :=
  if (8 : Int32) < x4 then (
  some (x2, M))
  else (
  zob (zX12_laysFollow sh k0 p1 x4 M) fun M_3 =>
  if x3 = (-1 : Int32) then (
  zjX12_mode_51 sh k0 p1 kk21 x4 M_3)
  else (
  if (zI M_3 k0 50) < x3 then (
  zjX12_mode_51 sh k0 p1 kk21 x4 M_3)
  else (
  zjX12_mode_59 sh k0 p1 kk21 x2 x3 x4 M_3)))
def zlX12_mode_21 (sh : zShp) (k0 : Nat) (p1 : Int32)  : Nat → Int32 → Int32 → Int32 → zMem → Option (Int32 × zMem)
  | 0 => fun _ _ _ _ => none
  | n + 1 => fun x2 x3 x4 M => zbX12_mode_21 sh k0 p1  (zlX12_mode_21 sh k0 p1  n) x2 x3 x4 M
def zX12_mode (sh : zShp) (k0 : Nat) (p1 : Int32) (M : zMem) : Option (Int32 × zMem) :=
  zob (zX12_isIn sh (p1.toInt64) (1 : Int64) (50 : Int64) M) fun r_7 =>
  if r_7 = 0 then (
  some ((-1 : Int32), M))
  else (
  zlX12_mode_21 sh k0 p1 zF (0 : Int32) (-1 : Int32) (0 : Int32) M)
set_option maxHeartbeats 4000000 in
set_option maxRecDepth 100000 in
theorem ztX12_mode (l : Launch) (D : va_G) (cy : Nat → ClassId) (sh : zShp) (ad : Nat → Nat) {k0 : Nat} {p1 : Int32} (h0 : zT sh k0 12) {M : zMem} {r : Int32} {M1 : zMem} (hd : zX12_mode sh k0 p1 M = some (r, M1)) : zCI l yX12_mode cX12_mode 5 .int { frames := 4, cells := 0, slots := 0, locals := 96 } [.ref (ad k0), .int p1] D cy sh ad M r M1 := by
  refine zci_of (by decide) (Nat.le_of_ble_eq_true rfl) (fun p e s m below meth c ls F hr hlk hl hw => ?_)
  have hx := F.1.1
  have hb := F.1.2.1
  have hl : lv_has ls 5 [(0, .ref (ad k0)), (1, .int p1)] := hl
  have J59 : ∀ (kk21 : Int32 → Int32 → Int32 → zMem → Option (Int32 × zMem)) (hk21 : ∀ (x2 : Int32) (x3 : Int32) (x4 : Int32) (M : zMem) (H : Heap) (locs : List Loc) (ls : Array Slot), lv_has ls 5 [(0, .ref (ad k0)), (1, .int p1), (2, .int x2), (3, .int x3), (4, .int x4)] → zWd D cy sh ad s M H locs → kk21 x2 x3 x4 M = some (r, M1) → W p l e { frames := 4, cells := 0, slots := 0, locals := 96 } s m ([.ref (ad k0), .int p1] : List Value).toArray below meth c H locs 0 0 (zQI below D cy sh ad s [.ref (ad k0), .int p1] r M1) (F0 m 21 ls [])), ∀ (x2 : Int32) (x3 : Int32) (x4 : Int32) (M : zMem) (H : Heap) (locs : List Loc) (ls : Array Slot), lv_has ls 5 [(0, .ref (ad k0)), (1, .int p1), (2, .int x2), (3, .int x3), (4, .int x4)] → zWd D cy sh ad s M H locs → zjX12_mode_59 sh k0 p1 kk21 x2 x3 x4 M = some (r, M1) → W p l e { frames := 4, cells := 0, slots := 0, locals := 96 } s m ([.ref (ad k0), .int p1] : List Value).toArray below meth c H locs 0 0 (zQI below D cy sh ad s [.ref (ad k0), .int p1] r M1) (F0 m 59 ls []) := by
    intro kk21 hk21 x2 x3 x4 M H locs ls hl hw hd
    unfold zjX12_mode_59 at hd
    refine lv_iinc (v := (x4 + (1 : Int32))) (lv' := [(4, .int (x4 + (1 : Int32))), (0, .ref (ad k0)), (1, .int p1), (2, .int x2), (3, .int x3)]) hx hb dX12_mode_59 hl (k := 4) rfl (ziinc (by decide)) (by decide) rfl (fun ls hl => ?_)
    refine lv_goto (tgt := 21) hx hb dX12_mode_62 (by decide) ?_
    exact hk21 _ _ _ _ _ _ _ (lv_sub hl [1, 2, 3, 4, 0] rfl) hw hd
  have J51 : ∀ (kk21 : Int32 → Int32 → Int32 → zMem → Option (Int32 × zMem)) (hk21 : ∀ (x2 : Int32) (x3 : Int32) (x4 : Int32) (M : zMem) (H : Heap) (locs : List Loc) (ls : Array Slot), lv_has ls 5 [(0, .ref (ad k0)), (1, .int p1), (2, .int x2), (3, .int x3), (4, .int x4)] → zWd D cy sh ad s M H locs → kk21 x2 x3 x4 M = some (r, M1) → W p l e { frames := 4, cells := 0, slots := 0, locals := 96 } s m ([.ref (ad k0), .int p1] : List Value).toArray below meth c H locs 0 0 (zQI below D cy sh ad s [.ref (ad k0), .int p1] r M1) (F0 m 21 ls [])), ∀ (x4 : Int32) (M : zMem) (H : Heap) (locs : List Loc) (ls : Array Slot), lv_has ls 5 [(0, .ref (ad k0)), (1, .int p1), (4, .int x4)] → zWd D cy sh ad s M H locs → zjX12_mode_51 sh k0 p1 kk21 x4 M = some (r, M1) → W p l e { frames := 4, cells := 0, slots := 0, locals := 96 } s m ([.ref (ad k0), .int p1] : List Value).toArray below meth c H locs 0 0 (zQI below D cy sh ad s [.ref (ad k0), .int p1] r M1) (F0 m 51 ls []) := by
    intro kk21 hk21 x4 M H locs ls hl hw hd
    unfold zjX12_mode_51 at hd
    refine lv_iload hx hb dX12_mode_51 (lv_at hl 2 rfl) ?_
    refine lv_istore_n (lv' := [(2, .int x4), (0, .ref (ad k0)), (1, .int p1), (4, .int x4)]) hx hb dX12_mode_53 rfl hl (by decide) rfl (fun ls hl => ?_)
    refine lv_aload_n hx hb dX12_mode_54 rfl (lv_at hl 1 rfl) ?_
    refine z_gI F hw h0 zc12 50 (by decide) rfl zf12_489 dX12_mode_55 ?_
    refine lv_istore_n (lv' := [(3, .int (zI M k0 50)), (2, .int x4), (0, .ref (ad k0)), (1, .int p1), (4, .int x4)]) hx hb dX12_mode_58 rfl hl (by decide) rfl (fun ls hl => ?_)
    exact J59 _ hk21 _ _ _ _ _ _ _ (lv_sub hl [2, 3, 1, 0, 4] rfl) hw hd
  have L21 : ∀  (n : Nat), ∀ (x2 : Int32) (x3 : Int32) (x4 : Int32) (M : zMem) (H : Heap) (locs : List Loc) (ls : Array Slot), lv_has ls 5 [(0, .ref (ad k0)), (1, .int p1), (2, .int x2), (3, .int x3), (4, .int x4)] → zWd D cy sh ad s M H locs → zlX12_mode_21 sh k0 p1  n x2 x3 x4 M = some (r, M1) → W p l e { frames := 4, cells := 0, slots := 0, locals := 96 } s m ([.ref (ad k0), .int p1] : List Value).toArray below meth c H locs 0 0 (zQI below D cy sh ad s [.ref (ad k0), .int p1] r M1) (F0 m 21 ls []) := by
    intro  n
    induction n with
    | zero => intro x2 x3 x4 M H locs ls hl hw hd; exact (znone hd).elim
    | succ n hk21 =>
      intro x2 x3 x4 M H locs ls hl hw hd
      have hd : zbX12_mode_21 sh k0 p1  (zlX12_mode_21 sh k0 p1  n) x2 x3 x4 M = some (r, M1) := hd
      unfold zbX12_mode_21 at hd
      refine lv_iload hx hb dX12_mode_21 (lv_at hl 4 rfl) ?_
      refine lv_bipush (v := (8 : Int32)) hx hb dX12_mode_23 (by decide) ?_
      refine lv_icmp_gt (tgt := 65) hx hb dX12_mode_25 (by decide) (fun c_1 => ?_) (fun c_1 => ?_)
      · have hd := zif_pos c_1 hd
        refine lv_iload_n hx hb dX12_mode_65 rfl (lv_at hl 2 rfl) ?_
        exact z_iret F hr hlk hw (zpr1 hd) (zpr2 hd) dX12_mode_66
      · have hd := zif_neg c_1 hd
        refine lv_aload_n hx hb dX12_mode_28 rfl (lv_at hl 0 rfl) ?_
        refine lv_iload_n hx hb dX12_mode_29 rfl (lv_at hl 1 rfl) ?_
        refine lv_iload hx hb dX12_mode_30 (lv_at hl 4 rfl) ?_
        obtain ⟨M_3, hc_2, hd⟩ := zob_some hd
        refine z_cvV F hw hl.1 (As := [.int p1, .int x4]) (rest := []) (ztX12_laysFollow l D cy sh ad h0 hc_2) zyX12_laysFollow h0 zc12 zk12_494 ⟨rfl, rfl⟩ ⟨by decide, by decide⟩ rfl rfl (Nat.le_of_ble_eq_true rfl) dX12_mode_32 (fun H locs hw => ?_)
        refine lv_iload_n hx hb dX12_mode_35 rfl (lv_at hl 3 rfl) ?_
        refine lv_iconst (v := (-1 : Int32)) hx hb dX12_mode_36 (by decide) ?_
        refine lv_icmp_eq (tgt := 51) hx hb dX12_mode_37 (by decide) (fun c_4 => ?_) (fun c_4 => ?_)
        · have hd := zif_pos c_4 hd
          exact J51 _ hk21 _ _ _ _ _ (lv_sub hl [0, 1, 4] rfl) hw hd
        · have hd := zif_neg c_4 hd
          refine lv_aload_n hx hb dX12_mode_40 rfl (lv_at hl 0 rfl) ?_
          refine z_gI F hw h0 zc12 50 (by decide) rfl zf12_489 dX12_mode_41 ?_
          refine lv_iload_n hx hb dX12_mode_44 rfl (lv_at hl 3 rfl) ?_
          refine lv_icmp_lt (tgt := 51) hx hb dX12_mode_45 (by decide) (fun c_5 => ?_) (fun c_5 => ?_)
          · have hd := zif_pos c_5 hd
            exact J51 _ hk21 _ _ _ _ _ (lv_sub hl [0, 1, 4] rfl) hw hd
          · have hd := zif_neg c_5 hd
            refine lv_goto (tgt := 59) hx hb dX12_mode_48 (by decide) ?_
            exact J59 _ hk21 _ _ _ _ _ _ _ (lv_sub hl [0, 1, 2, 3, 4] rfl) hw hd
  unfold zX12_mode at hd
  refine lv_iload_n hx hb dX12_mode_0 rfl (lv_at hl 1 rfl) ?_
  refine lv_i2l (v := p1.toInt64) hx hb dX12_mode_1 rfl ?_
  refine lv_lconst (v := (1 : Int64)) hx hb dX12_mode_2 (by decide) ?_
  refine lv_ldc2 (v := (50 : Int64)) hx hb F.1.2.2.2.1 (F.1.2.2.2.2 _ zi12_492) dX12_mode_3 ?_
  obtain ⟨r_7, hc_6, hd⟩ := zob_some hd
  refine z_csI F hw hl.1 (As := [.long (p1.toInt64), .long (1 : Int64), .long (50 : Int64)]) (rest := []) (ztX12_isIn l D cy sh ad  hc_6) zyX12_isIn zk12_91 ⟨rfl, rfl⟩ ⟨by decide, by decide⟩ rfl rfl (Nat.le_of_ble_eq_true rfl) dX12_mode_6 (fun H locs hw => ?_)
  refine lv_if_ne (tgt := 14) hx hb dX12_mode_9 (by decide) (fun c_8 => ?_) (fun c_8 => ?_)
  · have hd := zif_neg c_8 hd
    refine lv_iconst (v := (0 : Int32)) hx hb dX12_mode_14 (by decide) ?_
    refine lv_istore_n (lv' := [(2, .int (0 : Int32)), (0, .ref (ad k0)), (1, .int p1)]) hx hb dX12_mode_15 rfl hl (by decide) rfl (fun ls hl => ?_)
    refine lv_iconst (v := (-1 : Int32)) hx hb dX12_mode_16 (by decide) ?_
    refine lv_istore_n (lv' := [(3, .int (-1 : Int32)), (2, .int (0 : Int32)), (0, .ref (ad k0)), (1, .int p1)]) hx hb dX12_mode_17 rfl hl (by decide) rfl (fun ls hl => ?_)
    refine lv_iconst (v := (0 : Int32)) hx hb dX12_mode_18 (by decide) ?_
    refine lv_istore (lv' := [(4, .int (0 : Int32)), (3, .int (-1 : Int32)), (2, .int (0 : Int32)), (0, .ref (ad k0)), (1, .int p1)]) hx hb dX12_mode_19 hl (by decide) rfl (fun ls hl => ?_)
    exact L21 zF _ _ _ _ _ _ _ (lv_sub hl [3, 4, 2, 1, 0] rfl) hw hd
  · have hd := zif_pos c_8 hd
    refine lv_iconst (v := (-1 : Int32)) hx hb dX12_mode_12 (by decide) ?_
    exact z_iret F hr hlk hw (zpr1 hd) (zpr2 hd) dX12_mode_13

def zjX12_ripple_24 (sh : zShp) (k0 : Nat) (p1 : Int32) (p2 : Int32) (M : zMem)   : Option (Int32) :=
  some (-1 : Int32)
def zjX12_ripple_92 (sh : zShp) (k0 : Nat) (p1 : Int32) (p2 : Int32) (M : zMem) (kk37 : Int32 → Int32 → Int32 → Int32 → Option (Int32)) (x3 : Int32) (x4 : Int32) (x5 : Int32) (x6 : Int32) : Option (Int32) :=
  kk37 x3 x4 x5 (x6 + (1 : Int32))
def zjX12_ripple_82 (sh : zShp) (k0 : Nat) (p1 : Int32) (p2 : Int32) (M : zMem) (kk37 : Int32 → Int32 → Int32 → Int32 → Option (Int32)) (x3 : Int32) (x5 : Int32) (x6 : Int32) (s0 : Int32) : Option (Int32) :=
  zob (zX12_greater sh x5 x3 M) fun r_2 =>
  zjX12_ripple_92 sh k0 p1 p2 M kk37 x3 s0 r_2 x6
def zbX12_ripple_37 (sh : zShp) (k0 : Nat) (p1 : Int32) (p2 : Int32) (M : zMem)  (kk37 : Int32 → Int32 → Int32 → Int32 → Option (Int32)) (x3 : Int32) (x4 : Int32) (x5 : Int32) (x6 : Int32) : Option (Int32) :=
  if (264 : Int32) ≤ x6 then (
  some (x5 - x4))
  else (
  zob (zX12_pulls sh k0 x3 p1 p2 x6 M) fun r_5 =>
  if (200 : Int32) ≤ x6 then (
  if x4 = (-1 : Int32) then (
  zjX12_ripple_82 sh k0 p1 p2 M kk37 r_5 x5 x6 r_5)
  else (
  zob (zX12_lesser sh x4 r_5 M) fun r_9 =>
  zjX12_ripple_82 sh k0 p1 p2 M kk37 r_5 x5 x6 r_9))
  else (
  zjX12_ripple_92 sh k0 p1 p2 M kk37 r_5 x4 x5 x6))
def zlX12_ripple_37 (sh : zShp) (k0 : Nat) (p1 : Int32) (p2 : Int32) (M : zMem)  : Nat → Int32 → Int32 → Int32 → Int32 → Option (Int32)
  | 0 => fun _ _ _ _ => none
  | n + 1 => fun x3 x4 x5 x6 => zbX12_ripple_37 sh k0 p1 p2 M  (zlX12_ripple_37 sh k0 p1 p2 M  n) x3 x4 x5 x6
def zX12_ripple (sh : zShp) (k0 : Nat) (p1 : Int32) (p2 : Int32) (M : zMem) : Option (Int32) :=
  zob (zX12_isIn sh (p1.toInt64) (0 : Int64) (2000 : Int64) M) fun r_11 =>
  if r_11 = 0 then (
  zjX12_ripple_24 sh k0 p1 p2 M)
  else (
  zob (zX12_isIn sh (p2.toInt64) (0 : Int64) (8 : Int64) M) fun r_14 =>
  if r_14 = 0 then (
  zjX12_ripple_24 sh k0 p1 p2 M)
  else (
  zlX12_ripple_37 sh k0 p1 p2 M zF (0 : Int32) (-1 : Int32) (-1 : Int32) (0 : Int32)))
set_option maxHeartbeats 4000000 in
set_option maxRecDepth 100000 in
theorem ztX12_ripple (l : Launch) (D : va_G) (cy : Nat → ClassId) (sh : zShp) (ad : Nat → Nat) {k0 : Nat} {p1 : Int32} {p2 : Int32} (h0 : zT sh k0 12) {M : zMem} {r : Int32} (hd : zX12_ripple sh k0 p1 p2 M = some r) : zCI l yX12_ripple cX12_ripple 7 .int { frames := 2, cells := 0, slots := 0, locals := 46 } [.ref (ad k0), .int p1, .int p2] D cy sh ad M r M := by
  refine zci_of (by decide) (Nat.le_of_ble_eq_true rfl) (fun p e s m below meth c ls F hr hlk hl hw => ?_)
  have hx := F.1.1
  have hb := F.1.2.1
  have hl : lv_has ls 7 [(0, .ref (ad k0)), (1, .int p1), (2, .int p2)] := hl
  have J24 : ∀  (H : Heap) (locs : List Loc) (ls : Array Slot), lv_has ls 7 [] → zWd D cy sh ad s M H locs → zjX12_ripple_24 sh k0 p1 p2 M   = some r → W p l e { frames := 2, cells := 0, slots := 0, locals := 46 } s m ([.ref (ad k0), .int p1, .int p2] : List Value).toArray below meth c H locs 0 0 (zQI below D cy sh ad s [.ref (ad k0), .int p1, .int p2] r M) (F0 m 24 ls []) := by
    intro  H locs ls hl hw hd
    unfold zjX12_ripple_24 at hd
    refine lv_iconst (v := (-1 : Int32)) hx hb dX12_ripple_24 (by decide) ?_
    exact z_iret F hr hlk hw (Option.some.inj hd) rfl dX12_ripple_25
  have J92 : ∀ (kk37 : Int32 → Int32 → Int32 → Int32 → Option (Int32)) (hk37 : ∀ (x3 : Int32) (x4 : Int32) (x5 : Int32) (x6 : Int32) (H : Heap) (locs : List Loc) (ls : Array Slot), lv_has ls 7 [(0, .ref (ad k0)), (1, .int p1), (2, .int p2), (3, .int x3), (4, .int x4), (5, .int x5), (6, .int x6)] → zWd D cy sh ad s M H locs → kk37 x3 x4 x5 x6 = some r → W p l e { frames := 2, cells := 0, slots := 0, locals := 46 } s m ([.ref (ad k0), .int p1, .int p2] : List Value).toArray below meth c H locs 0 0 (zQI below D cy sh ad s [.ref (ad k0), .int p1, .int p2] r M) (F0 m 37 ls [])), ∀ (x3 : Int32) (x4 : Int32) (x5 : Int32) (x6 : Int32) (H : Heap) (locs : List Loc) (ls : Array Slot), lv_has ls 7 [(0, .ref (ad k0)), (1, .int p1), (2, .int p2), (3, .int x3), (4, .int x4), (5, .int x5), (6, .int x6)] → zWd D cy sh ad s M H locs → zjX12_ripple_92 sh k0 p1 p2 M kk37 x3 x4 x5 x6 = some r → W p l e { frames := 2, cells := 0, slots := 0, locals := 46 } s m ([.ref (ad k0), .int p1, .int p2] : List Value).toArray below meth c H locs 0 0 (zQI below D cy sh ad s [.ref (ad k0), .int p1, .int p2] r M) (F0 m 92 ls []) := by
    intro kk37 hk37 x3 x4 x5 x6 H locs ls hl hw hd
    unfold zjX12_ripple_92 at hd
    refine lv_iinc (v := (x6 + (1 : Int32))) (lv' := [(6, .int (x6 + (1 : Int32))), (0, .ref (ad k0)), (1, .int p1), (2, .int p2), (3, .int x3), (4, .int x4), (5, .int x5)]) hx hb dX12_ripple_92 hl (k := 6) rfl (ziinc (by decide)) (by decide) rfl (fun ls hl => ?_)
    refine lv_goto (tgt := 37) hx hb dX12_ripple_95 (by decide) ?_
    exact hk37 _ _ _ _ _ _ _ (lv_sub hl [1, 2, 3, 4, 5, 6, 0] rfl) hw hd
  have J82 : ∀ (kk37 : Int32 → Int32 → Int32 → Int32 → Option (Int32)) (hk37 : ∀ (x3 : Int32) (x4 : Int32) (x5 : Int32) (x6 : Int32) (H : Heap) (locs : List Loc) (ls : Array Slot), lv_has ls 7 [(0, .ref (ad k0)), (1, .int p1), (2, .int p2), (3, .int x3), (4, .int x4), (5, .int x5), (6, .int x6)] → zWd D cy sh ad s M H locs → kk37 x3 x4 x5 x6 = some r → W p l e { frames := 2, cells := 0, slots := 0, locals := 46 } s m ([.ref (ad k0), .int p1, .int p2] : List Value).toArray below meth c H locs 0 0 (zQI below D cy sh ad s [.ref (ad k0), .int p1, .int p2] r M) (F0 m 37 ls [])), ∀ (x3 : Int32) (x5 : Int32) (x6 : Int32) (s0 : Int32) (H : Heap) (locs : List Loc) (ls : Array Slot), lv_has ls 7 [(0, .ref (ad k0)), (1, .int p1), (2, .int p2), (3, .int x3), (5, .int x5), (6, .int x6)] → zWd D cy sh ad s M H locs → zjX12_ripple_82 sh k0 p1 p2 M kk37 x3 x5 x6 s0 = some r → W p l e { frames := 2, cells := 0, slots := 0, locals := 46 } s m ([.ref (ad k0), .int p1, .int p2] : List Value).toArray below meth c H locs 0 0 (zQI below D cy sh ad s [.ref (ad k0), .int p1, .int p2] r M) (F0 m 82 ls [.int s0]) := by
    intro kk37 hk37 x3 x5 x6 s0 H locs ls hl hw hd
    unfold zjX12_ripple_82 at hd
    refine lv_istore (lv' := [(4, .int s0), (0, .ref (ad k0)), (1, .int p1), (2, .int p2), (3, .int x3), (5, .int x5), (6, .int x6)]) hx hb dX12_ripple_82 hl (by decide) rfl (fun ls hl => ?_)
    refine lv_iload hx hb dX12_ripple_84 (lv_at hl 5 rfl) ?_
    refine lv_iload_n hx hb dX12_ripple_86 rfl (lv_at hl 4 rfl) ?_
    obtain ⟨r_2, hc_1, hd⟩ := zob_some hd
    refine z_csI F hw hl.1 (As := [.int x5, .int x3]) (rest := []) (ztX12_greater l D cy sh ad  hc_1) zyX12_greater zk12_318 ⟨rfl, rfl⟩ ⟨by decide, by decide⟩ rfl rfl (Nat.le_of_ble_eq_true rfl) dX12_ripple_87 (fun H locs hw => ?_)
    refine lv_istore (lv' := [(5, .int r_2), (4, .int s0), (0, .ref (ad k0)), (1, .int p1), (2, .int p2), (3, .int x3), (6, .int x6)]) hx hb dX12_ripple_90 hl (by decide) rfl (fun ls hl => ?_)
    exact J92 _ hk37 _ _ _ _ _ _ _ (lv_sub hl [2, 3, 4, 5, 1, 0, 6] rfl) hw hd
  have L37 : ∀  (n : Nat), ∀ (x3 : Int32) (x4 : Int32) (x5 : Int32) (x6 : Int32) (H : Heap) (locs : List Loc) (ls : Array Slot), lv_has ls 7 [(0, .ref (ad k0)), (1, .int p1), (2, .int p2), (3, .int x3), (4, .int x4), (5, .int x5), (6, .int x6)] → zWd D cy sh ad s M H locs → zlX12_ripple_37 sh k0 p1 p2 M  n x3 x4 x5 x6 = some r → W p l e { frames := 2, cells := 0, slots := 0, locals := 46 } s m ([.ref (ad k0), .int p1, .int p2] : List Value).toArray below meth c H locs 0 0 (zQI below D cy sh ad s [.ref (ad k0), .int p1, .int p2] r M) (F0 m 37 ls []) := by
    intro  n
    induction n with
    | zero => intro x3 x4 x5 x6 H locs ls hl hw hd; exact (znone hd).elim
    | succ n hk37 =>
      intro x3 x4 x5 x6 H locs ls hl hw hd
      have hd : zbX12_ripple_37 sh k0 p1 p2 M  (zlX12_ripple_37 sh k0 p1 p2 M  n) x3 x4 x5 x6 = some r := hd
      unfold zbX12_ripple_37 at hd
      refine lv_iload hx hb dX12_ripple_37 (lv_at hl 6 rfl) ?_
      refine lv_sipush (v := (264 : Int32)) hx hb dX12_ripple_39 (by decide) ?_
      refine lv_icmp_ge (tgt := 98) hx hb dX12_ripple_42 (by decide) (fun c_3 => ?_) (fun c_3 => ?_)
      · have hd := zif_pos c_3 hd
        refine lv_iload hx hb dX12_ripple_98 (lv_at hl 5 rfl) ?_
        refine lv_iload hx hb dX12_ripple_100 (lv_at hl 4 rfl) ?_
        refine lv_isub hx hb dX12_ripple_102 ?_
        exact z_iret F hr hlk hw (Option.some.inj hd) rfl dX12_ripple_103
      · have hd := zif_neg c_3 hd
        refine lv_aload_n hx hb dX12_ripple_45 rfl (lv_at hl 0 rfl) ?_
        refine lv_iload_n hx hb dX12_ripple_46 rfl (lv_at hl 3 rfl) ?_
        refine lv_iload_n hx hb dX12_ripple_47 rfl (lv_at hl 1 rfl) ?_
        refine lv_iload_n hx hb dX12_ripple_48 rfl (lv_at hl 2 rfl) ?_
        refine lv_iload hx hb dX12_ripple_49 (lv_at hl 6 rfl) ?_
        obtain ⟨r_5, hc_4, hd⟩ := zob_some hd
        refine z_cvI F hw hl.1 (As := [.int x3, .int p1, .int p2, .int x6]) (rest := []) (ztX12_pulls l D cy sh ad h0 hc_4) zyX12_pulls h0 zc12 zk12_397 ⟨rfl, rfl⟩ ⟨by decide, by decide⟩ rfl rfl (Nat.le_of_ble_eq_true rfl) dX12_ripple_51 (fun H locs hw => ?_)
        refine lv_istore_n (lv' := [(3, .int r_5), (0, .ref (ad k0)), (1, .int p1), (2, .int p2), (4, .int x4), (5, .int x5), (6, .int x6)]) hx hb dX12_ripple_54 rfl hl (by decide) rfl (fun ls hl => ?_)
        refine lv_iload hx hb dX12_ripple_55 (lv_at hl 6 rfl) ?_
        refine lv_sipush (v := (200 : Int32)) hx hb dX12_ripple_57 (by decide) ?_
        refine lv_icmp_ge (tgt := 66) hx hb dX12_ripple_60 (by decide) (fun c_6 => ?_) (fun c_6 => ?_)
        · have hd := zif_pos c_6 hd
          refine lv_iload hx hb dX12_ripple_66 (lv_at hl 4 rfl) ?_
          refine lv_iconst (v := (-1 : Int32)) hx hb dX12_ripple_68 (by decide) ?_
          refine lv_icmp_ne (tgt := 76) hx hb dX12_ripple_69 (by decide) (fun c_7 => ?_) (fun c_7 => ?_)
          · have hd := zif_neg c_7 hd
            refine lv_iload hx hb dX12_ripple_76 (lv_at hl 4 rfl) ?_
            refine lv_iload_n hx hb dX12_ripple_78 rfl (lv_at hl 0 rfl) ?_
            obtain ⟨r_9, hc_8, hd⟩ := zob_some hd
            refine z_csI F hw hl.1 (As := [.int x4, .int r_5]) (rest := []) (ztX12_lesser l D cy sh ad  hc_8) zyX12_lesser zk12_332 ⟨rfl, rfl⟩ ⟨by decide, by decide⟩ rfl rfl (Nat.le_of_ble_eq_true rfl) dX12_ripple_79 (fun H locs hw => ?_)
            exact J82 _ hk37 _ _ _ _ _ _ _ (lv_sub hl [1, 2, 3, 0, 5, 6] rfl) hw hd
          · have hd := zif_pos c_7 hd
            refine lv_iload_n hx hb dX12_ripple_72 rfl (lv_at hl 0 rfl) ?_
            refine lv_goto (tgt := 82) hx hb dX12_ripple_73 (by decide) ?_
            exact J82 _ hk37 _ _ _ _ _ _ _ (lv_sub hl [1, 2, 3, 0, 5, 6] rfl) hw hd
        · have hd := zif_neg c_6 hd
          refine lv_goto (tgt := 92) hx hb dX12_ripple_63 (by decide) ?_
          exact J92 _ hk37 _ _ _ _ _ _ _ (lv_sub hl [1, 2, 3, 0, 4, 5, 6] rfl) hw hd
  unfold zX12_ripple at hd
  refine lv_iload_n hx hb dX12_ripple_0 rfl (lv_at hl 1 rfl) ?_
  refine lv_i2l (v := p1.toInt64) hx hb dX12_ripple_1 rfl ?_
  refine lv_lconst (v := (0 : Int64)) hx hb dX12_ripple_2 (by decide) ?_
  refine lv_ldc2 (v := (2000 : Int64)) hx hb F.1.2.2.2.1 (F.1.2.2.2.2 _ zi12_416) dX12_ripple_3 ?_
  obtain ⟨r_11, hc_10, hd⟩ := zob_some hd
  refine z_csI F hw hl.1 (As := [.long (p1.toInt64), .long (0 : Int64), .long (2000 : Int64)]) (rest := []) (ztX12_isIn l D cy sh ad  hc_10) zyX12_isIn zk12_91 ⟨rfl, rfl⟩ ⟨by decide, by decide⟩ rfl rfl (Nat.le_of_ble_eq_true rfl) dX12_ripple_6 (fun H locs hw => ?_)
  refine lv_if_eq (tgt := 24) hx hb dX12_ripple_9 (by decide) (fun c_12 => ?_) (fun c_12 => ?_)
  · have hd := zif_pos c_12 hd
    exact J24 _ _ _ (lv_sub hl [] rfl) hw hd
  · have hd := zif_neg c_12 hd
    refine lv_iload_n hx hb dX12_ripple_12 rfl (lv_at hl 2 rfl) ?_
    refine lv_i2l (v := p2.toInt64) hx hb dX12_ripple_13 rfl ?_
    refine lv_lconst (v := (0 : Int64)) hx hb dX12_ripple_14 (by decide) ?_
    refine lv_ldc2 (v := (8 : Int64)) hx hb F.1.2.2.2.1 (F.1.2.2.2.2 _ zi12_395) dX12_ripple_15 ?_
    obtain ⟨r_14, hc_13, hd⟩ := zob_some hd
    refine z_csI F hw hl.1 (As := [.long (p2.toInt64), .long (0 : Int64), .long (8 : Int64)]) (rest := []) (ztX12_isIn l D cy sh ad  hc_13) zyX12_isIn zk12_91 ⟨rfl, rfl⟩ ⟨by decide, by decide⟩ rfl rfl (Nat.le_of_ble_eq_true rfl) dX12_ripple_18 (fun H locs hw => ?_)
    refine lv_if_ne (tgt := 26) hx hb dX12_ripple_21 (by decide) (fun c_15 => ?_) (fun c_15 => ?_)
    · have hd := zif_neg c_15 hd
      refine lv_iconst (v := (0 : Int32)) hx hb dX12_ripple_26 (by decide) ?_
      refine lv_istore_n (lv' := [(3, .int (0 : Int32)), (0, .ref (ad k0)), (1, .int p1), (2, .int p2)]) hx hb dX12_ripple_27 rfl hl (by decide) rfl (fun ls hl => ?_)
      refine lv_iconst (v := (-1 : Int32)) hx hb dX12_ripple_28 (by decide) ?_
      refine lv_istore (lv' := [(4, .int (-1 : Int32)), (3, .int (0 : Int32)), (0, .ref (ad k0)), (1, .int p1), (2, .int p2)]) hx hb dX12_ripple_29 hl (by decide) rfl (fun ls hl => ?_)
      refine lv_iconst (v := (-1 : Int32)) hx hb dX12_ripple_31 (by decide) ?_
      refine lv_istore (lv' := [(5, .int (-1 : Int32)), (4, .int (-1 : Int32)), (3, .int (0 : Int32)), (0, .ref (ad k0)), (1, .int p1), (2, .int p2)]) hx hb dX12_ripple_32 hl (by decide) rfl (fun ls hl => ?_)
      refine lv_iconst (v := (0 : Int32)) hx hb dX12_ripple_34 (by decide) ?_
      refine lv_istore (lv' := [(6, .int (0 : Int32)), (5, .int (-1 : Int32)), (4, .int (-1 : Int32)), (3, .int (0 : Int32)), (0, .ref (ad k0)), (1, .int p1), (2, .int p2)]) hx hb dX12_ripple_35 hl (by decide) rfl (fun ls hl => ?_)
      exact L37 zF _ _ _ _ _ _ _ (lv_sub hl [4, 5, 6, 3, 2, 1, 0] rfl) hw hd
    · have hd := zif_pos c_15 hd
      exact J24 _ _ _ (lv_sub hl [] rfl) hw hd

def zjX12_about_133 (sh : zShp) (k0 : Nat) (p1 : Int32) (M : zMem)  (s0 : Int32) : Option (Int32) :=
  some s0
def zX12_about (sh : zShp) (k0 : Nat) (p1 : Int32) (M : zMem) : Option (Int32) :=
  if p1 = (0 : Int32) then (
  some (zI M k0 22))
  else if p1 = (1 : Int32) then (
  some (zI M k0 24))
  else if p1 = (2 : Int32) then (
  some (zI M k0 26))
  else if p1 = (3 : Int32) then (
  some (zI M k0 28))
  else if p1 = (4 : Int32) then (
  some (zI M k0 29))
  else if p1 = (5 : Int32) then (
  zgd (zin (0 : Int32) (zlen sh (zR M k0 0))) <|
  some (zI M (zR M k0 0) ((0 : Int32).toNatClampNeg)))
  else if p1 = (6 : Int32) then (
  zgd (zin (1 : Int32) (zlen sh (zR M k0 0))) <|
  some (zI M (zR M k0 0) ((1 : Int32).toNatClampNeg)))
  else if p1 = (7 : Int32) then (
  zgd (zin (1 : Int32) (zlen sh (zR M k0 0))) <|
  if (zI M (zR M k0 0) ((1 : Int32).toNatClampNeg)) = (1 : Int32) then (
  zob (zX12_allTicks sh k0 M) fun r_17 =>
  zgd (zin (15 : Int32) (zlen sh (zR M k0 0))) <|
  zjX12_about_133 sh k0 p1 M (r_17 - (zI M (zR M k0 0) ((15 : Int32).toNatClampNeg))))
  else (
  zjX12_about_133 sh k0 p1 M (0 : Int32)))
  else if p1 = (8 : Int32) then (
  some (zI M k0 46))
  else if p1 = (9 : Int32) then (
  some (zI M k0 2))
  else if p1 = (10 : Int32) then (
  zgd (zin (23 : Int32) (zlen sh (zR M k0 0))) <|
  some (zI M (zR M k0 0) ((23 : Int32).toNatClampNeg)))
  else if p1 = (11 : Int32) then (
  zgd (zin (21 : Int32) (zlen sh (zR M k0 0))) <|
  some (zI M (zR M k0 0) ((21 : Int32).toNatClampNeg)))
  else if p1 = (12 : Int32) then (
  zgd (zin (22 : Int32) (zlen sh (zR M k0 0))) <|
  some (zI M (zR M k0 0) ((22 : Int32).toNatClampNeg)))
  else (
  some (-1 : Int32))
set_option maxHeartbeats 4000000 in
set_option maxRecDepth 100000 in
theorem ztX12_about (l : Launch) (D : va_G) (cy : Nat → ClassId) (sh : zShp) (ad : Nat → Nat) {k0 : Nat} {p1 : Int32} (h0 : zT sh k0 12) {M : zMem} {r : Int32} (hd : zX12_about sh k0 p1 M = some r) : zCI l yX12_about cX12_about 2 .int { frames := 1, cells := 0, slots := 0, locals := 20 } [.ref (ad k0), .int p1] D cy sh ad M r M := by
  refine zci_of (by decide) (Nat.le_of_ble_eq_true rfl) (fun p e s m below meth c ls F hr hlk hl hw => ?_)
  have hx := F.1.1
  have hb := F.1.2.1
  have hl : lv_has ls 2 [(0, .ref (ad k0)), (1, .int p1)] := hl
  have J133 : ∀ (s0 : Int32) (H : Heap) (locs : List Loc) (ls : Array Slot), lv_has ls 2 [] → zWd D cy sh ad s M H locs → zjX12_about_133 sh k0 p1 M  s0 = some r → W p l e { frames := 1, cells := 0, slots := 0, locals := 20 } s m ([.ref (ad k0), .int p1] : List Value).toArray below meth c H locs 0 0 (zQI below D cy sh ad s [.ref (ad k0), .int p1] r M) (F0 m 133 ls [.int s0]) := by
    intro  s0 H locs ls hl hw hd
    unfold zjX12_about_133 at hd
    exact z_iret F hr hlk hw (Option.some.inj hd) rfl dX12_about_133
  unfold zX12_about at hd
  refine lv_iload_n hx hb dX12_about_0 rfl (lv_at hl 1 rfl) ?_
  by_cases c_1 : p1 = (0 : Int32)
  · have hd := zif_pos c_1 hd
    refine lv_tableIn (tgt := 68) (off := 67) hx hb dX12_about_1 (by rw [c_1]; decide) (by rw [c_1]; decide) (by rw [c_1]; decide) (by decide) ?_
    refine lv_aload_n hx hb dX12_about_68 rfl (lv_at hl 0 rfl) ?_
    refine z_gI F hw h0 zc12 22 (by decide) rfl zf12_240 dX12_about_69 ?_
    exact z_iret F hr hlk hw (Option.some.inj hd) rfl dX12_about_72
  have hd := zif_neg c_1 hd
  by_cases c_2 : p1 = (1 : Int32)
  · have hd := zif_pos c_2 hd
    refine lv_tableIn (tgt := 73) (off := 72) hx hb dX12_about_1 (by rw [c_2]; decide) (by rw [c_2]; decide) (by rw [c_2]; decide) (by decide) ?_
    refine lv_aload_n hx hb dX12_about_73 rfl (lv_at hl 0 rfl) ?_
    refine z_gI F hw h0 zc12 24 (by decide) rfl zf12_243 dX12_about_74 ?_
    exact z_iret F hr hlk hw (Option.some.inj hd) rfl dX12_about_77
  have hd := zif_neg c_2 hd
  by_cases c_3 : p1 = (2 : Int32)
  · have hd := zif_pos c_3 hd
    refine lv_tableIn (tgt := 78) (off := 77) hx hb dX12_about_1 (by rw [c_3]; decide) (by rw [c_3]; decide) (by rw [c_3]; decide) (by decide) ?_
    refine lv_aload_n hx hb dX12_about_78 rfl (lv_at hl 0 rfl) ?_
    refine z_gI F hw h0 zc12 26 (by decide) rfl zf12_246 dX12_about_79 ?_
    exact z_iret F hr hlk hw (Option.some.inj hd) rfl dX12_about_82
  have hd := zif_neg c_3 hd
  by_cases c_4 : p1 = (3 : Int32)
  · have hd := zif_pos c_4 hd
    refine lv_tableIn (tgt := 83) (off := 82) hx hb dX12_about_1 (by rw [c_4]; decide) (by rw [c_4]; decide) (by rw [c_4]; decide) (by decide) ?_
    refine lv_aload_n hx hb dX12_about_83 rfl (lv_at hl 0 rfl) ?_
    refine z_gI F hw h0 zc12 28 (by decide) rfl zf12_70 dX12_about_84 ?_
    exact z_iret F hr hlk hw (Option.some.inj hd) rfl dX12_about_87
  have hd := zif_neg c_4 hd
  by_cases c_5 : p1 = (4 : Int32)
  · have hd := zif_pos c_5 hd
    refine lv_tableIn (tgt := 88) (off := 87) hx hb dX12_about_1 (by rw [c_5]; decide) (by rw [c_5]; decide) (by rw [c_5]; decide) (by decide) ?_
    refine lv_aload_n hx hb dX12_about_88 rfl (lv_at hl 0 rfl) ?_
    refine z_gI F hw h0 zc12 29 (by decide) rfl zf12_73 dX12_about_89 ?_
    exact z_iret F hr hlk hw (Option.some.inj hd) rfl dX12_about_92
  have hd := zif_neg c_5 hd
  by_cases c_6 : p1 = (5 : Int32)
  · have hd := zif_pos c_6 hd
    refine lv_tableIn (tgt := 93) (off := 92) hx hb dX12_about_1 (by rw [c_6]; decide) (by rw [c_6]; decide) (by rw [c_6]; decide) (by decide) ?_
    refine lv_aload_n hx hb dX12_about_93 rfl (lv_at hl 0 rfl) ?_
    refine z_gR F hw h0 zc12 0 (by decide) rfl zf12_7 dX12_about_94 ?_
    have t_7 : zT sh (zR M k0 0) 14 := hw.2.2.2.fld h0 0 14
    refine lv_iconst (v := (0 : Int32)) hx hb dX12_about_97 (by decide) ?_
    obtain ⟨g_8, hd⟩ := zgd_some hd
    refine z_iald F hw t_7 g_8 dX12_about_98 ?_
    exact z_iret F hr hlk hw (Option.some.inj hd) rfl dX12_about_99
  have hd := zif_neg c_6 hd
  by_cases c_9 : p1 = (6 : Int32)
  · have hd := zif_pos c_9 hd
    refine lv_tableIn (tgt := 100) (off := 99) hx hb dX12_about_1 (by rw [c_9]; decide) (by rw [c_9]; decide) (by rw [c_9]; decide) (by decide) ?_
    refine lv_aload_n hx hb dX12_about_100 rfl (lv_at hl 0 rfl) ?_
    refine z_gR F hw h0 zc12 0 (by decide) rfl zf12_7 dX12_about_101 ?_
    have t_10 : zT sh (zR M k0 0) 14 := hw.2.2.2.fld h0 0 14
    refine lv_iconst (v := (1 : Int32)) hx hb dX12_about_104 (by decide) ?_
    obtain ⟨g_11, hd⟩ := zgd_some hd
    refine z_iald F hw t_10 g_11 dX12_about_105 ?_
    exact z_iret F hr hlk hw (Option.some.inj hd) rfl dX12_about_106
  have hd := zif_neg c_9 hd
  by_cases c_12 : p1 = (7 : Int32)
  · have hd := zif_pos c_12 hd
    refine lv_tableIn (tgt := 107) (off := 106) hx hb dX12_about_1 (by rw [c_12]; decide) (by rw [c_12]; decide) (by rw [c_12]; decide) (by decide) ?_
    refine lv_aload_n hx hb dX12_about_107 rfl (lv_at hl 0 rfl) ?_
    refine z_gR F hw h0 zc12 0 (by decide) rfl zf12_7 dX12_about_108 ?_
    have t_13 : zT sh (zR M k0 0) 14 := hw.2.2.2.fld h0 0 14
    refine lv_iconst (v := (1 : Int32)) hx hb dX12_about_111 (by decide) ?_
    obtain ⟨g_14, hd⟩ := zgd_some hd
    refine z_iald F hw t_13 g_14 dX12_about_112 ?_
    refine lv_iconst (v := (1 : Int32)) hx hb dX12_about_113 (by decide) ?_
    refine lv_icmp_ne (tgt := 132) hx hb dX12_about_114 (by decide) (fun c_15 => ?_) (fun c_15 => ?_)
    · have hd := zif_neg c_15 hd
      refine lv_iconst (v := (0 : Int32)) hx hb dX12_about_132 (by decide) ?_
      exact J133 _ _ _ _ (lv_sub hl [] rfl) hw hd
    · have hd := zif_pos c_15 hd
      refine lv_aload_n hx hb dX12_about_117 rfl (lv_at hl 0 rfl) ?_
      obtain ⟨r_17, hc_16, hd⟩ := zob_some hd
      refine z_cvI F hw hl.1 (As := []) (rest := []) (ztX12_allTicks l D cy sh ad h0 hc_16) zyX12_allTicks h0 zc12 zk12_406 ⟨rfl, rfl⟩ ⟨by decide, by decide⟩ rfl rfl (Nat.le_of_ble_eq_true rfl) dX12_about_118 (fun H locs hw => ?_)
      refine lv_aload_n hx hb dX12_about_121 rfl (lv_at hl 0 rfl) ?_
      refine z_gR F hw h0 zc12 0 (by decide) rfl zf12_7 dX12_about_122 ?_
      have t_18 : zT sh (zR M k0 0) 14 := hw.2.2.2.fld h0 0 14
      refine lv_bipush (v := (15 : Int32)) hx hb dX12_about_125 (by decide) ?_
      obtain ⟨g_19, hd⟩ := zgd_some hd
      refine z_iald F hw t_18 g_19 dX12_about_127 ?_
      refine lv_isub hx hb dX12_about_128 ?_
      refine lv_goto (tgt := 133) hx hb dX12_about_129 (by decide) ?_
      exact J133 _ _ _ _ (lv_sub hl [] rfl) hw hd
  have hd := zif_neg c_12 hd
  by_cases c_20 : p1 = (8 : Int32)
  · have hd := zif_pos c_20 hd
    refine lv_tableIn (tgt := 134) (off := 133) hx hb dX12_about_1 (by rw [c_20]; decide) (by rw [c_20]; decide) (by rw [c_20]; decide) (by decide) ?_
    refine lv_aload_n hx hb dX12_about_134 rfl (lv_at hl 0 rfl) ?_
    refine z_gI F hw h0 zc12 46 (by decide) rfl zf12_249 dX12_about_135 ?_
    exact z_iret F hr hlk hw (Option.some.inj hd) rfl dX12_about_138
  have hd := zif_neg c_20 hd
  by_cases c_21 : p1 = (9 : Int32)
  · have hd := zif_pos c_21 hd
    refine lv_tableIn (tgt := 139) (off := 138) hx hb dX12_about_1 (by rw [c_21]; decide) (by rw [c_21]; decide) (by rw [c_21]; decide) (by decide) ?_
    refine lv_aload_n hx hb dX12_about_139 rfl (lv_at hl 0 rfl) ?_
    refine z_gI F hw h0 zc12 2 (by decide) rfl zf12_84 dX12_about_140 ?_
    exact z_iret F hr hlk hw (Option.some.inj hd) rfl dX12_about_143
  have hd := zif_neg c_21 hd
  by_cases c_22 : p1 = (10 : Int32)
  · have hd := zif_pos c_22 hd
    refine lv_tableIn (tgt := 144) (off := 143) hx hb dX12_about_1 (by rw [c_22]; decide) (by rw [c_22]; decide) (by rw [c_22]; decide) (by decide) ?_
    refine lv_aload_n hx hb dX12_about_144 rfl (lv_at hl 0 rfl) ?_
    refine z_gR F hw h0 zc12 0 (by decide) rfl zf12_7 dX12_about_145 ?_
    have t_23 : zT sh (zR M k0 0) 14 := hw.2.2.2.fld h0 0 14
    refine lv_bipush (v := (23 : Int32)) hx hb dX12_about_148 (by decide) ?_
    obtain ⟨g_24, hd⟩ := zgd_some hd
    refine z_iald F hw t_23 g_24 dX12_about_150 ?_
    exact z_iret F hr hlk hw (Option.some.inj hd) rfl dX12_about_151
  have hd := zif_neg c_22 hd
  by_cases c_25 : p1 = (11 : Int32)
  · have hd := zif_pos c_25 hd
    refine lv_tableIn (tgt := 152) (off := 151) hx hb dX12_about_1 (by rw [c_25]; decide) (by rw [c_25]; decide) (by rw [c_25]; decide) (by decide) ?_
    refine lv_aload_n hx hb dX12_about_152 rfl (lv_at hl 0 rfl) ?_
    refine z_gR F hw h0 zc12 0 (by decide) rfl zf12_7 dX12_about_153 ?_
    have t_26 : zT sh (zR M k0 0) 14 := hw.2.2.2.fld h0 0 14
    refine lv_bipush (v := (21 : Int32)) hx hb dX12_about_156 (by decide) ?_
    obtain ⟨g_27, hd⟩ := zgd_some hd
    refine z_iald F hw t_26 g_27 dX12_about_158 ?_
    exact z_iret F hr hlk hw (Option.some.inj hd) rfl dX12_about_159
  have hd := zif_neg c_25 hd
  by_cases c_28 : p1 = (12 : Int32)
  · have hd := zif_pos c_28 hd
    refine lv_tableIn (tgt := 160) (off := 159) hx hb dX12_about_1 (by rw [c_28]; decide) (by rw [c_28]; decide) (by rw [c_28]; decide) (by decide) ?_
    refine lv_aload_n hx hb dX12_about_160 rfl (lv_at hl 0 rfl) ?_
    refine z_gR F hw h0 zc12 0 (by decide) rfl zf12_7 dX12_about_161 ?_
    have t_29 : zT sh (zR M k0 0) 14 := hw.2.2.2.fld h0 0 14
    refine lv_bipush (v := (22 : Int32)) hx hb dX12_about_164 (by decide) ?_
    obtain ⟨g_30, hd⟩ := zgd_some hd
    refine z_iald F hw t_29 g_30 dX12_about_166 ?_
    exact z_iret F hr hlk hw (Option.some.inj hd) rfl dX12_about_167
  have hd := zif_neg c_28 hd
  have nc_1 := zne c_1 (a := 0) (by decide)
  have nc_2 := zne c_2 (a := 1) (by decide)
  have nc_3 := zne c_3 (a := 2) (by decide)
  have nc_4 := zne c_4 (a := 3) (by decide)
  have nc_5 := zne c_5 (a := 4) (by decide)
  have nc_6 := zne c_6 (a := 5) (by decide)
  have nc_9 := zne c_9 (a := 6) (by decide)
  have nc_12 := zne c_12 (a := 7) (by decide)
  have nc_20 := zne c_20 (a := 8) (by decide)
  have nc_21 := zne c_21 (a := 9) (by decide)
  have nc_22 := zne c_22 (a := 10) (by decide)
  have nc_25 := zne c_25 (a := 11) (by decide)
  have nc_28 := zne c_28 (a := 12) (by decide)
  refine lv_tableOut (tgt := 168) hx hb dX12_about_1 (by omega) (by decide) ?_
  refine lv_iconst (v := (-1 : Int32)) hx hb dX12_about_168 (by decide) ?_
  exact z_iret F hr hlk hw (Option.some.inj hd) rfl dX12_about_169
