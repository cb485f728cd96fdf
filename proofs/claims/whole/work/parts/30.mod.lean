theorem dX12_go_0 : decode cX12_go 0 = .ok (.aload_n 0, 1) := by decide +kernel
theorem dX12_go_1 : decode cX12_go 1 = .ok (.getfield 7, 3) := by decide +kernel
theorem dX12_go_4 : decode cX12_go 4 = .ok (.iconst 1, 1) := by decide +kernel
theorem dX12_go_5 : decode cX12_go 5 = .ok (.iaload, 1) := by decide +kernel
theorem dX12_go_6 : decode cX12_go 6 = .ok (.iconst 1, 1) := by decide +kernel
theorem dX12_go_7 : decode cX12_go 7 = .ok (.if_icmp .eq 13, 3) := by decide +kernel
theorem dX12_go_10 : decode cX12_go 10 = .ok (.aload_n 0, 1) := by decide +kernel
theorem dX12_go_11 : decode cX12_go 11 = .ok (.iload_n 1, 1) := by decide +kernel
theorem dX12_go_12 : decode cX12_go 12 = .ok (.iload_n 2, 1) := by decide +kernel
theorem dX12_go_13 : decode cX12_go 13 = .ok (.iload_n 3, 1) := by decide +kernel
theorem dX12_go_14 : decode cX12_go 14 = .ok (.invokevirtual 375, 3) := by decide +kernel
theorem dX12_go_17 : decode cX12_go 17 = .ok (.ifCond .ne 5, 3) := by decide +kernel
theorem dX12_go_20 : decode cX12_go 20 = .ok (.iconst (-1), 1) := by decide +kernel
theorem dX12_go_21 : decode cX12_go 21 = .ok (.ireturn, 1) := by decide +kernel
theorem dX12_go_22 : decode cX12_go 22 = .ok (.aload_n 0, 1) := by decide +kernel
theorem dX12_go_23 : decode cX12_go 23 = .ok (.invokevirtual 400, 3) := by decide +kernel
theorem dX12_go_26 : decode cX12_go 26 = .ok (.aload_n 0, 1) := by decide +kernel
theorem dX12_go_27 : decode cX12_go 27 = .ok (.invokevirtual 403, 3) := by decide +kernel
theorem dX12_go_30 : decode cX12_go 30 = .ok (.aload_n 0, 1) := by decide +kernel
theorem dX12_go_31 : decode cX12_go 31 = .ok (.invokevirtual 378, 3) := by decide +kernel
theorem dX12_go_34 : decode cX12_go 34 = .ok (.ireturn, 1) := by decide +kernel
theorem dX12_allTicks_0 : decode cX12_allTicks 0 = .ok (.aload_n 0, 1) := by decide +kernel
theorem dX12_allTicks_1 : decode cX12_allTicks 1 = .ok (.getfield 7, 3) := by decide +kernel
theorem dX12_allTicks_4 : decode cX12_allTicks 4 = .ok (.bipush 17, 2) := by decide +kernel
theorem dX12_allTicks_6 : decode cX12_allTicks 6 = .ok (.iaload, 1) := by decide +kernel
theorem dX12_allTicks_7 : decode cX12_allTicks 7 = .ok (.iconst 1, 1) := by decide +kernel
theorem dX12_allTicks_8 : decode cX12_allTicks 8 = .ok (.if_icmp .ne 21, 3) := by decide +kernel
theorem dX12_allTicks_11 : decode cX12_allTicks 11 = .ok (.aload_n 0, 1) := by decide +kernel
theorem dX12_allTicks_12 : decode cX12_allTicks 12 = .ok (.getfield 7, 3) := by decide +kernel
theorem dX12_allTicks_15 : decode cX12_allTicks 15 = .ok (.bipush 19, 2) := by decide +kernel
theorem dX12_allTicks_17 : decode cX12_allTicks 17 = .ok (.iaload, 1) := by decide +kernel
theorem dX12_allTicks_18 : decode cX12_allTicks 18 = .ok (.aload_n 0, 1) := by decide +kernel
theorem dX12_allTicks_19 : decode cX12_allTicks 19 = .ok (.getfield 7, 3) := by decide +kernel
theorem dX12_allTicks_22 : decode cX12_allTicks 22 = .ok (.bipush 18, 2) := by decide +kernel
theorem dX12_allTicks_24 : decode cX12_allTicks 24 = .ok (.iaload, 1) := by decide +kernel
theorem dX12_allTicks_25 : decode cX12_allTicks 25 = .ok (.iadd, 1) := by decide +kernel
theorem dX12_allTicks_26 : decode cX12_allTicks 26 = .ok (.goto 20, 3) := by decide +kernel
theorem dX12_allTicks_29 : decode cX12_allTicks 29 = .ok (.iconst 2, 1) := by decide +kernel
theorem dX12_allTicks_30 : decode cX12_allTicks 30 = .ok (.aload_n 0, 1) := by decide +kernel
theorem dX12_allTicks_31 : decode cX12_allTicks 31 = .ok (.getfield 7, 3) := by decide +kernel
theorem dX12_allTicks_34 : decode cX12_allTicks 34 = .ok (.bipush 12, 2) := by decide +kernel
theorem dX12_allTicks_36 : decode cX12_allTicks 36 = .ok (.iaload, 1) := by decide +kernel
theorem dX12_allTicks_37 : decode cX12_allTicks 37 = .ok (.imul, 1) := by decide +kernel
theorem dX12_allTicks_38 : decode cX12_allTicks 38 = .ok (.aload_n 0, 1) := by decide +kernel
theorem dX12_allTicks_39 : decode cX12_allTicks 39 = .ok (.getfield 7, 3) := by decide +kernel
theorem dX12_allTicks_42 : decode cX12_allTicks 42 = .ok (.bipush 14, 2) := by decide +kernel
theorem dX12_allTicks_44 : decode cX12_allTicks 44 = .ok (.iaload, 1) := by decide +kernel
theorem dX12_allTicks_45 : decode cX12_allTicks 45 = .ok (.iadd, 1) := by decide +kernel
theorem dX12_allTicks_46 : decode cX12_allTicks 46 = .ok (.ireturn, 1) := by decide +kernel
theorem dX12_speedNow_0 : decode cX12_speedNow 0 = .ok (.aload_n 0, 1) := by decide +kernel
theorem dX12_speedNow_1 : decode cX12_speedNow 1 = .ok (.getfield 7, 3) := by decide +kernel
theorem dX12_speedNow_4 : decode cX12_speedNow 4 = .ok (.bipush 15, 2) := by decide +kernel
theorem dX12_speedNow_6 : decode cX12_speedNow 6 = .ok (.iaload, 1) := by decide +kernel
theorem dX12_speedNow_7 : decode cX12_speedNow 7 = .ok (.istore_n 1, 1) := by decide +kernel
theorem dX12_speedNow_8 : decode cX12_speedNow 8 = .ok (.aload_n 0, 1) := by decide +kernel
theorem dX12_speedNow_9 : decode cX12_speedNow 9 = .ok (.getfield 7, 3) := by decide +kernel
theorem dX12_speedNow_12 : decode cX12_speedNow 12 = .ok (.bipush 17, 2) := by decide +kernel
theorem dX12_speedNow_14 : decode cX12_speedNow 14 = .ok (.iaload, 1) := by decide +kernel
theorem dX12_speedNow_15 : decode cX12_speedNow 15 = .ok (.iconst 1, 1) := by decide +kernel
theorem dX12_speedNow_16 : decode cX12_speedNow 16 = .ok (.if_icmp .ne 32, 3) := by decide +kernel
theorem dX12_speedNow_19 : decode cX12_speedNow 19 = .ok (.aload_n 0, 1) := by decide +kernel
theorem dX12_speedNow_20 : decode cX12_speedNow 20 = .ok (.getfield 7, 3) := by decide +kernel
theorem dX12_speedNow_23 : decode cX12_speedNow 23 = .ok (.sipush 130, 3) := by decide +kernel
theorem dX12_speedNow_26 : decode cX12_speedNow 26 = .ok (.aload_n 0, 1) := by decide +kernel
theorem dX12_speedNow_27 : decode cX12_speedNow 27 = .ok (.getfield 7, 3) := by decide +kernel
theorem dX12_speedNow_30 : decode cX12_speedNow 30 = .ok (.bipush 18, 2) := by decide +kernel
theorem dX12_speedNow_32 : decode cX12_speedNow 32 = .ok (.iaload, 1) := by decide +kernel
theorem dX12_speedNow_33 : decode cX12_speedNow 33 = .ok (.iadd, 1) := by decide +kernel
theorem dX12_speedNow_34 : decode cX12_speedNow 34 = .ok (.iconst 1, 1) := by decide +kernel
theorem dX12_speedNow_35 : decode cX12_speedNow 35 = .ok (.isub, 1) := by decide +kernel
theorem dX12_speedNow_36 : decode cX12_speedNow 36 = .ok (.iload_n 1, 1) := by decide +kernel
theorem dX12_speedNow_37 : decode cX12_speedNow 37 = .ok (.aload_n 0, 1) := by decide +kernel
theorem dX12_speedNow_38 : decode cX12_speedNow 38 = .ok (.getfield 7, 3) := by decide +kernel
theorem dX12_speedNow_41 : decode cX12_speedNow 41 = .ok (.bipush 19, 2) := by decide +kernel
theorem dX12_speedNow_43 : decode cX12_speedNow 43 = .ok (.iaload, 1) := by decide +kernel
theorem dX12_speedNow_44 : decode cX12_speedNow 44 = .ok (.isub, 1) := by decide +kernel
theorem dX12_speedNow_45 : decode cX12_speedNow 45 = .ok (.isub, 1) := by decide +kernel
theorem dX12_speedNow_46 : decode cX12_speedNow 46 = .ok (.iaload, 1) := by decide +kernel
theorem dX12_speedNow_47 : decode cX12_speedNow 47 = .ok (.ireturn, 1) := by decide +kernel
theorem dX12_speedNow_48 : decode cX12_speedNow 48 = .ok (.iload_n 1, 1) := by decide +kernel
theorem dX12_speedNow_49 : decode cX12_speedNow 49 = .ok (.aload_n 0, 1) := by decide +kernel
theorem dX12_speedNow_50 : decode cX12_speedNow 50 = .ok (.getfield 7, 3) := by decide +kernel
theorem dX12_speedNow_53 : decode cX12_speedNow 53 = .ok (.bipush 12, 2) := by decide +kernel
theorem dX12_speedNow_55 : decode cX12_speedNow 55 = .ok (.iaload, 1) := by decide +kernel
theorem dX12_speedNow_56 : decode cX12_speedNow 56 = .ok (.if_icmp .ge 13, 3) := by decide +kernel
theorem dX12_speedNow_59 : decode cX12_speedNow 59 = .ok (.aload_n 0, 1) := by decide +kernel
theorem dX12_speedNow_60 : decode cX12_speedNow 60 = .ok (.getfield 7, 3) := by decide +kernel
theorem dX12_speedNow_63 : decode cX12_speedNow 63 = .ok (.bipush 66, 2) := by decide +kernel
theorem dX12_speedNow_65 : decode cX12_speedNow 65 = .ok (.iload_n 1, 1) := by decide +kernel
theorem dX12_speedNow_66 : decode cX12_speedNow 66 = .ok (.iadd, 1) := by decide +kernel
theorem dX12_speedNow_67 : decode cX12_speedNow 67 = .ok (.iaload, 1) := by decide +kernel
theorem dX12_speedNow_68 : decode cX12_speedNow 68 = .ok (.ireturn, 1) := by decide +kernel
theorem dX12_speedNow_69 : decode cX12_speedNow 69 = .ok (.iload_n 1, 1) := by decide +kernel
theorem dX12_speedNow_70 : decode cX12_speedNow 70 = .ok (.aload_n 0, 1) := by decide +kernel
theorem dX12_speedNow_71 : decode cX12_speedNow 71 = .ok (.getfield 7, 3) := by decide +kernel
theorem dX12_speedNow_74 : decode cX12_speedNow 74 = .ok (.bipush 12, 2) := by decide +kernel
theorem dX12_speedNow_76 : decode cX12_speedNow 76 = .ok (.iaload, 1) := by decide +kernel
theorem dX12_speedNow_77 : decode cX12_speedNow 77 = .ok (.isub, 1) := by decide +kernel
theorem dX12_speedNow_78 : decode cX12_speedNow 78 = .ok (.istore_n 2, 1) := by decide +kernel
theorem dX12_speedNow_79 : decode cX12_speedNow 79 = .ok (.iload_n 2, 1) := by decide +kernel
theorem dX12_speedNow_80 : decode cX12_speedNow 80 = .ok (.aload_n 0, 1) := by decide +kernel
theorem dX12_speedNow_81 : decode cX12_speedNow 81 = .ok (.getfield 7, 3) := by decide +kernel
theorem dX12_speedNow_84 : decode cX12_speedNow 84 = .ok (.bipush 14, 2) := by decide +kernel
theorem dX12_speedNow_86 : decode cX12_speedNow 86 = .ok (.iaload, 1) := by decide +kernel
theorem dX12_speedNow_87 : decode cX12_speedNow 87 = .ok (.if_icmp .ge 45, 3) := by decide +kernel
theorem dX12_speedNow_90 : decode cX12_speedNow 90 = .ok (.aload_n 0, 1) := by decide +kernel
theorem dX12_speedNow_91 : decode cX12_speedNow 91 = .ok (.getfield 7, 3) := by decide +kernel
theorem dX12_speedNow_94 : decode cX12_speedNow 94 = .ok (.bipush 13, 2) := by decide +kernel
theorem dX12_speedNow_96 : decode cX12_speedNow 96 = .ok (.iaload, 1) := by decide +kernel
theorem dX12_speedNow_97 : decode cX12_speedNow 97 = .ok (.iload_n 2, 1) := by decide +kernel
theorem dX12_speedNow_98 : decode cX12_speedNow 98 = .ok (.iconst 1, 1) := by decide +kernel
theorem dX12_speedNow_99 : decode cX12_speedNow 99 = .ok (.iadd, 1) := by decide +kernel
theorem dX12_speedNow_100 : decode cX12_speedNow 100 = .ok (.aload_n 0, 1) := by decide +kernel
theorem dX12_speedNow_101 : decode cX12_speedNow 101 = .ok (.getfield 7, 3) := by decide +kernel
theorem dX12_speedNow_104 : decode cX12_speedNow 104 = .ok (.bipush 14, 2) := by decide +kernel
theorem dX12_speedNow_106 : decode cX12_speedNow 106 = .ok (.iaload, 1) := by decide +kernel
theorem dX12_speedNow_107 : decode cX12_speedNow 107 = .ok (.invokestatic 372, 3) := by decide +kernel
theorem dX12_speedNow_110 : decode cX12_speedNow 110 = .ok (.aload_n 0, 1) := by decide +kernel
theorem dX12_speedNow_111 : decode cX12_speedNow 111 = .ok (.getfield 7, 3) := by decide +kernel
theorem dX12_speedNow_114 : decode cX12_speedNow 114 = .ok (.bipush 13, 2) := by decide +kernel
theorem dX12_speedNow_116 : decode cX12_speedNow 116 = .ok (.iaload, 1) := by decide +kernel
theorem dX12_speedNow_117 : decode cX12_speedNow 117 = .ok (.iload_n 2, 1) := by decide +kernel
theorem dX12_speedNow_118 : decode cX12_speedNow 118 = .ok (.aload_n 0, 1) := by decide +kernel
theorem dX12_speedNow_119 : decode cX12_speedNow 119 = .ok (.getfield 7, 3) := by decide +kernel
theorem dX12_speedNow_122 : decode cX12_speedNow 122 = .ok (.bipush 14, 2) := by decide +kernel
theorem dX12_speedNow_124 : decode cX12_speedNow 124 = .ok (.iaload, 1) := by decide +kernel
theorem dX12_speedNow_125 : decode cX12_speedNow 125 = .ok (.invokestatic 372, 3) := by decide +kernel
theorem dX12_speedNow_128 : decode cX12_speedNow 128 = .ok (.isub, 1) := by decide +kernel
theorem dX12_speedNow_129 : decode cX12_speedNow 129 = .ok (.goto 30, 3) := by decide +kernel
theorem dX12_speedNow_132 : decode cX12_speedNow 132 = .ok (.aload_n 0, 1) := by decide +kernel
theorem dX12_speedNow_133 : decode cX12_speedNow 133 = .ok (.getfield 7, 3) := by decide +kernel
theorem dX12_speedNow_136 : decode cX12_speedNow 136 = .ok (.bipush 66, 2) := by decide +kernel
theorem dX12_speedNow_138 : decode cX12_speedNow 138 = .ok (.aload_n 0, 1) := by decide +kernel
theorem dX12_speedNow_139 : decode cX12_speedNow 139 = .ok (.getfield 7, 3) := by decide +kernel
theorem dX12_speedNow_142 : decode cX12_speedNow 142 = .ok (.bipush 12, 2) := by decide +kernel
theorem dX12_speedNow_144 : decode cX12_speedNow 144 = .ok (.iaload, 1) := by decide +kernel
theorem dX12_speedNow_145 : decode cX12_speedNow 145 = .ok (.iadd, 1) := by decide +kernel
theorem dX12_speedNow_146 : decode cX12_speedNow 146 = .ok (.iconst 1, 1) := by decide +kernel
theorem dX12_speedNow_147 : decode cX12_speedNow 147 = .ok (.isub, 1) := by decide +kernel
theorem dX12_speedNow_148 : decode cX12_speedNow 148 = .ok (.iload_n 2, 1) := by decide +kernel
theorem dX12_speedNow_149 : decode cX12_speedNow 149 = .ok (.aload_n 0, 1) := by decide +kernel
theorem dX12_speedNow_150 : decode cX12_speedNow 150 = .ok (.getfield 7, 3) := by decide +kernel
theorem dX12_speedNow_153 : decode cX12_speedNow 153 = .ok (.bipush 14, 2) := by decide +kernel
theorem dX12_speedNow_155 : decode cX12_speedNow 155 = .ok (.iaload, 1) := by decide +kernel
theorem dX12_speedNow_156 : decode cX12_speedNow 156 = .ok (.isub, 1) := by decide +kernel
theorem dX12_speedNow_157 : decode cX12_speedNow 157 = .ok (.isub, 1) := by decide +kernel
theorem dX12_speedNow_158 : decode cX12_speedNow 158 = .ok (.iaload, 1) := by decide +kernel
theorem dX12_speedNow_159 : decode cX12_speedNow 159 = .ok (.ireturn, 1) := by decide +kernel
theorem dX12_left_0 : decode cX12_left 0 = .ok (.aload_n 0, 1) := by decide +kernel
theorem dX12_left_1 : decode cX12_left 1 = .ok (.getfield 7, 3) := by decide +kernel
theorem dX12_left_4 : decode cX12_left 4 = .ok (.iconst 1, 1) := by decide +kernel
theorem dX12_left_5 : decode cX12_left 5 = .ok (.iaload, 1) := by decide +kernel
theorem dX12_left_6 : decode cX12_left 6 = .ok (.ifCond .ne 5, 3) := by decide +kernel
theorem dX12_left_9 : decode cX12_left 9 = .ok (.iconst 0, 1) := by decide +kernel
theorem dX12_left_10 : decode cX12_left 10 = .ok (.ireturn, 1) := by decide +kernel
theorem dX12_left_11 : decode cX12_left 11 = .ok (.aload_n 0, 1) := by decide +kernel
theorem dX12_left_12 : decode cX12_left 12 = .ok (.getfield 7, 3) := by decide +kernel
theorem dX12_left_15 : decode cX12_left 15 = .ok (.bipush 17, 2) := by decide +kernel
theorem dX12_left_17 : decode cX12_left 17 = .ok (.iaload, 1) := by decide +kernel
theorem dX12_left_18 : decode cX12_left 18 = .ok (.ifCond .ne 18, 3) := by decide +kernel
theorem dX12_left_21 : decode cX12_left 21 = .ok (.aload_n 0, 1) := by decide +kernel
theorem dX12_left_22 : decode cX12_left 22 = .ok (.getfield 7, 3) := by decide +kernel
theorem dX12_left_25 : decode cX12_left 25 = .ok (.iconst 3, 1) := by decide +kernel
theorem dX12_left_26 : decode cX12_left 26 = .ok (.iaload, 1) := by decide +kernel
theorem dX12_left_27 : decode cX12_left 27 = .ok (.aload_n 0, 1) := by decide +kernel
theorem dX12_left_28 : decode cX12_left 28 = .ok (.getfield 7, 3) := by decide +kernel
theorem dX12_left_31 : decode cX12_left 31 = .ok (.bipush 16, 2) := by decide +kernel
theorem dX12_left_33 : decode cX12_left 33 = .ok (.iaload, 1) := by decide +kernel
theorem dX12_left_34 : decode cX12_left 34 = .ok (.isub, 1) := by decide +kernel
theorem dX12_left_35 : decode cX12_left 35 = .ok (.ireturn, 1) := by decide +kernel
theorem dX12_left_36 : decode cX12_left 36 = .ok (.iconst 0, 1) := by decide +kernel
theorem dX12_left_37 : decode cX12_left 37 = .ok (.istore_n 1, 1) := by decide +kernel
theorem dX12_left_38 : decode cX12_left 38 = .ok (.iconst 0, 1) := by decide +kernel
theorem dX12_left_39 : decode cX12_left 39 = .ok (.istore_n 2, 1) := by decide +kernel
theorem dX12_left_40 : decode cX12_left 40 = .ok (.iload_n 2, 1) := by decide +kernel
theorem dX12_left_41 : decode cX12_left 41 = .ok (.aload_n 0, 1) := by decide +kernel
theorem dX12_left_42 : decode cX12_left 42 = .ok (.invokevirtual 406, 3) := by decide +kernel
theorem dX12_left_45 : decode cX12_left 45 = .ok (.aload_n 0, 1) := by decide +kernel
theorem dX12_left_46 : decode cX12_left 46 = .ok (.getfield 7, 3) := by decide +kernel
theorem dX12_left_49 : decode cX12_left 49 = .ok (.bipush 15, 2) := by decide +kernel
theorem dX12_left_51 : decode cX12_left 51 = .ok (.iaload, 1) := by decide +kernel
theorem dX12_left_52 : decode cX12_left 52 = .ok (.isub, 1) := by decide +kernel
theorem dX12_left_53 : decode cX12_left 53 = .ok (.if_icmp .ge 22, 3) := by decide +kernel
theorem dX12_left_56 : decode cX12_left 56 = .ok (.iload_n 1, 1) := by decide +kernel
theorem dX12_left_57 : decode cX12_left 57 = .ok (.aload_n 0, 1) := by decide +kernel
theorem dX12_left_58 : decode cX12_left 58 = .ok (.getfield 7, 3) := by decide +kernel
theorem dX12_left_61 : decode cX12_left 61 = .ok (.sipush 130, 3) := by decide +kernel
theorem dX12_left_64 : decode cX12_left 64 = .ok (.iload_n 2, 1) := by decide +kernel
theorem dX12_left_65 : decode cX12_left 65 = .ok (.iadd, 1) := by decide +kernel
theorem dX12_left_66 : decode cX12_left 66 = .ok (.iaload, 1) := by decide +kernel
theorem dX12_left_67 : decode cX12_left 67 = .ok (.iadd, 1) := by decide +kernel
theorem dX12_left_68 : decode cX12_left 68 = .ok (.istore_n 1, 1) := by decide +kernel
theorem dX12_left_69 : decode cX12_left 69 = .ok (.iinc 2 1, 3) := by decide +kernel
theorem dX12_left_72 : decode cX12_left 72 = .ok (.goto (-32), 3) := by decide +kernel
theorem dX12_left_75 : decode cX12_left 75 = .ok (.iload_n 1, 1) := by decide +kernel
theorem dX12_left_76 : decode cX12_left 76 = .ok (.ireturn, 1) := by decide +kernel
theorem dX12_halt_0 : decode cX12_halt 0 = .ok (.aload_n 0, 1) := by decide +kernel
theorem dX12_halt_1 : decode cX12_halt 1 = .ok (.getfield 7, 3) := by decide +kernel
theorem dX12_halt_4 : decode cX12_halt 4 = .ok (.iconst 1, 1) := by decide +kernel
theorem dX12_halt_5 : decode cX12_halt 5 = .ok (.iaload, 1) := by decide +kernel
theorem dX12_halt_6 : decode cX12_halt 6 = .ok (.ifCond .eq 14, 3) := by decide +kernel
theorem dX12_halt_9 : decode cX12_halt 9 = .ok (.aload_n 0, 1) := by decide +kernel
theorem dX12_halt_10 : decode cX12_halt 10 = .ok (.getfield 7, 3) := by decide +kernel
theorem dX12_halt_13 : decode cX12_halt 13 = .ok (.bipush 17, 2) := by decide +kernel
theorem dX12_halt_15 : decode cX12_halt 15 = .ok (.iaload, 1) := by decide +kernel
theorem dX12_halt_16 : decode cX12_halt 16 = .ok (.iconst 1, 1) := by decide +kernel
theorem dX12_halt_17 : decode cX12_halt 17 = .ok (.if_icmp .ne 5, 3) := by decide +kernel
theorem dX12_halt_20 : decode cX12_halt 20 = .ok (.iconst (-1), 1) := by decide +kernel
theorem dX12_halt_21 : decode cX12_halt 21 = .ok (.ireturn, 1) := by decide +kernel
theorem dX12_halt_22 : decode cX12_halt 22 = .ok (.aload_n 0, 1) := by decide +kernel
theorem dX12_halt_23 : decode cX12_halt 23 = .ok (.aload_n 0, 1) := by decide +kernel
theorem dX12_halt_24 : decode cX12_halt 24 = .ok (.getfield 7, 3) := by decide +kernel
theorem dX12_halt_27 : decode cX12_halt 27 = .ok (.bipush 20, 2) := by decide +kernel
theorem dX12_halt_29 : decode cX12_halt 29 = .ok (.iaload, 1) := by decide +kernel
theorem dX12_halt_30 : decode cX12_halt 30 = .ok (.aload_n 0, 1) := by decide +kernel
theorem dX12_halt_31 : decode cX12_halt 31 = .ok (.getfield 7, 3) := by decide +kernel
theorem dX12_halt_34 : decode cX12_halt 34 = .ok (.bipush 10, 2) := by decide +kernel
theorem dX12_halt_36 : decode cX12_halt 36 = .ok (.iaload, 1) := by decide +kernel
theorem dX12_halt_37 : decode cX12_halt 37 = .ok (.aload_n 0, 1) := by decide +kernel
theorem dX12_halt_38 : decode cX12_halt 38 = .ok (.getfield 7, 3) := by decide +kernel
theorem dX12_halt_41 : decode cX12_halt 41 = .ok (.bipush 11, 2) := by decide +kernel
theorem dX12_halt_43 : decode cX12_halt 43 = .ok (.iaload, 1) := by decide +kernel
theorem dX12_halt_44 : decode cX12_halt 44 = .ok (.invokevirtual 302, 3) := by decide +kernel
theorem dX12_halt_47 : decode cX12_halt 47 = .ok (.aload_n 0, 1) := by decide +kernel
theorem dX12_halt_48 : decode cX12_halt 48 = .ok (.invokevirtual 309, 3) := by decide +kernel
theorem dX12_halt_51 : decode cX12_halt 51 = .ok (.aload_n 0, 1) := by decide +kernel
theorem dX12_halt_52 : decode cX12_halt 52 = .ok (.getfield 7, 3) := by decide +kernel
theorem dX12_halt_55 : decode cX12_halt 55 = .ok (.iconst 3, 1) := by decide +kernel
theorem dX12_halt_56 : decode cX12_halt 56 = .ok (.iaload, 1) := by decide +kernel
theorem dX12_halt_57 : decode cX12_halt 57 = .ok (.aload_n 0, 1) := by decide +kernel
theorem dX12_halt_58 : decode cX12_halt 58 = .ok (.getfield 7, 3) := by decide +kernel
theorem dX12_halt_61 : decode cX12_halt 61 = .ok (.bipush 16, 2) := by decide +kernel
theorem dX12_halt_63 : decode cX12_halt 63 = .ok (.iaload, 1) := by decide +kernel
theorem dX12_halt_64 : decode cX12_halt 64 = .ok (.isub, 1) := by decide +kernel
theorem dX12_halt_65 : decode cX12_halt 65 = .ok (.if_icmp .le 5, 3) := by decide +kernel
theorem dX12_halt_68 : decode cX12_halt 68 = .ok (.iconst (-1), 1) := by decide +kernel
theorem dX12_halt_69 : decode cX12_halt 69 = .ok (.ireturn, 1) := by decide +kernel
theorem dX12_halt_70 : decode cX12_halt 70 = .ok (.aload_n 0, 1) := by decide +kernel
theorem dX12_halt_71 : decode cX12_halt 71 = .ok (.invokevirtual 400, 3) := by decide +kernel
theorem dX12_halt_74 : decode cX12_halt 74 = .ok (.aload_n 0, 1) := by decide +kernel
theorem dX12_halt_75 : decode cX12_halt 75 = .ok (.getfield 7, 3) := by decide +kernel
theorem dX12_halt_78 : decode cX12_halt 78 = .ok (.bipush 23, 2) := by decide +kernel
theorem dX12_halt_80 : decode cX12_halt 80 = .ok (.iconst 0, 1) := by decide +kernel
theorem dX12_halt_81 : decode cX12_halt 81 = .ok (.iastore, 1) := by decide +kernel
theorem dX12_halt_82 : decode cX12_halt 82 = .ok (.aload_n 0, 1) := by decide +kernel
theorem dX12_halt_83 : decode cX12_halt 83 = .ok (.getfield 7, 3) := by decide +kernel
theorem dX12_halt_86 : decode cX12_halt 86 = .ok (.bipush 17, 2) := by decide +kernel
theorem dX12_halt_88 : decode cX12_halt 88 = .ok (.iconst 1, 1) := by decide +kernel
theorem dX12_halt_89 : decode cX12_halt 89 = .ok (.iastore, 1) := by decide +kernel
theorem dX12_halt_90 : decode cX12_halt 90 = .ok (.aload_n 0, 1) := by decide +kernel
theorem dX12_halt_91 : decode cX12_halt 91 = .ok (.getfield 7, 3) := by decide +kernel
theorem dX12_halt_94 : decode cX12_halt 94 = .ok (.bipush 18, 2) := by decide +kernel
theorem dX12_halt_96 : decode cX12_halt 96 = .ok (.aload_n 0, 1) := by decide +kernel
theorem dX12_halt_97 : decode cX12_halt 97 = .ok (.getfield 286, 3) := by decide +kernel
theorem dX12_halt_100 : decode cX12_halt 100 = .ok (.iastore, 1) := by decide +kernel
theorem dX12_halt_101 : decode cX12_halt 101 = .ok (.aload_n 0, 1) := by decide +kernel
theorem dX12_halt_102 : decode cX12_halt 102 = .ok (.getfield 7, 3) := by decide +kernel
theorem dX12_halt_105 : decode cX12_halt 105 = .ok (.bipush 19, 2) := by decide +kernel
theorem dX12_halt_107 : decode cX12_halt 107 = .ok (.aload_n 0, 1) := by decide +kernel
theorem dX12_halt_108 : decode cX12_halt 108 = .ok (.getfield 7, 3) := by decide +kernel
theorem dX12_halt_111 : decode cX12_halt 111 = .ok (.bipush 15, 2) := by decide +kernel
theorem dX12_halt_113 : decode cX12_halt 113 = .ok (.iaload, 1) := by decide +kernel
theorem dX12_halt_114 : decode cX12_halt 114 = .ok (.iastore, 1) := by decide +kernel
theorem dX12_halt_115 : decode cX12_halt 115 = .ok (.iconst 0, 1) := by decide +kernel
theorem dX12_halt_116 : decode cX12_halt 116 = .ok (.istore_n 1, 1) := by decide +kernel
theorem dX12_halt_117 : decode cX12_halt 117 = .ok (.iload_n 1, 1) := by decide +kernel
theorem dX12_halt_118 : decode cX12_halt 118 = .ok (.aload_n 0, 1) := by decide +kernel
theorem dX12_halt_119 : decode cX12_halt 119 = .ok (.getfield 286, 3) := by decide +kernel
theorem dX12_halt_122 : decode cX12_halt 122 = .ok (.if_icmp .ge 25, 3) := by decide +kernel
theorem dX12_halt_125 : decode cX12_halt 125 = .ok (.aload_n 0, 1) := by decide +kernel
theorem dX12_halt_126 : decode cX12_halt 126 = .ok (.getfield 7, 3) := by decide +kernel
theorem dX12_halt_129 : decode cX12_halt 129 = .ok (.sipush 130, 3) := by decide +kernel
theorem dX12_halt_132 : decode cX12_halt 132 = .ok (.iload_n 1, 1) := by decide +kernel
theorem dX12_halt_133 : decode cX12_halt 133 = .ok (.iadd, 1) := by decide +kernel
theorem dX12_halt_134 : decode cX12_halt 134 = .ok (.aload_n 0, 1) := by decide +kernel
theorem dX12_halt_135 : decode cX12_halt 135 = .ok (.getfield 58, 3) := by decide +kernel
theorem dX12_halt_138 : decode cX12_halt 138 = .ok (.iload_n 1, 1) := by decide +kernel
theorem dX12_halt_139 : decode cX12_halt 139 = .ok (.iaload, 1) := by decide +kernel
theorem dX12_halt_140 : decode cX12_halt 140 = .ok (.iastore, 1) := by decide +kernel
theorem dX12_halt_141 : decode cX12_halt 141 = .ok (.iinc 1 1, 3) := by decide +kernel
theorem dX12_halt_144 : decode cX12_halt 144 = .ok (.goto (-27), 3) := by decide +kernel
theorem dX12_halt_147 : decode cX12_halt 147 = .ok (.aload_n 0, 1) := by decide +kernel
theorem dX12_halt_148 : decode cX12_halt 148 = .ok (.getfield 7, 3) := by decide +kernel
theorem dX12_halt_151 : decode cX12_halt 151 = .ok (.iconst 1, 1) := by decide +kernel
theorem dX12_halt_152 : decode cX12_halt 152 = .ok (.aload_n 0, 1) := by decide +kernel
theorem dX12_halt_153 : decode cX12_halt 153 = .ok (.getfield 286, 3) := by decide +kernel
theorem dX12_halt_156 : decode cX12_halt 156 = .ok (.ifCond .le 7, 3) := by decide +kernel
theorem dX12_halt_159 : decode cX12_halt 159 = .ok (.iconst 1, 1) := by decide +kernel
theorem dX12_halt_160 : decode cX12_halt 160 = .ok (.goto 4, 3) := by decide +kernel
theorem dX12_halt_163 : decode cX12_halt 163 = .ok (.iconst 0, 1) := by decide +kernel
theorem dX12_halt_164 : decode cX12_halt 164 = .ok (.invokestatic 279, 3) := by decide +kernel
theorem dX12_halt_167 : decode cX12_halt 167 = .ok (.iastore, 1) := by decide +kernel
theorem dX12_halt_168 : decode cX12_halt 168 = .ok (.aload_n 0, 1) := by decide +kernel
theorem dX12_halt_169 : decode cX12_halt 169 = .ok (.getfield 286, 3) := by decide +kernel
theorem dX12_halt_172 : decode cX12_halt 172 = .ok (.ireturn, 1) := by decide +kernel
theorem dX12_queue_0 : decode cX12_queue 0 = .ok (.aload_n 0, 1) := by decide +kernel
theorem dX12_queue_1 : decode cX12_queue 1 = .ok (.getfield 7, 3) := by decide +kernel
theorem dX12_queue_4 : decode cX12_queue 4 = .ok (.iconst 1, 1) := by decide +kernel
theorem dX12_queue_5 : decode cX12_queue 5 = .ok (.iaload, 1) := by decide +kernel
theorem dX12_queue_6 : decode cX12_queue 6 = .ok (.ifCond .eq 25, 3) := by decide +kernel
theorem dX12_queue_9 : decode cX12_queue 9 = .ok (.aload_n 0, 1) := by decide +kernel
theorem dX12_queue_10 : decode cX12_queue 10 = .ok (.iload_n 1, 1) := by decide +kernel
theorem dX12_queue_11 : decode cX12_queue 11 = .ok (.iload_n 2, 1) := by decide +kernel
theorem dX12_queue_12 : decode cX12_queue 12 = .ok (.iload_n 3, 1) := by decide +kernel
theorem dX12_queue_13 : decode cX12_queue 13 = .ok (.invokevirtual 366, 3) := by decide +kernel
theorem dX12_queue_16 : decode cX12_queue 16 = .ok (.ifCond .eq 15, 3) := by decide +kernel
theorem dX12_queue_19 : decode cX12_queue 19 = .ok (.aload_n 0, 1) := by decide +kernel
theorem dX12_queue_20 : decode cX12_queue 20 = .ok (.getfield 7, 3) := by decide +kernel
theorem dX12_queue_23 : decode cX12_queue 23 = .ok (.bipush 23, 2) := by decide +kernel
theorem dX12_queue_25 : decode cX12_queue 25 = .ok (.iaload, 1) := by decide +kernel
theorem dX12_queue_26 : decode cX12_queue 26 = .ok (.bipush 8, 2) := by decide +kernel
theorem dX12_queue_28 : decode cX12_queue 28 = .ok (.if_icmp .ne 5, 3) := by decide +kernel
theorem dX12_queue_31 : decode cX12_queue 31 = .ok (.iconst (-1), 1) := by decide +kernel
theorem dX12_queue_32 : decode cX12_queue 32 = .ok (.ireturn, 1) := by decide +kernel
theorem dX12_queue_33 : decode cX12_queue 33 = .ok (.aload_n 0, 1) := by decide +kernel
theorem dX12_queue_34 : decode cX12_queue 34 = .ok (.invokevirtual 400, 3) := by decide +kernel
theorem dX12_queue_37 : decode cX12_queue 37 = .ok (.bipush 24, 2) := by decide +kernel
theorem dX12_queue_39 : decode cX12_queue 39 = .ok (.iconst 3, 1) := by decide +kernel
theorem dX12_queue_40 : decode cX12_queue 40 = .ok (.aload_n 0, 1) := by decide +kernel
theorem dX12_queue_41 : decode cX12_queue 41 = .ok (.getfield 7, 3) := by decide +kernel
theorem dX12_queue_44 : decode cX12_queue 44 = .ok (.bipush 23, 2) := by decide +kernel
theorem dX12_queue_46 : decode cX12_queue 46 = .ok (.iaload, 1) := by decide +kernel
theorem dX12_queue_47 : decode cX12_queue 47 = .ok (.imul, 1) := by decide +kernel
theorem dX12_queue_48 : decode cX12_queue 48 = .ok (.iadd, 1) := by decide +kernel
theorem dX12_queue_49 : decode cX12_queue 49 = .ok (.istore 4, 2) := by decide +kernel
theorem dX12_queue_51 : decode cX12_queue 51 = .ok (.aload_n 0, 1) := by decide +kernel
theorem dX12_queue_52 : decode cX12_queue 52 = .ok (.getfield 7, 3) := by decide +kernel
theorem dX12_queue_55 : decode cX12_queue 55 = .ok (.iload 4, 2) := by decide +kernel
theorem dX12_queue_57 : decode cX12_queue 57 = .ok (.iload_n 1, 1) := by decide +kernel
theorem dX12_queue_58 : decode cX12_queue 58 = .ok (.iastore, 1) := by decide +kernel
theorem dX12_queue_59 : decode cX12_queue 59 = .ok (.aload_n 0, 1) := by decide +kernel
theorem dX12_queue_60 : decode cX12_queue 60 = .ok (.getfield 7, 3) := by decide +kernel
theorem dX12_queue_63 : decode cX12_queue 63 = .ok (.iload 4, 2) := by decide +kernel
theorem dX12_queue_65 : decode cX12_queue 65 = .ok (.iconst 1, 1) := by decide +kernel
theorem dX12_queue_66 : decode cX12_queue 66 = .ok (.iadd, 1) := by decide +kernel
theorem dX12_queue_67 : decode cX12_queue 67 = .ok (.iload_n 2, 1) := by decide +kernel
theorem dX12_queue_68 : decode cX12_queue 68 = .ok (.iastore, 1) := by decide +kernel
theorem dX12_queue_69 : decode cX12_queue 69 = .ok (.aload_n 0, 1) := by decide +kernel
theorem dX12_queue_70 : decode cX12_queue 70 = .ok (.getfield 7, 3) := by decide +kernel
theorem dX12_queue_73 : decode cX12_queue 73 = .ok (.iload 4, 2) := by decide +kernel
theorem dX12_queue_75 : decode cX12_queue 75 = .ok (.iconst 2, 1) := by decide +kernel
theorem dX12_queue_76 : decode cX12_queue 76 = .ok (.iadd, 1) := by decide +kernel
theorem dX12_queue_77 : decode cX12_queue 77 = .ok (.iload_n 3, 1) := by decide +kernel
theorem dX12_queue_78 : decode cX12_queue 78 = .ok (.iastore, 1) := by decide +kernel
theorem dX12_queue_79 : decode cX12_queue 79 = .ok (.aload_n 0, 1) := by decide +kernel
theorem dX12_queue_80 : decode cX12_queue 80 = .ok (.getfield 7, 3) := by decide +kernel
theorem dX12_queue_83 : decode cX12_queue 83 = .ok (.bipush 23, 2) := by decide +kernel
theorem dX12_queue_85 : decode cX12_queue 85 = .ok (.dup2, 1) := by decide +kernel
theorem dX12_queue_86 : decode cX12_queue 86 = .ok (.iaload, 1) := by decide +kernel
theorem dX12_queue_87 : decode cX12_queue 87 = .ok (.iconst 1, 1) := by decide +kernel
theorem dX12_queue_88 : decode cX12_queue 88 = .ok (.iadd, 1) := by decide +kernel
theorem dX12_queue_89 : decode cX12_queue 89 = .ok (.iastore, 1) := by decide +kernel
theorem dX12_queue_90 : decode cX12_queue 90 = .ok (.aload_n 0, 1) := by decide +kernel
theorem dX12_queue_91 : decode cX12_queue 91 = .ok (.getfield 7, 3) := by decide +kernel
theorem dX12_queue_94 : decode cX12_queue 94 = .ok (.bipush 23, 2) := by decide +kernel
theorem dX12_queue_96 : decode cX12_queue 96 = .ok (.iaload, 1) := by decide +kernel
theorem dX12_queue_97 : decode cX12_queue 97 = .ok (.ireturn, 1) := by decide +kernel
theorem dX12_watch_0 : decode cX12_watch 0 = .ok (.aload_n 0, 1) := by decide +kernel
theorem dX12_watch_1 : decode cX12_watch 1 = .ok (.iload_n 1, 1) := by decide +kernel
theorem dX12_watch_2 : decode cX12_watch 2 = .ok (.invokevirtual 312, 3) := by decide +kernel
theorem dX12_watch_5 : decode cX12_watch 5 = .ok (.ifCond .eq 25, 3) := by decide +kernel
theorem dX12_watch_8 : decode cX12_watch 8 = .ok (.iload_n 2, 1) := by decide +kernel
theorem dX12_watch_9 : decode cX12_watch 9 = .ok (.i2l, 1) := by decide +kernel
theorem dX12_watch_10 : decode cX12_watch 10 = .ok (.lconst 0, 1) := by decide +kernel
theorem dX12_watch_11 : decode cX12_watch 11 = .ok (.ldc2_w 409, 3) := by decide +kernel
theorem dX12_watch_14 : decode cX12_watch 14 = .ok (.invokestatic 91, 3) := by decide +kernel
theorem dX12_watch_17 : decode cX12_watch 17 = .ok (.ifCond .eq 13, 3) := by decide +kernel
theorem dX12_watch_20 : decode cX12_watch 20 = .ok (.aload_n 0, 1) := by decide +kernel
theorem dX12_watch_21 : decode cX12_watch 21 = .ok (.iload_n 1, 1) := by decide +kernel
theorem dX12_watch_22 : decode cX12_watch 22 = .ok (.iconst 4, 1) := by decide +kernel
theorem dX12_watch_23 : decode cX12_watch 23 = .ok (.invokevirtual 338, 3) := by decide +kernel
theorem dX12_watch_26 : decode cX12_watch 26 = .ok (.iload_n 2, 1) := by decide +kernel
theorem dX12_watch_27 : decode cX12_watch 27 = .ok (.if_icmp .ne 5, 3) := by decide +kernel
theorem dX12_watch_30 : decode cX12_watch 30 = .ok (.iconst (-1), 1) := by decide +kernel
theorem dX12_watch_31 : decode cX12_watch 31 = .ok (.ireturn, 1) := by decide +kernel
theorem dX12_watch_32 : decode cX12_watch 32 = .ok (.aload_n 0, 1) := by decide +kernel
theorem dX12_watch_33 : decode cX12_watch 33 = .ok (.iload_n 1, 1) := by decide +kernel
theorem dX12_watch_34 : decode cX12_watch 34 = .ok (.iconst 4, 1) := by decide +kernel
theorem dX12_watch_35 : decode cX12_watch 35 = .ok (.invokevirtual 338, 3) := by decide +kernel
theorem dX12_watch_38 : decode cX12_watch 38 = .ok (.istore_n 3, 1) := by decide +kernel
theorem dX12_watch_39 : decode cX12_watch 39 = .ok (.aload_n 0, 1) := by decide +kernel
theorem dX12_watch_40 : decode cX12_watch 40 = .ok (.invokevirtual 400, 3) := by decide +kernel
theorem dX12_watch_43 : decode cX12_watch 43 = .ok (.aload_n 0, 1) := by decide +kernel
theorem dX12_watch_44 : decode cX12_watch 44 = .ok (.iload_n 1, 1) := by decide +kernel
theorem dX12_watch_45 : decode cX12_watch 45 = .ok (.iconst 4, 1) := by decide +kernel
theorem dX12_watch_46 : decode cX12_watch 46 = .ok (.iload_n 2, 1) := by decide +kernel
theorem dX12_watch_47 : decode cX12_watch 47 = .ok (.invokevirtual 411, 3) := by decide +kernel
theorem dX12_watch_50 : decode cX12_watch 50 = .ok (.iload_n 3, 1) := by decide +kernel
theorem dX12_watch_51 : decode cX12_watch 51 = .ok (.ireturn, 1) := by decide +kernel
theorem dX12_load_0 : decode cX12_load 0 = .ok (.aload_n 0, 1) := by decide +kernel
theorem dX12_load_1 : decode cX12_load 1 = .ok (.iload_n 1, 1) := by decide +kernel
theorem dX12_load_2 : decode cX12_load 2 = .ok (.invokevirtual 312, 3) := by decide +kernel
theorem dX12_load_5 : decode cX12_load 5 = .ok (.ifCond .eq 27, 3) := by decide +kernel
theorem dX12_load_8 : decode cX12_load 8 = .ok (.iload_n 2, 1) := by decide +kernel
theorem dX12_load_9 : decode cX12_load 9 = .ok (.i2l, 1) := by decide +kernel
theorem dX12_load_10 : decode cX12_load 10 = .ok (.ldc2_w 414, 3) := by decide +kernel
theorem dX12_load_13 : decode cX12_load 13 = .ok (.ldc2_w 416, 3) := by decide +kernel
theorem dX12_load_16 : decode cX12_load 16 = .ok (.invokestatic 91, 3) := by decide +kernel
theorem dX12_load_19 : decode cX12_load 19 = .ok (.ifCond .eq 13, 3) := by decide +kernel
theorem dX12_load_22 : decode cX12_load 22 = .ok (.aload_n 0, 1) := by decide +kernel
theorem dX12_load_23 : decode cX12_load 23 = .ok (.iload_n 1, 1) := by decide +kernel
theorem dX12_load_24 : decode cX12_load 24 = .ok (.iconst 3, 1) := by decide +kernel
theorem dX12_load_25 : decode cX12_load 25 = .ok (.invokevirtual 338, 3) := by decide +kernel
theorem dX12_load_28 : decode cX12_load 28 = .ok (.iload_n 2, 1) := by decide +kernel
theorem dX12_load_29 : decode cX12_load 29 = .ok (.if_icmp .ne 6, 3) := by decide +kernel
theorem dX12_load_32 : decode cX12_load 32 = .ok (.ldc 254, 2) := by decide +kernel
theorem dX12_load_34 : decode cX12_load 34 = .ok (.ireturn, 1) := by decide +kernel
theorem dX12_load_35 : decode cX12_load 35 = .ok (.aload_n 0, 1) := by decide +kernel
theorem dX12_load_36 : decode cX12_load 36 = .ok (.iload_n 1, 1) := by decide +kernel
theorem dX12_load_37 : decode cX12_load 37 = .ok (.iconst 3, 1) := by decide +kernel
theorem dX12_load_38 : decode cX12_load 38 = .ok (.invokevirtual 338, 3) := by decide +kernel
theorem dX12_load_41 : decode cX12_load 41 = .ok (.istore_n 3, 1) := by decide +kernel
theorem dX12_load_42 : decode cX12_load 42 = .ok (.aload_n 0, 1) := by decide +kernel
theorem dX12_load_43 : decode cX12_load 43 = .ok (.invokevirtual 400, 3) := by decide +kernel
theorem dX12_load_46 : decode cX12_load 46 = .ok (.aload_n 0, 1) := by decide +kernel
theorem dX12_load_47 : decode cX12_load 47 = .ok (.iload_n 1, 1) := by decide +kernel
theorem dX12_load_48 : decode cX12_load 48 = .ok (.iconst 3, 1) := by decide +kernel
theorem dX12_load_49 : decode cX12_load 49 = .ok (.iload_n 2, 1) := by decide +kernel
theorem dX12_load_50 : decode cX12_load 50 = .ok (.invokevirtual 411, 3) := by decide +kernel
theorem dX12_load_53 : decode cX12_load 53 = .ok (.iload_n 3, 1) := by decide +kernel
theorem dX12_load_54 : decode cX12_load 54 = .ok (.ireturn, 1) := by decide +kernel
theorem dX12_trueUp_0 : decode cX12_trueUp 0 = .ok (.aload_n 0, 1) := by decide +kernel
theorem dX12_trueUp_1 : decode cX12_trueUp 1 = .ok (.getfield 7, 3) := by decide +kernel
theorem dX12_trueUp_4 : decode cX12_trueUp 4 = .ok (.iconst 1, 1) := by decide +kernel
theorem dX12_trueUp_5 : decode cX12_trueUp 5 = .ok (.iaload, 1) := by decide +kernel
theorem dX12_trueUp_6 : decode cX12_trueUp 6 = .ok (.iconst 1, 1) := by decide +kernel
theorem dX12_trueUp_7 : decode cX12_trueUp 7 = .ok (.if_icmp .ne 5, 3) := by decide +kernel
theorem dX12_trueUp_10 : decode cX12_trueUp 10 = .ok (.iconst (-1), 1) := by decide +kernel
theorem dX12_trueUp_11 : decode cX12_trueUp 11 = .ok (.ireturn, 1) := by decide +kernel
theorem dX12_trueUp_12 : decode cX12_trueUp 12 = .ok (.iconst 0, 1) := by decide +kernel
theorem dX12_trueUp_13 : decode cX12_trueUp 13 = .ok (.istore_n 1, 1) := by decide +kernel
theorem dX12_trueUp_14 : decode cX12_trueUp 14 = .ok (.iconst 0, 1) := by decide +kernel
theorem dX12_trueUp_15 : decode cX12_trueUp 15 = .ok (.istore_n 2, 1) := by decide +kernel
theorem dX12_trueUp_16 : decode cX12_trueUp 16 = .ok (.iconst 0, 1) := by decide +kernel
theorem dX12_trueUp_17 : decode cX12_trueUp 17 = .ok (.istore_n 3, 1) := by decide +kernel
theorem dX12_trueUp_18 : decode cX12_trueUp 18 = .ok (.iload_n 3, 1) := by decide +kernel
theorem dX12_trueUp_19 : decode cX12_trueUp 19 = .ok (.aload_n 0, 1) := by decide +kernel
theorem dX12_trueUp_20 : decode cX12_trueUp 20 = .ok (.getfield 240, 3) := by decide +kernel
theorem dX12_trueUp_23 : decode cX12_trueUp 23 = .ok (.if_icmp .ge 85, 3) := by decide +kernel
theorem dX12_trueUp_26 : decode cX12_trueUp 26 = .ok (.iload_n 1, 1) := by decide +kernel
theorem dX12_trueUp_27 : decode cX12_trueUp 27 = .ok (.aload_n 0, 1) := by decide +kernel
theorem dX12_trueUp_28 : decode cX12_trueUp 28 = .ok (.iload_n 3, 1) := by decide +kernel
theorem dX12_trueUp_29 : decode cX12_trueUp 29 = .ok (.iconst 1, 1) := by decide +kernel
theorem dX12_trueUp_30 : decode cX12_trueUp 30 = .ok (.invokevirtual 338, 3) := by decide +kernel
theorem dX12_trueUp_33 : decode cX12_trueUp 33 = .ok (.bipush 16, 2) := by decide +kernel
theorem dX12_trueUp_35 : decode cX12_trueUp 35 = .ok (.invokestatic 255, 3) := by decide +kernel
theorem dX12_trueUp_38 : decode cX12_trueUp 38 = .ok (.aload_n 0, 1) := by decide +kernel
theorem dX12_trueUp_39 : decode cX12_trueUp 39 = .ok (.iload_n 3, 1) := by decide +kernel
theorem dX12_trueUp_40 : decode cX12_trueUp 40 = .ok (.iconst 0, 1) := by decide +kernel
theorem dX12_trueUp_41 : decode cX12_trueUp 41 = .ok (.invokevirtual 338, 3) := by decide +kernel
theorem dX12_trueUp_44 : decode cX12_trueUp 44 = .ok (.if_icmp .eq 7, 3) := by decide +kernel
theorem dX12_trueUp_47 : decode cX12_trueUp 47 = .ok (.iconst 1, 1) := by decide +kernel
theorem dX12_trueUp_48 : decode cX12_trueUp 48 = .ok (.goto 4, 3) := by decide +kernel
theorem dX12_trueUp_51 : decode cX12_trueUp 51 = .ok (.iconst 0, 1) := by decide +kernel
theorem dX12_trueUp_52 : decode cX12_trueUp 52 = .ok (.invokestatic 279, 3) := by decide +kernel
theorem dX12_trueUp_55 : decode cX12_trueUp 55 = .ok (.iadd, 1) := by decide +kernel
theorem dX12_trueUp_56 : decode cX12_trueUp 56 = .ok (.istore_n 1, 1) := by decide +kernel
theorem dX12_trueUp_57 : decode cX12_trueUp 57 = .ok (.iload_n 2, 1) := by decide +kernel
theorem dX12_trueUp_58 : decode cX12_trueUp 58 = .ok (.ifCond .ne 12, 3) := by decide +kernel
theorem dX12_trueUp_61 : decode cX12_trueUp 61 = .ok (.aload_n 0, 1) := by decide +kernel
theorem dX12_trueUp_62 : decode cX12_trueUp 62 = .ok (.iload_n 3, 1) := by decide +kernel
theorem dX12_trueUp_63 : decode cX12_trueUp 63 = .ok (.iconst 5, 1) := by decide +kernel
theorem dX12_trueUp_64 : decode cX12_trueUp 64 = .ok (.invokevirtual 338, 3) := by decide +kernel
theorem dX12_trueUp_67 : decode cX12_trueUp 67 = .ok (.ifCond .le 7, 3) := by decide +kernel
theorem dX12_trueUp_70 : decode cX12_trueUp 70 = .ok (.iconst 1, 1) := by decide +kernel
theorem dX12_trueUp_71 : decode cX12_trueUp 71 = .ok (.goto 4, 3) := by decide +kernel
theorem dX12_trueUp_74 : decode cX12_trueUp 74 = .ok (.iconst 0, 1) := by decide +kernel
theorem dX12_trueUp_75 : decode cX12_trueUp 75 = .ok (.istore_n 2, 1) := by decide +kernel
theorem dX12_trueUp_76 : decode cX12_trueUp 76 = .ok (.aload_n 0, 1) := by decide +kernel
theorem dX12_trueUp_77 : decode cX12_trueUp 77 = .ok (.iload_n 3, 1) := by decide +kernel
theorem dX12_trueUp_78 : decode cX12_trueUp 78 = .ok (.iconst 1, 1) := by decide +kernel
theorem dX12_trueUp_79 : decode cX12_trueUp 79 = .ok (.invokevirtual 338, 3) := by decide +kernel
theorem dX12_trueUp_82 : decode cX12_trueUp 82 = .ok (.bipush 16, 2) := by decide +kernel
theorem dX12_trueUp_84 : decode cX12_trueUp 84 = .ok (.invokestatic 255, 3) := by decide +kernel
theorem dX12_trueUp_87 : decode cX12_trueUp 87 = .ok (.i2l, 1) := by decide +kernel
theorem dX12_trueUp_88 : decode cX12_trueUp 88 = .ok (.ldc2_w 325, 3) := by decide +kernel
theorem dX12_trueUp_91 : decode cX12_trueUp 91 = .ok (.ldc2_w 327, 3) := by decide +kernel
theorem dX12_trueUp_94 : decode cX12_trueUp 94 = .ok (.invokestatic 91, 3) := by decide +kernel
theorem dX12_trueUp_97 : decode cX12_trueUp 97 = .ok (.ifCond .ne 5, 3) := by decide +kernel
theorem dX12_trueUp_100 : decode cX12_trueUp 100 = .ok (.iconst (-1), 1) := by decide +kernel
theorem dX12_trueUp_101 : decode cX12_trueUp 101 = .ok (.ireturn, 1) := by decide +kernel
theorem dX12_trueUp_102 : decode cX12_trueUp 102 = .ok (.iinc 3 1, 3) := by decide +kernel
theorem dX12_trueUp_105 : decode cX12_trueUp 105 = .ok (.goto (-87), 3) := by decide +kernel
theorem dX12_trueUp_108 : decode cX12_trueUp 108 = .ok (.iload_n 1, 1) := by decide +kernel
theorem dX12_trueUp_109 : decode cX12_trueUp 109 = .ok (.ifCond .ne 9, 3) := by decide +kernel
theorem dX12_trueUp_112 : decode cX12_trueUp 112 = .ok (.iload_n 2, 1) := by decide +kernel
theorem dX12_trueUp_113 : decode cX12_trueUp 113 = .ok (.ifCond .ne 5, 3) := by decide +kernel
theorem dX12_trueUp_116 : decode cX12_trueUp 116 = .ok (.iconst (-1), 1) := by decide +kernel
theorem dX12_trueUp_117 : decode cX12_trueUp 117 = .ok (.ireturn, 1) := by decide +kernel
theorem dX12_trueUp_118 : decode cX12_trueUp 118 = .ok (.aload_n 0, 1) := by decide +kernel
theorem dX12_trueUp_119 : decode cX12_trueUp 119 = .ok (.invokevirtual 400, 3) := by decide +kernel
theorem dX12_trueUp_122 : decode cX12_trueUp 122 = .ok (.iconst 0, 1) := by decide +kernel
theorem dX12_trueUp_123 : decode cX12_trueUp 123 = .ok (.istore_n 3, 1) := by decide +kernel
theorem dX12_trueUp_124 : decode cX12_trueUp 124 = .ok (.iload_n 3, 1) := by decide +kernel
theorem dX12_trueUp_125 : decode cX12_trueUp 125 = .ok (.aload_n 0, 1) := by decide +kernel
theorem dX12_trueUp_126 : decode cX12_trueUp 126 = .ok (.getfield 240, 3) := by decide +kernel
theorem dX12_trueUp_129 : decode cX12_trueUp 129 = .ok (.if_icmp .ge 33, 3) := by decide +kernel
theorem dX12_trueUp_132 : decode cX12_trueUp 132 = .ok (.aload_n 0, 1) := by decide +kernel
theorem dX12_trueUp_133 : decode cX12_trueUp 133 = .ok (.iload_n 3, 1) := by decide +kernel
theorem dX12_trueUp_134 : decode cX12_trueUp 134 = .ok (.iconst 0, 1) := by decide +kernel
theorem dX12_trueUp_135 : decode cX12_trueUp 135 = .ok (.aload_n 0, 1) := by decide +kernel
theorem dX12_trueUp_136 : decode cX12_trueUp 136 = .ok (.iload_n 3, 1) := by decide +kernel
theorem dX12_trueUp_137 : decode cX12_trueUp 137 = .ok (.iconst 1, 1) := by decide +kernel
theorem dX12_trueUp_138 : decode cX12_trueUp 138 = .ok (.invokevirtual 338, 3) := by decide +kernel
theorem dX12_trueUp_141 : decode cX12_trueUp 141 = .ok (.bipush 16, 2) := by decide +kernel
theorem dX12_trueUp_143 : decode cX12_trueUp 143 = .ok (.invokestatic 255, 3) := by decide +kernel
theorem dX12_trueUp_146 : decode cX12_trueUp 146 = .ok (.invokevirtual 411, 3) := by decide +kernel
theorem dX12_trueUp_149 : decode cX12_trueUp 149 = .ok (.aload_n 0, 1) := by decide +kernel
theorem dX12_trueUp_150 : decode cX12_trueUp 150 = .ok (.iload_n 3, 1) := by decide +kernel
theorem dX12_trueUp_151 : decode cX12_trueUp 151 = .ok (.iconst 5, 1) := by decide +kernel
theorem dX12_trueUp_152 : decode cX12_trueUp 152 = .ok (.iconst 0, 1) := by decide +kernel
theorem dX12_trueUp_153 : decode cX12_trueUp 153 = .ok (.invokevirtual 411, 3) := by decide +kernel
theorem dX12_trueUp_156 : decode cX12_trueUp 156 = .ok (.iinc 3 1, 3) := by decide +kernel
theorem dX12_trueUp_159 : decode cX12_trueUp 159 = .ok (.goto (-35), 3) := by decide +kernel
theorem dX12_trueUp_162 : decode cX12_trueUp 162 = .ok (.iload_n 1, 1) := by decide +kernel
theorem dX12_trueUp_163 : decode cX12_trueUp 163 = .ok (.ireturn, 1) := by decide +kernel
theorem dX12_angleBy_0 : decode cX12_angleBy 0 = .ok (.bipush 16, 2) := by decide +kernel
theorem dX12_angleBy_2 : decode cX12_angleBy 2 = .ok (.iload_n 0, 1) := by decide +kernel
theorem dX12_angleBy_3 : decode cX12_angleBy 3 = .ok (.imul, 1) := by decide +kernel
theorem dX12_angleBy_4 : decode cX12_angleBy 4 = .ok (.iload_n 1, 1) := by decide +kernel
theorem dX12_angleBy_5 : decode cX12_angleBy 5 = .ok (.isub, 1) := by decide +kernel
theorem dX12_angleBy_6 : decode cX12_angleBy 6 = .ok (.ireturn, 1) := by decide +kernel
theorem dX12_angle_0 : decode cX12_angle 0 = .ok (.aload_n 0, 1) := by decide +kernel
theorem dX12_angle_1 : decode cX12_angle 1 = .ok (.iload_n 1, 1) := by decide +kernel
theorem dX12_angle_2 : decode cX12_angle 2 = .ok (.iconst 0, 1) := by decide +kernel
theorem dX12_angle_3 : decode cX12_angle 3 = .ok (.invokevirtual 338, 3) := by decide +kernel
theorem dX12_angle_6 : decode cX12_angle 6 = .ok (.aload_n 0, 1) := by decide +kernel
theorem dX12_angle_7 : decode cX12_angle 7 = .ok (.iload_n 1, 1) := by decide +kernel
theorem dX12_angle_8 : decode cX12_angle 8 = .ok (.iconst 1, 1) := by decide +kernel
theorem dX12_angle_9 : decode cX12_angle 9 = .ok (.invokevirtual 338, 3) := by decide +kernel
theorem dX12_angle_12 : decode cX12_angle 12 = .ok (.invokestatic 418, 3) := by decide +kernel
theorem dX12_angle_15 : decode cX12_angle 15 = .ok (.ireturn, 1) := by decide +kernel
theorem dX12_pushed_0 : decode cX12_pushed 0 = .ok (.aload_n 0, 1) := by decide +kernel
theorem dX12_pushed_1 : decode cX12_pushed 1 = .ok (.getfield 27, 3) := by decide +kernel
theorem dX12_pushed_4 : decode cX12_pushed 4 = .ok (.bipush 6, 2) := by decide +kernel
theorem dX12_pushed_6 : decode cX12_pushed 6 = .ok (.iload_n 1, 1) := by decide +kernel
theorem dX12_pushed_7 : decode cX12_pushed 7 = .ok (.imul, 1) := by decide +kernel
theorem dX12_pushed_8 : decode cX12_pushed 8 = .ok (.iconst 3, 1) := by decide +kernel
theorem dX12_pushed_9 : decode cX12_pushed 9 = .ok (.iadd, 1) := by decide +kernel
theorem dX12_pushed_10 : decode cX12_pushed 10 = .ok (.iaload, 1) := by decide +kernel
theorem dX12_pushed_11 : decode cX12_pushed 11 = .ok (.i2l, 1) := by decide +kernel
theorem dX12_pushed_12 : decode cX12_pushed 12 = .ok (.aload_n 0, 1) := by decide +kernel
theorem dX12_pushed_13 : decode cX12_pushed 13 = .ok (.iload_n 2, 1) := by decide +kernel
theorem dX12_pushed_14 : decode cX12_pushed 14 = .ok (.bipush 16, 2) := by decide +kernel
theorem dX12_pushed_16 : decode cX12_pushed 16 = .ok (.idiv, 1) := by decide +kernel
theorem dX12_pushed_17 : decode cX12_pushed 17 = .ok (.iconst 0, 1) := by decide +kernel
theorem dX12_pushed_18 : decode cX12_pushed 18 = .ok (.invokevirtual 262, 3) := by decide +kernel
theorem dX12_pushed_21 : decode cX12_pushed 21 = .ok (.i2l, 1) := by decide +kernel
theorem dX12_pushed_22 : decode cX12_pushed 22 = .ok (.lmul, 1) := by decide +kernel
theorem dX12_pushed_23 : decode cX12_pushed 23 = .ok (.ldc2_w 421, 3) := by decide +kernel
theorem dX12_pushed_26 : decode cX12_pushed 26 = .ok (.ldiv, 1) := by decide +kernel
theorem dX12_pushed_27 : decode cX12_pushed 27 = .ok (.iload_n 3, 1) := by decide +kernel
theorem dX12_pushed_28 : decode cX12_pushed 28 = .ok (.i2l, 1) := by decide +kernel
theorem dX12_pushed_29 : decode cX12_pushed 29 = .ok (.lsub, 1) := by decide +kernel
theorem dX12_pushed_30 : decode cX12_pushed 30 = .ok (.l2i, 1) := by decide +kernel
theorem dX12_pushed_31 : decode cX12_pushed 31 = .ok (.aload_n 0, 1) := by decide +kernel
theorem dX12_pushed_32 : decode cX12_pushed 32 = .ok (.getfield 27, 3) := by decide +kernel
theorem dX12_pushed_35 : decode cX12_pushed 35 = .ok (.bipush 6, 2) := by decide +kernel
theorem dX12_pushed_37 : decode cX12_pushed 37 = .ok (.iload_n 1, 1) := by decide +kernel
theorem dX12_pushed_38 : decode cX12_pushed 38 = .ok (.imul, 1) := by decide +kernel
theorem dX12_pushed_39 : decode cX12_pushed 39 = .ok (.iconst 4, 1) := by decide +kernel
theorem dX12_pushed_40 : decode cX12_pushed 40 = .ok (.iadd, 1) := by decide +kernel
theorem dX12_pushed_41 : decode cX12_pushed 41 = .ok (.iaload, 1) := by decide +kernel
theorem dX12_pushed_42 : decode cX12_pushed 42 = .ok (.idiv, 1) := by decide +kernel
theorem dX12_pushed_43 : decode cX12_pushed 43 = .ok (.ireturn, 1) := by decide +kernel
theorem dX12_swung_0 : decode cX12_swung 0 = .ok (.iload_n 3, 1) := by decide +kernel
theorem dX12_swung_1 : decode cX12_swung 1 = .ok (.aload_n 0, 1) := by decide +kernel
theorem dX12_swung_2 : decode cX12_swung 2 = .ok (.iload_n 1, 1) := by decide +kernel
theorem dX12_swung_3 : decode cX12_swung 3 = .ok (.iload_n 2, 1) := by decide +kernel
theorem dX12_swung_4 : decode cX12_swung 4 = .ok (.iload 4, 2) := by decide +kernel
theorem dX12_swung_6 : decode cX12_swung 6 = .ok (.invokevirtual 423, 3) := by decide +kernel
theorem dX12_swung_9 : decode cX12_swung 9 = .ok (.iadd, 1) := by decide +kernel
theorem dX12_swung_10 : decode cX12_swung 10 = .ok (.istore 5, 2) := by decide +kernel
theorem dX12_swung_12 : decode cX12_swung 12 = .ok (.iload 5, 2) := by decide +kernel
theorem dX12_swung_14 : decode cX12_swung 14 = .ok (.iload 5, 2) := by decide +kernel
theorem dX12_swung_16 : decode cX12_swung 16 = .ok (.aload_n 0, 1) := by decide +kernel
theorem dX12_swung_17 : decode cX12_swung 17 = .ok (.getfield 27, 3) := by decide +kernel
theorem dX12_swung_20 : decode cX12_swung 20 = .ok (.bipush 6, 2) := by decide +kernel
theorem dX12_swung_22 : decode cX12_swung 22 = .ok (.iload_n 1, 1) := by decide +kernel
theorem dX12_swung_23 : decode cX12_swung 23 = .ok (.imul, 1) := by decide +kernel
theorem dX12_swung_24 : decode cX12_swung 24 = .ok (.iconst 5, 1) := by decide +kernel
theorem dX12_swung_25 : decode cX12_swung 25 = .ok (.iadd, 1) := by decide +kernel
theorem dX12_swung_26 : decode cX12_swung 26 = .ok (.iaload, 1) := by decide +kernel
theorem dX12_swung_27 : decode cX12_swung 27 = .ok (.imul, 1) := by decide +kernel
theorem dX12_swung_28 : decode cX12_swung 28 = .ok (.bipush 100, 2) := by decide +kernel
theorem dX12_swung_30 : decode cX12_swung 30 = .ok (.idiv, 1) := by decide +kernel
theorem dX12_swung_31 : decode cX12_swung 31 = .ok (.isub, 1) := by decide +kernel
theorem dX12_swung_32 : decode cX12_swung 32 = .ok (.istore 5, 2) := by decide +kernel
theorem dX12_swung_34 : decode cX12_swung 34 = .ok (.sipush (-2000), 3) := by decide +kernel
theorem dX12_swung_37 : decode cX12_swung 37 = .ok (.sipush 2000, 3) := by decide +kernel
theorem dX12_swung_40 : decode cX12_swung 40 = .ok (.iload 5, 2) := by decide +kernel
theorem dX12_swung_42 : decode cX12_swung 42 = .ok (.invokestatic 332, 3) := by decide +kernel
theorem dX12_swung_45 : decode cX12_swung 45 = .ok (.invokestatic 318, 3) := by decide +kernel
theorem dX12_swung_48 : decode cX12_swung 48 = .ok (.ireturn, 1) := by decide +kernel
theorem dX12_waitingBegins_0 : decode cX12_waitingBegins 0 = .ok (.aload_n 0, 1) := by decide +kernel
theorem dX12_waitingBegins_1 : decode cX12_waitingBegins 1 = .ok (.getfield 7, 3) := by decide +kernel
theorem dX12_waitingBegins_4 : decode cX12_waitingBegins 4 = .ok (.iconst 1, 1) := by decide +kernel
theorem dX12_waitingBegins_5 : decode cX12_waitingBegins 5 = .ok (.iaload, 1) := by decide +kernel
theorem dX12_waitingBegins_6 : decode cX12_waitingBegins 6 = .ok (.ifCond .ne 100, 3) := by decide +kernel
theorem dX12_waitingBegins_9 : decode cX12_waitingBegins 9 = .ok (.aload_n 0, 1) := by decide +kernel
theorem dX12_waitingBegins_10 : decode cX12_waitingBegins 10 = .ok (.getfield 7, 3) := by decide +kernel
theorem dX12_waitingBegins_13 : decode cX12_waitingBegins 13 = .ok (.bipush 23, 2) := by decide +kernel
theorem dX12_waitingBegins_15 : decode cX12_waitingBegins 15 = .ok (.iaload, 1) := by decide +kernel
theorem dX12_waitingBegins_16 : decode cX12_waitingBegins 16 = .ok (.ifCond .le 90, 3) := by decide +kernel
theorem dX12_waitingBegins_19 : decode cX12_waitingBegins 19 = .ok (.aload_n 0, 1) := by decide +kernel
theorem dX12_waitingBegins_20 : decode cX12_waitingBegins 20 = .ok (.aload_n 0, 1) := by decide +kernel
theorem dX12_waitingBegins_21 : decode cX12_waitingBegins 21 = .ok (.getfield 7, 3) := by decide +kernel
theorem dX12_waitingBegins_24 : decode cX12_waitingBegins 24 = .ok (.bipush 24, 2) := by decide +kernel
theorem dX12_waitingBegins_26 : decode cX12_waitingBegins 26 = .ok (.iaload, 1) := by decide +kernel
theorem dX12_waitingBegins_27 : decode cX12_waitingBegins 27 = .ok (.aload_n 0, 1) := by decide +kernel
theorem dX12_waitingBegins_28 : decode cX12_waitingBegins 28 = .ok (.getfield 7, 3) := by decide +kernel
theorem dX12_waitingBegins_31 : decode cX12_waitingBegins 31 = .ok (.bipush 25, 2) := by decide +kernel
theorem dX12_waitingBegins_33 : decode cX12_waitingBegins 33 = .ok (.iaload, 1) := by decide +kernel
theorem dX12_waitingBegins_34 : decode cX12_waitingBegins 34 = .ok (.aload_n 0, 1) := by decide +kernel
theorem dX12_waitingBegins_35 : decode cX12_waitingBegins 35 = .ok (.getfield 7, 3) := by decide +kernel
theorem dX12_waitingBegins_38 : decode cX12_waitingBegins 38 = .ok (.bipush 26, 2) := by decide +kernel
theorem dX12_waitingBegins_40 : decode cX12_waitingBegins 40 = .ok (.iaload, 1) := by decide +kernel
theorem dX12_waitingBegins_41 : decode cX12_waitingBegins 41 = .ok (.invokevirtual 369, 3) := by decide +kernel
theorem dX12_waitingBegins_44 : decode cX12_waitingBegins 44 = .ok (.istore_n 1, 1) := by decide +kernel
theorem dX12_waitingBegins_45 : decode cX12_waitingBegins 45 = .ok (.aload_n 0, 1) := by decide +kernel
theorem dX12_waitingBegins_46 : decode cX12_waitingBegins 46 = .ok (.getfield 7, 3) := by decide +kernel
theorem dX12_waitingBegins_49 : decode cX12_waitingBegins 49 = .ok (.bipush 23, 2) := by decide +kernel
theorem dX12_waitingBegins_51 : decode cX12_waitingBegins 51 = .ok (.dup2, 1) := by decide +kernel
theorem dX12_waitingBegins_52 : decode cX12_waitingBegins 52 = .ok (.iaload, 1) := by decide +kernel
theorem dX12_waitingBegins_53 : decode cX12_waitingBegins 53 = .ok (.iconst 1, 1) := by decide +kernel
theorem dX12_waitingBegins_54 : decode cX12_waitingBegins 54 = .ok (.isub, 1) := by decide +kernel
theorem dX12_waitingBegins_55 : decode cX12_waitingBegins 55 = .ok (.iastore, 1) := by decide +kernel
theorem dX12_waitingBegins_56 : decode cX12_waitingBegins 56 = .ok (.iconst 0, 1) := by decide +kernel
theorem dX12_waitingBegins_57 : decode cX12_waitingBegins 57 = .ok (.istore_n 2, 1) := by decide +kernel
theorem dX12_waitingBegins_58 : decode cX12_waitingBegins 58 = .ok (.iload_n 2, 1) := by decide +kernel
theorem dX12_waitingBegins_59 : decode cX12_waitingBegins 59 = .ok (.iconst 3, 1) := by decide +kernel
theorem dX12_waitingBegins_60 : decode cX12_waitingBegins 60 = .ok (.aload_n 0, 1) := by decide +kernel
theorem dX12_waitingBegins_61 : decode cX12_waitingBegins 61 = .ok (.getfield 7, 3) := by decide +kernel
theorem dX12_waitingBegins_64 : decode cX12_waitingBegins 64 = .ok (.bipush 23, 2) := by decide +kernel
theorem dX12_waitingBegins_66 : decode cX12_waitingBegins 66 = .ok (.iaload, 1) := by decide +kernel
theorem dX12_waitingBegins_67 : decode cX12_waitingBegins 67 = .ok (.imul, 1) := by decide +kernel
theorem dX12_waitingBegins_68 : decode cX12_waitingBegins 68 = .ok (.if_icmp .ge 27, 3) := by decide +kernel
theorem dX12_waitingBegins_71 : decode cX12_waitingBegins 71 = .ok (.aload_n 0, 1) := by decide +kernel
theorem dX12_waitingBegins_72 : decode cX12_waitingBegins 72 = .ok (.getfield 7, 3) := by decide +kernel
theorem dX12_waitingBegins_75 : decode cX12_waitingBegins 75 = .ok (.bipush 24, 2) := by decide +kernel
theorem dX12_waitingBegins_77 : decode cX12_waitingBegins 77 = .ok (.iload_n 2, 1) := by decide +kernel
theorem dX12_waitingBegins_78 : decode cX12_waitingBegins 78 = .ok (.iadd, 1) := by decide +kernel
theorem dX12_waitingBegins_79 : decode cX12_waitingBegins 79 = .ok (.aload_n 0, 1) := by decide +kernel
theorem dX12_waitingBegins_80 : decode cX12_waitingBegins 80 = .ok (.getfield 7, 3) := by decide +kernel
theorem dX12_waitingBegins_83 : decode cX12_waitingBegins 83 = .ok (.bipush 27, 2) := by decide +kernel
theorem dX12_waitingBegins_85 : decode cX12_waitingBegins 85 = .ok (.iload_n 2, 1) := by decide +kernel
theorem dX12_waitingBegins_86 : decode cX12_waitingBegins 86 = .ok (.iadd, 1) := by decide +kernel
theorem dX12_waitingBegins_87 : decode cX12_waitingBegins 87 = .ok (.iaload, 1) := by decide +kernel
theorem dX12_waitingBegins_88 : decode cX12_waitingBegins 88 = .ok (.iastore, 1) := by decide +kernel
theorem dX12_waitingBegins_89 : decode cX12_waitingBegins 89 = .ok (.iinc 2 1, 3) := by decide +kernel
theorem dX12_waitingBegins_92 : decode cX12_waitingBegins 92 = .ok (.goto (-34), 3) := by decide +kernel
theorem dX12_waitingBegins_95 : decode cX12_waitingBegins 95 = .ok (.iload_n 1, 1) := by decide +kernel
theorem dX12_waitingBegins_96 : decode cX12_waitingBegins 96 = .ok (.ifCond .eq 7, 3) := by decide +kernel
theorem dX12_waitingBegins_99 : decode cX12_waitingBegins 99 = .ok (.aload_n 0, 1) := by decide +kernel
theorem dX12_waitingBegins_100 : decode cX12_waitingBegins 100 = .ok (.invokevirtual 403, 3) := by decide +kernel
theorem dX12_waitingBegins_103 : decode cX12_waitingBegins 103 = .ok (.goto (-103), 3) := by decide +kernel
theorem dX12_waitingBegins_106 : decode cX12_waitingBegins 106 = .ok (.return_, 1) := by decide +kernel
theorem dX12_moves_0 : decode cX12_moves 0 = .ok (.aload_n 0, 1) := by decide +kernel
theorem dX12_moves_1 : decode cX12_moves 1 = .ok (.getfield 7, 3) := by decide +kernel
theorem dX12_moves_4 : decode cX12_moves 4 = .ok (.iconst 1, 1) := by decide +kernel
theorem dX12_moves_5 : decode cX12_moves 5 = .ok (.iaload, 1) := by decide +kernel
theorem dX12_moves_6 : decode cX12_moves 6 = .ok (.ifCond .ne 4, 3) := by decide +kernel
theorem dX12_moves_9 : decode cX12_moves 9 = .ok (.return_, 1) := by decide +kernel
theorem dX12_moves_10 : decode cX12_moves 10 = .ok (.aload_n 0, 1) := by decide +kernel
theorem dX12_moves_11 : decode cX12_moves 11 = .ok (.invokevirtual 426, 3) := by decide +kernel
theorem dX12_moves_14 : decode cX12_moves 14 = .ok (.istore_n 1, 1) := by decide +kernel
theorem dX12_moves_15 : decode cX12_moves 15 = .ok (.aload_n 0, 1) := by decide +kernel
theorem dX12_moves_16 : decode cX12_moves 16 = .ok (.getfield 7, 3) := by decide +kernel
theorem dX12_moves_19 : decode cX12_moves 19 = .ok (.bipush 16, 2) := by decide +kernel
theorem dX12_moves_21 : decode cX12_moves 21 = .ok (.dup2, 1) := by decide +kernel
theorem dX12_moves_22 : decode cX12_moves 22 = .ok (.iaload, 1) := by decide +kernel
theorem dX12_moves_23 : decode cX12_moves 23 = .ok (.iload_n 1, 1) := by decide +kernel
theorem dX12_moves_24 : decode cX12_moves 24 = .ok (.iadd, 1) := by decide +kernel
theorem dX12_moves_25 : decode cX12_moves 25 = .ok (.iastore, 1) := by decide +kernel
theorem dX12_moves_26 : decode cX12_moves 26 = .ok (.aload_n 0, 1) := by decide +kernel
theorem dX12_moves_27 : decode cX12_moves 27 = .ok (.getfield 7, 3) := by decide +kernel
theorem dX12_moves_30 : decode cX12_moves 30 = .ok (.bipush 15, 2) := by decide +kernel
theorem dX12_moves_32 : decode cX12_moves 32 = .ok (.dup2, 1) := by decide +kernel
theorem dX12_moves_33 : decode cX12_moves 33 = .ok (.iaload, 1) := by decide +kernel
theorem dX12_moves_34 : decode cX12_moves 34 = .ok (.iconst 1, 1) := by decide +kernel
theorem dX12_moves_35 : decode cX12_moves 35 = .ok (.iadd, 1) := by decide +kernel
theorem dX12_moves_36 : decode cX12_moves 36 = .ok (.iastore, 1) := by decide +kernel
theorem dX12_moves_37 : decode cX12_moves 37 = .ok (.aload_n 0, 1) := by decide +kernel
theorem dX12_moves_38 : decode cX12_moves 38 = .ok (.getfield 7, 3) := by decide +kernel
theorem dX12_moves_41 : decode cX12_moves 41 = .ok (.bipush 20, 2) := by decide +kernel
theorem dX12_moves_43 : decode cX12_moves 43 = .ok (.iload_n 1, 1) := by decide +kernel
theorem dX12_moves_44 : decode cX12_moves 44 = .ok (.iastore, 1) := by decide +kernel
theorem dX12_moves_45 : decode cX12_moves 45 = .ok (.iconst 0, 1) := by decide +kernel
theorem dX12_moves_46 : decode cX12_moves 46 = .ok (.istore_n 2, 1) := by decide +kernel
theorem dX12_moves_47 : decode cX12_moves 47 = .ok (.iload_n 2, 1) := by decide +kernel
theorem dX12_moves_48 : decode cX12_moves 48 = .ok (.aload_n 0, 1) := by decide +kernel
theorem dX12_moves_49 : decode cX12_moves 49 = .ok (.getfield 240, 3) := by decide +kernel
theorem dX12_moves_52 : decode cX12_moves 52 = .ok (.if_icmp .ge 49, 3) := by decide +kernel
theorem dX12_moves_55 : decode cX12_moves 55 = .ok (.aload_n 0, 1) := by decide +kernel
theorem dX12_moves_56 : decode cX12_moves 56 = .ok (.iload_n 2, 1) := by decide +kernel
theorem dX12_moves_57 : decode cX12_moves 57 = .ok (.iconst 0, 1) := by decide +kernel
theorem dX12_moves_58 : decode cX12_moves 58 = .ok (.aload_n 0, 1) := by decide +kernel
theorem dX12_moves_59 : decode cX12_moves 59 = .ok (.getfield 7, 3) := by decide +kernel
theorem dX12_moves_62 : decode cX12_moves 62 = .ok (.iconst 4, 1) := by decide +kernel
theorem dX12_moves_63 : decode cX12_moves 63 = .ok (.iload_n 2, 1) := by decide +kernel
theorem dX12_moves_64 : decode cX12_moves 64 = .ok (.iadd, 1) := by decide +kernel
theorem dX12_moves_65 : decode cX12_moves 65 = .ok (.iaload, 1) := by decide +kernel
theorem dX12_moves_66 : decode cX12_moves 66 = .ok (.aload_n 0, 1) := by decide +kernel
theorem dX12_moves_67 : decode cX12_moves 67 = .ok (.getfield 7, 3) := by decide +kernel
theorem dX12_moves_70 : decode cX12_moves 70 = .ok (.bipush 16, 2) := by decide +kernel
theorem dX12_moves_72 : decode cX12_moves 72 = .ok (.iaload, 1) := by decide +kernel
theorem dX12_moves_73 : decode cX12_moves 73 = .ok (.aload_n 0, 1) := by decide +kernel
theorem dX12_moves_74 : decode cX12_moves 74 = .ok (.getfield 7, 3) := by decide +kernel
theorem dX12_moves_77 : decode cX12_moves 77 = .ok (.bipush 7, 2) := by decide +kernel
theorem dX12_moves_79 : decode cX12_moves 79 = .ok (.iload_n 2, 1) := by decide +kernel
theorem dX12_moves_80 : decode cX12_moves 80 = .ok (.iadd, 1) := by decide +kernel
theorem dX12_moves_81 : decode cX12_moves 81 = .ok (.iaload, 1) := by decide +kernel
theorem dX12_moves_82 : decode cX12_moves 82 = .ok (.aload_n 0, 1) := by decide +kernel
theorem dX12_moves_83 : decode cX12_moves 83 = .ok (.getfield 7, 3) := by decide +kernel
theorem dX12_moves_86 : decode cX12_moves 86 = .ok (.iconst 3, 1) := by decide +kernel
theorem dX12_moves_87 : decode cX12_moves 87 = .ok (.iaload, 1) := by decide +kernel
theorem dX12_moves_88 : decode cX12_moves 88 = .ok (.invokestatic 387, 3) := by decide +kernel
theorem dX12_moves_91 : decode cX12_moves 91 = .ok (.iadd, 1) := by decide +kernel
theorem dX12_moves_92 : decode cX12_moves 92 = .ok (.invokevirtual 411, 3) := by decide +kernel
theorem dX12_moves_95 : decode cX12_moves 95 = .ok (.iinc 2 1, 3) := by decide +kernel
theorem dX12_moves_98 : decode cX12_moves 98 = .ok (.goto (-51), 3) := by decide +kernel
theorem dX12_moves_101 : decode cX12_moves 101 = .ok (.aload_n 0, 1) := by decide +kernel
theorem dX12_moves_102 : decode cX12_moves 102 = .ok (.getfield 7, 3) := by decide +kernel
theorem dX12_moves_105 : decode cX12_moves 105 = .ok (.bipush 15, 2) := by decide +kernel
theorem dX12_moves_107 : decode cX12_moves 107 = .ok (.iaload, 1) := by decide +kernel
theorem dX12_moves_108 : decode cX12_moves 108 = .ok (.aload_n 0, 1) := by decide +kernel
theorem dX12_moves_109 : decode cX12_moves 109 = .ok (.invokevirtual 406, 3) := by decide +kernel
theorem dX12_moves_112 : decode cX12_moves 112 = .ok (.if_icmp .ne 10, 3) := by decide +kernel
theorem dX12_moves_115 : decode cX12_moves 115 = .ok (.aload_n 0, 1) := by decide +kernel
theorem dX12_moves_116 : decode cX12_moves 116 = .ok (.getfield 7, 3) := by decide +kernel
theorem dX12_moves_119 : decode cX12_moves 119 = .ok (.iconst 1, 1) := by decide +kernel
theorem dX12_moves_120 : decode cX12_moves 120 = .ok (.iconst 0, 1) := by decide +kernel
theorem dX12_moves_121 : decode cX12_moves 121 = .ok (.iastore, 1) := by decide +kernel
theorem dX12_moves_122 : decode cX12_moves 122 = .ok (.return_, 1) := by decide +kernel
def zjX12_go_20 (sh : zShp) (k0 : Nat) (p1 : Int32) (p2 : Int32) (p3 : Int32)  (M : zMem) : Option (Int32 × zMem) :=
  some ((-1 : Int32), M)
def zX12_go (sh : zShp) (k0 : Nat) (p1 : Int32) (p2 : Int32) (p3 : Int32) (M : zMem) : Option (Int32 × zMem) :=
  zgd (zin (1 : Int32) (zlen sh (zR M k0 0))) <|
  if (zI M (zR M k0 0) ((1 : Int32).toNatClampNeg)) = (1 : Int32) then (
  zjX12_go_20 sh k0 p1 p2 p3 M)
  else (
  zob2 (zX12_canGo sh k0 p1 p2 p3 M) fun r_5 M_6 =>
  if r_5 = 0 then (
  zjX12_go_20 sh k0 p1 p2 p3 M_6)
  else (
  zob (zX12_act sh k0 M_6) fun M_9 =>
  zob (zX12_begins sh k0 M_9) fun M_11 =>
  zob (zX12_planTicks sh k0 M_11) fun r_13 =>
  some (r_13, M_11)))
set_option maxHeartbeats 4000000 in
set_option maxRecDepth 100000 in
theorem ztX12_go (l : Launch) (D : va_G) (cy : Nat → ClassId) (sh : zShp) (ad : Nat → Nat) {k0 : Nat} {p1 : Int32} {p2 : Int32} {p3 : Int32} (h0 : zT sh k0 12) {M : zMem} {r : Int32} {M1 : zMem} (hd : zX12_go sh k0 p1 p2 p3 M = some (r, M1)) : zCI l yX12_go cX12_go 4 .int { frames := 5, cells := 0, slots := 0, locals := 124 } [.ref (ad k0), .int p1, .int p2, .int p3] D cy sh ad M r M1 := by
  refine zci_of (by decide) (Nat.le_of_ble_eq_true rfl) (fun p e s m below meth c ls F hr hlk hl hw => ?_)
  have hx := F.1.1
  have hb := F.1.2.1
  have hl : lv_has ls 4 [(0, .ref (ad k0)), (1, .int p1), (2, .int p2), (3, .int p3)] := hl
  have J20 : ∀ (M : zMem) (H : Heap) (locs : List Loc) (ls : Array Slot), lv_has ls 4 [] → zWd D cy sh ad s M H locs → zjX12_go_20 sh k0 p1 p2 p3  M = some (r, M1) → W p l e { frames := 5, cells := 0, slots := 0, locals := 124 } s m ([.ref (ad k0), .int p1, .int p2, .int p3] : List Value).toArray below meth c H locs 0 0 (zQI below D cy sh ad s [.ref (ad k0), .int p1, .int p2, .int p3] r M1) (F0 m 20 ls []) := by
    intro  M H locs ls hl hw hd
    unfold zjX12_go_20 at hd
    refine lv_iconst (v := (-1 : Int32)) hx hb dX12_go_20 (by decide) ?_
    exact z_iret F hr hlk hw (zpr1 hd) (zpr2 hd) dX12_go_21
  unfold zX12_go at hd
  refine lv_aload_n hx hb dX12_go_0 rfl (lv_at hl 0 rfl) ?_
  refine z_gR F hw h0 zc12 0 (by decide) rfl zf12_7 dX12_go_1 ?_
  have t_1 : zT sh (zR M k0 0) 14 := hw.2.2.2.fld h0 0 14
  refine lv_iconst (v := (1 : Int32)) hx hb dX12_go_4 (by decide) ?_
  obtain ⟨g_2, hd⟩ := zgd_some hd
  refine z_iald F hw t_1 g_2 dX12_go_5 ?_
  refine lv_iconst (v := (1 : Int32)) hx hb dX12_go_6 (by decide) ?_
  refine lv_icmp_eq (tgt := 20) hx hb dX12_go_7 (by decide) (fun c_3 => ?_) (fun c_3 => ?_)
  · have hd := zif_pos c_3 hd
    exact J20 _ _ _ _ (lv_sub hl [] rfl) hw hd
  · have hd := zif_neg c_3 hd
    refine lv_aload_n hx hb dX12_go_10 rfl (lv_at hl 0 rfl) ?_
    refine lv_iload_n hx hb dX12_go_11 rfl (lv_at hl 1 rfl) ?_
    refine lv_iload_n hx hb dX12_go_12 rfl (lv_at hl 2 rfl) ?_
    refine lv_iload_n hx hb dX12_go_13 rfl (lv_at hl 3 rfl) ?_
    obtain ⟨r_5, M_6, hc_4, hd⟩ := zob2_some hd
    refine z_cvI F hw hl.1 (As := [.int p1, .int p2, .int p3]) (rest := []) (ztX12_canGo l D cy sh ad h0 hc_4) zyX12_canGo h0 zc12 zk12_375 ⟨rfl, rfl⟩ ⟨by decide, by decide⟩ rfl rfl (Nat.le_of_ble_eq_true rfl) dX12_go_14 (fun H locs hw => ?_)
    refine lv_if_ne (tgt := 22) hx hb dX12_go_17 (by decide) (fun c_7 => ?_) (fun c_7 => ?_)
    · have hd := zif_neg c_7 hd
      refine lv_aload_n hx hb dX12_go_22 rfl (lv_at hl 0 rfl) ?_
      obtain ⟨M_9, hc_8, hd⟩ := zob_some hd
      refine z_cvV F hw hl.1 (As := []) (rest := []) (ztX12_act l D cy sh ad h0 hc_8) zyX12_act h0 zc12 zk12_400 ⟨rfl, rfl⟩ ⟨by decide, by decide⟩ rfl rfl (Nat.le_of_ble_eq_true rfl) dX12_go_23 (fun H locs hw => ?_)
      refine lv_aload_n hx hb dX12_go_26 rfl (lv_at hl 0 rfl) ?_
      obtain ⟨M_11, hc_10, hd⟩ := zob_some hd
      refine z_cvV F hw hl.1 (As := []) (rest := []) (ztX12_begins l D cy sh ad h0 hc_10) zyX12_begins h0 zc12 zk12_403 ⟨rfl, rfl⟩ ⟨by decide, by decide⟩ rfl rfl (Nat.le_of_ble_eq_true rfl) dX12_go_27 (fun H locs hw => ?_)
      refine lv_aload_n hx hb dX12_go_30 rfl (lv_at hl 0 rfl) ?_
      obtain ⟨r_13, hc_12, hd⟩ := zob_some hd
      refine z_cvI F hw hl.1 (As := []) (rest := []) (ztX12_planTicks l D cy sh ad h0 hc_12) zyX12_planTicks h0 zc12 zk12_378 ⟨rfl, rfl⟩ ⟨by decide, by decide⟩ rfl rfl (Nat.le_of_ble_eq_true rfl) dX12_go_31 (fun H locs hw => ?_)
      exact z_iret F hr hlk hw (zpr1 hd) (zpr2 hd) dX12_go_34
    · have hd := zif_pos c_7 hd
      exact J20 _ _ _ _ (lv_sub hl [] rfl) hw hd

def zjX12_allTicks_46 (sh : zShp) (k0 : Nat) (M : zMem)  (s0 : Int32) : Option (Int32) :=
  some s0
def zX12_allTicks (sh : zShp) (k0 : Nat) (M : zMem) : Option (Int32) :=
  zgd (zin (17 : Int32) (zlen sh (zR M k0 0))) <|
  if (zI M (zR M k0 0) ((17 : Int32).toNatClampNeg)) = (1 : Int32) then (
  zgd (zin (19 : Int32) (zlen sh (zR M k0 0))) <|
  zgd (zin (18 : Int32) (zlen sh (zR M k0 0))) <|
  zjX12_allTicks_46 sh k0 M ((zI M (zR M k0 0) ((19 : Int32).toNatClampNeg)) + (zI M (zR M k0 0) ((18 : Int32).toNatClampNeg))))
  else (
  zgd (zin (12 : Int32) (zlen sh (zR M k0 0))) <|
  zgd (zin (14 : Int32) (zlen sh (zR M k0 0))) <|
  zjX12_allTicks_46 sh k0 M (((2 : Int32) * (zI M (zR M k0 0) ((12 : Int32).toNatClampNeg))) + (zI M (zR M k0 0) ((14 : Int32).toNatClampNeg))))
set_option maxHeartbeats 4000000 in
set_option maxRecDepth 100000 in
theorem ztX12_allTicks (l : Launch) (D : va_G) (cy : Nat → ClassId) (sh : zShp) (ad : Nat → Nat) {k0 : Nat} (h0 : zT sh k0 12) {M : zMem} {r : Int32} (hd : zX12_allTicks sh k0 M = some r) : zCI l yX12_allTicks cX12_allTicks 1 .int { frames := 0, cells := 0, slots := 0, locals := 0 } [.ref (ad k0)] D cy sh ad M r M := by
  refine zci_of (by decide) (Nat.le_of_ble_eq_true rfl) (fun p e s m below meth c ls F hr hlk hl hw => ?_)
  have hx := F.1.1
  have hb := F.1.2.1
  have hl : lv_has ls 1 [(0, .ref (ad k0))] := hl
  have J46 : ∀ (s0 : Int32) (H : Heap) (locs : List Loc) (ls : Array Slot), lv_has ls 1 [] → zWd D cy sh ad s M H locs → zjX12_allTicks_46 sh k0 M  s0 = some r → W p l e { frames := 0, cells := 0, slots := 0, locals := 0 } s m ([.ref (ad k0)] : List Value).toArray below meth c H locs 0 0 (zQI below D cy sh ad s [.ref (ad k0)] r M) (F0 m 46 ls [.int s0]) := by
    intro  s0 H locs ls hl hw hd
    unfold zjX12_allTicks_46 at hd
    exact z_iret F hr hlk hw (Option.some.inj hd) rfl dX12_allTicks_46
  unfold zX12_allTicks at hd
  refine lv_aload_n hx hb dX12_allTicks_0 rfl (lv_at hl 0 rfl) ?_
  refine z_gR F hw h0 zc12 0 (by decide) rfl zf12_7 dX12_allTicks_1 ?_
  have t_1 : zT sh (zR M k0 0) 14 := hw.2.2.2.fld h0 0 14
  refine lv_bipush (v := (17 : Int32)) hx hb dX12_allTicks_4 (by decide) ?_
  obtain ⟨g_2, hd⟩ := zgd_some hd
  refine z_iald F hw t_1 g_2 dX12_allTicks_6 ?_
  refine lv_iconst (v := (1 : Int32)) hx hb dX12_allTicks_7 (by decide) ?_
  refine lv_icmp_ne (tgt := 29) hx hb dX12_allTicks_8 (by decide) (fun c_3 => ?_) (fun c_3 => ?_)
  · have hd := zif_neg c_3 hd
    refine lv_iconst (v := (2 : Int32)) hx hb dX12_allTicks_29 (by decide) ?_
    refine lv_aload_n hx hb dX12_allTicks_30 rfl (lv_at hl 0 rfl) ?_
    refine z_gR F hw h0 zc12 0 (by decide) rfl zf12_7 dX12_allTicks_31 ?_
    have t_4 : zT sh (zR M k0 0) 14 := hw.2.2.2.fld h0 0 14
    refine lv_bipush (v := (12 : Int32)) hx hb dX12_allTicks_34 (by decide) ?_
    obtain ⟨g_5, hd⟩ := zgd_some hd
    refine z_iald F hw t_4 g_5 dX12_allTicks_36 ?_
    refine lv_imul hx hb dX12_allTicks_37 ?_
    refine lv_aload_n hx hb dX12_allTicks_38 rfl (lv_at hl 0 rfl) ?_
    refine z_gR F hw h0 zc12 0 (by decide) rfl zf12_7 dX12_allTicks_39 ?_
    have t_6 : zT sh (zR M k0 0) 14 := hw.2.2.2.fld h0 0 14
    refine lv_bipush (v := (14 : Int32)) hx hb dX12_allTicks_42 (by decide) ?_
    obtain ⟨g_7, hd⟩ := zgd_some hd
    refine z_iald F hw t_6 g_7 dX12_allTicks_44 ?_
    refine lv_iadd hx hb dX12_allTicks_45 ?_
    exact J46 _ _ _ _ (lv_sub hl [] rfl) hw hd
  · have hd := zif_pos c_3 hd
    refine lv_aload_n hx hb dX12_allTicks_11 rfl (lv_at hl 0 rfl) ?_
    refine z_gR F hw h0 zc12 0 (by decide) rfl zf12_7 dX12_allTicks_12 ?_
    have t_8 : zT sh (zR M k0 0) 14 := hw.2.2.2.fld h0 0 14
    refine lv_bipush (v := (19 : Int32)) hx hb dX12_allTicks_15 (by decide) ?_
    obtain ⟨g_9, hd⟩ := zgd_some hd
    refine z_iald F hw t_8 g_9 dX12_allTicks_17 ?_
    refine lv_aload_n hx hb dX12_allTicks_18 rfl (lv_at hl 0 rfl) ?_
    refine z_gR F hw h0 zc12 0 (by decide) rfl zf12_7 dX12_allTicks_19 ?_
    have t_10 : zT sh (zR M k0 0) 14 := hw.2.2.2.fld h0 0 14
    refine lv_bipush (v := (18 : Int32)) hx hb dX12_allTicks_22 (by decide) ?_
    obtain ⟨g_11, hd⟩ := zgd_some hd
    refine z_iald F hw t_10 g_11 dX12_allTicks_24 ?_
    refine lv_iadd hx hb dX12_allTicks_25 ?_
    refine lv_goto (tgt := 46) hx hb dX12_allTicks_26 (by decide) ?_
    exact J46 _ _ _ _ (lv_sub hl [] rfl) hw hd

def zjX12_speedNow_159 (sh : zShp) (k0 : Nat) (M : zMem)  (s0 : Int32) : Option (Int32) :=
  some s0
def zX12_speedNow (sh : zShp) (k0 : Nat) (M : zMem) : Option (Int32) :=
  zgd (zin (15 : Int32) (zlen sh (zR M k0 0))) <|
  zbd ((zI M (zR M k0 0) ((15 : Int32).toNatClampNeg))) fun v_3 =>
  zgd (zin (17 : Int32) (zlen sh (zR M k0 0))) <|
  if (zI M (zR M k0 0) ((17 : Int32).toNatClampNeg)) = (1 : Int32) then (
  zgd (zin (18 : Int32) (zlen sh (zR M k0 0))) <|
  zgd (zin (19 : Int32) (zlen sh (zR M k0 0))) <|
  zgd (zin ((((130 : Int32) + (zI M (zR M k0 0) ((18 : Int32).toNatClampNeg))) - (1 : Int32)) - (v_3 - (zI M (zR M k0 0) ((19 : Int32).toNatClampNeg)))) (zlen sh (zR M k0 0))) <|
  some (zI M (zR M k0 0) (((((130 : Int32) + (zI M (zR M k0 0) ((18 : Int32).toNatClampNeg))) - (1 : Int32)) - (v_3 - (zI M (zR M k0 0) ((19 : Int32).toNatClampNeg)))).toNatClampNeg)))
  else (
  zgd (zin (12 : Int32) (zlen sh (zR M k0 0))) <|
  if (zI M (zR M k0 0) ((12 : Int32).toNatClampNeg)) ≤ v_3 then (
  zgd (zin (12 : Int32) (zlen sh (zR M k0 0))) <|
  zbd ((v_3 - (zI M (zR M k0 0) ((12 : Int32).toNatClampNeg)))) fun v_12 =>
  zgd (zin (14 : Int32) (zlen sh (zR M k0 0))) <|
  if (zI M (zR M k0 0) ((14 : Int32).toNatClampNeg)) ≤ v_12 then (
  zgd (zin (12 : Int32) (zlen sh (zR M k0 0))) <|
  zgd (zin (14 : Int32) (zlen sh (zR M k0 0))) <|
  zgd (zin ((((66 : Int32) + (zI M (zR M k0 0) ((12 : Int32).toNatClampNeg))) - (1 : Int32)) - (v_12 - (zI M (zR M k0 0) ((14 : Int32).toNatClampNeg)))) (zlen sh (zR M k0 0))) <|
  zjX12_speedNow_159 sh k0 M (zI M (zR M k0 0) (((((66 : Int32) + (zI M (zR M k0 0) ((12 : Int32).toNatClampNeg))) - (1 : Int32)) - (v_12 - (zI M (zR M k0 0) ((14 : Int32).toNatClampNeg)))).toNatClampNeg)))
  else (
  zgd (zin (13 : Int32) (zlen sh (zR M k0 0))) <|
  zgd (zin (14 : Int32) (zlen sh (zR M k0 0))) <|
  zob (zX12_part sh (zI M (zR M k0 0) ((13 : Int32).toNatClampNeg)) (v_12 + (1 : Int32)) (zI M (zR M k0 0) ((14 : Int32).toNatClampNeg)) M) fun r_27 =>
  zgd (zin (13 : Int32) (zlen sh (zR M k0 0))) <|
  zgd (zin (14 : Int32) (zlen sh (zR M k0 0))) <|
  zob (zX12_part sh (zI M (zR M k0 0) ((13 : Int32).toNatClampNeg)) v_12 (zI M (zR M k0 0) ((14 : Int32).toNatClampNeg)) M) fun r_33 =>
  zjX12_speedNow_159 sh k0 M (r_27 - r_33)))
  else (
  zgd (zin ((66 : Int32) + v_3) (zlen sh (zR M k0 0))) <|
  some (zI M (zR M k0 0) (((66 : Int32) + v_3).toNatClampNeg))))
set_option maxHeartbeats 4000000 in
set_option maxRecDepth 100000 in
theorem ztX12_speedNow (l : Launch) (D : va_G) (cy : Nat → ClassId) (sh : zShp) (ad : Nat → Nat) {k0 : Nat} (h0 : zT sh k0 12) {M : zMem} {r : Int32} (hd : zX12_speedNow sh k0 M = some r) : zCI l yX12_speedNow cX12_speedNow 3 .int { frames := 1, cells := 0, slots := 0, locals := 22 } [.ref (ad k0)] D cy sh ad M r M := by
  refine zci_of (by decide) (Nat.le_of_ble_eq_true rfl) (fun p e s m below meth c ls F hr hlk hl hw => ?_)
  have hx := F.1.1
  have hb := F.1.2.1
  have hl : lv_has ls 3 [(0, .ref (ad k0))] := hl
  have J159 : ∀ (s0 : Int32) (H : Heap) (locs : List Loc) (ls : Array Slot), lv_has ls 3 [] → zWd D cy sh ad s M H locs → zjX12_speedNow_159 sh k0 M  s0 = some r → W p l e { frames := 1, cells := 0, slots := 0, locals := 22 } s m ([.ref (ad k0)] : List Value).toArray below meth c H locs 0 0 (zQI below D cy sh ad s [.ref (ad k0)] r M) (F0 m 159 ls [.int s0]) := by
    intro  s0 H locs ls hl hw hd
    unfold zjX12_speedNow_159 at hd
    exact z_iret F hr hlk hw (Option.some.inj hd) rfl dX12_speedNow_159
  unfold zX12_speedNow at hd
  refine lv_aload_n hx hb dX12_speedNow_0 rfl (lv_at hl 0 rfl) ?_
  refine z_gR F hw h0 zc12 0 (by decide) rfl zf12_7 dX12_speedNow_1 ?_
  have t_1 : zT sh (zR M k0 0) 14 := hw.2.2.2.fld h0 0 14
  refine lv_bipush (v := (15 : Int32)) hx hb dX12_speedNow_4 (by decide) ?_
  obtain ⟨g_2, hd⟩ := zgd_some hd
  refine z_iald F hw t_1 g_2 dX12_speedNow_6 ?_
  refine lv_topi (fun v_3 ev_3 => ?_)
  have hd := zbd_eq ev_3 hd
  refine lv_istore_n (lv' := [(1, .int v_3), (0, .ref (ad k0))]) hx hb dX12_speedNow_7 rfl hl (by decide) rfl (fun ls hl => ?_)
  refine lv_aload_n hx hb dX12_speedNow_8 rfl (lv_at hl 1 rfl) ?_
  refine z_gR F hw h0 zc12 0 (by decide) rfl zf12_7 dX12_speedNow_9 ?_
  have t_4 : zT sh (zR M k0 0) 14 := hw.2.2.2.fld h0 0 14
  refine lv_bipush (v := (17 : Int32)) hx hb dX12_speedNow_12 (by decide) ?_
  obtain ⟨g_5, hd⟩ := zgd_some hd
  refine z_iald F hw t_4 g_5 dX12_speedNow_14 ?_
  refine lv_iconst (v := (1 : Int32)) hx hb dX12_speedNow_15 (by decide) ?_
  refine lv_icmp_ne (tgt := 48) hx hb dX12_speedNow_16 (by decide) (fun c_6 => ?_) (fun c_6 => ?_)
  · have hd := zif_neg c_6 hd
    refine lv_iload_n hx hb dX12_speedNow_48 rfl (lv_at hl 0 rfl) ?_
    refine lv_aload_n hx hb dX12_speedNow_49 rfl (lv_at hl 1 rfl) ?_
    refine z_gR F hw h0 zc12 0 (by decide) rfl zf12_7 dX12_speedNow_50 ?_
    have t_7 : zT sh (zR M k0 0) 14 := hw.2.2.2.fld h0 0 14
    refine lv_bipush (v := (12 : Int32)) hx hb dX12_speedNow_53 (by decide) ?_
    obtain ⟨g_8, hd⟩ := zgd_some hd
    refine z_iald F hw t_7 g_8 dX12_speedNow_55 ?_
    refine lv_icmp_ge (tgt := 69) hx hb dX12_speedNow_56 (by decide) (fun c_9 => ?_) (fun c_9 => ?_)
    · have hd := zif_pos c_9 hd
      refine lv_iload_n hx hb dX12_speedNow_69 rfl (lv_at hl 0 rfl) ?_
      refine lv_aload_n hx hb dX12_speedNow_70 rfl (lv_at hl 1 rfl) ?_
      refine z_gR F hw h0 zc12 0 (by decide) rfl zf12_7 dX12_speedNow_71 ?_
      have t_10 : zT sh (zR M k0 0) 14 := hw.2.2.2.fld h0 0 14
      refine lv_bipush (v := (12 : Int32)) hx hb dX12_speedNow_74 (by decide) ?_
      obtain ⟨g_11, hd⟩ := zgd_some hd
      refine z_iald F hw t_10 g_11 dX12_speedNow_76 ?_
      refine lv_isub hx hb dX12_speedNow_77 ?_
      refine lv_topi (fun v_12 ev_12 => ?_)
      have hd := zbd_eq ev_12 hd
      refine lv_istore_n (lv' := [(2, .int v_12), (1, .int v_3), (0, .ref (ad k0))]) hx hb dX12_speedNow_78 rfl hl (by decide) rfl (fun ls hl => ?_)
      refine lv_iload_n hx hb dX12_speedNow_79 rfl (lv_at hl 0 rfl) ?_
      refine lv_aload_n hx hb dX12_speedNow_80 rfl (lv_at hl 2 rfl) ?_
      refine z_gR F hw h0 zc12 0 (by decide) rfl zf12_7 dX12_speedNow_81 ?_
      have t_13 : zT sh (zR M k0 0) 14 := hw.2.2.2.fld h0 0 14
      refine lv_bipush (v := (14 : Int32)) hx hb dX12_speedNow_84 (by decide) ?_
      obtain ⟨g_14, hd⟩ := zgd_some hd
      refine z_iald F hw t_13 g_14 dX12_speedNow_86 ?_
      refine lv_icmp_ge (tgt := 132) hx hb dX12_speedNow_87 (by decide) (fun c_15 => ?_) (fun c_15 => ?_)
      · have hd := zif_pos c_15 hd
        refine lv_aload_n hx hb dX12_speedNow_132 rfl (lv_at hl 2 rfl) ?_
        refine z_gR F hw h0 zc12 0 (by decide) rfl zf12_7 dX12_speedNow_133 ?_
        have t_16 : zT sh (zR M k0 0) 14 := hw.2.2.2.fld h0 0 14
        refine lv_bipush (v := (66 : Int32)) hx hb dX12_speedNow_136 (by decide) ?_
        refine lv_aload_n hx hb dX12_speedNow_138 rfl (lv_at hl 2 rfl) ?_
        refine z_gR F hw h0 zc12 0 (by decide) rfl zf12_7 dX12_speedNow_139 ?_
        have t_17 : zT sh (zR M k0 0) 14 := hw.2.2.2.fld h0 0 14
        refine lv_bipush (v := (12 : Int32)) hx hb dX12_speedNow_142 (by decide) ?_
        obtain ⟨g_18, hd⟩ := zgd_some hd
        refine z_iald F hw t_17 g_18 dX12_speedNow_144 ?_
        refine lv_iadd hx hb dX12_speedNow_145 ?_
        refine lv_iconst (v := (1 : Int32)) hx hb dX12_speedNow_146 (by decide) ?_
        refine lv_isub hx hb dX12_speedNow_147 ?_
        refine lv_iload_n hx hb dX12_speedNow_148 rfl (lv_at hl 0 rfl) ?_
        refine lv_aload_n hx hb dX12_speedNow_149 rfl (lv_at hl 2 rfl) ?_
        refine z_gR F hw h0 zc12 0 (by decide) rfl zf12_7 dX12_speedNow_150 ?_
        have t_19 : zT sh (zR M k0 0) 14 := hw.2.2.2.fld h0 0 14
        refine lv_bipush (v := (14 : Int32)) hx hb dX12_speedNow_153 (by decide) ?_
        obtain ⟨g_20, hd⟩ := zgd_some hd
        refine z_iald F hw t_19 g_20 dX12_speedNow_155 ?_
        refine lv_isub hx hb dX12_speedNow_156 ?_
        refine lv_isub hx hb dX12_speedNow_157 ?_
        obtain ⟨g_21, hd⟩ := zgd_some hd
        refine z_iald F hw t_16 g_21 dX12_speedNow_158 ?_
        exact J159 _ _ _ _ (lv_sub hl [] rfl) hw hd
      · have hd := zif_neg c_15 hd
        refine lv_aload_n hx hb dX12_speedNow_90 rfl (lv_at hl 2 rfl) ?_
        refine z_gR F hw h0 zc12 0 (by decide) rfl zf12_7 dX12_speedNow_91 ?_
        have t_22 : zT sh (zR M k0 0) 14 := hw.2.2.2.fld h0 0 14
        refine lv_bipush (v := (13 : Int32)) hx hb dX12_speedNow_94 (by decide) ?_
        obtain ⟨g_23, hd⟩ := zgd_some hd
        refine z_iald F hw t_22 g_23 dX12_speedNow_96 ?_
        refine lv_iload_n hx hb dX12_speedNow_97 rfl (lv_at hl 0 rfl) ?_
        refine lv_iconst (v := (1 : Int32)) hx hb dX12_speedNow_98 (by decide) ?_
        refine lv_iadd hx hb dX12_speedNow_99 ?_
        refine lv_aload_n hx hb dX12_speedNow_100 rfl (lv_at hl 2 rfl) ?_
        refine z_gR F hw h0 zc12 0 (by decide) rfl zf12_7 dX12_speedNow_101 ?_
        have t_24 : zT sh (zR M k0 0) 14 := hw.2.2.2.fld h0 0 14
        refine lv_bipush (v := (14 : Int32)) hx hb dX12_speedNow_104 (by decide) ?_
        obtain ⟨g_25, hd⟩ := zgd_some hd
        refine z_iald F hw t_24 g_25 dX12_speedNow_106 ?_
        obtain ⟨r_27, hc_26, hd⟩ := zob_some hd
        refine z_csI F hw hl.1 (As := [.int (zI M (zR M k0 0) ((13 : Int32).toNatClampNeg)), .int (v_12 + (1 : Int32)), .int (zI M (zR M k0 0) ((14 : Int32).toNatClampNeg))]) (rest := []) (ztX12_part l D cy sh ad  hc_26) zyX12_part zk12_372 ⟨rfl, rfl⟩ ⟨by decide, by decide⟩ rfl rfl (Nat.le_of_ble_eq_true rfl) dX12_speedNow_107 (fun H locs hw => ?_)
        refine lv_aload_n hx hb dX12_speedNow_110 rfl (lv_at hl 2 rfl) ?_
        refine z_gR F hw h0 zc12 0 (by decide) rfl zf12_7 dX12_speedNow_111 ?_
        have t_28 : zT sh (zR M k0 0) 14 := hw.2.2.2.fld h0 0 14
        refine lv_bipush (v := (13 : Int32)) hx hb dX12_speedNow_114 (by decide) ?_
        obtain ⟨g_29, hd⟩ := zgd_some hd
        refine z_iald F hw t_28 g_29 dX12_speedNow_116 ?_
        refine lv_iload_n hx hb dX12_speedNow_117 rfl (lv_at hl 0 rfl) ?_
        refine lv_aload_n hx hb dX12_speedNow_118 rfl (lv_at hl 2 rfl) ?_
        refine z_gR F hw h0 zc12 0 (by decide) rfl zf12_7 dX12_speedNow_119 ?_
        have t_30 : zT sh (zR M k0 0) 14 := hw.2.2.2.fld h0 0 14
        refine lv_bipush (v := (14 : Int32)) hx hb dX12_speedNow_122 (by decide) ?_
        obtain ⟨g_31, hd⟩ := zgd_some hd
        refine z_iald F hw t_30 g_31 dX12_speedNow_124 ?_
        obtain ⟨r_33, hc_32, hd⟩ := zob_some hd
        refine z_csI F hw hl.1 (As := [.int (zI M (zR M k0 0) ((13 : Int32).toNatClampNeg)), .int v_12, .int (zI M (zR M k0 0) ((14 : Int32).toNatClampNeg))]) (rest := [.int r_27]) (ztX12_part l D cy sh ad  hc_32) zyX12_part zk12_372 ⟨rfl, rfl⟩ ⟨by decide, by decide⟩ rfl rfl (Nat.le_of_ble_eq_true rfl) dX12_speedNow_125 (fun H locs hw => ?_)
        refine lv_isub hx hb dX12_speedNow_128 ?_
        refine lv_goto (tgt := 159) hx hb dX12_speedNow_129 (by decide) ?_
        exact J159 _ _ _ _ (lv_sub hl [] rfl) hw hd
    · have hd := zif_neg c_9 hd
      refine lv_aload_n hx hb dX12_speedNow_59 rfl (lv_at hl 1 rfl) ?_
      refine z_gR F hw h0 zc12 0 (by decide) rfl zf12_7 dX12_speedNow_60 ?_
      have t_34 : zT sh (zR M k0 0) 14 := hw.2.2.2.fld h0 0 14
      refine lv_bipush (v := (66 : Int32)) hx hb dX12_speedNow_63 (by decide) ?_
      refine lv_iload_n hx hb dX12_speedNow_65 rfl (lv_at hl 0 rfl) ?_
      refine lv_iadd hx hb dX12_speedNow_66 ?_
      obtain ⟨g_35, hd⟩ := zgd_some hd
      refine z_iald F hw t_34 g_35 dX12_speedNow_67 ?_
      exact z_iret F hr hlk hw (Option.some.inj hd) rfl dX12_speedNow_68
  · have hd := zif_pos c_6 hd
    refine lv_aload_n hx hb dX12_speedNow_19 rfl (lv_at hl 1 rfl) ?_
    refine z_gR F hw h0 zc12 0 (by decide) rfl zf12_7 dX12_speedNow_20 ?_
    have t_36 : zT sh (zR M k0 0) 14 := hw.2.2.2.fld h0 0 14
    refine lv_sipush (v := (130 : Int32)) hx hb dX12_speedNow_23 (by decide) ?_
    refine lv_aload_n hx hb dX12_speedNow_26 rfl (lv_at hl 1 rfl) ?_
    refine z_gR F hw h0 zc12 0 (by decide) rfl zf12_7 dX12_speedNow_27 ?_
    have t_37 : zT sh (zR M k0 0) 14 := hw.2.2.2.fld h0 0 14
    refine lv_bipush (v := (18 : Int32)) hx hb dX12_speedNow_30 (by decide) ?_
    obtain ⟨g_38, hd⟩ := zgd_some hd
    refine z_iald F hw t_37 g_38 dX12_speedNow_32 ?_
    refine lv_iadd hx hb dX12_speedNow_33 ?_
    refine lv_iconst (v := (1 : Int32)) hx hb dX12_speedNow_34 (by decide) ?_
    refine lv_isub hx hb dX12_speedNow_35 ?_
    refine lv_iload_n hx hb dX12_speedNow_36 rfl (lv_at hl 0 rfl) ?_
    refine lv_aload_n hx hb dX12_speedNow_37 rfl (lv_at hl 1 rfl) ?_
    refine z_gR F hw h0 zc12 0 (by decide) rfl zf12_7 dX12_speedNow_38 ?_
    have t_39 : zT sh (zR M k0 0) 14 := hw.2.2.2.fld h0 0 14
    refine lv_bipush (v := (19 : Int32)) hx hb dX12_speedNow_41 (by decide) ?_
    obtain ⟨g_40, hd⟩ := zgd_some hd
    refine z_iald F hw t_39 g_40 dX12_speedNow_43 ?_
    refine lv_isub hx hb dX12_speedNow_44 ?_
    refine lv_isub hx hb dX12_speedNow_45 ?_
    obtain ⟨g_41, hd⟩ := zgd_some hd
    refine z_iald F hw t_36 g_41 dX12_speedNow_46 ?_
    exact z_iret F hr hlk hw (Option.some.inj hd) rfl dX12_speedNow_47

def zbX12_left_40 (sh : zShp) (k0 : Nat) (M : zMem)  (kk40 : Int32 → Int32 → Option (Int32)) (x1 : Int32) (x2 : Int32) : Option (Int32) :=
  zob (zX12_allTicks sh k0 M) fun r_2 =>
  zgd (zin (15 : Int32) (zlen sh (zR M k0 0))) <|
  if (r_2 - (zI M (zR M k0 0) ((15 : Int32).toNatClampNeg))) ≤ x2 then (
  some x1)
  else (
  zgd (zin ((130 : Int32) + x2) (zlen sh (zR M k0 0))) <|
  zbd ((x1 + (zI M (zR M k0 0) (((130 : Int32) + x2).toNatClampNeg)))) fun v_8 =>
  kk40 v_8 (x2 + (1 : Int32)))
def zlX12_left_40 (sh : zShp) (k0 : Nat) (M : zMem)  : Nat → Int32 → Int32 → Option (Int32)
  | 0 => fun _ _ => none
  | n + 1 => fun x1 x2 => zbX12_left_40 sh k0 M  (zlX12_left_40 sh k0 M  n) x1 x2
def zX12_left (sh : zShp) (k0 : Nat) (M : zMem) : Option (Int32) :=
  zgd (zin (1 : Int32) (zlen sh (zR M k0 0))) <|
  if (zI M (zR M k0 0) ((1 : Int32).toNatClampNeg)) = 0 then (
  some (0 : Int32))
  else (
  zgd (zin (17 : Int32) (zlen sh (zR M k0 0))) <|
  if (zI M (zR M k0 0) ((17 : Int32).toNatClampNeg)) = 0 then (
  zgd (zin (3 : Int32) (zlen sh (zR M k0 0))) <|
  zgd (zin (16 : Int32) (zlen sh (zR M k0 0))) <|
  some ((zI M (zR M k0 0) ((3 : Int32).toNatClampNeg)) - (zI M (zR M k0 0) ((16 : Int32).toNatClampNeg))))
  else (
  zlX12_left_40 sh k0 M zF (0 : Int32) (0 : Int32)))
set_option maxHeartbeats 4000000 in
set_option maxRecDepth 100000 in
theorem ztX12_left (l : Launch) (D : va_G) (cy : Nat → ClassId) (sh : zShp) (ad : Nat → Nat) {k0 : Nat} (h0 : zT sh k0 12) {M : zMem} {r : Int32} (hd : zX12_left sh k0 M = some r) : zCI l yX12_left cX12_left 3 .int { frames := 1, cells := 0, slots := 0, locals := 20 } [.ref (ad k0)] D cy sh ad M r M := by
  refine zci_of (by decide) (Nat.le_of_ble_eq_true rfl) (fun p e s m below meth c ls F hr hlk hl hw => ?_)
  have hx := F.1.1
  have hb := F.1.2.1
  have hl : lv_has ls 3 [(0, .ref (ad k0))] := hl
  have L40 : ∀  (n : Nat), ∀ (x1 : Int32) (x2 : Int32) (H : Heap) (locs : List Loc) (ls : Array Slot), lv_has ls 3 [(0, .ref (ad k0)), (1, .int x1), (2, .int x2)] → zWd D cy sh ad s M H locs → zlX12_left_40 sh k0 M  n x1 x2 = some r → W p l e { frames := 1, cells := 0, slots := 0, locals := 20 } s m ([.ref (ad k0)] : List Value).toArray below meth c H locs 0 0 (zQI below D cy sh ad s [.ref (ad k0)] r M) (F0 m 40 ls []) := by
    intro  n
    induction n with
    | zero => intro x1 x2 H locs ls hl hw hd; exact (znone hd).elim
    | succ n hk40 =>
      intro x1 x2 H locs ls hl hw hd
      have hd : zbX12_left_40 sh k0 M  (zlX12_left_40 sh k0 M  n) x1 x2 = some r := hd
      unfold zbX12_left_40 at hd
      refine lv_iload_n hx hb dX12_left_40 rfl (lv_at hl 2 rfl) ?_
      refine lv_aload_n hx hb dX12_left_41 rfl (lv_at hl 0 rfl) ?_
      obtain ⟨r_2, hc_1, hd⟩ := zob_some hd
      refine z_cvI F hw hl.1 (As := []) (rest := [.int x2]) (ztX12_allTicks l D cy sh ad h0 hc_1) zyX12_allTicks h0 zc12 zk12_406 ⟨rfl, rfl⟩ ⟨by decide, by decide⟩ rfl rfl (Nat.le_of_ble_eq_true rfl) dX12_left_42 (fun H locs hw => ?_)
      refine lv_aload_n hx hb dX12_left_45 rfl (lv_at hl 0 rfl) ?_
      refine z_gR F hw h0 zc12 0 (by decide) rfl zf12_7 dX12_left_46 ?_
      have t_3 : zT sh (zR M k0 0) 14 := hw.2.2.2.fld h0 0 14
      refine lv_bipush (v := (15 : Int32)) hx hb dX12_left_49 (by decide) ?_
      obtain ⟨g_4, hd⟩ := zgd_some hd
      refine z_iald F hw t_3 g_4 dX12_left_51 ?_
      refine lv_isub hx hb dX12_left_52 ?_
      refine lv_icmp_ge (tgt := 75) hx hb dX12_left_53 (by decide) (fun c_5 => ?_) (fun c_5 => ?_)
      · have hd := zif_pos c_5 hd
        refine lv_iload_n hx hb dX12_left_75 rfl (lv_at hl 1 rfl) ?_
        exact z_iret F hr hlk hw (Option.some.inj hd) rfl dX12_left_76
      · have hd := zif_neg c_5 hd
        refine lv_iload_n hx hb dX12_left_56 rfl (lv_at hl 1 rfl) ?_
        refine lv_aload_n hx hb dX12_left_57 rfl (lv_at hl 0 rfl) ?_
        refine z_gR F hw h0 zc12 0 (by decide) rfl zf12_7 dX12_left_58 ?_
        have t_6 : zT sh (zR M k0 0) 14 := hw.2.2.2.fld h0 0 14
        refine lv_sipush (v := (130 : Int32)) hx hb dX12_left_61 (by decide) ?_
        refine lv_iload_n hx hb dX12_left_64 rfl (lv_at hl 2 rfl) ?_
        refine lv_iadd hx hb dX12_left_65 ?_
        obtain ⟨g_7, hd⟩ := zgd_some hd
        refine z_iald F hw t_6 g_7 dX12_left_66 ?_
        refine lv_iadd hx hb dX12_left_67 ?_
        refine lv_topi (fun v_8 ev_8 => ?_)
        have hd := zbd_eq ev_8 hd
        refine lv_istore_n (lv' := [(1, .int v_8), (0, .ref (ad k0)), (2, .int x2)]) hx hb dX12_left_68 rfl hl (by decide) rfl (fun ls hl => ?_)
        refine lv_iinc (v := (x2 + (1 : Int32))) (lv' := [(2, .int (x2 + (1 : Int32))), (1, .int v_8), (0, .ref (ad k0))]) hx hb dX12_left_69 hl (k := 2) rfl (ziinc (by decide)) (by decide) rfl (fun ls hl => ?_)
        refine lv_goto (tgt := 40) hx hb dX12_left_72 (by decide) ?_
        exact hk40 _ _ _ _ _ (lv_sub hl [2, 1, 0] rfl) hw hd
  unfold zX12_left at hd
  refine lv_aload_n hx hb dX12_left_0 rfl (lv_at hl 0 rfl) ?_
  refine z_gR F hw h0 zc12 0 (by decide) rfl zf12_7 dX12_left_1 ?_
  have t_9 : zT sh (zR M k0 0) 14 := hw.2.2.2.fld h0 0 14
  refine lv_iconst (v := (1 : Int32)) hx hb dX12_left_4 (by decide) ?_
  obtain ⟨g_10, hd⟩ := zgd_some hd
  refine z_iald F hw t_9 g_10 dX12_left_5 ?_
  refine lv_if_ne (tgt := 11) hx hb dX12_left_6 (by decide) (fun c_11 => ?_) (fun c_11 => ?_)
  · have hd := zif_neg c_11 hd
    refine lv_aload_n hx hb dX12_left_11 rfl (lv_at hl 0 rfl) ?_
    refine z_gR F hw h0 zc12 0 (by decide) rfl zf12_7 dX12_left_12 ?_
    have t_12 : zT sh (zR M k0 0) 14 := hw.2.2.2.fld h0 0 14
    refine lv_bipush (v := (17 : Int32)) hx hb dX12_left_15 (by decide) ?_
    obtain ⟨g_13, hd⟩ := zgd_some hd
    refine z_iald F hw t_12 g_13 dX12_left_17 ?_
    refine lv_if_ne (tgt := 36) hx hb dX12_left_18 (by decide) (fun c_14 => ?_) (fun c_14 => ?_)
    · have hd := zif_neg c_14 hd
      refine lv_iconst (v := (0 : Int32)) hx hb dX12_left_36 (by decide) ?_
      refine lv_istore_n (lv' := [(1, .int (0 : Int32)), (0, .ref (ad k0))]) hx hb dX12_left_37 rfl hl (by decide) rfl (fun ls hl => ?_)
      refine lv_iconst (v := (0 : Int32)) hx hb dX12_left_38 (by decide) ?_
      refine lv_istore_n (lv' := [(2, .int (0 : Int32)), (1, .int (0 : Int32)), (0, .ref (ad k0))]) hx hb dX12_left_39 rfl hl (by decide) rfl (fun ls hl => ?_)
      exact L40 zF _ _ _ _ _ (lv_sub hl [2, 1, 0] rfl) hw hd
    · have hd := zif_pos c_14 hd
      refine lv_aload_n hx hb dX12_left_21 rfl (lv_at hl 0 rfl) ?_
      refine z_gR F hw h0 zc12 0 (by decide) rfl zf12_7 dX12_left_22 ?_
      have t_15 : zT sh (zR M k0 0) 14 := hw.2.2.2.fld h0 0 14
      refine lv_iconst (v := (3 : Int32)) hx hb dX12_left_25 (by decide) ?_
      obtain ⟨g_16, hd⟩ := zgd_some hd
      refine z_iald F hw t_15 g_16 dX12_left_26 ?_
      refine lv_aload_n hx hb dX12_left_27 rfl (lv_at hl 0 rfl) ?_
      refine z_gR F hw h0 zc12 0 (by decide) rfl zf12_7 dX12_left_28 ?_
      have t_17 : zT sh (zR M k0 0) 14 := hw.2.2.2.fld h0 0 14
      refine lv_bipush (v := (16 : Int32)) hx hb dX12_left_31 (by decide) ?_
      obtain ⟨g_18, hd⟩ := zgd_some hd
      refine z_iald F hw t_17 g_18 dX12_left_33 ?_
      refine lv_isub hx hb dX12_left_34 ?_
      exact z_iret F hr hlk hw (Option.some.inj hd) rfl dX12_left_35
  · have hd := zif_pos c_11 hd
    refine lv_iconst (v := (0 : Int32)) hx hb dX12_left_9 (by decide) ?_
    exact z_iret F hr hlk hw (Option.some.inj hd) rfl dX12_left_10

def zjX12_halt_20 (sh : zShp) (k0 : Nat)  (M : zMem) : Option (Int32 × zMem) :=
  some ((-1 : Int32), M)
def zjX12_halt_164 (sh : zShp) (k0 : Nat)  (s0 : Nat) (s1 : Int32) (s2 : Int32) (M : zMem) : Option (Int32 × zMem) :=
  zob (zX12_truth sh s2 M) fun r_2 =>
  zgd (zin s1 (zlen sh s0)) <|
  zbd (zpI M s0 (s1.toNatClampNeg) r_2) fun M_4 =>
  some ((zI M_4 k0 36), M_4)
def zbX12_halt_117 (sh : zShp) (k0 : Nat)  (kk117 : Int32 → zMem → Option (Int32 × zMem)) (x1 : Int32) (M : zMem) : Option (Int32 × zMem) :=
  if (zI M k0 36) ≤ x1 then (
  if (zI M k0 36) ≤ 0 then (
  zjX12_halt_164 sh k0 (zR M k0 0) (1 : Int32) (0 : Int32) M)
  else (
  zjX12_halt_164 sh k0 (zR M k0 0) (1 : Int32) (1 : Int32) M))
  else (
  zgd (zin x1 (zlen sh (zR M k0 35))) <|
  zgd (zin ((130 : Int32) + x1) (zlen sh (zR M k0 0))) <|
  zbd (zpI M (zR M k0 0) (((130 : Int32) + x1).toNatClampNeg) (zI M (zR M k0 35) x1.toNatClampNeg)) fun M_12 =>
  kk117 (x1 + (1 : Int32)) M_12)
def zlX12_halt_117 (sh : zShp) (k0 : Nat)  : Nat → Int32 → zMem → Option (Int32 × zMem)
  | 0 => fun _ _ => none
  | n + 1 => fun x1 M => zbX12_halt_117 sh k0  (zlX12_halt_117 sh k0  n) x1 M
def zX12_halt (sh : zShp) (k0 : Nat) (M : zMem) : Option (Int32 × zMem) :=
  zgd (zin (1 : Int32) (zlen sh (zR M k0 0))) <|
  if (zI M (zR M k0 0) ((1 : Int32).toNatClampNeg)) = 0 then (
  zjX12_halt_20 sh k0 M)
  else (
  zgd (zin (17 : Int32) (zlen sh (zR M k0 0))) <|
  if (zI M (zR M k0 0) ((17 : Int32).toNatClampNeg)) = (1 : Int32) then (
  zjX12_halt_20 sh k0 M)
  else (
  zgd (zin (20 : Int32) (zlen sh (zR M k0 0))) <|
  zgd (zin (10 : Int32) (zlen sh (zR M k0 0))) <|
  zgd (zin (11 : Int32) (zlen sh (zR M k0 0))) <|
  zob (zX12_laysRamp sh k0 (zI M (zR M k0 0) ((20 : Int32).toNatClampNeg)) (zI M (zR M k0 0) ((10 : Int32).toNatClampNeg)) (zI M (zR M k0 0) ((11 : Int32).toNatClampNeg)) M) fun M_26 =>
  zob (zX12_rampSum sh k0 M_26) fun r_28 =>
  zgd (zin (3 : Int32) (zlen sh (zR M_26 k0 0))) <|
  zgd (zin (16 : Int32) (zlen sh (zR M_26 k0 0))) <|
  if r_28 ≤ ((zI M_26 (zR M_26 k0 0) ((3 : Int32).toNatClampNeg)) - (zI M_26 (zR M_26 k0 0) ((16 : Int32).toNatClampNeg))) then (
  zob (zX12_act sh k0 M_26) fun M_35 =>
  zgd (zin (23 : Int32) (zlen sh (zR M_35 k0 0))) <|
  zbd (zpI M_35 (zR M_35 k0 0) ((23 : Int32).toNatClampNeg) (0 : Int32)) fun M_38 =>
  zgd (zin (17 : Int32) (zlen sh (zR M_38 k0 0))) <|
  zbd (zpI M_38 (zR M_38 k0 0) ((17 : Int32).toNatClampNeg) (1 : Int32)) fun M_41 =>
  zgd (zin (18 : Int32) (zlen sh (zR M_41 k0 0))) <|
  zbd (zpI M_41 (zR M_41 k0 0) ((18 : Int32).toNatClampNeg) (zI M_41 k0 36)) fun M_44 =>
  zgd (zin (15 : Int32) (zlen sh (zR M_44 k0 0))) <|
  zgd (zin (19 : Int32) (zlen sh (zR M_44 k0 0))) <|
  zbd (zpI M_44 (zR M_44 k0 0) ((19 : Int32).toNatClampNeg) (zI M_44 (zR M_44 k0 0) ((15 : Int32).toNatClampNeg))) fun M_49 =>
  zlX12_halt_117 sh k0 zF (0 : Int32) M_49)
  else (
  some ((-1 : Int32), M_26))))
set_option maxHeartbeats 4000000 in
set_option maxRecDepth 100000 in
theorem ztX12_halt (l : Launch) (D : va_G) (cy : Nat → ClassId) (sh : zShp) (ad : Nat → Nat) {k0 : Nat} (h0 : zT sh k0 12) {M : zMem} {r : Int32} {M1 : zMem} (hd : zX12_halt sh k0 M = some (r, M1)) : zCI l yX12_halt cX12_halt 2 .int { frames := 2, cells := 0, slots := 0, locals := 51 } [.ref (ad k0)] D cy sh ad M r M1 := by
  refine zci_of (by decide) (Nat.le_of_ble_eq_true rfl) (fun p e s m below meth c ls F hr hlk hl hw => ?_)
  have hx := F.1.1
  have hb := F.1.2.1
  have hl : lv_has ls 2 [(0, .ref (ad k0))] := hl
  have J20 : ∀ (M : zMem) (H : Heap) (locs : List Loc) (ls : Array Slot), lv_has ls 2 [] → zWd D cy sh ad s M H locs → zjX12_halt_20 sh k0  M = some (r, M1) → W p l e { frames := 2, cells := 0, slots := 0, locals := 51 } s m ([.ref (ad k0)] : List Value).toArray below meth c H locs 0 0 (zQI below D cy sh ad s [.ref (ad k0)] r M1) (F0 m 20 ls []) := by
    intro  M H locs ls hl hw hd
    unfold zjX12_halt_20 at hd
    refine lv_iconst (v := (-1 : Int32)) hx hb dX12_halt_20 (by decide) ?_
    exact z_iret F hr hlk hw (zpr1 hd) (zpr2 hd) dX12_halt_21
  have J164 : ∀ (s0 : Nat) (s1 : Int32) (s2 : Int32) (ts0 : zT sh s0 14) (M : zMem) (H : Heap) (locs : List Loc) (ls : Array Slot), lv_has ls 2 [(0, .ref (ad k0))] → zWd D cy sh ad s M H locs → zjX12_halt_164 sh k0  s0 s1 s2 M = some (r, M1) → W p l e { frames := 2, cells := 0, slots := 0, locals := 51 } s m ([.ref (ad k0)] : List Value).toArray below meth c H locs 0 0 (zQI below D cy sh ad s [.ref (ad k0)] r M1) (F0 m 164 ls [.int s2, .int s1, .ref (ad s0)]) := by
    intro  s0 s1 s2 ts0 M H locs ls hl hw hd
    unfold zjX12_halt_164 at hd
    obtain ⟨r_2, hc_1, hd⟩ := zob_some hd
    refine z_csI F hw hl.1 (As := [.int s2]) (rest := [.int s1, .ref (ad s0)]) (ztX12_truth l D cy sh ad  hc_1) zyX12_truth zk12_279 ⟨rfl, rfl⟩ ⟨by decide, by decide⟩ rfl rfl (Nat.le_of_ble_eq_true rfl) dX12_halt_164 (fun H locs hw => ?_)
    obtain ⟨g_3, hd⟩ := zgd_some hd
    refine z_iast F hw ts0 g_3 dX12_halt_167 (fun H locs M_4 eM_4 hw => ?_)
    have hd := zbd_eq eM_4 hd
    refine lv_aload_n hx hb dX12_halt_168 rfl (lv_at hl 0 rfl) ?_
    refine z_gI F hw h0 zc12 36 (by decide) rfl zf12_286 dX12_halt_169 ?_
    exact z_iret F hr hlk hw (zpr1 hd) (zpr2 hd) dX12_halt_172
  have L117 : ∀  (n : Nat), ∀ (x1 : Int32) (M : zMem) (H : Heap) (locs : List Loc) (ls : Array Slot), lv_has ls 2 [(0, .ref (ad k0)), (1, .int x1)] → zWd D cy sh ad s M H locs → zlX12_halt_117 sh k0  n x1 M = some (r, M1) → W p l e { frames := 2, cells := 0, slots := 0, locals := 51 } s m ([.ref (ad k0)] : List Value).toArray below meth c H locs 0 0 (zQI below D cy sh ad s [.ref (ad k0)] r M1) (F0 m 117 ls []) := by
    intro  n
    induction n with
    | zero => intro x1 M H locs ls hl hw hd; exact (znone hd).elim
    | succ n hk117 =>
      intro x1 M H locs ls hl hw hd
      have hd : zbX12_halt_117 sh k0  (zlX12_halt_117 sh k0  n) x1 M = some (r, M1) := hd
      unfold zbX12_halt_117 at hd
      refine lv_iload_n hx hb dX12_halt_117 rfl (lv_at hl 1 rfl) ?_
      refine lv_aload_n hx hb dX12_halt_118 rfl (lv_at hl 0 rfl) ?_
      refine z_gI F hw h0 zc12 36 (by decide) rfl zf12_286 dX12_halt_119 ?_
      refine lv_icmp_ge (tgt := 147) hx hb dX12_halt_122 (by decide) (fun c_5 => ?_) (fun c_5 => ?_)
      · have hd := zif_pos c_5 hd
        refine lv_aload_n hx hb dX12_halt_147 rfl (lv_at hl 0 rfl) ?_
        refine z_gR F hw h0 zc12 0 (by decide) rfl zf12_7 dX12_halt_148 ?_
        have t_6 : zT sh (zR M k0 0) 14 := hw.2.2.2.fld h0 0 14
        refine lv_iconst (v := (1 : Int32)) hx hb dX12_halt_151 (by decide) ?_
        refine lv_aload_n hx hb dX12_halt_152 rfl (lv_at hl 0 rfl) ?_
        refine z_gI F hw h0 zc12 36 (by decide) rfl zf12_286 dX12_halt_153 ?_
        refine lv_if_le (tgt := 163) hx hb dX12_halt_156 (by decide) (fun c_7 => ?_) (fun c_7 => ?_)
        · have hd := zif_pos c_7 hd
          refine lv_iconst (v := (0 : Int32)) hx hb dX12_halt_163 (by decide) ?_
          exact J164 _ _ _ t_6 _ _ _ _ (lv_sub hl [0] rfl) hw hd
        · have hd := zif_neg c_7 hd
          refine lv_iconst (v := (1 : Int32)) hx hb dX12_halt_159 (by decide) ?_
          refine lv_goto (tgt := 164) hx hb dX12_halt_160 (by decide) ?_
          exact J164 _ _ _ t_6 _ _ _ _ (lv_sub hl [0] rfl) hw hd
      · have hd := zif_neg c_5 hd
        refine lv_aload_n hx hb dX12_halt_125 rfl (lv_at hl 0 rfl) ?_
        refine z_gR F hw h0 zc12 0 (by decide) rfl zf12_7 dX12_halt_126 ?_
        have t_8 : zT sh (zR M k0 0) 14 := hw.2.2.2.fld h0 0 14
        refine lv_sipush (v := (130 : Int32)) hx hb dX12_halt_129 (by decide) ?_
        refine lv_iload_n hx hb dX12_halt_132 rfl (lv_at hl 1 rfl) ?_
        refine lv_iadd hx hb dX12_halt_133 ?_
        refine lv_aload_n hx hb dX12_halt_134 rfl (lv_at hl 0 rfl) ?_
        refine z_gR F hw h0 zc12 35 (by decide) rfl zf12_58 dX12_halt_135 ?_
        have t_9 : zT sh (zR M k0 35) 14 := hw.2.2.2.fld h0 35 14
        refine lv_iload_n hx hb dX12_halt_138 rfl (lv_at hl 1 rfl) ?_
        obtain ⟨g_10, hd⟩ := zgd_some hd
        refine z_iald F hw t_9 g_10 dX12_halt_139 ?_
        obtain ⟨g_11, hd⟩ := zgd_some hd
        refine z_iast F hw t_8 g_11 dX12_halt_140 (fun H locs M_12 eM_12 hw => ?_)
        have hd := zbd_eq eM_12 hd
        refine lv_iinc (v := (x1 + (1 : Int32))) (lv' := [(1, .int (x1 + (1 : Int32))), (0, .ref (ad k0))]) hx hb dX12_halt_141 hl (k := 1) rfl (ziinc (by decide)) (by decide) rfl (fun ls hl => ?_)
        refine lv_goto (tgt := 117) hx hb dX12_halt_144 (by decide) ?_
        exact hk117 _ _ _ _ _ (lv_sub hl [1, 0] rfl) hw hd
  unfold zX12_halt at hd
  refine lv_aload_n hx hb dX12_halt_0 rfl (lv_at hl 0 rfl) ?_
  refine z_gR F hw h0 zc12 0 (by decide) rfl zf12_7 dX12_halt_1 ?_
  have t_13 : zT sh (zR M k0 0) 14 := hw.2.2.2.fld h0 0 14
  refine lv_iconst (v := (1 : Int32)) hx hb dX12_halt_4 (by decide) ?_
  obtain ⟨g_14, hd⟩ := zgd_some hd
  refine z_iald F hw t_13 g_14 dX12_halt_5 ?_
  refine lv_if_eq (tgt := 20) hx hb dX12_halt_6 (by decide) (fun c_15 => ?_) (fun c_15 => ?_)
  · have hd := zif_pos c_15 hd
    exact J20 _ _ _ _ (lv_sub hl [] rfl) hw hd
  · have hd := zif_neg c_15 hd
    refine lv_aload_n hx hb dX12_halt_9 rfl (lv_at hl 0 rfl) ?_
    refine z_gR F hw h0 zc12 0 (by decide) rfl zf12_7 dX12_halt_10 ?_
    have t_16 : zT sh (zR M k0 0) 14 := hw.2.2.2.fld h0 0 14
    refine lv_bipush (v := (17 : Int32)) hx hb dX12_halt_13 (by decide) ?_
    obtain ⟨g_17, hd⟩ := zgd_some hd
    refine z_iald F hw t_16 g_17 dX12_halt_15 ?_
    refine lv_iconst (v := (1 : Int32)) hx hb dX12_halt_16 (by decide) ?_
    refine lv_icmp_ne (tgt := 22) hx hb dX12_halt_17 (by decide) (fun c_18 => ?_) (fun c_18 => ?_)
    · have hd := zif_neg c_18 hd
      refine lv_aload_n hx hb dX12_halt_22 rfl (lv_at hl 0 rfl) ?_
      refine lv_aload_n hx hb dX12_halt_23 rfl (lv_at hl 0 rfl) ?_
      refine z_gR F hw h0 zc12 0 (by decide) rfl zf12_7 dX12_halt_24 ?_
      have t_19 : zT sh (zR M k0 0) 14 := hw.2.2.2.fld h0 0 14
      refine lv_bipush (v := (20 : Int32)) hx hb dX12_halt_27 (by decide) ?_
      obtain ⟨g_20, hd⟩ := zgd_some hd
      refine z_iald F hw t_19 g_20 dX12_halt_29 ?_
      refine lv_aload_n hx hb dX12_halt_30 rfl (lv_at hl 0 rfl) ?_
      refine z_gR F hw h0 zc12 0 (by decide) rfl zf12_7 dX12_halt_31 ?_
      have t_21 : zT sh (zR M k0 0) 14 := hw.2.2.2.fld h0 0 14
      refine lv_bipush (v := (10 : Int32)) hx hb dX12_halt_34 (by decide) ?_
      obtain ⟨g_22, hd⟩ := zgd_some hd
      refine z_iald F hw t_21 g_22 dX12_halt_36 ?_
      refine lv_aload_n hx hb dX12_halt_37 rfl (lv_at hl 0 rfl) ?_
      refine z_gR F hw h0 zc12 0 (by decide) rfl zf12_7 dX12_halt_38 ?_
      have t_23 : zT sh (zR M k0 0) 14 := hw.2.2.2.fld h0 0 14
      refine lv_bipush (v := (11 : Int32)) hx hb dX12_halt_41 (by decide) ?_
      obtain ⟨g_24, hd⟩ := zgd_some hd
      refine z_iald F hw t_23 g_24 dX12_halt_43 ?_
      obtain ⟨M_26, hc_25, hd⟩ := zob_some hd
      refine z_cvV F hw hl.1 (As := [.int (zI M (zR M k0 0) ((20 : Int32).toNatClampNeg)), .int (zI M (zR M k0 0) ((10 : Int32).toNatClampNeg)), .int (zI M (zR M k0 0) ((11 : Int32).toNatClampNeg))]) (rest := []) (ztX12_laysRamp l D cy sh ad h0 hc_25) zyX12_laysRamp h0 zc12 zk12_302 ⟨rfl, rfl⟩ ⟨by decide, by decide⟩ rfl rfl (Nat.le_of_ble_eq_true rfl) dX12_halt_44 (fun H locs hw => ?_)
      refine lv_aload_n hx hb dX12_halt_47 rfl (lv_at hl 0 rfl) ?_
      obtain ⟨r_28, hc_27, hd⟩ := zob_some hd
      refine z_cvI F hw hl.1 (As := []) (rest := []) (ztX12_rampSum l D cy sh ad h0 hc_27) zyX12_rampSum h0 zc12 zk12_309 ⟨rfl, rfl⟩ ⟨by decide, by decide⟩ rfl rfl (Nat.le_of_ble_eq_true rfl) dX12_halt_48 (fun H locs hw => ?_)
      refine lv_aload_n hx hb dX12_halt_51 rfl (lv_at hl 0 rfl) ?_
      refine z_gR F hw h0 zc12 0 (by decide) rfl zf12_7 dX12_halt_52 ?_
      have t_29 : zT sh (zR M_26 k0 0) 14 := hw.2.2.2.fld h0 0 14
      refine lv_iconst (v := (3 : Int32)) hx hb dX12_halt_55 (by decide) ?_
      obtain ⟨g_30, hd⟩ := zgd_some hd
      refine z_iald F hw t_29 g_30 dX12_halt_56 ?_
      refine lv_aload_n hx hb dX12_halt_57 rfl (lv_at hl 0 rfl) ?_
      refine z_gR F hw h0 zc12 0 (by decide) rfl zf12_7 dX12_halt_58 ?_
      have t_31 : zT sh (zR M_26 k0 0) 14 := hw.2.2.2.fld h0 0 14
      refine lv_bipush (v := (16 : Int32)) hx hb dX12_halt_61 (by decide) ?_
      obtain ⟨g_32, hd⟩ := zgd_some hd
      refine z_iald F hw t_31 g_32 dX12_halt_63 ?_
      refine lv_isub hx hb dX12_halt_64 ?_
      refine lv_icmp_le (tgt := 70) hx hb dX12_halt_65 (by decide) (fun c_33 => ?_) (fun c_33 => ?_)
      · have hd := zif_pos c_33 hd
        refine lv_aload_n hx hb dX12_halt_70 rfl (lv_at hl 0 rfl) ?_
        obtain ⟨M_35, hc_34, hd⟩ := zob_some hd
        refine z_cvV F hw hl.1 (As := []) (rest := []) (ztX12_act l D cy sh ad h0 hc_34) zyX12_act h0 zc12 zk12_400 ⟨rfl, rfl⟩ ⟨by decide, by decide⟩ rfl rfl (Nat.le_of_ble_eq_true rfl) dX12_halt_71 (fun H locs hw => ?_)
        refine lv_aload_n hx hb dX12_halt_74 rfl (lv_at hl 0 rfl) ?_
        refine z_gR F hw h0 zc12 0 (by decide) rfl zf12_7 dX12_halt_75 ?_
        have t_36 : zT sh (zR M_35 k0 0) 14 := hw.2.2.2.fld h0 0 14
        refine lv_bipush (v := (23 : Int32)) hx hb dX12_halt_78 (by decide) ?_
        refine lv_iconst (v := (0 : Int32)) hx hb dX12_halt_80 (by decide) ?_
        obtain ⟨g_37, hd⟩ := zgd_some hd
        refine z_iast F hw t_36 g_37 dX12_halt_81 (fun H locs M_38 eM_38 hw => ?_)
        have hd := zbd_eq eM_38 hd
        refine lv_aload_n hx hb dX12_halt_82 rfl (lv_at hl 0 rfl) ?_
        refine z_gR F hw h0 zc12 0 (by decide) rfl zf12_7 dX12_halt_83 ?_
        have t_39 : zT sh (zR M_38 k0 0) 14 := hw.2.2.2.fld h0 0 14
        refine lv_bipush (v := (17 : Int32)) hx hb dX12_halt_86 (by decide) ?_
        refine lv_iconst (v := (1 : Int32)) hx hb dX12_halt_88 (by decide) ?_
        obtain ⟨g_40, hd⟩ := zgd_some hd
        refine z_iast F hw t_39 g_40 dX12_halt_89 (fun H locs M_41 eM_41 hw => ?_)
        have hd := zbd_eq eM_41 hd
        refine lv_aload_n hx hb dX12_halt_90 rfl (lv_at hl 0 rfl) ?_
        refine z_gR F hw h0 zc12 0 (by decide) rfl zf12_7 dX12_halt_91 ?_
        have t_42 : zT sh (zR M_41 k0 0) 14 := hw.2.2.2.fld h0 0 14
        refine lv_bipush (v := (18 : Int32)) hx hb dX12_halt_94 (by decide) ?_
        refine lv_aload_n hx hb dX12_halt_96 rfl (lv_at hl 0 rfl) ?_
        refine z_gI F hw h0 zc12 36 (by decide) rfl zf12_286 dX12_halt_97 ?_
        obtain ⟨g_43, hd⟩ := zgd_some hd
        refine z_iast F hw t_42 g_43 dX12_halt_100 (fun H locs M_44 eM_44 hw => ?_)
        have hd := zbd_eq eM_44 hd
        refine lv_aload_n hx hb dX12_halt_101 rfl (lv_at hl 0 rfl) ?_
        refine z_gR F hw h0 zc12 0 (by decide) rfl zf12_7 dX12_halt_102 ?_
        have t_45 : zT sh (zR M_44 k0 0) 14 := hw.2.2.2.fld h0 0 14
        refine lv_bipush (v := (19 : Int32)) hx hb dX12_halt_105 (by decide) ?_
        refine lv_aload_n hx hb dX12_halt_107 rfl (lv_at hl 0 rfl) ?_
        refine z_gR F hw h0 zc12 0 (by decide) rfl zf12_7 dX12_halt_108 ?_
        have t_46 : zT sh (zR M_44 k0 0) 14 := hw.2.2.2.fld h0 0 14
        refine lv_bipush (v := (15 : Int32)) hx hb dX12_halt_111 (by decide) ?_
        obtain ⟨g_47, hd⟩ := zgd_some hd
        refine z_iald F hw t_46 g_47 dX12_halt_113 ?_
        obtain ⟨g_48, hd⟩ := zgd_some hd
        refine z_iast F hw t_45 g_48 dX12_halt_114 (fun H locs M_49 eM_49 hw => ?_)
        have hd := zbd_eq eM_49 hd
        refine lv_iconst (v := (0 : Int32)) hx hb dX12_halt_115 (by decide) ?_
        refine lv_istore_n (lv' := [(1, .int (0 : Int32)), (0, .ref (ad k0))]) hx hb dX12_halt_116 rfl hl (by decide) rfl (fun ls hl => ?_)
        exact L117 zF _ _ _ _ _ (lv_sub hl [1, 0] rfl) hw hd
      · have hd := zif_neg c_33 hd
        refine lv_iconst (v := (-1 : Int32)) hx hb dX12_halt_68 (by decide) ?_
        exact z_iret F hr hlk hw (zpr1 hd) (zpr2 hd) dX12_halt_69
    · have hd := zif_pos c_18 hd
      exact J20 _ _ _ _ (lv_sub hl [] rfl) hw hd

def zjX12_queue_31 (sh : zShp) (k0 : Nat) (p1 : Int32) (p2 : Int32) (p3 : Int32)  (M : zMem) : Option (Int32 × zMem) :=
  some ((-1 : Int32), M)
def zX12_queue (sh : zShp) (k0 : Nat) (p1 : Int32) (p2 : Int32) (p3 : Int32) (M : zMem) : Option (Int32 × zMem) :=
  zgd (zin (1 : Int32) (zlen sh (zR M k0 0))) <|
  if (zI M (zR M k0 0) ((1 : Int32).toNatClampNeg)) = 0 then (
  zjX12_queue_31 sh k0 p1 p2 p3 M)
  else (
  zob (zX12_areRight sh k0 p1 p2 p3 M) fun r_5 =>
  if r_5 = 0 then (
  zjX12_queue_31 sh k0 p1 p2 p3 M)
  else (
  zgd (zin (23 : Int32) (zlen sh (zR M k0 0))) <|
  if (zI M (zR M k0 0) ((23 : Int32).toNatClampNeg)) = (8 : Int32) then (
  zjX12_queue_31 sh k0 p1 p2 p3 M)
  else (
  zob (zX12_act sh k0 M) fun M_11 =>
  zgd (zin (23 : Int32) (zlen sh (zR M_11 k0 0))) <|
  zbd (((24 : Int32) + ((3 : Int32) * (zI M_11 (zR M_11 k0 0) ((23 : Int32).toNatClampNeg))))) fun v_14 =>
  zgd (zin v_14 (zlen sh (zR M_11 k0 0))) <|
  zbd (zpI M_11 (zR M_11 k0 0) (v_14.toNatClampNeg) p1) fun M_17 =>
  zgd (zin (v_14 + (1 : Int32)) (zlen sh (zR M_17 k0 0))) <|
  zbd (zpI M_17 (zR M_17 k0 0) ((v_14 + (1 : Int32)).toNatClampNeg) p2) fun M_20 =>
  zgd (zin (v_14 + (2 : Int32)) (zlen sh (zR M_20 k0 0))) <|
  zbd (zpI M_20 (zR M_20 k0 0) ((v_14 + (2 : Int32)).toNatClampNeg) p3) fun M_23 =>
  zgd (zin (23 : Int32) (zlen sh (zR M_23 k0 0))) <|
  zgd (zin (23 : Int32) (zlen sh (zR M_23 k0 0))) <|
  zbd (zpI M_23 (zR M_23 k0 0) ((23 : Int32).toNatClampNeg) ((zI M_23 (zR M_23 k0 0) ((23 : Int32).toNatClampNeg)) + (1 : Int32))) fun M_27 =>
  zgd (zin (23 : Int32) (zlen sh (zR M_27 k0 0))) <|
  some ((zI M_27 (zR M_27 k0 0) ((23 : Int32).toNatClampNeg)), M_27))))
set_option maxHeartbeats 4000000 in
set_option maxRecDepth 100000 in
theorem ztX12_queue (l : Launch) (D : va_G) (cy : Nat → ClassId) (sh : zShp) (ad : Nat → Nat) {k0 : Nat} {p1 : Int32} {p2 : Int32} {p3 : Int32} (h0 : zT sh k0 12) {M : zMem} {r : Int32} {M1 : zMem} (hd : zX12_queue sh k0 p1 p2 p3 M = some (r, M1)) : zCI l yX12_queue cX12_queue 5 .int { frames := 2, cells := 0, slots := 0, locals := 49 } [.ref (ad k0), .int p1, .int p2, .int p3] D cy sh ad M r M1 := by
  refine zci_of (by decide) (Nat.le_of_ble_eq_true rfl) (fun p e s m below meth c ls F hr hlk hl hw => ?_)
  have hx := F.1.1
  have hb := F.1.2.1
  have hl : lv_has ls 5 [(0, .ref (ad k0)), (1, .int p1), (2, .int p2), (3, .int p3)] := hl
  have J31 : ∀ (M : zMem) (H : Heap) (locs : List Loc) (ls : Array Slot), lv_has ls 5 [] → zWd D cy sh ad s M H locs → zjX12_queue_31 sh k0 p1 p2 p3  M = some (r, M1) → W p l e { frames := 2, cells := 0, slots := 0, locals := 49 } s m ([.ref (ad k0), .int p1, .int p2, .int p3] : List Value).toArray below meth c H locs 0 0 (zQI below D cy sh ad s [.ref (ad k0), .int p1, .int p2, .int p3] r M1) (F0 m 31 ls []) := by
    intro  M H locs ls hl hw hd
    unfold zjX12_queue_31 at hd
    refine lv_iconst (v := (-1 : Int32)) hx hb dX12_queue_31 (by decide) ?_
    exact z_iret F hr hlk hw (zpr1 hd) (zpr2 hd) dX12_queue_32
  unfold zX12_queue at hd
  refine lv_aload_n hx hb dX12_queue_0 rfl (lv_at hl 0 rfl) ?_
  refine z_gR F hw h0 zc12 0 (by decide) rfl zf12_7 dX12_queue_1 ?_
  have t_1 : zT sh (zR M k0 0) 14 := hw.2.2.2.fld h0 0 14
  refine lv_iconst (v := (1 : Int32)) hx hb dX12_queue_4 (by decide) ?_
  obtain ⟨g_2, hd⟩ := zgd_some hd
  refine z_iald F hw t_1 g_2 dX12_queue_5 ?_
  refine lv_if_eq (tgt := 31) hx hb dX12_queue_6 (by decide) (fun c_3 => ?_) (fun c_3 => ?_)
  · have hd := zif_pos c_3 hd
    exact J31 _ _ _ _ (lv_sub hl [] rfl) hw hd
  · have hd := zif_neg c_3 hd
    refine lv_aload_n hx hb dX12_queue_9 rfl (lv_at hl 0 rfl) ?_
    refine lv_iload_n hx hb dX12_queue_10 rfl (lv_at hl 1 rfl) ?_
    refine lv_iload_n hx hb dX12_queue_11 rfl (lv_at hl 2 rfl) ?_
    refine lv_iload_n hx hb dX12_queue_12 rfl (lv_at hl 3 rfl) ?_
    obtain ⟨r_5, hc_4, hd⟩ := zob_some hd
    refine z_cvI F hw hl.1 (As := [.int p1, .int p2, .int p3]) (rest := []) (ztX12_areRight l D cy sh ad h0 hc_4) zyX12_areRight h0 zc12 zk12_366 ⟨rfl, rfl⟩ ⟨by decide, by decide⟩ rfl rfl (Nat.le_of_ble_eq_true rfl) dX12_queue_13 (fun H locs hw => ?_)
    refine lv_if_eq (tgt := 31) hx hb dX12_queue_16 (by decide) (fun c_6 => ?_) (fun c_6 => ?_)
    · have hd := zif_pos c_6 hd
      exact J31 _ _ _ _ (lv_sub hl [] rfl) hw hd
    · have hd := zif_neg c_6 hd
      refine lv_aload_n hx hb dX12_queue_19 rfl (lv_at hl 0 rfl) ?_
      refine z_gR F hw h0 zc12 0 (by decide) rfl zf12_7 dX12_queue_20 ?_
      have t_7 : zT sh (zR M k0 0) 14 := hw.2.2.2.fld h0 0 14
      refine lv_bipush (v := (23 : Int32)) hx hb dX12_queue_23 (by decide) ?_
      obtain ⟨g_8, hd⟩ := zgd_some hd
      refine z_iald F hw t_7 g_8 dX12_queue_25 ?_
      refine lv_bipush (v := (8 : Int32)) hx hb dX12_queue_26 (by decide) ?_
      refine lv_icmp_ne (tgt := 33) hx hb dX12_queue_28 (by decide) (fun c_9 => ?_) (fun c_9 => ?_)
      · have hd := zif_neg c_9 hd
        refine lv_aload_n hx hb dX12_queue_33 rfl (lv_at hl 0 rfl) ?_
        obtain ⟨M_11, hc_10, hd⟩ := zob_some hd
        refine z_cvV F hw hl.1 (As := []) (rest := []) (ztX12_act l D cy sh ad h0 hc_10) zyX12_act h0 zc12 zk12_400 ⟨rfl, rfl⟩ ⟨by decide, by decide⟩ rfl rfl (Nat.le_of_ble_eq_true rfl) dX12_queue_34 (fun H locs hw => ?_)
        refine lv_bipush (v := (24 : Int32)) hx hb dX12_queue_37 (by decide) ?_
        refine lv_iconst (v := (3 : Int32)) hx hb dX12_queue_39 (by decide) ?_
        refine lv_aload_n hx hb dX12_queue_40 rfl (lv_at hl 0 rfl) ?_
        refine z_gR F hw h0 zc12 0 (by decide) rfl zf12_7 dX12_queue_41 ?_
        have t_12 : zT sh (zR M_11 k0 0) 14 := hw.2.2.2.fld h0 0 14
        refine lv_bipush (v := (23 : Int32)) hx hb dX12_queue_44 (by decide) ?_
        obtain ⟨g_13, hd⟩ := zgd_some hd
        refine z_iald F hw t_12 g_13 dX12_queue_46 ?_
        refine lv_imul hx hb dX12_queue_47 ?_
        refine lv_iadd hx hb dX12_queue_48 ?_
        refine lv_topi (fun v_14 ev_14 => ?_)
        have hd := zbd_eq ev_14 hd
        refine lv_istore (lv' := [(4, .int v_14), (0, .ref (ad k0)), (1, .int p1), (2, .int p2), (3, .int p3)]) hx hb dX12_queue_49 hl (by decide) rfl (fun ls hl => ?_)
        refine lv_aload_n hx hb dX12_queue_51 rfl (lv_at hl 1 rfl) ?_
        refine z_gR F hw h0 zc12 0 (by decide) rfl zf12_7 dX12_queue_52 ?_
        have t_15 : zT sh (zR M_11 k0 0) 14 := hw.2.2.2.fld h0 0 14
        refine lv_iload hx hb dX12_queue_55 (lv_at hl 0 rfl) ?_
        refine lv_iload_n hx hb dX12_queue_57 rfl (lv_at hl 2 rfl) ?_
        obtain ⟨g_16, hd⟩ := zgd_some hd
        refine z_iast F hw t_15 g_16 dX12_queue_58 (fun H locs M_17 eM_17 hw => ?_)
        have hd := zbd_eq eM_17 hd
        refine lv_aload_n hx hb dX12_queue_59 rfl (lv_at hl 1 rfl) ?_
        refine z_gR F hw h0 zc12 0 (by decide) rfl zf12_7 dX12_queue_60 ?_
        have t_18 : zT sh (zR M_17 k0 0) 14 := hw.2.2.2.fld h0 0 14
        refine lv_iload hx hb dX12_queue_63 (lv_at hl 0 rfl) ?_
        refine lv_iconst (v := (1 : Int32)) hx hb dX12_queue_65 (by decide) ?_
        refine lv_iadd hx hb dX12_queue_66 ?_
        refine lv_iload_n hx hb dX12_queue_67 rfl (lv_at hl 3 rfl) ?_
        obtain ⟨g_19, hd⟩ := zgd_some hd
        refine z_iast F hw t_18 g_19 dX12_queue_68 (fun H locs M_20 eM_20 hw => ?_)
        have hd := zbd_eq eM_20 hd
        refine lv_aload_n hx hb dX12_queue_69 rfl (lv_at hl 1 rfl) ?_
        refine z_gR F hw h0 zc12 0 (by decide) rfl zf12_7 dX12_queue_70 ?_
        have t_21 : zT sh (zR M_20 k0 0) 14 := hw.2.2.2.fld h0 0 14
        refine lv_iload hx hb dX12_queue_73 (lv_at hl 0 rfl) ?_
        refine lv_iconst (v := (2 : Int32)) hx hb dX12_queue_75 (by decide) ?_
        refine lv_iadd hx hb dX12_queue_76 ?_
        refine lv_iload_n hx hb dX12_queue_77 rfl (lv_at hl 4 rfl) ?_
        obtain ⟨g_22, hd⟩ := zgd_some hd
        refine z_iast F hw t_21 g_22 dX12_queue_78 (fun H locs M_23 eM_23 hw => ?_)
        have hd := zbd_eq eM_23 hd
        refine lv_aload_n hx hb dX12_queue_79 rfl (lv_at hl 1 rfl) ?_
        refine z_gR F hw h0 zc12 0 (by decide) rfl zf12_7 dX12_queue_80 ?_
        have t_24 : zT sh (zR M_23 k0 0) 14 := hw.2.2.2.fld h0 0 14
        refine lv_bipush (v := (23 : Int32)) hx hb dX12_queue_83 (by decide) ?_
        refine lv_dup2_11 hx hb dX12_queue_85 rfl rfl ?_
        obtain ⟨g_25, hd⟩ := zgd_some hd
        refine z_iald F hw t_24 g_25 dX12_queue_86 ?_
        refine lv_iconst (v := (1 : Int32)) hx hb dX12_queue_87 (by decide) ?_
        refine lv_iadd hx hb dX12_queue_88 ?_
        obtain ⟨g_26, hd⟩ := zgd_some hd
        refine z_iast F hw t_24 g_26 dX12_queue_89 (fun H locs M_27 eM_27 hw => ?_)
        have hd := zbd_eq eM_27 hd
        refine lv_aload_n hx hb dX12_queue_90 rfl (lv_at hl 1 rfl) ?_
        refine z_gR F hw h0 zc12 0 (by decide) rfl zf12_7 dX12_queue_91 ?_
        have t_28 : zT sh (zR M_27 k0 0) 14 := hw.2.2.2.fld h0 0 14
        refine lv_bipush (v := (23 : Int32)) hx hb dX12_queue_94 (by decide) ?_
        obtain ⟨g_29, hd⟩ := zgd_some hd
        refine z_iald F hw t_28 g_29 dX12_queue_96 ?_
        exact z_iret F hr hlk hw (zpr1 hd) (zpr2 hd) dX12_queue_97
      · have hd := zif_pos c_9 hd
        exact J31 _ _ _ _ (lv_sub hl [] rfl) hw hd

def zjX12_watch_30 (sh : zShp) (k0 : Nat) (p1 : Int32) (p2 : Int32)  (M : zMem) : Option (Int32 × zMem) :=
  some ((-1 : Int32), M)
def zX12_watch (sh : zShp) (k0 : Nat) (p1 : Int32) (p2 : Int32) (M : zMem) : Option (Int32 × zMem) :=
  zob (zX12_isAxis sh k0 p1 M) fun r_2 =>
  if r_2 = 0 then (
  zjX12_watch_30 sh k0 p1 p2 M)
  else (
  zob (zX12_isIn sh (p2.toInt64) (0 : Int64) (2048 : Int64) M) fun r_5 =>
  if r_5 = 0 then (
  zjX12_watch_30 sh k0 p1 p2 M)
  else (
  zob (zX12_axisAt sh k0 p1 (4 : Int32) M) fun r_8 =>
  if r_8 = p2 then (
  zjX12_watch_30 sh k0 p1 p2 M)
  else (
  zob (zX12_axisAt sh k0 p1 (4 : Int32) M) fun r_11 =>
  zob (zX12_act sh k0 M) fun M_13 =>
  zob (zX12_setsAxis sh k0 p1 (4 : Int32) p2 M_13) fun M_15 =>
  some (r_11, M_15))))
set_option maxHeartbeats 4000000 in
set_option maxRecDepth 100000 in
theorem ztX12_watch (l : Launch) (D : va_G) (cy : Nat → ClassId) (sh : zShp) (ad : Nat → Nat) {k0 : Nat} {p1 : Int32} {p2 : Int32} (h0 : zT sh k0 12) {M : zMem} {r : Int32} {M1 : zMem} (hd : zX12_watch sh k0 p1 p2 M = some (r, M1)) : zCI l yX12_watch cX12_watch 4 .int { frames := 2, cells := 0, slots := 0, locals := 46 } [.ref (ad k0), .int p1, .int p2] D cy sh ad M r M1 := by
  refine zci_of (by decide) (Nat.le_of_ble_eq_true rfl) (fun p e s m below meth c ls F hr hlk hl hw => ?_)
  have hx := F.1.1
  have hb := F.1.2.1
  have hl : lv_has ls 4 [(0, .ref (ad k0)), (1, .int p1), (2, .int p2)] := hl
  have J30 : ∀ (M : zMem) (H : Heap) (locs : List Loc) (ls : Array Slot), lv_has ls 4 [] → zWd D cy sh ad s M H locs → zjX12_watch_30 sh k0 p1 p2  M = some (r, M1) → W p l e { frames := 2, cells := 0, slots := 0, locals := 46 } s m ([.ref (ad k0), .int p1, .int p2] : List Value).toArray below meth c H locs 0 0 (zQI below D cy sh ad s [.ref (ad k0), .int p1, .int p2] r M1) (F0 m 30 ls []) := by
    intro  M H locs ls hl hw hd
    unfold zjX12_watch_30 at hd
    refine lv_iconst (v := (-1 : Int32)) hx hb dX12_watch_30 (by decide) ?_
    exact z_iret F hr hlk hw (zpr1 hd) (zpr2 hd) dX12_watch_31
  unfold zX12_watch at hd
  refine lv_aload_n hx hb dX12_watch_0 rfl (lv_at hl 0 rfl) ?_
  refine lv_iload_n hx hb dX12_watch_1 rfl (lv_at hl 1 rfl) ?_
  obtain ⟨r_2, hc_1, hd⟩ := zob_some hd
  refine z_cvI F hw hl.1 (As := [.int p1]) (rest := []) (ztX12_isAxis l D cy sh ad h0 hc_1) zyX12_isAxis h0 zc12 zk12_312 ⟨rfl, rfl⟩ ⟨by decide, by decide⟩ rfl rfl (Nat.le_of_ble_eq_true rfl) dX12_watch_2 (fun H locs hw => ?_)
  refine lv_if_eq (tgt := 30) hx hb dX12_watch_5 (by decide) (fun c_3 => ?_) (fun c_3 => ?_)
  · have hd := zif_pos c_3 hd
    exact J30 _ _ _ _ (lv_sub hl [] rfl) hw hd
  · have hd := zif_neg c_3 hd
    refine lv_iload_n hx hb dX12_watch_8 rfl (lv_at hl 2 rfl) ?_
    refine lv_i2l (v := p2.toInt64) hx hb dX12_watch_9 rfl ?_
    refine lv_lconst (v := (0 : Int64)) hx hb dX12_watch_10 (by decide) ?_
    refine lv_ldc2 (v := (2048 : Int64)) hx hb F.1.2.2.2.1 (F.1.2.2.2.2 _ zi12_409) dX12_watch_11 ?_
    obtain ⟨r_5, hc_4, hd⟩ := zob_some hd
    refine z_csI F hw hl.1 (As := [.long (p2.toInt64), .long (0 : Int64), .long (2048 : Int64)]) (rest := []) (ztX12_isIn l D cy sh ad  hc_4) zyX12_isIn zk12_91 ⟨rfl, rfl⟩ ⟨by decide, by decide⟩ rfl rfl (Nat.le_of_ble_eq_true rfl) dX12_watch_14 (fun H locs hw => ?_)
    refine lv_if_eq (tgt := 30) hx hb dX12_watch_17 (by decide) (fun c_6 => ?_) (fun c_6 => ?_)
    · have hd := zif_pos c_6 hd
      exact J30 _ _ _ _ (lv_sub hl [] rfl) hw hd
    · have hd := zif_neg c_6 hd
      refine lv_aload_n hx hb dX12_watch_20 rfl (lv_at hl 0 rfl) ?_
      refine lv_iload_n hx hb dX12_watch_21 rfl (lv_at hl 1 rfl) ?_
      refine lv_iconst (v := (4 : Int32)) hx hb dX12_watch_22 (by decide) ?_
      obtain ⟨r_8, hc_7, hd⟩ := zob_some hd
      refine z_cvI F hw hl.1 (As := [.int p1, .int (4 : Int32)]) (rest := []) (ztX12_axisAt l D cy sh ad h0 hc_7) zyX12_axisAt h0 zc12 zk12_338 ⟨rfl, rfl⟩ ⟨by decide, by decide⟩ rfl rfl (Nat.le_of_ble_eq_true rfl) dX12_watch_23 (fun H locs hw => ?_)
      refine lv_iload_n hx hb dX12_watch_26 rfl (lv_at hl 2 rfl) ?_
      refine lv_icmp_ne (tgt := 32) hx hb dX12_watch_27 (by decide) (fun c_9 => ?_) (fun c_9 => ?_)
      · have hd := zif_neg c_9 hd
        refine lv_aload_n hx hb dX12_watch_32 rfl (lv_at hl 0 rfl) ?_
        refine lv_iload_n hx hb dX12_watch_33 rfl (lv_at hl 1 rfl) ?_
        refine lv_iconst (v := (4 : Int32)) hx hb dX12_watch_34 (by decide) ?_
        obtain ⟨r_11, hc_10, hd⟩ := zob_some hd
        refine z_cvI F hw hl.1 (As := [.int p1, .int (4 : Int32)]) (rest := []) (ztX12_axisAt l D cy sh ad h0 hc_10) zyX12_axisAt h0 zc12 zk12_338 ⟨rfl, rfl⟩ ⟨by decide, by decide⟩ rfl rfl (Nat.le_of_ble_eq_true rfl) dX12_watch_35 (fun H locs hw => ?_)
        refine lv_istore_n (lv' := [(3, .int r_11), (0, .ref (ad k0)), (1, .int p1), (2, .int p2)]) hx hb dX12_watch_38 rfl hl (by decide) rfl (fun ls hl => ?_)
        refine lv_aload_n hx hb dX12_watch_39 rfl (lv_at hl 1 rfl) ?_
        obtain ⟨M_13, hc_12, hd⟩ := zob_some hd
        refine z_cvV F hw hl.1 (As := []) (rest := []) (ztX12_act l D cy sh ad h0 hc_12) zyX12_act h0 zc12 zk12_400 ⟨rfl, rfl⟩ ⟨by decide, by decide⟩ rfl rfl (Nat.le_of_ble_eq_true rfl) dX12_watch_40 (fun H locs hw => ?_)
        refine lv_aload_n hx hb dX12_watch_43 rfl (lv_at hl 1 rfl) ?_
        refine lv_iload_n hx hb dX12_watch_44 rfl (lv_at hl 2 rfl) ?_
        refine lv_iconst (v := (4 : Int32)) hx hb dX12_watch_45 (by decide) ?_
        refine lv_iload_n hx hb dX12_watch_46 rfl (lv_at hl 3 rfl) ?_
        obtain ⟨M_15, hc_14, hd⟩ := zob_some hd
        refine z_cvV F hw hl.1 (As := [.int p1, .int (4 : Int32), .int p2]) (rest := []) (ztX12_setsAxis l D cy sh ad h0 hc_14) zyX12_setsAxis h0 zc12 zk12_411 ⟨rfl, rfl⟩ ⟨by decide, by decide⟩ rfl rfl (Nat.le_of_ble_eq_true rfl) dX12_watch_47 (fun H locs hw => ?_)
        refine lv_iload_n hx hb dX12_watch_50 rfl (lv_at hl 0 rfl) ?_
        exact z_iret F hr hlk hw (zpr1 hd) (zpr2 hd) dX12_watch_51
      · have hd := zif_pos c_9 hd
        exact J30 _ _ _ _ (lv_sub hl [] rfl) hw hd

def zjX12_load_32 (sh : zShp) (k0 : Nat) (p1 : Int32) (p2 : Int32)  (M : zMem) : Option (Int32 × zMem) :=
  some ((-2147483648 : Int32), M)
def zX12_load (sh : zShp) (k0 : Nat) (p1 : Int32) (p2 : Int32) (M : zMem) : Option (Int32 × zMem) :=
  zob (zX12_isAxis sh k0 p1 M) fun r_2 =>
  if r_2 = 0 then (
  zjX12_load_32 sh k0 p1 p2 M)
  else (
  zob (zX12_isIn sh (p2.toInt64) (-2000 : Int64) (2000 : Int64) M) fun r_5 =>
  if r_5 = 0 then (
  zjX12_load_32 sh k0 p1 p2 M)
  else (
  zob (zX12_axisAt sh k0 p1 (3 : Int32) M) fun r_8 =>
  if r_8 = p2 then (
  zjX12_load_32 sh k0 p1 p2 M)
  else (
  zob (zX12_axisAt sh k0 p1 (3 : Int32) M) fun r_11 =>
  zob (zX12_act sh k0 M) fun M_13 =>
  zob (zX12_setsAxis sh k0 p1 (3 : Int32) p2 M_13) fun M_15 =>
  some (r_11, M_15))))
set_option maxHeartbeats 4000000 in
set_option maxRecDepth 100000 in
theorem ztX12_load (l : Launch) (D : va_G) (cy : Nat → ClassId) (sh : zShp) (ad : Nat → Nat) {k0 : Nat} {p1 : Int32} {p2 : Int32} (h0 : zT sh k0 12) {M : zMem} {r : Int32} {M1 : zMem} (hd : zX12_load sh k0 p1 p2 M = some (r, M1)) : zCI l yX12_load cX12_load 4 .int { frames := 2, cells := 0, slots := 0, locals := 46 } [.ref (ad k0), .int p1, .int p2] D cy sh ad M r M1 := by
  refine zci_of (by decide) (Nat.le_of_ble_eq_true rfl) (fun p e s m below meth c ls F hr hlk hl hw => ?_)
  have hx := F.1.1
  have hb := F.1.2.1
  have hl : lv_has ls 4 [(0, .ref (ad k0)), (1, .int p1), (2, .int p2)] := hl
  have J32 : ∀ (M : zMem) (H : Heap) (locs : List Loc) (ls : Array Slot), lv_has ls 4 [] → zWd D cy sh ad s M H locs → zjX12_load_32 sh k0 p1 p2  M = some (r, M1) → W p l e { frames := 2, cells := 0, slots := 0, locals := 46 } s m ([.ref (ad k0), .int p1, .int p2] : List Value).toArray below meth c H locs 0 0 (zQI below D cy sh ad s [.ref (ad k0), .int p1, .int p2] r M1) (F0 m 32 ls []) := by
    intro  M H locs ls hl hw hd
    unfold zjX12_load_32 at hd
    refine lv_ldc (v := (-2147483648 : Int32)) hx hb F.1.2.2.2.1 (F.1.2.2.2.2 _ zi12_254) dX12_load_32 ?_
    exact z_iret F hr hlk hw (zpr1 hd) (zpr2 hd) dX12_load_34
  unfold zX12_load at hd
  refine lv_aload_n hx hb dX12_load_0 rfl (lv_at hl 0 rfl) ?_
  refine lv_iload_n hx hb dX12_load_1 rfl (lv_at hl 1 rfl) ?_
  obtain ⟨r_2, hc_1, hd⟩ := zob_some hd
  refine z_cvI F hw hl.1 (As := [.int p1]) (rest := []) (ztX12_isAxis l D cy sh ad h0 hc_1) zyX12_isAxis h0 zc12 zk12_312 ⟨rfl, rfl⟩ ⟨by decide, by decide⟩ rfl rfl (Nat.le_of_ble_eq_true rfl) dX12_load_2 (fun H locs hw => ?_)
  refine lv_if_eq (tgt := 32) hx hb dX12_load_5 (by decide) (fun c_3 => ?_) (fun c_3 => ?_)
  · have hd := zif_pos c_3 hd
    exact J32 _ _ _ _ (lv_sub hl [] rfl) hw hd
  · have hd := zif_neg c_3 hd
    refine lv_iload_n hx hb dX12_load_8 rfl (lv_at hl 2 rfl) ?_
    refine lv_i2l (v := p2.toInt64) hx hb dX12_load_9 rfl ?_
    refine lv_ldc2 (v := (-2000 : Int64)) hx hb F.1.2.2.2.1 (F.1.2.2.2.2 _ zi12_414) dX12_load_10 ?_
    refine lv_ldc2 (v := (2000 : Int64)) hx hb F.1.2.2.2.1 (F.1.2.2.2.2 _ zi12_416) dX12_load_13 ?_
    obtain ⟨r_5, hc_4, hd⟩ := zob_some hd
    refine z_csI F hw hl.1 (As := [.long (p2.toInt64), .long (-2000 : Int64), .long (2000 : Int64)]) (rest := []) (ztX12_isIn l D cy sh ad  hc_4) zyX12_isIn zk12_91 ⟨rfl, rfl⟩ ⟨by decide, by decide⟩ rfl rfl (Nat.le_of_ble_eq_true rfl) dX12_load_16 (fun H locs hw => ?_)
    refine lv_if_eq (tgt := 32) hx hb dX12_load_19 (by decide) (fun c_6 => ?_) (fun c_6 => ?_)
    · have hd := zif_pos c_6 hd
      exact J32 _ _ _ _ (lv_sub hl [] rfl) hw hd
    · have hd := zif_neg c_6 hd
      refine lv_aload_n hx hb dX12_load_22 rfl (lv_at hl 0 rfl) ?_
      refine lv_iload_n hx hb dX12_load_23 rfl (lv_at hl 1 rfl) ?_
      refine lv_iconst (v := (3 : Int32)) hx hb dX12_load_24 (by decide) ?_
      obtain ⟨r_8, hc_7, hd⟩ := zob_some hd
      refine z_cvI F hw hl.1 (As := [.int p1, .int (3 : Int32)]) (rest := []) (ztX12_axisAt l D cy sh ad h0 hc_7) zyX12_axisAt h0 zc12 zk12_338 ⟨rfl, rfl⟩ ⟨by decide, by decide⟩ rfl rfl (Nat.le_of_ble_eq_true rfl) dX12_load_25 (fun H locs hw => ?_)
      refine lv_iload_n hx hb dX12_load_28 rfl (lv_at hl 2 rfl) ?_
      refine lv_icmp_ne (tgt := 35) hx hb dX12_load_29 (by decide) (fun c_9 => ?_) (fun c_9 => ?_)
      · have hd := zif_neg c_9 hd
        refine lv_aload_n hx hb dX12_load_35 rfl (lv_at hl 0 rfl) ?_
        refine lv_iload_n hx hb dX12_load_36 rfl (lv_at hl 1 rfl) ?_
        refine lv_iconst (v := (3 : Int32)) hx hb dX12_load_37 (by decide) ?_
        obtain ⟨r_11, hc_10, hd⟩ := zob_some hd
        refine z_cvI F hw hl.1 (As := [.int p1, .int (3 : Int32)]) (rest := []) (ztX12_axisAt l D cy sh ad h0 hc_10) zyX12_axisAt h0 zc12 zk12_338 ⟨rfl, rfl⟩ ⟨by decide, by decide⟩ rfl rfl (Nat.le_of_ble_eq_true rfl) dX12_load_38 (fun H locs hw => ?_)
        refine lv_istore_n (lv' := [(3, .int r_11), (0, .ref (ad k0)), (1, .int p1), (2, .int p2)]) hx hb dX12_load_41 rfl hl (by decide) rfl (fun ls hl => ?_)
        refine lv_aload_n hx hb dX12_load_42 rfl (lv_at hl 1 rfl) ?_
        obtain ⟨M_13, hc_12, hd⟩ := zob_some hd
        refine z_cvV F hw hl.1 (As := []) (rest := []) (ztX12_act l D cy sh ad h0 hc_12) zyX12_act h0 zc12 zk12_400 ⟨rfl, rfl⟩ ⟨by decide, by decide⟩ rfl rfl (Nat.le_of_ble_eq_true rfl) dX12_load_43 (fun H locs hw => ?_)
        refine lv_aload_n hx hb dX12_load_46 rfl (lv_at hl 1 rfl) ?_
        refine lv_iload_n hx hb dX12_load_47 rfl (lv_at hl 2 rfl) ?_
        refine lv_iconst (v := (3 : Int32)) hx hb dX12_load_48 (by decide) ?_
        refine lv_iload_n hx hb dX12_load_49 rfl (lv_at hl 3 rfl) ?_
        obtain ⟨M_15, hc_14, hd⟩ := zob_some hd
        refine z_cvV F hw hl.1 (As := [.int p1, .int (3 : Int32), .int p2]) (rest := []) (ztX12_setsAxis l D cy sh ad h0 hc_14) zyX12_setsAxis h0 zc12 zk12_411 ⟨rfl, rfl⟩ ⟨by decide, by decide⟩ rfl rfl (Nat.le_of_ble_eq_true rfl) dX12_load_50 (fun H locs hw => ?_)
        refine lv_iload_n hx hb dX12_load_53 rfl (lv_at hl 0 rfl) ?_
        exact z_iret F hr hlk hw (zpr1 hd) (zpr2 hd) dX12_load_54
      · have hd := zif_pos c_9 hd
        exact J32 _ _ _ _ (lv_sub hl [] rfl) hw hd

def zbX12_trueUp_124 (sh : zShp) (k0 : Nat)  (kk124 : Int32 → Int32 → zMem → Option (Int32 × zMem)) (x1 : Int32) (x3 : Int32) (M : zMem) : Option (Int32 × zMem) :=
  if (zI M k0 22) ≤ x3 then (
  some (x1, M))
  else (
  zob (zX12_axisAt sh k0 x3 (1 : Int32) M) fun r_3 =>
  zob (zX12_floor sh r_3 (16 : Int32) M) fun r_5 =>
  zob (zX12_setsAxis sh k0 x3 (0 : Int32) r_5 M) fun M_7 =>
  zob (zX12_setsAxis sh k0 x3 (5 : Int32) (0 : Int32) M_7) fun M_9 =>
  kk124 x1 (x3 + (1 : Int32)) M_9)
def zlX12_trueUp_124 (sh : zShp) (k0 : Nat)  : Nat → Int32 → Int32 → zMem → Option (Int32 × zMem)
  | 0 => fun _ _ _ => none
  | n + 1 => fun x1 x3 M => zbX12_trueUp_124 sh k0  (zlX12_trueUp_124 sh k0  n) x1 x3 M
def zjX12_trueUp_118 (sh : zShp) (k0 : Nat)  (x1 : Int32) (M : zMem) : Option (Int32 × zMem) :=
  zob (zX12_act sh k0 M) fun M_11 =>
  zlX12_trueUp_124 sh k0 zF x1 (0 : Int32) M_11
def zjX12_trueUp_75 (sh : zShp) (k0 : Nat) (kk18 : Int32 → Int32 → Int32 → zMem → Option (Int32 × zMem)) (x1 : Int32) (x3 : Int32) (s0 : Int32) (M : zMem) : Option (Int32 × zMem) :=
  zob (zX12_axisAt sh k0 x3 (1 : Int32) M) fun r_13 =>
  zob (zX12_floor sh r_13 (16 : Int32) M) fun r_15 =>
  zob (zX12_isIn sh (r_15.toInt64) (-30000 : Int64) (30000 : Int64) M) fun r_17 =>
  if r_17 = 0 then (
  some ((-1 : Int32), M))
  else (
  kk18 x1 s0 (x3 + (1 : Int32)) M)
def zjX12_trueUp_70 (sh : zShp) (k0 : Nat) (kk18 : Int32 → Int32 → Int32 → zMem → Option (Int32 × zMem)) (x1 : Int32) (x3 : Int32) (M : zMem) : Option (Int32 × zMem) :=
  zjX12_trueUp_75 sh k0 kk18 x1 x3 (1 : Int32) M
def zjX12_trueUp_52 (sh : zShp) (k0 : Nat) (kk18 : Int32 → Int32 → Int32 → zMem → Option (Int32 × zMem)) (x2 : Int32) (x3 : Int32) (s0 : Int32) (s1 : Int32) (M : zMem) : Option (Int32 × zMem) :=
  zob (zX12_truth sh s1 M) fun r_20 =>
  if x2 = 0 then (
  zob (zX12_axisAt sh k0 x3 (5 : Int32) M) fun r_23 =>
  if r_23 ≤ 0 then (
  zjX12_trueUp_75 sh k0 kk18 (s0 + r_20) x3 (0 : Int32) M)
  else (
  zjX12_trueUp_70 sh k0 kk18 (s0 + r_20) x3 M))
  else (
  zjX12_trueUp_70 sh k0 kk18 (s0 + r_20) x3 M)
def zbX12_trueUp_18 (sh : zShp) (k0 : Nat)  (kk18 : Int32 → Int32 → Int32 → zMem → Option (Int32 × zMem)) (x1 : Int32) (x2 : Int32) (x3 : Int32) (M : zMem) : Option (Int32 × zMem) :=
  if (zI M k0 22) ≤ x3 then (
  if x1 = 0 then (
  if x2 = 0 then (
  some ((-1 : Int32), M))
  else (
  zjX12_trueUp_118 sh k0 x1 M))
  else (
  zjX12_trueUp_118 sh k0 x1 M))
  else (
  zob (zX12_axisAt sh k0 x3 (1 : Int32) M) fun r_29 =>
  zob (zX12_floor sh r_29 (16 : Int32) M) fun r_31 =>
  zob (zX12_axisAt sh k0 x3 (0 : Int32) M) fun r_33 =>
  if r_31 = r_33 then (
  zjX12_trueUp_52 sh k0 kk18 x2 x3 x1 (0 : Int32) M)
  else (
  zjX12_trueUp_52 sh k0 kk18 x2 x3 x1 (1 : Int32) M))
def zlX12_trueUp_18 (sh : zShp) (k0 : Nat)  : Nat → Int32 → Int32 → Int32 → zMem → Option (Int32 × zMem)
  | 0 => fun _ _ _ _ => none
  | n + 1 => fun x1 x2 x3 M => zbX12_trueUp_18 sh k0  (zlX12_trueUp_18 sh k0  n) x1 x2 x3 M
def zX12_trueUp (sh : zShp) (k0 : Nat) (M : zMem) : Option (Int32 × zMem) :=
  zgd (zin (1 : Int32) (zlen sh (zR M k0 0))) <|
  if (zI M (zR M k0 0) ((1 : Int32).toNatClampNeg)) = (1 : Int32) then (
  some ((-1 : Int32), M))
  else (
  zlX12_trueUp_18 sh k0 zF (0 : Int32) (0 : Int32) (0 : Int32) M)
set_option maxHeartbeats 4000000 in
set_option maxRecDepth 100000 in
theorem ztX12_trueUp (l : Launch) (D : va_G) (cy : Nat → ClassId) (sh : zShp) (ad : Nat → Nat) {k0 : Nat} (h0 : zT sh k0 12) {M : zMem} {r : Int32} {M1 : zMem} (hd : zX12_trueUp sh k0 M = some (r, M1)) : zCI l yX12_trueUp cX12_trueUp 4 .int { frames := 1, cells := 0, slots := 0, locals := 25 } [.ref (ad k0)] D cy sh ad M r M1 := by
  refine zci_of (by decide) (Nat.le_of_ble_eq_true rfl) (fun p e s m below meth c ls F hr hlk hl hw => ?_)
  have hx := F.1.1
  have hb := F.1.2.1
  have hl : lv_has ls 4 [(0, .ref (ad k0))] := hl
  have L124 : ∀  (n : Nat), ∀ (x1 : Int32) (x3 : Int32) (M : zMem) (H : Heap) (locs : List Loc) (ls : Array Slot), lv_has ls 4 [(0, .ref (ad k0)), (1, .int x1), (3, .int x3)] → zWd D cy sh ad s M H locs → zlX12_trueUp_124 sh k0  n x1 x3 M = some (r, M1) → W p l e { frames := 1, cells := 0, slots := 0, locals := 25 } s m ([.ref (ad k0)] : List Value).toArray below meth c H locs 0 0 (zQI below D cy sh ad s [.ref (ad k0)] r M1) (F0 m 124 ls []) := by
    intro  n
    induction n with
    | zero => intro x1 x3 M H locs ls hl hw hd; exact (znone hd).elim
    | succ n hk124 =>
      intro x1 x3 M H locs ls hl hw hd
      have hd : zbX12_trueUp_124 sh k0  (zlX12_trueUp_124 sh k0  n) x1 x3 M = some (r, M1) := hd
      unfold zbX12_trueUp_124 at hd
      refine lv_iload_n hx hb dX12_trueUp_124 rfl (lv_at hl 2 rfl) ?_
      refine lv_aload_n hx hb dX12_trueUp_125 rfl (lv_at hl 0 rfl) ?_
      refine z_gI F hw h0 zc12 22 (by decide) rfl zf12_240 dX12_trueUp_126 ?_
      refine lv_icmp_ge (tgt := 162) hx hb dX12_trueUp_129 (by decide) (fun c_1 => ?_) (fun c_1 => ?_)
      · have hd := zif_pos c_1 hd
        refine lv_iload_n hx hb dX12_trueUp_162 rfl (lv_at hl 1 rfl) ?_
        exact z_iret F hr hlk hw (zpr1 hd) (zpr2 hd) dX12_trueUp_163
      · have hd := zif_neg c_1 hd
        refine lv_aload_n hx hb dX12_trueUp_132 rfl (lv_at hl 0 rfl) ?_
        refine lv_iload_n hx hb dX12_trueUp_133 rfl (lv_at hl 2 rfl) ?_
        refine lv_iconst (v := (0 : Int32)) hx hb dX12_trueUp_134 (by decide) ?_
        refine lv_aload_n hx hb dX12_trueUp_135 rfl (lv_at hl 0 rfl) ?_
        refine lv_iload_n hx hb dX12_trueUp_136 rfl (lv_at hl 2 rfl) ?_
        refine lv_iconst (v := (1 : Int32)) hx hb dX12_trueUp_137 (by decide) ?_
        obtain ⟨r_3, hc_2, hd⟩ := zob_some hd
        refine z_cvI F hw hl.1 (As := [.int x3, .int (1 : Int32)]) (rest := [.int (0 : Int32), .int x3, .ref (ad k0)]) (ztX12_axisAt l D cy sh ad h0 hc_2) zyX12_axisAt h0 zc12 zk12_338 ⟨rfl, rfl⟩ ⟨by decide, by decide⟩ rfl rfl (Nat.le_of_ble_eq_true rfl) dX12_trueUp_138 (fun H locs hw => ?_)
        refine lv_bipush (v := (16 : Int32)) hx hb dX12_trueUp_141 (by decide) ?_
        obtain ⟨r_5, hc_4, hd⟩ := zob_some hd
        refine z_csI F hw hl.1 (As := [.int r_3, .int (16 : Int32)]) (rest := [.int (0 : Int32), .int x3, .ref (ad k0)]) (ztX12_floor l D cy sh ad  hc_4) zyX12_floor zk12_255 ⟨rfl, rfl⟩ ⟨by decide, by decide⟩ rfl rfl (Nat.le_of_ble_eq_true rfl) dX12_trueUp_143 (fun H locs hw => ?_)
        obtain ⟨M_7, hc_6, hd⟩ := zob_some hd
        refine z_cvV F hw hl.1 (As := [.int x3, .int (0 : Int32), .int r_5]) (rest := []) (ztX12_setsAxis l D cy sh ad h0 hc_6) zyX12_setsAxis h0 zc12 zk12_411 ⟨rfl, rfl⟩ ⟨by decide, by decide⟩ rfl rfl (Nat.le_of_ble_eq_true rfl) dX12_trueUp_146 (fun H locs hw => ?_)
        refine lv_aload_n hx hb dX12_trueUp_149 rfl (lv_at hl 0 rfl) ?_
        refine lv_iload_n hx hb dX12_trueUp_150 rfl (lv_at hl 2 rfl) ?_
        refine lv_iconst (v := (5 : Int32)) hx hb dX12_trueUp_151 (by decide) ?_
        refine lv_iconst (v := (0 : Int32)) hx hb dX12_trueUp_152 (by decide) ?_
        obtain ⟨M_9, hc_8, hd⟩ := zob_some hd
        refine z_cvV F hw hl.1 (As := [.int x3, .int (5 : Int32), .int (0 : Int32)]) (rest := []) (ztX12_setsAxis l D cy sh ad h0 hc_8) zyX12_setsAxis h0 zc12 zk12_411 ⟨rfl, rfl⟩ ⟨by decide, by decide⟩ rfl rfl (Nat.le_of_ble_eq_true rfl) dX12_trueUp_153 (fun H locs hw => ?_)
        refine lv_iinc (v := (x3 + (1 : Int32))) (lv' := [(3, .int (x3 + (1 : Int32))), (0, .ref (ad k0)), (1, .int x1)]) hx hb dX12_trueUp_156 hl (k := 2) rfl (ziinc (by decide)) (by decide) rfl (fun ls hl => ?_)
        refine lv_goto (tgt := 124) hx hb dX12_trueUp_159 (by decide) ?_
        exact hk124 _ _ _ _ _ _ (lv_sub hl [1, 2, 0] rfl) hw hd
  have J118 : ∀ (x1 : Int32) (M : zMem) (H : Heap) (locs : List Loc) (ls : Array Slot), lv_has ls 4 [(0, .ref (ad k0)), (1, .int x1)] → zWd D cy sh ad s M H locs → zjX12_trueUp_118 sh k0  x1 M = some (r, M1) → W p l e { frames := 1, cells := 0, slots := 0, locals := 25 } s m ([.ref (ad k0)] : List Value).toArray below meth c H locs 0 0 (zQI below D cy sh ad s [.ref (ad k0)] r M1) (F0 m 118 ls []) := by
    intro  x1 M H locs ls hl hw hd
    unfold zjX12_trueUp_118 at hd
    refine lv_aload_n hx hb dX12_trueUp_118 rfl (lv_at hl 0 rfl) ?_
    obtain ⟨M_11, hc_10, hd⟩ := zob_some hd
    refine z_cvV F hw hl.1 (As := []) (rest := []) (ztX12_act l D cy sh ad h0 hc_10) zyX12_act h0 zc12 zk12_400 ⟨rfl, rfl⟩ ⟨by decide, by decide⟩ rfl rfl (Nat.le_of_ble_eq_true rfl) dX12_trueUp_119 (fun H locs hw => ?_)
    refine lv_iconst (v := (0 : Int32)) hx hb dX12_trueUp_122 (by decide) ?_
    refine lv_istore_n (lv' := [(3, .int (0 : Int32)), (0, .ref (ad k0)), (1, .int x1)]) hx hb dX12_trueUp_123 rfl hl (by decide) rfl (fun ls hl => ?_)
    exact L124 zF _ _ _ _ _ _ (lv_sub hl [1, 2, 0] rfl) hw hd
  have J75 : ∀ (kk18 : Int32 → Int32 → Int32 → zMem → Option (Int32 × zMem)) (hk18 : ∀ (x1 : Int32) (x2 : Int32) (x3 : Int32) (M : zMem) (H : Heap) (locs : List Loc) (ls : Array Slot), lv_has ls 4 [(0, .ref (ad k0)), (1, .int x1), (2, .int x2), (3, .int x3)] → zWd D cy sh ad s M H locs → kk18 x1 x2 x3 M = some (r, M1) → W p l e { frames := 1, cells := 0, slots := 0, locals := 25 } s m ([.ref (ad k0)] : List Value).toArray below meth c H locs 0 0 (zQI below D cy sh ad s [.ref (ad k0)] r M1) (F0 m 18 ls [])), ∀ (x1 : Int32) (x3 : Int32) (s0 : Int32) (M : zMem) (H : Heap) (locs : List Loc) (ls : Array Slot), lv_has ls 4 [(0, .ref (ad k0)), (1, .int x1), (3, .int x3)] → zWd D cy sh ad s M H locs → zjX12_trueUp_75 sh k0 kk18 x1 x3 s0 M = some (r, M1) → W p l e { frames := 1, cells := 0, slots := 0, locals := 25 } s m ([.ref (ad k0)] : List Value).toArray below meth c H locs 0 0 (zQI below D cy sh ad s [.ref (ad k0)] r M1) (F0 m 75 ls [.int s0]) := by
    intro kk18 hk18 x1 x3 s0 M H locs ls hl hw hd
    unfold zjX12_trueUp_75 at hd
    refine lv_istore_n (lv' := [(2, .int s0), (0, .ref (ad k0)), (1, .int x1), (3, .int x3)]) hx hb dX12_trueUp_75 rfl hl (by decide) rfl (fun ls hl => ?_)
    refine lv_aload_n hx hb dX12_trueUp_76 rfl (lv_at hl 1 rfl) ?_
    refine lv_iload_n hx hb dX12_trueUp_77 rfl (lv_at hl 3 rfl) ?_
    refine lv_iconst (v := (1 : Int32)) hx hb dX12_trueUp_78 (by decide) ?_
    obtain ⟨r_13, hc_12, hd⟩ := zob_some hd
    refine z_cvI F hw hl.1 (As := [.int x3, .int (1 : Int32)]) (rest := []) (ztX12_axisAt l D cy sh ad h0 hc_12) zyX12_axisAt h0 zc12 zk12_338 ⟨rfl, rfl⟩ ⟨by decide, by decide⟩ rfl rfl (Nat.le_of_ble_eq_true rfl) dX12_trueUp_79 (fun H locs hw => ?_)
    refine lv_bipush (v := (16 : Int32)) hx hb dX12_trueUp_82 (by decide) ?_
    obtain ⟨r_15, hc_14, hd⟩ := zob_some hd
    refine z_csI F hw hl.1 (As := [.int r_13, .int (16 : Int32)]) (rest := []) (ztX12_floor l D cy sh ad  hc_14) zyX12_floor zk12_255 ⟨rfl, rfl⟩ ⟨by decide, by decide⟩ rfl rfl (Nat.le_of_ble_eq_true rfl) dX12_trueUp_84 (fun H locs hw => ?_)
    refine lv_i2l (v := r_15.toInt64) hx hb dX12_trueUp_87 rfl ?_
    refine lv_ldc2 (v := (-30000 : Int64)) hx hb F.1.2.2.2.1 (F.1.2.2.2.2 _ zi12_325) dX12_trueUp_88 ?_
    refine lv_ldc2 (v := (30000 : Int64)) hx hb F.1.2.2.2.1 (F.1.2.2.2.2 _ zi12_327) dX12_trueUp_91 ?_
    obtain ⟨r_17, hc_16, hd⟩ := zob_some hd
    refine z_csI F hw hl.1 (As := [.long (r_15.toInt64), .long (-30000 : Int64), .long (30000 : Int64)]) (rest := []) (ztX12_isIn l D cy sh ad  hc_16) zyX12_isIn zk12_91 ⟨rfl, rfl⟩ ⟨by decide, by decide⟩ rfl rfl (Nat.le_of_ble_eq_true rfl) dX12_trueUp_94 (fun H locs hw => ?_)
    refine lv_if_ne (tgt := 102) hx hb dX12_trueUp_97 (by decide) (fun c_18 => ?_) (fun c_18 => ?_)
    · have hd := zif_neg c_18 hd
      refine lv_iinc (v := (x3 + (1 : Int32))) (lv' := [(3, .int (x3 + (1 : Int32))), (2, .int s0), (0, .ref (ad k0)), (1, .int x1)]) hx hb dX12_trueUp_102 hl (k := 3) rfl (ziinc (by decide)) (by decide) rfl (fun ls hl => ?_)
      refine lv_goto (tgt := 18) hx hb dX12_trueUp_105 (by decide) ?_
      exact hk18 _ _ _ _ _ _ _ (lv_sub hl [2, 3, 1, 0] rfl) hw hd
    · have hd := zif_pos c_18 hd
      refine lv_iconst (v := (-1 : Int32)) hx hb dX12_trueUp_100 (by decide) ?_
      exact z_iret F hr hlk hw (zpr1 hd) (zpr2 hd) dX12_trueUp_101
  have J70 : ∀ (kk18 : Int32 → Int32 → Int32 → zMem → Option (Int32 × zMem)) (hk18 : ∀ (x1 : Int32) (x2 : Int32) (x3 : Int32) (M : zMem) (H : Heap) (locs : List Loc) (ls : Array Slot), lv_has ls 4 [(0, .ref (ad k0)), (1, .int x1), (2, .int x2), (3, .int x3)] → zWd D cy sh ad s M H locs → kk18 x1 x2 x3 M = some (r, M1) → W p l e { frames := 1, cells := 0, slots := 0, locals := 25 } s m ([.ref (ad k0)] : List Value).toArray below meth c H locs 0 0 (zQI below D cy sh ad s [.ref (ad k0)] r M1) (F0 m 18 ls [])), ∀ (x1 : Int32) (x3 : Int32) (M : zMem) (H : Heap) (locs : List Loc) (ls : Array Slot), lv_has ls 4 [(0, .ref (ad k0)), (1, .int x1), (3, .int x3)] → zWd D cy sh ad s M H locs → zjX12_trueUp_70 sh k0 kk18 x1 x3 M = some (r, M1) → W p l e { frames := 1, cells := 0, slots := 0, locals := 25 } s m ([.ref (ad k0)] : List Value).toArray below meth c H locs 0 0 (zQI below D cy sh ad s [.ref (ad k0)] r M1) (F0 m 70 ls []) := by
    intro kk18 hk18 x1 x3 M H locs ls hl hw hd
    unfold zjX12_trueUp_70 at hd
    refine lv_iconst (v := (1 : Int32)) hx hb dX12_trueUp_70 (by decide) ?_
    refine lv_goto (tgt := 75) hx hb dX12_trueUp_71 (by decide) ?_
    exact J75 _ hk18 _ _ _ _ _ _ _ (lv_sub hl [0, 1, 2] rfl) hw hd
  have J52 : ∀ (kk18 : Int32 → Int32 → Int32 → zMem → Option (Int32 × zMem)) (hk18 : ∀ (x1 : Int32) (x2 : Int32) (x3 : Int32) (M : zMem) (H : Heap) (locs : List Loc) (ls : Array Slot), lv_has ls 4 [(0, .ref (ad k0)), (1, .int x1), (2, .int x2), (3, .int x3)] → zWd D cy sh ad s M H locs → kk18 x1 x2 x3 M = some (r, M1) → W p l e { frames := 1, cells := 0, slots := 0, locals := 25 } s m ([.ref (ad k0)] : List Value).toArray below meth c H locs 0 0 (zQI below D cy sh ad s [.ref (ad k0)] r M1) (F0 m 18 ls [])), ∀ (x2 : Int32) (x3 : Int32) (s0 : Int32) (s1 : Int32) (M : zMem) (H : Heap) (locs : List Loc) (ls : Array Slot), lv_has ls 4 [(0, .ref (ad k0)), (2, .int x2), (3, .int x3)] → zWd D cy sh ad s M H locs → zjX12_trueUp_52 sh k0 kk18 x2 x3 s0 s1 M = some (r, M1) → W p l e { frames := 1, cells := 0, slots := 0, locals := 25 } s m ([.ref (ad k0)] : List Value).toArray below meth c H locs 0 0 (zQI below D cy sh ad s [.ref (ad k0)] r M1) (F0 m 52 ls [.int s1, .int s0]) := by
    intro kk18 hk18 x2 x3 s0 s1 M H locs ls hl hw hd
    unfold zjX12_trueUp_52 at hd
    obtain ⟨r_20, hc_19, hd⟩ := zob_some hd
    refine z_csI F hw hl.1 (As := [.int s1]) (rest := [.int s0]) (ztX12_truth l D cy sh ad  hc_19) zyX12_truth zk12_279 ⟨rfl, rfl⟩ ⟨by decide, by decide⟩ rfl rfl (Nat.le_of_ble_eq_true rfl) dX12_trueUp_52 (fun H locs hw => ?_)
    refine lv_iadd hx hb dX12_trueUp_55 ?_
    refine lv_istore_n (lv' := [(1, .int (s0 + r_20)), (0, .ref (ad k0)), (2, .int x2), (3, .int x3)]) hx hb dX12_trueUp_56 rfl hl (by decide) rfl (fun ls hl => ?_)
    refine lv_iload_n hx hb dX12_trueUp_57 rfl (lv_at hl 2 rfl) ?_
    refine lv_if_ne (tgt := 70) hx hb dX12_trueUp_58 (by decide) (fun c_21 => ?_) (fun c_21 => ?_)
    · have hd := zif_neg c_21 hd
      exact J70 _ hk18 _ _ _ _ _ _ (lv_sub hl [1, 0, 3] rfl) hw hd
    · have hd := zif_pos c_21 hd
      refine lv_aload_n hx hb dX12_trueUp_61 rfl (lv_at hl 1 rfl) ?_
      refine lv_iload_n hx hb dX12_trueUp_62 rfl (lv_at hl 3 rfl) ?_
      refine lv_iconst (v := (5 : Int32)) hx hb dX12_trueUp_63 (by decide) ?_
      obtain ⟨r_23, hc_22, hd⟩ := zob_some hd
      refine z_cvI F hw hl.1 (As := [.int x3, .int (5 : Int32)]) (rest := []) (ztX12_axisAt l D cy sh ad h0 hc_22) zyX12_axisAt h0 zc12 zk12_338 ⟨rfl, rfl⟩ ⟨by decide, by decide⟩ rfl rfl (Nat.le_of_ble_eq_true rfl) dX12_trueUp_64 (fun H locs hw => ?_)
      refine lv_if_le (tgt := 74) hx hb dX12_trueUp_67 (by decide) (fun c_24 => ?_) (fun c_24 => ?_)
      · have hd := zif_pos c_24 hd
        refine lv_iconst (v := (0 : Int32)) hx hb dX12_trueUp_74 (by decide) ?_
        exact J75 _ hk18 _ _ _ _ _ _ _ (lv_sub hl [1, 0, 3] rfl) hw hd
      · have hd := zif_neg c_24 hd
        exact J70 _ hk18 _ _ _ _ _ _ (lv_sub hl [1, 0, 3] rfl) hw hd
  have L18 : ∀  (n : Nat), ∀ (x1 : Int32) (x2 : Int32) (x3 : Int32) (M : zMem) (H : Heap) (locs : List Loc) (ls : Array Slot), lv_has ls 4 [(0, .ref (ad k0)), (1, .int x1), (2, .int x2), (3, .int x3)] → zWd D cy sh ad s M H locs → zlX12_trueUp_18 sh k0  n x1 x2 x3 M = some (r, M1) → W p l e { frames := 1, cells := 0, slots := 0, locals := 25 } s m ([.ref (ad k0)] : List Value).toArray below meth c H locs 0 0 (zQI below D cy sh ad s [.ref (ad k0)] r M1) (F0 m 18 ls []) := by
    intro  n
    induction n with
    | zero => intro x1 x2 x3 M H locs ls hl hw hd; exact (znone hd).elim
    | succ n hk18 =>
      intro x1 x2 x3 M H locs ls hl hw hd
      have hd : zbX12_trueUp_18 sh k0  (zlX12_trueUp_18 sh k0  n) x1 x2 x3 M = some (r, M1) := hd
      unfold zbX12_trueUp_18 at hd
      refine lv_iload_n hx hb dX12_trueUp_18 rfl (lv_at hl 3 rfl) ?_
      refine lv_aload_n hx hb dX12_trueUp_19 rfl (lv_at hl 0 rfl) ?_
      refine z_gI F hw h0 zc12 22 (by decide) rfl zf12_240 dX12_trueUp_20 ?_
      refine lv_icmp_ge (tgt := 108) hx hb dX12_trueUp_23 (by decide) (fun c_25 => ?_) (fun c_25 => ?_)
      · have hd := zif_pos c_25 hd
        refine lv_iload_n hx hb dX12_trueUp_108 rfl (lv_at hl 1 rfl) ?_
        refine lv_if_ne (tgt := 118) hx hb dX12_trueUp_109 (by decide) (fun c_26 => ?_) (fun c_26 => ?_)
        · have hd := zif_neg c_26 hd
          exact J118 _ _ _ _ _ (lv_sub hl [0, 1] rfl) hw hd
        · have hd := zif_pos c_26 hd
          refine lv_iload_n hx hb dX12_trueUp_112 rfl (lv_at hl 2 rfl) ?_
          refine lv_if_ne (tgt := 118) hx hb dX12_trueUp_113 (by decide) (fun c_27 => ?_) (fun c_27 => ?_)
          · have hd := zif_neg c_27 hd
            exact J118 _ _ _ _ _ (lv_sub hl [0, 1] rfl) hw hd
          · have hd := zif_pos c_27 hd
            refine lv_iconst (v := (-1 : Int32)) hx hb dX12_trueUp_116 (by decide) ?_
            exact z_iret F hr hlk hw (zpr1 hd) (zpr2 hd) dX12_trueUp_117
      · have hd := zif_neg c_25 hd
        refine lv_iload_n hx hb dX12_trueUp_26 rfl (lv_at hl 1 rfl) ?_
        refine lv_aload_n hx hb dX12_trueUp_27 rfl (lv_at hl 0 rfl) ?_
        refine lv_iload_n hx hb dX12_trueUp_28 rfl (lv_at hl 3 rfl) ?_
        refine lv_iconst (v := (1 : Int32)) hx hb dX12_trueUp_29 (by decide) ?_
        obtain ⟨r_29, hc_28, hd⟩ := zob_some hd
        refine z_cvI F hw hl.1 (As := [.int x3, .int (1 : Int32)]) (rest := [.int x1]) (ztX12_axisAt l D cy sh ad h0 hc_28) zyX12_axisAt h0 zc12 zk12_338 ⟨rfl, rfl⟩ ⟨by decide, by decide⟩ rfl rfl (Nat.le_of_ble_eq_true rfl) dX12_trueUp_30 (fun H locs hw => ?_)
        refine lv_bipush (v := (16 : Int32)) hx hb dX12_trueUp_33 (by decide) ?_
        obtain ⟨r_31, hc_30, hd⟩ := zob_some hd
        refine z_csI F hw hl.1 (As := [.int r_29, .int (16 : Int32)]) (rest := [.int x1]) (ztX12_floor l D cy sh ad  hc_30) zyX12_floor zk12_255 ⟨rfl, rfl⟩ ⟨by decide, by decide⟩ rfl rfl (Nat.le_of_ble_eq_true rfl) dX12_trueUp_35 (fun H locs hw => ?_)
        refine lv_aload_n hx hb dX12_trueUp_38 rfl (lv_at hl 0 rfl) ?_
        refine lv_iload_n hx hb dX12_trueUp_39 rfl (lv_at hl 3 rfl) ?_
        refine lv_iconst (v := (0 : Int32)) hx hb dX12_trueUp_40 (by decide) ?_
        obtain ⟨r_33, hc_32, hd⟩ := zob_some hd
        refine z_cvI F hw hl.1 (As := [.int x3, .int (0 : Int32)]) (rest := [.int r_31, .int x1]) (ztX12_axisAt l D cy sh ad h0 hc_32) zyX12_axisAt h0 zc12 zk12_338 ⟨rfl, rfl⟩ ⟨by decide, by decide⟩ rfl rfl (Nat.le_of_ble_eq_true rfl) dX12_trueUp_41 (fun H locs hw => ?_)
        refine lv_icmp_eq (tgt := 51) hx hb dX12_trueUp_44 (by decide) (fun c_34 => ?_) (fun c_34 => ?_)
        · have hd := zif_pos c_34 hd
          refine lv_iconst (v := (0 : Int32)) hx hb dX12_trueUp_51 (by decide) ?_
          exact J52 _ hk18 _ _ _ _ _ _ _ _ (lv_sub hl [0, 2, 3] rfl) hw hd
        · have hd := zif_neg c_34 hd
          refine lv_iconst (v := (1 : Int32)) hx hb dX12_trueUp_47 (by decide) ?_
          refine lv_goto (tgt := 52) hx hb dX12_trueUp_48 (by decide) ?_
          exact J52 _ hk18 _ _ _ _ _ _ _ _ (lv_sub hl [0, 2, 3] rfl) hw hd
  unfold zX12_trueUp at hd
  refine lv_aload_n hx hb dX12_trueUp_0 rfl (lv_at hl 0 rfl) ?_
  refine z_gR F hw h0 zc12 0 (by decide) rfl zf12_7 dX12_trueUp_1 ?_
  have t_35 : zT sh (zR M k0 0) 14 := hw.2.2.2.fld h0 0 14
  refine lv_iconst (v := (1 : Int32)) hx hb dX12_trueUp_4 (by decide) ?_
  obtain ⟨g_36, hd⟩ := zgd_some hd
  refine z_iald F hw t_35 g_36 dX12_trueUp_5 ?_
  refine lv_iconst (v := (1 : Int32)) hx hb dX12_trueUp_6 (by decide) ?_
  refine lv_icmp_ne (tgt := 12) hx hb dX12_trueUp_7 (by decide) (fun c_37 => ?_) (fun c_37 => ?_)
  · have hd := zif_neg c_37 hd
    refine lv_iconst (v := (0 : Int32)) hx hb dX12_trueUp_12 (by decide) ?_
    refine lv_istore_n (lv' := [(1, .int (0 : Int32)), (0, .ref (ad k0))]) hx hb dX12_trueUp_13 rfl hl (by decide) rfl (fun ls hl => ?_)
    refine lv_iconst (v := (0 : Int32)) hx hb dX12_trueUp_14 (by decide) ?_
    refine lv_istore_n (lv' := [(2, .int (0 : Int32)), (1, .int (0 : Int32)), (0, .ref (ad k0))]) hx hb dX12_trueUp_15 rfl hl (by decide) rfl (fun ls hl => ?_)
    refine lv_iconst (v := (0 : Int32)) hx hb dX12_trueUp_16 (by decide) ?_
    refine lv_istore_n (lv' := [(3, .int (0 : Int32)), (2, .int (0 : Int32)), (1, .int (0 : Int32)), (0, .ref (ad k0))]) hx hb dX12_trueUp_17 rfl hl (by decide) rfl (fun ls hl => ?_)
    exact L18 zF _ _ _ _ _ _ _ (lv_sub hl [3, 2, 1, 0] rfl) hw hd
  · have hd := zif_pos c_37 hd
    refine lv_iconst (v := (-1 : Int32)) hx hb dX12_trueUp_10 (by decide) ?_
    exact z_iret F hr hlk hw (zpr1 hd) (zpr2 hd) dX12_trueUp_11

def zX12_angleBy (sh : zShp) (p0 : Int32) (p1 : Int32) (M : zMem) : Option (Int32) :=
  some (((16 : Int32) * p0) - p1)
set_option maxHeartbeats 4000000 in
set_option maxRecDepth 100000 in
theorem ztX12_angleBy (l : Launch) (D : va_G) (cy : Nat → ClassId) (sh : zShp) (ad : Nat → Nat) {p0 : Int32} {p1 : Int32}  {M : zMem} {r : Int32} (hd : zX12_angleBy sh p0 p1 M = some r) : zCI l yX12_angleBy cX12_angleBy 2 .int { frames := 0, cells := 0, slots := 0, locals := 0 } [.int p0, .int p1] D cy sh ad M r M := by
  refine zci_of (by decide) (Nat.le_of_ble_eq_true rfl) (fun p e s m below meth c ls F hr hlk hl hw => ?_)
  have hx := F.1.1
  have hb := F.1.2.1
  have hl : lv_has ls 2 [(0, .int p0), (1, .int p1)] := hl
  unfold zX12_angleBy at hd
  refine lv_bipush (v := (16 : Int32)) hx hb dX12_angleBy_0 (by decide) ?_
  refine lv_iload_n hx hb dX12_angleBy_2 rfl (lv_at hl 0 rfl) ?_
  refine lv_imul hx hb dX12_angleBy_3 ?_
  refine lv_iload_n hx hb dX12_angleBy_4 rfl (lv_at hl 1 rfl) ?_
  refine lv_isub hx hb dX12_angleBy_5 ?_
  exact z_iret F hr hlk hw (Option.some.inj hd) rfl dX12_angleBy_6

def zX12_angle (sh : zShp) (k0 : Nat) (p1 : Int32) (M : zMem) : Option (Int32) :=
  zob (zX12_axisAt sh k0 p1 (0 : Int32) M) fun r_2 =>
  zob (zX12_axisAt sh k0 p1 (1 : Int32) M) fun r_4 =>
  zob (zX12_angleBy sh r_2 r_4 M) fun r_6 =>
  some r_6
set_option maxHeartbeats 4000000 in
set_option maxRecDepth 100000 in
theorem ztX12_angle (l : Launch) (D : va_G) (cy : Nat → ClassId) (sh : zShp) (ad : Nat → Nat) {k0 : Nat} {p1 : Int32} (h0 : zT sh k0 12) {M : zMem} {r : Int32} (hd : zX12_angle sh k0 p1 M = some r) : zCI l yX12_angle cX12_angle 2 .int { frames := 1, cells := 0, slots := 0, locals := 22 } [.ref (ad k0), .int p1] D cy sh ad M r M := by
  refine zci_of (by decide) (Nat.le_of_ble_eq_true rfl) (fun p e s m below meth c ls F hr hlk hl hw => ?_)
  have hx := F.1.1
  have hb := F.1.2.1
  have hl : lv_has ls 2 [(0, .ref (ad k0)), (1, .int p1)] := hl
  unfold zX12_angle at hd
  refine lv_aload_n hx hb dX12_angle_0 rfl (lv_at hl 0 rfl) ?_
  refine lv_iload_n hx hb dX12_angle_1 rfl (lv_at hl 1 rfl) ?_
  refine lv_iconst (v := (0 : Int32)) hx hb dX12_angle_2 (by decide) ?_
  obtain ⟨r_2, hc_1, hd⟩ := zob_some hd
  refine z_cvI F hw hl.1 (As := [.int p1, .int (0 : Int32)]) (rest := []) (ztX12_axisAt l D cy sh ad h0 hc_1) zyX12_axisAt h0 zc12 zk12_338 ⟨rfl, rfl⟩ ⟨by decide, by decide⟩ rfl rfl (Nat.le_of_ble_eq_true rfl) dX12_angle_3 (fun H locs hw => ?_)
  refine lv_aload_n hx hb dX12_angle_6 rfl (lv_at hl 0 rfl) ?_
  refine lv_iload_n hx hb dX12_angle_7 rfl (lv_at hl 1 rfl) ?_
  refine lv_iconst (v := (1 : Int32)) hx hb dX12_angle_8 (by decide) ?_
  obtain ⟨r_4, hc_3, hd⟩ := zob_some hd
  refine z_cvI F hw hl.1 (As := [.int p1, .int (1 : Int32)]) (rest := [.int r_2]) (ztX12_axisAt l D cy sh ad h0 hc_3) zyX12_axisAt h0 zc12 zk12_338 ⟨rfl, rfl⟩ ⟨by decide, by decide⟩ rfl rfl (Nat.le_of_ble_eq_true rfl) dX12_angle_9 (fun H locs hw => ?_)
  obtain ⟨r_6, hc_5, hd⟩ := zob_some hd
  refine z_csI F hw hl.1 (As := [.int r_2, .int r_4]) (rest := []) (ztX12_angleBy l D cy sh ad  hc_5) zyX12_angleBy zk12_418 ⟨rfl, rfl⟩ ⟨by decide, by decide⟩ rfl rfl (Nat.le_of_ble_eq_true rfl) dX12_angle_12 (fun H locs hw => ?_)
  exact z_iret F hr hlk hw (Option.some.inj hd) rfl dX12_angle_15

def zX12_pushed (sh : zShp) (k0 : Nat) (p1 : Int32) (p2 : Int32) (p3 : Int32) (M : zMem) : Option (Int32) :=
  zgd (zin (((6 : Int32) * p1) + (3 : Int32)) (zlen sh (zR M k0 14))) <|
  zob (zX12_sine sh k0 (p2 / (16 : Int32)) (0 : Int32) M) fun r_4 =>
  zgd (zin (((6 : Int32) * p1) + (4 : Int32)) (zlen sh (zR M k0 14))) <|
  zgd (znz (zI M (zR M k0 14) ((((6 : Int32) * p1) + (4 : Int32)).toNatClampNeg))) <|
  some (((((((zI M (zR M k0 14) ((((6 : Int32) * p1) + (3 : Int32)).toNatClampNeg)).toInt64) * (r_4.toInt64)) / (1000 : Int64)) - (p3.toInt64)).toInt32) / (zI M (zR M k0 14) ((((6 : Int32) * p1) + (4 : Int32)).toNatClampNeg)))
set_option maxHeartbeats 4000000 in
set_option maxRecDepth 100000 in
theorem ztX12_pushed (l : Launch) (D : va_G) (cy : Nat → ClassId) (sh : zShp) (ad : Nat → Nat) {k0 : Nat} {p1 : Int32} {p2 : Int32} {p3 : Int32} (h0 : zT sh k0 12) {M : zMem} {r : Int32} (hd : zX12_pushed sh k0 p1 p2 p3 M = some r) : zCI l yX12_pushed cX12_pushed 4 .int { frames := 2, cells := 0, slots := 0, locals := 47 } [.ref (ad k0), .int p1, .int p2, .int p3] D cy sh ad M r M := by
  refine zci_of (by decide) (Nat.le_of_ble_eq_true rfl) (fun p e s m below meth c ls F hr hlk hl hw => ?_)
  have hx := F.1.1
  have hb := F.1.2.1
  have hl : lv_has ls 4 [(0, .ref (ad k0)), (1, .int p1), (2, .int p2), (3, .int p3)] := hl
  unfold zX12_pushed at hd
  refine lv_aload_n hx hb dX12_pushed_0 rfl (lv_at hl 0 rfl) ?_
  refine z_gR F hw h0 zc12 14 (by decide) rfl zf12_27 dX12_pushed_1 ?_
  have t_1 : zT sh (zR M k0 14) 14 := hw.2.2.2.fld h0 14 14
  refine lv_bipush (v := (6 : Int32)) hx hb dX12_pushed_4 (by decide) ?_
  refine lv_iload_n hx hb dX12_pushed_6 rfl (lv_at hl 1 rfl) ?_
  refine lv_imul hx hb dX12_pushed_7 ?_
  refine lv_iconst (v := (3 : Int32)) hx hb dX12_pushed_8 (by decide) ?_
  refine lv_iadd hx hb dX12_pushed_9 ?_
  obtain ⟨g_2, hd⟩ := zgd_some hd
  refine z_iald F hw t_1 g_2 dX12_pushed_10 ?_
  refine lv_i2l (v := (zI M (zR M k0 14) ((((6 : Int32) * p1) + (3 : Int32)).toNatClampNeg)).toInt64) hx hb dX12_pushed_11 rfl ?_
  refine lv_aload_n hx hb dX12_pushed_12 rfl (lv_at hl 0 rfl) ?_
  refine lv_iload_n hx hb dX12_pushed_13 rfl (lv_at hl 2 rfl) ?_
  refine lv_bipush (v := (16 : Int32)) hx hb dX12_pushed_14 (by decide) ?_
  refine lv_idiv hx hb dX12_pushed_16 (by decide) ?_
  refine lv_iconst (v := (0 : Int32)) hx hb dX12_pushed_17 (by decide) ?_
  obtain ⟨r_4, hc_3, hd⟩ := zob_some hd
  refine z_cvI F hw hl.1 (As := [.int (p2 / (16 : Int32)), .int (0 : Int32)]) (rest := [.long ((zI M (zR M k0 14) ((((6 : Int32) * p1) + (3 : Int32)).toNatClampNeg)).toInt64)]) (ztX12_sine l D cy sh ad h0 hc_3) zyX12_sine h0 zc12 zk12_262 ⟨rfl, rfl⟩ ⟨by decide, by decide⟩ rfl rfl (Nat.le_of_ble_eq_true rfl) dX12_pushed_18 (fun H locs hw => ?_)
  refine lv_i2l (v := r_4.toInt64) hx hb dX12_pushed_21 rfl ?_
  refine lv_lmul hx hb dX12_pushed_22 ?_
  refine lv_ldc2 (v := (1000 : Int64)) hx hb F.1.2.2.2.1 (F.1.2.2.2.2 _ zi12_421) dX12_pushed_23 ?_
  refine lv_ldiv hx hb dX12_pushed_26 (by decide) ?_
  refine lv_iload_n hx hb dX12_pushed_27 rfl (lv_at hl 3 rfl) ?_
  refine lv_i2l (v := p3.toInt64) hx hb dX12_pushed_28 rfl ?_
  refine lv_lsub hx hb dX12_pushed_29 ?_
  refine lv_l2i (v := (((((zI M (zR M k0 14) ((((6 : Int32) * p1) + (3 : Int32)).toNatClampNeg)).toInt64) * (r_4.toInt64)) / (1000 : Int64)) - (p3.toInt64)).toInt32) hx hb dX12_pushed_30 rfl ?_
  refine lv_aload_n hx hb dX12_pushed_31 rfl (lv_at hl 0 rfl) ?_
  refine z_gR F hw h0 zc12 14 (by decide) rfl zf12_27 dX12_pushed_32 ?_
  have t_5 : zT sh (zR M k0 14) 14 := hw.2.2.2.fld h0 14 14
  refine lv_bipush (v := (6 : Int32)) hx hb dX12_pushed_35 (by decide) ?_
  refine lv_iload_n hx hb dX12_pushed_37 rfl (lv_at hl 1 rfl) ?_
  refine lv_imul hx hb dX12_pushed_38 ?_
  refine lv_iconst (v := (4 : Int32)) hx hb dX12_pushed_39 (by decide) ?_
  refine lv_iadd hx hb dX12_pushed_40 ?_
  obtain ⟨g_6, hd⟩ := zgd_some hd
  refine z_iald F hw t_5 g_6 dX12_pushed_41 ?_
  obtain ⟨g_7, hd⟩ := zgd_some hd
  refine lv_idiv hx hb dX12_pushed_42 (znz_ne g_7) ?_
  exact z_iret F hr hlk hw (Option.some.inj hd) rfl dX12_pushed_43

def zX12_swung (sh : zShp) (k0 : Nat) (p1 : Int32) (p2 : Int32) (p3 : Int32) (p4 : Int32) (M : zMem) : Option (Int32) :=
  zob (zX12_pushed sh k0 p1 p2 p4 M) fun r_2 =>
  zgd (zin (((6 : Int32) * p1) + (5 : Int32)) (zlen sh (zR M k0 14))) <|
  zbd (((p3 + r_2) - (((p3 + r_2) * (zI M (zR M k0 14) ((((6 : Int32) * p1) + (5 : Int32)).toNatClampNeg))) / (100 : Int32)))) fun v_5 =>
  zob (zX12_lesser sh (2000 : Int32) v_5 M) fun r_7 =>
  zob (zX12_greater sh (-2000 : Int32) r_7 M) fun r_9 =>
  some r_9
set_option maxHeartbeats 4000000 in
set_option maxRecDepth 100000 in
theorem ztX12_swung (l : Launch) (D : va_G) (cy : Nat → ClassId) (sh : zShp) (ad : Nat → Nat) {k0 : Nat} {p1 : Int32} {p2 : Int32} {p3 : Int32} {p4 : Int32} (h0 : zT sh k0 12) {M : zMem} {r : Int32} (hd : zX12_swung sh k0 p1 p2 p3 p4 M = some r) : zCI l yX12_swung cX12_swung 6 .int { frames := 3, cells := 0, slots := 0, locals := 70 } [.ref (ad k0), .int p1, .int p2, .int p3, .int p4] D cy sh ad M r M := by
  refine zci_of (by decide) (Nat.le_of_ble_eq_true rfl) (fun p e s m below meth c ls F hr hlk hl hw => ?_)
  have hx := F.1.1
  have hb := F.1.2.1
  have hl : lv_has ls 6 [(0, .ref (ad k0)), (1, .int p1), (2, .int p2), (3, .int p3), (4, .int p4)] := hl
  unfold zX12_swung at hd
  refine lv_iload_n hx hb dX12_swung_0 rfl (lv_at hl 3 rfl) ?_
  refine lv_aload_n hx hb dX12_swung_1 rfl (lv_at hl 0 rfl) ?_
  refine lv_iload_n hx hb dX12_swung_2 rfl (lv_at hl 1 rfl) ?_
  refine lv_iload_n hx hb dX12_swung_3 rfl (lv_at hl 2 rfl) ?_
  refine lv_iload hx hb dX12_swung_4 (lv_at hl 4 rfl) ?_
  obtain ⟨r_2, hc_1, hd⟩ := zob_some hd
  refine z_cvI F hw hl.1 (As := [.int p1, .int p2, .int p4]) (rest := [.int p3]) (ztX12_pushed l D cy sh ad h0 hc_1) zyX12_pushed h0 zc12 zk12_423 ⟨rfl, rfl⟩ ⟨by decide, by decide⟩ rfl rfl (Nat.le_of_ble_eq_true rfl) dX12_swung_6 (fun H locs hw => ?_)
  refine lv_iadd hx hb dX12_swung_9 ?_
  refine lv_istore (lv' := [(5, .int (p3 + r_2)), (0, .ref (ad k0)), (1, .int p1), (2, .int p2), (3, .int p3), (4, .int p4)]) hx hb dX12_swung_10 hl (by decide) rfl (fun ls hl => ?_)
  refine lv_iload hx hb dX12_swung_12 (lv_at hl 0 rfl) ?_
  refine lv_iload hx hb dX12_swung_14 (lv_at hl 0 rfl) ?_
  refine lv_aload_n hx hb dX12_swung_16 rfl (lv_at hl 1 rfl) ?_
  refine z_gR F hw h0 zc12 14 (by decide) rfl zf12_27 dX12_swung_17 ?_
  have t_3 : zT sh (zR M k0 14) 14 := hw.2.2.2.fld h0 14 14
  refine lv_bipush (v := (6 : Int32)) hx hb dX12_swung_20 (by decide) ?_
  refine lv_iload_n hx hb dX12_swung_22 rfl (lv_at hl 2 rfl) ?_
  refine lv_imul hx hb dX12_swung_23 ?_
  refine lv_iconst (v := (5 : Int32)) hx hb dX12_swung_24 (by decide) ?_
  refine lv_iadd hx hb dX12_swung_25 ?_
  obtain ⟨g_4, hd⟩ := zgd_some hd
  refine z_iald F hw t_3 g_4 dX12_swung_26 ?_
  refine lv_imul hx hb dX12_swung_27 ?_
  refine lv_bipush (v := (100 : Int32)) hx hb dX12_swung_28 (by decide) ?_
  refine lv_idiv hx hb dX12_swung_30 (by decide) ?_
  refine lv_isub hx hb dX12_swung_31 ?_
  refine lv_topi (fun v_5 ev_5 => ?_)
  have hd := zbd_eq ev_5 hd
  refine lv_istore (lv' := [(5, .int v_5), (0, .ref (ad k0)), (1, .int p1), (2, .int p2), (3, .int p3), (4, .int p4)]) hx hb dX12_swung_32 hl (by decide) rfl (fun ls hl => ?_)
  refine lv_sipush (v := (-2000 : Int32)) hx hb dX12_swung_34 (by decide) ?_
  refine lv_sipush (v := (2000 : Int32)) hx hb dX12_swung_37 (by decide) ?_
  refine lv_iload hx hb dX12_swung_40 (lv_at hl 0 rfl) ?_
  obtain ⟨r_7, hc_6, hd⟩ := zob_some hd
  refine z_csI F hw hl.1 (As := [.int (2000 : Int32), .int v_5]) (rest := [.int (-2000 : Int32)]) (ztX12_lesser l D cy sh ad  hc_6) zyX12_lesser zk12_332 ⟨rfl, rfl⟩ ⟨by decide, by decide⟩ rfl rfl (Nat.le_of_ble_eq_true rfl) dX12_swung_42 (fun H locs hw => ?_)
  obtain ⟨r_9, hc_8, hd⟩ := zob_some hd
  refine z_csI F hw hl.1 (As := [.int (-2000 : Int32), .int r_7]) (rest := []) (ztX12_greater l D cy sh ad  hc_8) zyX12_greater zk12_318 ⟨rfl, rfl⟩ ⟨by decide, by decide⟩ rfl rfl (Nat.le_of_ble_eq_true rfl) dX12_swung_45 (fun H locs hw => ?_)
  exact z_iret F hr hlk hw (Option.some.inj hd) rfl dX12_swung_48

def zjX12_waitingBegins_106 (sh : zShp) (k0 : Nat)  (M : zMem) : Option (zMem) :=
  some M
def zjX12_waitingBegins_103 (sh : zShp) (k0 : Nat) (kk0 : zMem → Option (zMem)) (M : zMem) : Option (zMem) :=
  kk0 M
def zbX12_waitingBegins_58 (sh : zShp) (k0 : Nat) (kk0 : zMem → Option (zMem)) (kk58 : Int32 → Int32 → zMem → Option (zMem)) (x1 : Int32) (x2 : Int32) (M : zMem) : Option (zMem) :=
  zgd (zin (23 : Int32) (zlen sh (zR M k0 0))) <|
  if ((3 : Int32) * (zI M (zR M k0 0) ((23 : Int32).toNatClampNeg))) ≤ x2 then (
  if x1 = 0 then (
  zjX12_waitingBegins_103 sh k0 kk0 M)
  else (
  zob (zX12_begins sh k0 M) fun M_6 =>
  zjX12_waitingBegins_103 sh k0 kk0 M_6))
  else (
  zgd (zin ((27 : Int32) + x2) (zlen sh (zR M k0 0))) <|
  zgd (zin ((24 : Int32) + x2) (zlen sh (zR M k0 0))) <|
  zbd (zpI M (zR M k0 0) (((24 : Int32) + x2).toNatClampNeg) (zI M (zR M k0 0) (((27 : Int32) + x2).toNatClampNeg))) fun M_11 =>
  kk58 x1 (x2 + (1 : Int32)) M_11)
def zlX12_waitingBegins_58 (sh : zShp) (k0 : Nat) (kk0 : zMem → Option (zMem)) : Nat → Int32 → Int32 → zMem → Option (zMem)
  | 0 => fun _ _ _ => none
  | n + 1 => fun x1 x2 M => zbX12_waitingBegins_58 sh k0 kk0 (zlX12_waitingBegins_58 sh k0 kk0 n) x1 x2 M
def zbX12_waitingBegins_0 (sh : zShp) (k0 : Nat)  (kk0 : zMem → Option (zMem)) (M : zMem) : Option (zMem) :=
  zgd (zin (1 : Int32) (zlen sh (zR M k0 0))) <|
  if (zI M (zR M k0 0) ((1 : Int32).toNatClampNeg)) = 0 then (
  zgd (zin (23 : Int32) (zlen sh (zR M k0 0))) <|
  if (zI M (zR M k0 0) ((23 : Int32).toNatClampNeg)) ≤ 0 then (
  zjX12_waitingBegins_106 sh k0 M)
  else (
  zgd (zin (24 : Int32) (zlen sh (zR M k0 0))) <|
  zgd (zin (25 : Int32) (zlen sh (zR M k0 0))) <|
  zgd (zin (26 : Int32) (zlen sh (zR M k0 0))) <|
  zob2 (zX12_plans sh k0 (zI M (zR M k0 0) ((24 : Int32).toNatClampNeg)) (zI M (zR M k0 0) ((25 : Int32).toNatClampNeg)) (zI M (zR M k0 0) ((26 : Int32).toNatClampNeg)) M) fun r_25 M_26 =>
  zgd (zin (23 : Int32) (zlen sh (zR M_26 k0 0))) <|
  zgd (zin (23 : Int32) (zlen sh (zR M_26 k0 0))) <|
  zbd (zpI M_26 (zR M_26 k0 0) ((23 : Int32).toNatClampNeg) ((zI M_26 (zR M_26 k0 0) ((23 : Int32).toNatClampNeg)) - (1 : Int32))) fun M_30 =>
  zlX12_waitingBegins_58 sh k0 kk0 zF r_25 (0 : Int32) M_30))
  else (
  zjX12_waitingBegins_106 sh k0 M)
def zlX12_waitingBegins_0 (sh : zShp) (k0 : Nat)  : Nat → zMem → Option (zMem)
  | 0 => fun _ => none
  | n + 1 => fun M => zbX12_waitingBegins_0 sh k0  (zlX12_waitingBegins_0 sh k0  n) M
def zX12_waitingBegins (sh : zShp) (k0 : Nat) (M : zMem) : Option (zMem) :=
  zlX12_waitingBegins_0 sh k0 zF M
set_option maxHeartbeats 4000000 in
set_option maxRecDepth 100000 in
theorem ztX12_waitingBegins (l : Launch) (D : va_G) (cy : Nat → ClassId) (sh : zShp) (ad : Nat → Nat) {k0 : Nat} (h0 : zT sh k0 12) {M : zMem} {M1 : zMem} (hd : zX12_waitingBegins sh k0 M = some M1) : zCV l yX12_waitingBegins cX12_waitingBegins 3 { frames := 4, cells := 0, slots := 0, locals := 101 } [.ref (ad k0)] D cy sh ad M M1 := by
  refine zcv_of (by decide) (Nat.le_of_ble_eq_true rfl) (fun p e s m below meth c ls F hr hlk hl hw => ?_)
  have hx := F.1.1
  have hb := F.1.2.1
  have hl : lv_has ls 3 [(0, .ref (ad k0))] := hl
  have J106 : ∀ (M : zMem) (H : Heap) (locs : List Loc) (ls : Array Slot), lv_has ls 3 [] → zWd D cy sh ad s M H locs → zjX12_waitingBegins_106 sh k0  M = some M1 → W p l e { frames := 4, cells := 0, slots := 0, locals := 101 } s m ([.ref (ad k0)] : List Value).toArray below meth c H locs 0 0 (zQV below D cy sh ad s [.ref (ad k0)] M1) (F0 m 106 ls []) := by
    intro  M H locs ls hl hw hd
    unfold zjX12_waitingBegins_106 at hd
    exact z_vret F hr hlk hw (Option.some.inj hd) dX12_waitingBegins_106
  have J103 : ∀ (kk0 : zMem → Option (zMem)) (hk0 : ∀ (M : zMem) (H : Heap) (locs : List Loc) (ls : Array Slot), lv_has ls 3 [(0, .ref (ad k0))] → zWd D cy sh ad s M H locs → kk0 M = some M1 → W p l e { frames := 4, cells := 0, slots := 0, locals := 101 } s m ([.ref (ad k0)] : List Value).toArray below meth c H locs 0 0 (zQV below D cy sh ad s [.ref (ad k0)] M1) (F0 m 0 ls [])), ∀ (M : zMem) (H : Heap) (locs : List Loc) (ls : Array Slot), lv_has ls 3 [(0, .ref (ad k0))] → zWd D cy sh ad s M H locs → zjX12_waitingBegins_103 sh k0 kk0 M = some M1 → W p l e { frames := 4, cells := 0, slots := 0, locals := 101 } s m ([.ref (ad k0)] : List Value).toArray below meth c H locs 0 0 (zQV below D cy sh ad s [.ref (ad k0)] M1) (F0 m 103 ls []) := by
    intro kk0 hk0 M H locs ls hl hw hd
    unfold zjX12_waitingBegins_103 at hd
    refine lv_goto (tgt := 0) hx hb dX12_waitingBegins_103 (by decide) ?_
    exact hk0 _ _ _ _ (lv_sub hl [0] rfl) hw hd
  have L58 : ∀ (kk0 : zMem → Option (zMem)) (hk0 : ∀ (M : zMem) (H : Heap) (locs : List Loc) (ls : Array Slot), lv_has ls 3 [(0, .ref (ad k0))] → zWd D cy sh ad s M H locs → kk0 M = some M1 → W p l e { frames := 4, cells := 0, slots := 0, locals := 101 } s m ([.ref (ad k0)] : List Value).toArray below meth c H locs 0 0 (zQV below D cy sh ad s [.ref (ad k0)] M1) (F0 m 0 ls [])) (n : Nat), ∀ (x1 : Int32) (x2 : Int32) (M : zMem) (H : Heap) (locs : List Loc) (ls : Array Slot), lv_has ls 3 [(0, .ref (ad k0)), (1, .int x1), (2, .int x2)] → zWd D cy sh ad s M H locs → zlX12_waitingBegins_58 sh k0 kk0 n x1 x2 M = some M1 → W p l e { frames := 4, cells := 0, slots := 0, locals := 101 } s m ([.ref (ad k0)] : List Value).toArray below meth c H locs 0 0 (zQV below D cy sh ad s [.ref (ad k0)] M1) (F0 m 58 ls []) := by
    intro kk0 hk0 n
    induction n with
    | zero => intro x1 x2 M H locs ls hl hw hd; exact (znone hd).elim
    | succ n hk58 =>
      intro x1 x2 M H locs ls hl hw hd
      have hd : zbX12_waitingBegins_58 sh k0 kk0 (zlX12_waitingBegins_58 sh k0 kk0 n) x1 x2 M = some M1 := hd
      unfold zbX12_waitingBegins_58 at hd
      refine lv_iload_n hx hb dX12_waitingBegins_58 rfl (lv_at hl 2 rfl) ?_
      refine lv_iconst (v := (3 : Int32)) hx hb dX12_waitingBegins_59 (by decide) ?_
      refine lv_aload_n hx hb dX12_waitingBegins_60 rfl (lv_at hl 0 rfl) ?_
      refine z_gR F hw h0 zc12 0 (by decide) rfl zf12_7 dX12_waitingBegins_61 ?_
      have t_1 : zT sh (zR M k0 0) 14 := hw.2.2.2.fld h0 0 14
      refine lv_bipush (v := (23 : Int32)) hx hb dX12_waitingBegins_64 (by decide) ?_
      obtain ⟨g_2, hd⟩ := zgd_some hd
      refine z_iald F hw t_1 g_2 dX12_waitingBegins_66 ?_
      refine lv_imul hx hb dX12_waitingBegins_67 ?_
      refine lv_icmp_ge (tgt := 95) hx hb dX12_waitingBegins_68 (by decide) (fun c_3 => ?_) (fun c_3 => ?_)
      · have hd := zif_pos c_3 hd
        refine lv_iload_n hx hb dX12_waitingBegins_95 rfl (lv_at hl 1 rfl) ?_
        refine lv_if_eq (tgt := 103) hx hb dX12_waitingBegins_96 (by decide) (fun c_4 => ?_) (fun c_4 => ?_)
        · have hd := zif_pos c_4 hd
          exact J103 _ hk0 _ _ _ _ (lv_sub hl [0] rfl) hw hd
        · have hd := zif_neg c_4 hd
          refine lv_aload_n hx hb dX12_waitingBegins_99 rfl (lv_at hl 0 rfl) ?_
          obtain ⟨M_6, hc_5, hd⟩ := zob_some hd
          refine z_cvV F hw hl.1 (As := []) (rest := []) (ztX12_begins l D cy sh ad h0 hc_5) zyX12_begins h0 zc12 zk12_403 ⟨rfl, rfl⟩ ⟨by decide, by decide⟩ rfl rfl (Nat.le_of_ble_eq_true rfl) dX12_waitingBegins_100 (fun H locs hw => ?_)
          exact J103 _ hk0 _ _ _ _ (lv_sub hl [0] rfl) hw hd
      · have hd := zif_neg c_3 hd
        refine lv_aload_n hx hb dX12_waitingBegins_71 rfl (lv_at hl 0 rfl) ?_
        refine z_gR F hw h0 zc12 0 (by decide) rfl zf12_7 dX12_waitingBegins_72 ?_
        have t_7 : zT sh (zR M k0 0) 14 := hw.2.2.2.fld h0 0 14
        refine lv_bipush (v := (24 : Int32)) hx hb dX12_waitingBegins_75 (by decide) ?_
        refine lv_iload_n hx hb dX12_waitingBegins_77 rfl (lv_at hl 2 rfl) ?_
        refine lv_iadd hx hb dX12_waitingBegins_78 ?_
        refine lv_aload_n hx hb dX12_waitingBegins_79 rfl (lv_at hl 0 rfl) ?_
        refine z_gR F hw h0 zc12 0 (by decide) rfl zf12_7 dX12_waitingBegins_80 ?_
        have t_8 : zT sh (zR M k0 0) 14 := hw.2.2.2.fld h0 0 14
        refine lv_bipush (v := (27 : Int32)) hx hb dX12_waitingBegins_83 (by decide) ?_
        refine lv_iload_n hx hb dX12_waitingBegins_85 rfl (lv_at hl 2 rfl) ?_
        refine lv_iadd hx hb dX12_waitingBegins_86 ?_
        obtain ⟨g_9, hd⟩ := zgd_some hd
        refine z_iald F hw t_8 g_9 dX12_waitingBegins_87 ?_
        obtain ⟨g_10, hd⟩ := zgd_some hd
        refine z_iast F hw t_7 g_10 dX12_waitingBegins_88 (fun H locs M_11 eM_11 hw => ?_)
        have hd := zbd_eq eM_11 hd
        refine lv_iinc (v := (x2 + (1 : Int32))) (lv' := [(2, .int (x2 + (1 : Int32))), (0, .ref (ad k0)), (1, .int x1)]) hx hb dX12_waitingBegins_89 hl (k := 2) rfl (ziinc (by decide)) (by decide) rfl (fun ls hl => ?_)
        refine lv_goto (tgt := 58) hx hb dX12_waitingBegins_92 (by decide) ?_
        exact hk58 _ _ _ _ _ _ (lv_sub hl [1, 2, 0] rfl) hw hd
  have L0 : ∀  (n : Nat), ∀ (M : zMem) (H : Heap) (locs : List Loc) (ls : Array Slot), lv_has ls 3 [(0, .ref (ad k0))] → zWd D cy sh ad s M H locs → zlX12_waitingBegins_0 sh k0  n M = some M1 → W p l e { frames := 4, cells := 0, slots := 0, locals := 101 } s m ([.ref (ad k0)] : List Value).toArray below meth c H locs 0 0 (zQV below D cy sh ad s [.ref (ad k0)] M1) (F0 m 0 ls []) := by
    intro  n
    induction n with
    | zero => intro M H locs ls hl hw hd; exact (znone hd).elim
    | succ n hk0 =>
      intro M H locs ls hl hw hd
      have hd : zbX12_waitingBegins_0 sh k0  (zlX12_waitingBegins_0 sh k0  n) M = some M1 := hd
      unfold zbX12_waitingBegins_0 at hd
      refine lv_aload_n hx hb dX12_waitingBegins_0 rfl (lv_at hl 0 rfl) ?_
      refine z_gR F hw h0 zc12 0 (by decide) rfl zf12_7 dX12_waitingBegins_1 ?_
      have t_12 : zT sh (zR M k0 0) 14 := hw.2.2.2.fld h0 0 14
      refine lv_iconst (v := (1 : Int32)) hx hb dX12_waitingBegins_4 (by decide) ?_
      obtain ⟨g_13, hd⟩ := zgd_some hd
      refine z_iald F hw t_12 g_13 dX12_waitingBegins_5 ?_
      refine lv_if_ne (tgt := 106) hx hb dX12_waitingBegins_6 (by decide) (fun c_14 => ?_) (fun c_14 => ?_)
      · have hd := zif_neg c_14 hd
        exact J106 _ _ _ _ (lv_sub hl [] rfl) hw hd
      · have hd := zif_pos c_14 hd
        refine lv_aload_n hx hb dX12_waitingBegins_9 rfl (lv_at hl 0 rfl) ?_
        refine z_gR F hw h0 zc12 0 (by decide) rfl zf12_7 dX12_waitingBegins_10 ?_
        have t_15 : zT sh (zR M k0 0) 14 := hw.2.2.2.fld h0 0 14
        refine lv_bipush (v := (23 : Int32)) hx hb dX12_waitingBegins_13 (by decide) ?_
        obtain ⟨g_16, hd⟩ := zgd_some hd
        refine z_iald F hw t_15 g_16 dX12_waitingBegins_15 ?_
        refine lv_if_le (tgt := 106) hx hb dX12_waitingBegins_16 (by decide) (fun c_17 => ?_) (fun c_17 => ?_)
        · have hd := zif_pos c_17 hd
          exact J106 _ _ _ _ (lv_sub hl [] rfl) hw hd
        · have hd := zif_neg c_17 hd
          refine lv_aload_n hx hb dX12_waitingBegins_19 rfl (lv_at hl 0 rfl) ?_
          refine lv_aload_n hx hb dX12_waitingBegins_20 rfl (lv_at hl 0 rfl) ?_
          refine z_gR F hw h0 zc12 0 (by decide) rfl zf12_7 dX12_waitingBegins_21 ?_
          have t_18 : zT sh (zR M k0 0) 14 := hw.2.2.2.fld h0 0 14
          refine lv_bipush (v := (24 : Int32)) hx hb dX12_waitingBegins_24 (by decide) ?_
          obtain ⟨g_19, hd⟩ := zgd_some hd
          refine z_iald F hw t_18 g_19 dX12_waitingBegins_26 ?_
          refine lv_aload_n hx hb dX12_waitingBegins_27 rfl (lv_at hl 0 rfl) ?_
          refine z_gR F hw h0 zc12 0 (by decide) rfl zf12_7 dX12_waitingBegins_28 ?_
          have t_20 : zT sh (zR M k0 0) 14 := hw.2.2.2.fld h0 0 14
          refine lv_bipush (v := (25 : Int32)) hx hb dX12_waitingBegins_31 (by decide) ?_
          obtain ⟨g_21, hd⟩ := zgd_some hd
          refine z_iald F hw t_20 g_21 dX12_waitingBegins_33 ?_
          refine lv_aload_n hx hb dX12_waitingBegins_34 rfl (lv_at hl 0 rfl) ?_
          refine z_gR F hw h0 zc12 0 (by decide) rfl zf12_7 dX12_waitingBegins_35 ?_
          have t_22 : zT sh (zR M k0 0) 14 := hw.2.2.2.fld h0 0 14
          refine lv_bipush (v := (26 : Int32)) hx hb dX12_waitingBegins_38 (by decide) ?_
          obtain ⟨g_23, hd⟩ := zgd_some hd
          refine z_iald F hw t_22 g_23 dX12_waitingBegins_40 ?_
          obtain ⟨r_25, M_26, hc_24, hd⟩ := zob2_some hd
          refine z_cvI F hw hl.1 (As := [.int (zI M (zR M k0 0) ((24 : Int32).toNatClampNeg)), .int (zI M (zR M k0 0) ((25 : Int32).toNatClampNeg)), .int (zI M (zR M k0 0) ((26 : Int32).toNatClampNeg))]) (rest := []) (ztX12_plans l D cy sh ad h0 hc_24) zyX12_plans h0 zc12 zk12_369 ⟨rfl, rfl⟩ ⟨by decide, by decide⟩ rfl rfl (Nat.le_of_ble_eq_true rfl) dX12_waitingBegins_41 (fun H locs hw => ?_)
          refine lv_istore_n (lv' := [(1, .int r_25), (0, .ref (ad k0))]) hx hb dX12_waitingBegins_44 rfl hl (by decide) rfl (fun ls hl => ?_)
          refine lv_aload_n hx hb dX12_waitingBegins_45 rfl (lv_at hl 1 rfl) ?_
          refine z_gR F hw h0 zc12 0 (by decide) rfl zf12_7 dX12_waitingBegins_46 ?_
          have t_27 : zT sh (zR M_26 k0 0) 14 := hw.2.2.2.fld h0 0 14
          refine lv_bipush (v := (23 : Int32)) hx hb dX12_waitingBegins_49 (by decide) ?_
          refine lv_dup2_11 hx hb dX12_waitingBegins_51 rfl rfl ?_
          obtain ⟨g_28, hd⟩ := zgd_some hd
          refine z_iald F hw t_27 g_28 dX12_waitingBegins_52 ?_
          refine lv_iconst (v := (1 : Int32)) hx hb dX12_waitingBegins_53 (by decide) ?_
          refine lv_isub hx hb dX12_waitingBegins_54 ?_
          obtain ⟨g_29, hd⟩ := zgd_some hd
          refine z_iast F hw t_27 g_29 dX12_waitingBegins_55 (fun H locs M_30 eM_30 hw => ?_)
          have hd := zbd_eq eM_30 hd
          refine lv_iconst (v := (0 : Int32)) hx hb dX12_waitingBegins_56 (by decide) ?_
          refine lv_istore_n (lv' := [(2, .int (0 : Int32)), (1, .int r_25), (0, .ref (ad k0))]) hx hb dX12_waitingBegins_57 rfl hl (by decide) rfl (fun ls hl => ?_)
          exact L58 _ hk0 zF _ _ _ _ _ _ (lv_sub hl [2, 1, 0] rfl) hw hd
  unfold zX12_waitingBegins at hd
  exact L0 zF _ _ _ _ (lv_sub hl [0] rfl) hw hd

def zjX12_moves_122 (sh : zShp) (k0 : Nat)  (M : zMem) : Option (zMem) :=
  some M
def zbX12_moves_47 (sh : zShp) (k0 : Nat)  (kk47 : Int32 → zMem → Option (zMem)) (x2 : Int32) (M : zMem) : Option (zMem) :=
  if (zI M k0 22) ≤ x2 then (
  zgd (zin (15 : Int32) (zlen sh (zR M k0 0))) <|
  zob (zX12_allTicks sh k0 M) fun r_5 =>
  if (zI M (zR M k0 0) ((15 : Int32).toNatClampNeg)) = r_5 then (
  zgd (zin (1 : Int32) (zlen sh (zR M k0 0))) <|
  zbd (zpI M (zR M k0 0) ((1 : Int32).toNatClampNeg) (0 : Int32)) fun M_9 =>
  zjX12_moves_122 sh k0 M_9)
  else (
  zjX12_moves_122 sh k0 M))
  else (
  zgd (zin ((4 : Int32) + x2) (zlen sh (zR M k0 0))) <|
  zgd (zin (16 : Int32) (zlen sh (zR M k0 0))) <|
  zgd (zin ((7 : Int32) + x2) (zlen sh (zR M k0 0))) <|
  zgd (zin (3 : Int32) (zlen sh (zR M k0 0))) <|
  zob (zX12_goneBy sh (zI M (zR M k0 0) ((16 : Int32).toNatClampNeg)) (zI M (zR M k0 0) (((7 : Int32) + x2).toNatClampNeg)) (zI M (zR M k0 0) ((3 : Int32).toNatClampNeg)) M) fun r_19 =>
  zob (zX12_setsAxis sh k0 x2 (0 : Int32) ((zI M (zR M k0 0) (((4 : Int32) + x2).toNatClampNeg)) + r_19) M) fun M_21 =>
  kk47 (x2 + (1 : Int32)) M_21)
def zlX12_moves_47 (sh : zShp) (k0 : Nat)  : Nat → Int32 → zMem → Option (zMem)
  | 0 => fun _ _ => none
  | n + 1 => fun x2 M => zbX12_moves_47 sh k0  (zlX12_moves_47 sh k0  n) x2 M
def zX12_moves (sh : zShp) (k0 : Nat) (M : zMem) : Option (zMem) :=
  zgd (zin (1 : Int32) (zlen sh (zR M k0 0))) <|
  if (zI M (zR M k0 0) ((1 : Int32).toNatClampNeg)) = 0 then (
  some M)
  else (
  zob (zX12_speedNow sh k0 M) fun r_26 =>
  zgd (zin (16 : Int32) (zlen sh (zR M k0 0))) <|
  zgd (zin (16 : Int32) (zlen sh (zR M k0 0))) <|
  zbd (zpI M (zR M k0 0) ((16 : Int32).toNatClampNeg) ((zI M (zR M k0 0) ((16 : Int32).toNatClampNeg)) + r_26)) fun M_30 =>
  zgd (zin (15 : Int32) (zlen sh (zR M_30 k0 0))) <|
  zgd (zin (15 : Int32) (zlen sh (zR M_30 k0 0))) <|
  zbd (zpI M_30 (zR M_30 k0 0) ((15 : Int32).toNatClampNeg) ((zI M_30 (zR M_30 k0 0) ((15 : Int32).toNatClampNeg)) + (1 : Int32))) fun M_34 =>
  zgd (zin (20 : Int32) (zlen sh (zR M_34 k0 0))) <|
  zbd (zpI M_34 (zR M_34 k0 0) ((20 : Int32).toNatClampNeg) r_26) fun M_37 =>
  zlX12_moves_47 sh k0 zF (0 : Int32) M_37)
set_option maxHeartbeats 4000000 in
set_option maxRecDepth 100000 in
theorem ztX12_moves (l : Launch) (D : va_G) (cy : Nat → ClassId) (sh : zShp) (ad : Nat → Nat) {k0 : Nat} (h0 : zT sh k0 12) {M : zMem} {M1 : zMem} (hd : zX12_moves sh k0 M = some M1) : zCV l yX12_moves cX12_moves 3 { frames := 2, cells := 0, slots := 0, locals := 44 } [.ref (ad k0)] D cy sh ad M M1 := by
  refine zcv_of (by decide) (Nat.le_of_ble_eq_true rfl) (fun p e s m below meth c ls F hr hlk hl hw => ?_)
  have hx := F.1.1
  have hb := F.1.2.1
  have hl : lv_has ls 3 [(0, .ref (ad k0))] := hl
  have J122 : ∀ (M : zMem) (H : Heap) (locs : List Loc) (ls : Array Slot), lv_has ls 3 [] → zWd D cy sh ad s M H locs → zjX12_moves_122 sh k0  M = some M1 → W p l e { frames := 2, cells := 0, slots := 0, locals := 44 } s m ([.ref (ad k0)] : List Value).toArray below meth c H locs 0 0 (zQV below D cy sh ad s [.ref (ad k0)] M1) (F0 m 122 ls []) := by
    intro  M H locs ls hl hw hd
    unfold zjX12_moves_122 at hd
    exact z_vret F hr hlk hw (Option.some.inj hd) dX12_moves_122
  have L47 : ∀  (n : Nat), ∀ (x2 : Int32) (M : zMem) (H : Heap) (locs : List Loc) (ls : Array Slot), lv_has ls 3 [(0, .ref (ad k0)), (2, .int x2)] → zWd D cy sh ad s M H locs → zlX12_moves_47 sh k0  n x2 M = some M1 → W p l e { frames := 2, cells := 0, slots := 0, locals := 44 } s m ([.ref (ad k0)] : List Value).toArray below meth c H locs 0 0 (zQV below D cy sh ad s [.ref (ad k0)] M1) (F0 m 47 ls []) := by
    intro  n
    induction n with
    | zero => intro x2 M H locs ls hl hw hd; exact (znone hd).elim
    | succ n hk47 =>
      intro x2 M H locs ls hl hw hd
      have hd : zbX12_moves_47 sh k0  (zlX12_moves_47 sh k0  n) x2 M = some M1 := hd
      unfold zbX12_moves_47 at hd
      refine lv_iload_n hx hb dX12_moves_47 rfl (lv_at hl 1 rfl) ?_
      refine lv_aload_n hx hb dX12_moves_48 rfl (lv_at hl 0 rfl) ?_
      refine z_gI F hw h0 zc12 22 (by decide) rfl zf12_240 dX12_moves_49 ?_
      refine lv_icmp_ge (tgt := 101) hx hb dX12_moves_52 (by decide) (fun c_1 => ?_) (fun c_1 => ?_)
      · have hd := zif_pos c_1 hd
        refine lv_aload_n hx hb dX12_moves_101 rfl (lv_at hl 0 rfl) ?_
        refine z_gR F hw h0 zc12 0 (by decide) rfl zf12_7 dX12_moves_102 ?_
        have t_2 : zT sh (zR M k0 0) 14 := hw.2.2.2.fld h0 0 14
        refine lv_bipush (v := (15 : Int32)) hx hb dX12_moves_105 (by decide) ?_
        obtain ⟨g_3, hd⟩ := zgd_some hd
        refine z_iald F hw t_2 g_3 dX12_moves_107 ?_
        refine lv_aload_n hx hb dX12_moves_108 rfl (lv_at hl 0 rfl) ?_
        obtain ⟨r_5, hc_4, hd⟩ := zob_some hd
        refine z_cvI F hw hl.1 (As := []) (rest := [.int (zI M (zR M k0 0) ((15 : Int32).toNatClampNeg))]) (ztX12_allTicks l D cy sh ad h0 hc_4) zyX12_allTicks h0 zc12 zk12_406 ⟨rfl, rfl⟩ ⟨by decide, by decide⟩ rfl rfl (Nat.le_of_ble_eq_true rfl) dX12_moves_109 (fun H locs hw => ?_)
        refine lv_icmp_ne (tgt := 122) hx hb dX12_moves_112 (by decide) (fun c_6 => ?_) (fun c_6 => ?_)
        · have hd := zif_neg c_6 hd
          exact J122 _ _ _ _ (lv_sub hl [] rfl) hw hd
        · have hd := zif_pos c_6 hd
          refine lv_aload_n hx hb dX12_moves_115 rfl (lv_at hl 0 rfl) ?_
          refine z_gR F hw h0 zc12 0 (by decide) rfl zf12_7 dX12_moves_116 ?_
          have t_7 : zT sh (zR M k0 0) 14 := hw.2.2.2.fld h0 0 14
          refine lv_iconst (v := (1 : Int32)) hx hb dX12_moves_119 (by decide) ?_
          refine lv_iconst (v := (0 : Int32)) hx hb dX12_moves_120 (by decide) ?_
          obtain ⟨g_8, hd⟩ := zgd_some hd
          refine z_iast F hw t_7 g_8 dX12_moves_121 (fun H locs M_9 eM_9 hw => ?_)
          have hd := zbd_eq eM_9 hd
          exact J122 _ _ _ _ (lv_sub hl [] rfl) hw hd
      · have hd := zif_neg c_1 hd
        refine lv_aload_n hx hb dX12_moves_55 rfl (lv_at hl 0 rfl) ?_
        refine lv_iload_n hx hb dX12_moves_56 rfl (lv_at hl 1 rfl) ?_
        refine lv_iconst (v := (0 : Int32)) hx hb dX12_moves_57 (by decide) ?_
        refine lv_aload_n hx hb dX12_moves_58 rfl (lv_at hl 0 rfl) ?_
        refine z_gR F hw h0 zc12 0 (by decide) rfl zf12_7 dX12_moves_59 ?_
        have t_10 : zT sh (zR M k0 0) 14 := hw.2.2.2.fld h0 0 14
        refine lv_iconst (v := (4 : Int32)) hx hb dX12_moves_62 (by decide) ?_
        refine lv_iload_n hx hb dX12_moves_63 rfl (lv_at hl 1 rfl) ?_
        refine lv_iadd hx hb dX12_moves_64 ?_
        obtain ⟨g_11, hd⟩ := zgd_some hd
        refine z_iald F hw t_10 g_11 dX12_moves_65 ?_
        refine lv_aload_n hx hb dX12_moves_66 rfl (lv_at hl 0 rfl) ?_
        refine z_gR F hw h0 zc12 0 (by decide) rfl zf12_7 dX12_moves_67 ?_
        have t_12 : zT sh (zR M k0 0) 14 := hw.2.2.2.fld h0 0 14
        refine lv_bipush (v := (16 : Int32)) hx hb dX12_moves_70 (by decide) ?_
        obtain ⟨g_13, hd⟩ := zgd_some hd
        refine z_iald F hw t_12 g_13 dX12_moves_72 ?_
        refine lv_aload_n hx hb dX12_moves_73 rfl (lv_at hl 0 rfl) ?_
        refine z_gR F hw h0 zc12 0 (by decide) rfl zf12_7 dX12_moves_74 ?_
        have t_14 : zT sh (zR M k0 0) 14 := hw.2.2.2.fld h0 0 14
        refine lv_bipush (v := (7 : Int32)) hx hb dX12_moves_77 (by decide) ?_
        refine lv_iload_n hx hb dX12_moves_79 rfl (lv_at hl 1 rfl) ?_
        refine lv_iadd hx hb dX12_moves_80 ?_
        obtain ⟨g_15, hd⟩ := zgd_some hd
        refine z_iald F hw t_14 g_15 dX12_moves_81 ?_
        refine lv_aload_n hx hb dX12_moves_82 rfl (lv_at hl 0 rfl) ?_
        refine z_gR F hw h0 zc12 0 (by decide) rfl zf12_7 dX12_moves_83 ?_
        have t_16 : zT sh (zR M k0 0) 14 := hw.2.2.2.fld h0 0 14
        refine lv_iconst (v := (3 : Int32)) hx hb dX12_moves_86 (by decide) ?_
        obtain ⟨g_17, hd⟩ := zgd_some hd
        refine z_iald F hw t_16 g_17 dX12_moves_87 ?_
        obtain ⟨r_19, hc_18, hd⟩ := zob_some hd
        refine z_csI F hw hl.1 (As := [.int (zI M (zR M k0 0) ((16 : Int32).toNatClampNeg)), .int (zI M (zR M k0 0) (((7 : Int32) + x2).toNatClampNeg)), .int (zI M (zR M k0 0) ((3 : Int32).toNatClampNeg))]) (rest := [.int (zI M (zR M k0 0) (((4 : Int32) + x2).toNatClampNeg)), .int (0 : Int32), .int x2, .ref (ad k0)]) (ztX12_goneBy l D cy sh ad  hc_18) zyX12_goneBy zk12_387 ⟨rfl, rfl⟩ ⟨by decide, by decide⟩ rfl rfl (Nat.le_of_ble_eq_true rfl) dX12_moves_88 (fun H locs hw => ?_)
        refine lv_iadd hx hb dX12_moves_91 ?_
        obtain ⟨M_21, hc_20, hd⟩ := zob_some hd
        refine z_cvV F hw hl.1 (As := [.int x2, .int (0 : Int32), .int ((zI M (zR M k0 0) (((4 : Int32) + x2).toNatClampNeg)) + r_19)]) (rest := []) (ztX12_setsAxis l D cy sh ad h0 hc_20) zyX12_setsAxis h0 zc12 zk12_411 ⟨rfl, rfl⟩ ⟨by decide, by decide⟩ rfl rfl (Nat.le_of_ble_eq_true rfl) dX12_moves_92 (fun H locs hw => ?_)
        refine lv_iinc (v := (x2 + (1 : Int32))) (lv' := [(2, .int (x2 + (1 : Int32))), (0, .ref (ad k0))]) hx hb dX12_moves_95 hl (k := 1) rfl (ziinc (by decide)) (by decide) rfl (fun ls hl => ?_)
        refine lv_goto (tgt := 47) hx hb dX12_moves_98 (by decide) ?_
        exact hk47 _ _ _ _ _ (lv_sub hl [1, 0] rfl) hw hd
  unfold zX12_moves at hd
  refine lv_aload_n hx hb dX12_moves_0 rfl (lv_at hl 0 rfl) ?_
  refine z_gR F hw h0 zc12 0 (by decide) rfl zf12_7 dX12_moves_1 ?_
  have t_22 : zT sh (zR M k0 0) 14 := hw.2.2.2.fld h0 0 14
  refine lv_iconst (v := (1 : Int32)) hx hb dX12_moves_4 (by decide) ?_
  obtain ⟨g_23, hd⟩ := zgd_some hd
  refine z_iald F hw t_22 g_23 dX12_moves_5 ?_
  refine lv_if_ne (tgt := 10) hx hb dX12_moves_6 (by decide) (fun c_24 => ?_) (fun c_24 => ?_)
  · have hd := zif_neg c_24 hd
    refine lv_aload_n hx hb dX12_moves_10 rfl (lv_at hl 0 rfl) ?_
    obtain ⟨r_26, hc_25, hd⟩ := zob_some hd
    refine z_cvI F hw hl.1 (As := []) (rest := []) (ztX12_speedNow l D cy sh ad h0 hc_25) zyX12_speedNow h0 zc12 zk12_426 ⟨rfl, rfl⟩ ⟨by decide, by decide⟩ rfl rfl (Nat.le_of_ble_eq_true rfl) dX12_moves_11 (fun H locs hw => ?_)
    refine lv_istore_n (lv' := [(1, .int r_26), (0, .ref (ad k0))]) hx hb dX12_moves_14 rfl hl (by decide) rfl (fun ls hl => ?_)
    refine lv_aload_n hx hb dX12_moves_15 rfl (lv_at hl 1 rfl) ?_
    refine z_gR F hw h0 zc12 0 (by decide) rfl zf12_7 dX12_moves_16 ?_
    have t_27 : zT sh (zR M k0 0) 14 := hw.2.2.2.fld h0 0 14
    refine lv_bipush (v := (16 : Int32)) hx hb dX12_moves_19 (by decide) ?_
    refine lv_dup2_11 hx hb dX12_moves_21 rfl rfl ?_
    obtain ⟨g_28, hd⟩ := zgd_some hd
    refine z_iald F hw t_27 g_28 dX12_moves_22 ?_
    refine lv_iload_n hx hb dX12_moves_23 rfl (lv_at hl 0 rfl) ?_
    refine lv_iadd hx hb dX12_moves_24 ?_
    obtain ⟨g_29, hd⟩ := zgd_some hd
    refine z_iast F hw t_27 g_29 dX12_moves_25 (fun H locs M_30 eM_30 hw => ?_)
    have hd := zbd_eq eM_30 hd
    refine lv_aload_n hx hb dX12_moves_26 rfl (lv_at hl 1 rfl) ?_
    refine z_gR F hw h0 zc12 0 (by decide) rfl zf12_7 dX12_moves_27 ?_
    have t_31 : zT sh (zR M_30 k0 0) 14 := hw.2.2.2.fld h0 0 14
    refine lv_bipush (v := (15 : Int32)) hx hb dX12_moves_30 (by decide) ?_
    refine lv_dup2_11 hx hb dX12_moves_32 rfl rfl ?_
    obtain ⟨g_32, hd⟩ := zgd_some hd
    refine z_iald F hw t_31 g_32 dX12_moves_33 ?_
    refine lv_iconst (v := (1 : Int32)) hx hb dX12_moves_34 (by decide) ?_
    refine lv_iadd hx hb dX12_moves_35 ?_
    obtain ⟨g_33, hd⟩ := zgd_some hd
    refine z_iast F hw t_31 g_33 dX12_moves_36 (fun H locs M_34 eM_34 hw => ?_)
    have hd := zbd_eq eM_34 hd
    refine lv_aload_n hx hb dX12_moves_37 rfl (lv_at hl 1 rfl) ?_
    refine z_gR F hw h0 zc12 0 (by decide) rfl zf12_7 dX12_moves_38 ?_
    have t_35 : zT sh (zR M_34 k0 0) 14 := hw.2.2.2.fld h0 0 14
    refine lv_bipush (v := (20 : Int32)) hx hb dX12_moves_41 (by decide) ?_
    refine lv_iload_n hx hb dX12_moves_43 rfl (lv_at hl 0 rfl) ?_
    obtain ⟨g_36, hd⟩ := zgd_some hd
    refine z_iast F hw t_35 g_36 dX12_moves_44 (fun H locs M_37 eM_37 hw => ?_)
    have hd := zbd_eq eM_37 hd
    refine lv_iconst (v := (0 : Int32)) hx hb dX12_moves_45 (by decide) ?_
    refine lv_istore_n (lv' := [(2, .int (0 : Int32)), (1, .int r_26), (0, .ref (ad k0))]) hx hb dX12_moves_46 rfl hl (by decide) rfl (fun ls hl => ?_)
    exact L47 zF _ _ _ _ _ (lv_sub hl [2, 0] rfl) hw hd
  · have hd := zif_pos c_24 hd
    exact z_vret F hr hlk hw (Option.some.inj hd) dX12_moves_9
