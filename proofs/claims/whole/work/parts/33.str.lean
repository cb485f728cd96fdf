theorem dX6_isWord_0 : decode cX6_isWord 0 = .ok (.aload_n 0, 1) := by decide +kernel
theorem dX6_isWord_1 : decode cX6_isWord 1 = .ok (.getfield 37, 3) := by decide +kernel
theorem dX6_isWord_4 : decode cX6_isWord 4 = .ok (.iconst 1, 1) := by decide +kernel
theorem dX6_isWord_5 : decode cX6_isWord 5 = .ok (.if_icmp .ne 18, 3) := by decide +kernel
theorem dX6_isWord_8 : decode cX6_isWord 8 = .ok (.aload_n 0, 1) := by decide +kernel
theorem dX6_isWord_9 : decode cX6_isWord 9 = .ok (.getfield 80, 3) := by decide +kernel
theorem dX6_isWord_12 : decode cX6_isWord 12 = .ok (.aload_n 1, 1) := by decide +kernel
theorem dX6_isWord_13 : decode cX6_isWord 13 = .ok (.invokestatic 191, 3) := by decide +kernel
theorem dX6_isWord_16 : decode cX6_isWord 16 = .ok (.if_icmp .ne 7, 3) := by decide +kernel
theorem dX6_isWord_19 : decode cX6_isWord 19 = .ok (.iconst 1, 1) := by decide +kernel
theorem dX6_isWord_20 : decode cX6_isWord 20 = .ok (.goto 4, 3) := by decide +kernel
theorem dX6_isWord_23 : decode cX6_isWord 23 = .ok (.iconst 0, 1) := by decide +kernel
theorem dX6_isWord_24 : decode cX6_isWord 24 = .ok (.ireturn, 1) := by decide +kernel
theorem dX6_isName_0 : decode cX6_isName 0 = .ok (.aload_n 0, 1) := by decide +kernel
theorem dX6_isName_1 : decode cX6_isName 1 = .ok (.getfield 37, 3) := by decide +kernel
theorem dX6_isName_4 : decode cX6_isName 4 = .ok (.iconst 1, 1) := by decide +kernel
theorem dX6_isName_5 : decode cX6_isName 5 = .ok (.if_icmp .ne 124, 3) := by decide +kernel
theorem dX6_isName_8 : decode cX6_isName 8 = .ok (.aload_n 0, 1) := by decide +kernel
theorem dX6_isName_9 : decode cX6_isName 9 = .ok (.ldc 40, 2) := by decide +kernel
theorem dX6_isName_11 : decode cX6_isName 11 = .ok (.invokevirtual 42, 3) := by decide +kernel
theorem dX6_isName_14 : decode cX6_isName 14 = .ok (.ifCond .ne 115, 3) := by decide +kernel
theorem dX6_isName_17 : decode cX6_isName 17 = .ok (.aload_n 0, 1) := by decide +kernel
theorem dX6_isName_18 : decode cX6_isName 18 = .ok (.ldc 50, 2) := by decide +kernel
theorem dX6_isName_20 : decode cX6_isName 20 = .ok (.invokevirtual 42, 3) := by decide +kernel
theorem dX6_isName_23 : decode cX6_isName 23 = .ok (.ifCond .ne 106, 3) := by decide +kernel
theorem dX6_isName_26 : decode cX6_isName 26 = .ok (.aload_n 0, 1) := by decide +kernel
theorem dX6_isName_27 : decode cX6_isName 27 = .ok (.ldc 55, 2) := by decide +kernel
theorem dX6_isName_29 : decode cX6_isName 29 = .ok (.invokevirtual 42, 3) := by decide +kernel
theorem dX6_isName_32 : decode cX6_isName 32 = .ok (.ifCond .ne 97, 3) := by decide +kernel
theorem dX6_isName_35 : decode cX6_isName 35 = .ok (.aload_n 0, 1) := by decide +kernel
theorem dX6_isName_36 : decode cX6_isName 36 = .ok (.ldc 60, 2) := by decide +kernel
theorem dX6_isName_38 : decode cX6_isName 38 = .ok (.invokevirtual 42, 3) := by decide +kernel
theorem dX6_isName_41 : decode cX6_isName 41 = .ok (.ifCond .ne 88, 3) := by decide +kernel
theorem dX6_isName_44 : decode cX6_isName 44 = .ok (.aload_n 0, 1) := by decide +kernel
theorem dX6_isName_45 : decode cX6_isName 45 = .ok (.ldc 65, 2) := by decide +kernel
theorem dX6_isName_47 : decode cX6_isName 47 = .ok (.invokevirtual 42, 3) := by decide +kernel
theorem dX6_isName_50 : decode cX6_isName 50 = .ok (.ifCond .ne 79, 3) := by decide +kernel
theorem dX6_isName_53 : decode cX6_isName 53 = .ok (.aload_n 0, 1) := by decide +kernel
theorem dX6_isName_54 : decode cX6_isName 54 = .ok (.ldc 96, 2) := by decide +kernel
theorem dX6_isName_56 : decode cX6_isName 56 = .ok (.invokevirtual 42, 3) := by decide +kernel
theorem dX6_isName_59 : decode cX6_isName 59 = .ok (.ifCond .ne 70, 3) := by decide +kernel
theorem dX6_isName_62 : decode cX6_isName 62 = .ok (.aload_n 0, 1) := by decide +kernel
theorem dX6_isName_63 : decode cX6_isName 63 = .ok (.ldc 110, 2) := by decide +kernel
theorem dX6_isName_65 : decode cX6_isName 65 = .ok (.invokevirtual 42, 3) := by decide +kernel
theorem dX6_isName_68 : decode cX6_isName 68 = .ok (.ifCond .ne 61, 3) := by decide +kernel
theorem dX6_isName_71 : decode cX6_isName 71 = .ok (.aload_n 0, 1) := by decide +kernel
theorem dX6_isName_72 : decode cX6_isName 72 = .ok (.ldc 114, 2) := by decide +kernel
theorem dX6_isName_74 : decode cX6_isName 74 = .ok (.invokevirtual 42, 3) := by decide +kernel
theorem dX6_isName_77 : decode cX6_isName 77 = .ok (.ifCond .ne 52, 3) := by decide +kernel
theorem dX6_isName_80 : decode cX6_isName 80 = .ok (.aload_n 0, 1) := by decide +kernel
theorem dX6_isName_81 : decode cX6_isName 81 = .ok (.ldc 129, 2) := by decide +kernel
theorem dX6_isName_83 : decode cX6_isName 83 = .ok (.invokevirtual 42, 3) := by decide +kernel
theorem dX6_isName_86 : decode cX6_isName 86 = .ok (.ifCond .ne 43, 3) := by decide +kernel
theorem dX6_isName_89 : decode cX6_isName 89 = .ok (.aload_n 0, 1) := by decide +kernel
theorem dX6_isName_90 : decode cX6_isName 90 = .ok (.ldc 133, 2) := by decide +kernel
theorem dX6_isName_92 : decode cX6_isName 92 = .ok (.invokevirtual 42, 3) := by decide +kernel
theorem dX6_isName_95 : decode cX6_isName 95 = .ok (.ifCond .ne 34, 3) := by decide +kernel
theorem dX6_isName_98 : decode cX6_isName 98 = .ok (.aload_n 0, 1) := by decide +kernel
theorem dX6_isName_99 : decode cX6_isName 99 = .ok (.ldc 137, 2) := by decide +kernel
theorem dX6_isName_101 : decode cX6_isName 101 = .ok (.invokevirtual 42, 3) := by decide +kernel
theorem dX6_isName_104 : decode cX6_isName 104 = .ok (.ifCond .ne 25, 3) := by decide +kernel
theorem dX6_isName_107 : decode cX6_isName 107 = .ok (.aload_n 0, 1) := by decide +kernel
theorem dX6_isName_108 : decode cX6_isName 108 = .ok (.ldc 176, 2) := by decide +kernel
theorem dX6_isName_110 : decode cX6_isName 110 = .ok (.invokevirtual 42, 3) := by decide +kernel
theorem dX6_isName_113 : decode cX6_isName 113 = .ok (.ifCond .ne 16, 3) := by decide +kernel
theorem dX6_isName_116 : decode cX6_isName 116 = .ok (.aload_n 0, 1) := by decide +kernel
theorem dX6_isName_117 : decode cX6_isName 117 = .ok (.ldc 180, 2) := by decide +kernel
theorem dX6_isName_119 : decode cX6_isName 119 = .ok (.invokevirtual 42, 3) := by decide +kernel
theorem dX6_isName_122 : decode cX6_isName 122 = .ok (.ifCond .ne 7, 3) := by decide +kernel
theorem dX6_isName_125 : decode cX6_isName 125 = .ok (.iconst 1, 1) := by decide +kernel
theorem dX6_isName_126 : decode cX6_isName 126 = .ok (.goto 4, 3) := by decide +kernel
theorem dX6_isName_129 : decode cX6_isName 129 = .ok (.iconst 0, 1) := by decide +kernel
theorem dX6_isName_130 : decode cX6_isName 130 = .ok (.ireturn, 1) := by decide +kernel
theorem dX6_takeWord_0 : decode cX6_takeWord 0 = .ok (.aload_n 0, 1) := by decide +kernel
theorem dX6_takeWord_1 : decode cX6_takeWord 1 = .ok (.aload_n 1, 1) := by decide +kernel
theorem dX6_takeWord_2 : decode cX6_takeWord 2 = .ok (.invokevirtual 42, 3) := by decide +kernel
theorem dX6_takeWord_5 : decode cX6_takeWord 5 = .ok (.ifCond .ne 9, 3) := by decide +kernel
theorem dX6_takeWord_8 : decode cX6_takeWord 8 = .ok (.aload_n 0, 1) := by decide +kernel
theorem dX6_takeWord_9 : decode cX6_takeWord 9 = .ok (.iconst 2, 1) := by decide +kernel
theorem dX6_takeWord_10 : decode cX6_takeWord 10 = .ok (.invokevirtual 70, 3) := by decide +kernel
theorem dX6_takeWord_13 : decode cX6_takeWord 13 = .ok (.ireturn, 1) := by decide +kernel
theorem dX6_takeWord_14 : decode cX6_takeWord 14 = .ok (.aload_n 0, 1) := by decide +kernel
theorem dX6_takeWord_15 : decode cX6_takeWord 15 = .ok (.invokevirtual 34, 3) := by decide +kernel
theorem dX6_takeWord_18 : decode cX6_takeWord 18 = .ok (.iconst 1, 1) := by decide +kernel
theorem dX6_takeWord_19 : decode cX6_takeWord 19 = .ok (.ireturn, 1) := by decide +kernel
theorem dX6_readAxis_0 : decode cX6_readAxis 0 = .ok (.aload_n 0, 1) := by decide +kernel
theorem dX6_readAxis_1 : decode cX6_readAxis 1 = .ok (.getfield 19, 3) := by decide +kernel
theorem dX6_readAxis_4 : decode cX6_readAxis 4 = .ok (.getfield 74, 3) := by decide +kernel
theorem dX6_readAxis_7 : decode cX6_readAxis 7 = .ok (.iconst 3, 1) := by decide +kernel
theorem dX6_readAxis_8 : decode cX6_readAxis 8 = .ok (.if_icmp .lt 9, 3) := by decide +kernel
theorem dX6_readAxis_11 : decode cX6_readAxis 11 = .ok (.aload_n 0, 1) := by decide +kernel
theorem dX6_readAxis_12 : decode cX6_readAxis 12 = .ok (.iconst 5, 1) := by decide +kernel
theorem dX6_readAxis_13 : decode cX6_readAxis 13 = .ok (.invokevirtual 70, 3) := by decide +kernel
theorem dX6_readAxis_16 : decode cX6_readAxis 16 = .ok (.ireturn, 1) := by decide +kernel
theorem dX6_readAxis_17 : decode cX6_readAxis 17 = .ok (.aload_n 0, 1) := by decide +kernel
theorem dX6_readAxis_18 : decode cX6_readAxis 18 = .ok (.invokevirtual 34, 3) := by decide +kernel
theorem dX6_readAxis_21 : decode cX6_readAxis 21 = .ok (.aload_n 0, 1) := by decide +kernel
theorem dX6_readAxis_22 : decode cX6_readAxis 22 = .ok (.invokevirtual 77, 3) := by decide +kernel
theorem dX6_readAxis_25 : decode cX6_readAxis 25 = .ok (.ifCond .ne 9, 3) := by decide +kernel
theorem dX6_readAxis_28 : decode cX6_readAxis 28 = .ok (.aload_n 0, 1) := by decide +kernel
theorem dX6_readAxis_29 : decode cX6_readAxis 29 = .ok (.iconst 2, 1) := by decide +kernel
theorem dX6_readAxis_30 : decode cX6_readAxis 30 = .ok (.invokevirtual 70, 3) := by decide +kernel
theorem dX6_readAxis_33 : decode cX6_readAxis 33 = .ok (.ireturn, 1) := by decide +kernel
theorem dX6_readAxis_34 : decode cX6_readAxis 34 = .ok (.aload_n 0, 1) := by decide +kernel
theorem dX6_readAxis_35 : decode cX6_readAxis 35 = .ok (.getfield 19, 3) := by decide +kernel
theorem dX6_readAxis_38 : decode cX6_readAxis 38 = .ok (.aload_n 0, 1) := by decide +kernel
theorem dX6_readAxis_39 : decode cX6_readAxis 39 = .ok (.getfield 80, 3) := by decide +kernel
theorem dX6_readAxis_42 : decode cX6_readAxis 42 = .ok (.invokevirtual 83, 3) := by decide +kernel
theorem dX6_readAxis_45 : decode cX6_readAxis 45 = .ok (.iconst (-1), 1) := by decide +kernel
theorem dX6_readAxis_46 : decode cX6_readAxis 46 = .ok (.if_icmp .eq 9, 3) := by decide +kernel
theorem dX6_readAxis_49 : decode cX6_readAxis 49 = .ok (.aload_n 0, 1) := by decide +kernel
theorem dX6_readAxis_50 : decode cX6_readAxis 50 = .ok (.iconst 3, 1) := by decide +kernel
theorem dX6_readAxis_51 : decode cX6_readAxis 51 = .ok (.invokevirtual 70, 3) := by decide +kernel
theorem dX6_readAxis_54 : decode cX6_readAxis 54 = .ok (.ireturn, 1) := by decide +kernel
theorem dX6_readAxis_55 : decode cX6_readAxis 55 = .ok (.aload_n 0, 1) := by decide +kernel
theorem dX6_readAxis_56 : decode cX6_readAxis 56 = .ok (.getfield 19, 3) := by decide +kernel
theorem dX6_readAxis_59 : decode cX6_readAxis 59 = .ok (.getfield 87, 3) := by decide +kernel
theorem dX6_readAxis_62 : decode cX6_readAxis 62 = .ok (.aload_n 0, 1) := by decide +kernel
theorem dX6_readAxis_63 : decode cX6_readAxis 63 = .ok (.getfield 19, 3) := by decide +kernel
theorem dX6_readAxis_66 : decode cX6_readAxis 66 = .ok (.getfield 74, 3) := by decide +kernel
theorem dX6_readAxis_69 : decode cX6_readAxis 69 = .ok (.aaload, 1) := by decide +kernel
theorem dX6_readAxis_70 : decode cX6_readAxis 70 = .ok (.astore_n 1, 1) := by decide +kernel
theorem dX6_readAxis_71 : decode cX6_readAxis 71 = .ok (.aload_n 1, 1) := by decide +kernel
theorem dX6_readAxis_72 : decode cX6_readAxis 72 = .ok (.aload_n 0, 1) := by decide +kernel
theorem dX6_readAxis_73 : decode cX6_readAxis 73 = .ok (.getfield 80, 3) := by decide +kernel
theorem dX6_readAxis_76 : decode cX6_readAxis 76 = .ok (.invokevirtual 91, 3) := by decide +kernel
theorem dX6_readAxis_79 : decode cX6_readAxis 79 = .ok (.aload_n 0, 1) := by decide +kernel
theorem dX6_readAxis_80 : decode cX6_readAxis 80 = .ok (.invokevirtual 34, 3) := by decide +kernel
theorem dX6_readAxis_83 : decode cX6_readAxis 83 = .ok (.aload_n 0, 1) := by decide +kernel
theorem dX6_readAxis_84 : decode cX6_readAxis 84 = .ok (.ldc 96, 2) := by decide +kernel
theorem dX6_readAxis_86 : decode cX6_readAxis 86 = .ok (.invokevirtual 98, 3) := by decide +kernel
theorem dX6_readAxis_89 : decode cX6_readAxis 89 = .ok (.ifCond .eq 13, 3) := by decide +kernel
theorem dX6_readAxis_92 : decode cX6_readAxis 92 = .ok (.aload_n 0, 1) := by decide +kernel
theorem dX6_readAxis_93 : decode cX6_readAxis 93 = .ok (.iconst 1, 1) := by decide +kernel
theorem dX6_readAxis_94 : decode cX6_readAxis 94 = .ok (.bipush 60, 2) := by decide +kernel
theorem dX6_readAxis_96 : decode cX6_readAxis 96 = .ok (.invokevirtual 101, 3) := by decide +kernel
theorem dX6_readAxis_99 : decode cX6_readAxis 99 = .ok (.ifCond .ne 5, 3) := by decide +kernel
theorem dX6_readAxis_102 : decode cX6_readAxis 102 = .ok (.iconst 0, 1) := by decide +kernel
theorem dX6_readAxis_103 : decode cX6_readAxis 103 = .ok (.ireturn, 1) := by decide +kernel
theorem dX6_readAxis_104 : decode cX6_readAxis 104 = .ok (.aload_n 1, 1) := by decide +kernel
theorem dX6_readAxis_105 : decode cX6_readAxis 105 = .ok (.aload_n 0, 1) := by decide +kernel
theorem dX6_readAxis_106 : decode cX6_readAxis 106 = .ok (.getfield 105, 3) := by decide +kernel
theorem dX6_readAxis_109 : decode cX6_readAxis 109 = .ok (.putfield 108, 3) := by decide +kernel
theorem dX6_readAxis_112 : decode cX6_readAxis 112 = .ok (.aload_n 0, 1) := by decide +kernel
theorem dX6_readAxis_113 : decode cX6_readAxis 113 = .ok (.ldc 110, 2) := by decide +kernel
theorem dX6_readAxis_115 : decode cX6_readAxis 115 = .ok (.invokevirtual 98, 3) := by decide +kernel
theorem dX6_readAxis_118 : decode cX6_readAxis 118 = .ok (.ifCond .eq 13, 3) := by decide +kernel
theorem dX6_readAxis_121 : decode cX6_readAxis 121 = .ok (.aload_n 0, 1) := by decide +kernel
theorem dX6_readAxis_122 : decode cX6_readAxis 122 = .ok (.iconst 1, 1) := by decide +kernel
theorem dX6_readAxis_123 : decode cX6_readAxis 123 = .ok (.bipush 30, 2) := by decide +kernel
theorem dX6_readAxis_125 : decode cX6_readAxis 125 = .ok (.invokevirtual 101, 3) := by decide +kernel
theorem dX6_readAxis_128 : decode cX6_readAxis 128 = .ok (.ifCond .ne 5, 3) := by decide +kernel
theorem dX6_readAxis_131 : decode cX6_readAxis 131 = .ok (.iconst 0, 1) := by decide +kernel
theorem dX6_readAxis_132 : decode cX6_readAxis 132 = .ok (.ireturn, 1) := by decide +kernel
theorem dX6_readAxis_133 : decode cX6_readAxis 133 = .ok (.aload_n 1, 1) := by decide +kernel
theorem dX6_readAxis_134 : decode cX6_readAxis 134 = .ok (.aload_n 0, 1) := by decide +kernel
theorem dX6_readAxis_135 : decode cX6_readAxis 135 = .ok (.getfield 105, 3) := by decide +kernel
theorem dX6_readAxis_138 : decode cX6_readAxis 138 = .ok (.putfield 112, 3) := by decide +kernel
theorem dX6_readAxis_141 : decode cX6_readAxis 141 = .ok (.aload_n 0, 1) := by decide +kernel
theorem dX6_readAxis_142 : decode cX6_readAxis 142 = .ok (.ldc 114, 2) := by decide +kernel
theorem dX6_readAxis_144 : decode cX6_readAxis 144 = .ok (.invokevirtual 98, 3) := by decide +kernel
theorem dX6_readAxis_147 : decode cX6_readAxis 147 = .ok (.ifCond .eq 13, 3) := by decide +kernel
theorem dX6_readAxis_150 : decode cX6_readAxis 150 = .ok (.aload_n 0, 1) := by decide +kernel
theorem dX6_readAxis_151 : decode cX6_readAxis 151 = .ok (.iconst 1, 1) := by decide +kernel
theorem dX6_readAxis_152 : decode cX6_readAxis 152 = .ok (.bipush 10, 2) := by decide +kernel
theorem dX6_readAxis_154 : decode cX6_readAxis 154 = .ok (.invokevirtual 101, 3) := by decide +kernel
theorem dX6_readAxis_157 : decode cX6_readAxis 157 = .ok (.ifCond .ne 5, 3) := by decide +kernel
theorem dX6_readAxis_160 : decode cX6_readAxis 160 = .ok (.iconst 0, 1) := by decide +kernel
theorem dX6_readAxis_161 : decode cX6_readAxis 161 = .ok (.ireturn, 1) := by decide +kernel
theorem dX6_readAxis_162 : decode cX6_readAxis 162 = .ok (.aload_n 1, 1) := by decide +kernel
theorem dX6_readAxis_163 : decode cX6_readAxis 163 = .ok (.aload_n 0, 1) := by decide +kernel
theorem dX6_readAxis_164 : decode cX6_readAxis 164 = .ok (.getfield 105, 3) := by decide +kernel
theorem dX6_readAxis_167 : decode cX6_readAxis 167 = .ok (.putfield 116, 3) := by decide +kernel
theorem dX6_readAxis_170 : decode cX6_readAxis 170 = .ok (.aload_n 0, 1) := by decide +kernel
theorem dX6_readAxis_171 : decode cX6_readAxis 171 = .ok (.getfield 19, 3) := by decide +kernel
theorem dX6_readAxis_174 : decode cX6_readAxis 174 = .ok (.dup, 1) := by decide +kernel
theorem dX6_readAxis_175 : decode cX6_readAxis 175 = .ok (.getfield 74, 3) := by decide +kernel
theorem dX6_readAxis_178 : decode cX6_readAxis 178 = .ok (.iconst 1, 1) := by decide +kernel
theorem dX6_readAxis_179 : decode cX6_readAxis 179 = .ok (.iadd, 1) := by decide +kernel
theorem dX6_readAxis_180 : decode cX6_readAxis 180 = .ok (.putfield 74, 3) := by decide +kernel
theorem dX6_readAxis_183 : decode cX6_readAxis 183 = .ok (.aload_n 0, 1) := by decide +kernel
theorem dX6_readAxis_184 : decode cX6_readAxis 184 = .ok (.invokevirtual 118, 3) := by decide +kernel
theorem dX6_readAxis_187 : decode cX6_readAxis 187 = .ok (.ireturn, 1) := by decide +kernel
theorem dX6_takeAxis_0 : decode cX6_takeAxis 0 = .ok (.aload_n 0, 1) := by decide +kernel
theorem dX6_takeAxis_1 : decode cX6_takeAxis 1 = .ok (.invokevirtual 77, 3) := by decide +kernel
theorem dX6_takeAxis_4 : decode cX6_takeAxis 4 = .ok (.ifCond .ne 11, 3) := by decide +kernel
theorem dX6_takeAxis_7 : decode cX6_takeAxis 7 = .ok (.aload_n 0, 1) := by decide +kernel
theorem dX6_takeAxis_8 : decode cX6_takeAxis 8 = .ok (.iconst 2, 1) := by decide +kernel
theorem dX6_takeAxis_9 : decode cX6_takeAxis 9 = .ok (.invokevirtual 70, 3) := by decide +kernel
theorem dX6_takeAxis_12 : decode cX6_takeAxis 12 = .ok (.pop, 1) := by decide +kernel
theorem dX6_takeAxis_13 : decode cX6_takeAxis 13 = .ok (.iconst (-1), 1) := by decide +kernel
theorem dX6_takeAxis_14 : decode cX6_takeAxis 14 = .ok (.ireturn, 1) := by decide +kernel
theorem dX6_takeAxis_15 : decode cX6_takeAxis 15 = .ok (.aload_n 0, 1) := by decide +kernel
theorem dX6_takeAxis_16 : decode cX6_takeAxis 16 = .ok (.getfield 19, 3) := by decide +kernel
theorem dX6_takeAxis_19 : decode cX6_takeAxis 19 = .ok (.aload_n 0, 1) := by decide +kernel
theorem dX6_takeAxis_20 : decode cX6_takeAxis 20 = .ok (.getfield 80, 3) := by decide +kernel
theorem dX6_takeAxis_23 : decode cX6_takeAxis 23 = .ok (.invokevirtual 83, 3) := by decide +kernel
theorem dX6_takeAxis_26 : decode cX6_takeAxis 26 = .ok (.istore_n 2, 1) := by decide +kernel
theorem dX6_takeAxis_27 : decode cX6_takeAxis 27 = .ok (.iload_n 2, 1) := by decide +kernel
theorem dX6_takeAxis_28 : decode cX6_takeAxis 28 = .ok (.iconst (-1), 1) := by decide +kernel
theorem dX6_takeAxis_29 : decode cX6_takeAxis 29 = .ok (.if_icmp .ne 11, 3) := by decide +kernel
theorem dX6_takeAxis_32 : decode cX6_takeAxis 32 = .ok (.aload_n 0, 1) := by decide +kernel
theorem dX6_takeAxis_33 : decode cX6_takeAxis 33 = .ok (.iconst 3, 1) := by decide +kernel
theorem dX6_takeAxis_34 : decode cX6_takeAxis 34 = .ok (.invokevirtual 70, 3) := by decide +kernel
theorem dX6_takeAxis_37 : decode cX6_takeAxis 37 = .ok (.pop, 1) := by decide +kernel
theorem dX6_takeAxis_38 : decode cX6_takeAxis 38 = .ok (.iconst (-1), 1) := by decide +kernel
theorem dX6_takeAxis_39 : decode cX6_takeAxis 39 = .ok (.ireturn, 1) := by decide +kernel
theorem dX6_takeAxis_40 : decode cX6_takeAxis 40 = .ok (.iload_n 1, 1) := by decide +kernel
theorem dX6_takeAxis_41 : decode cX6_takeAxis 41 = .ok (.ifCond .eq 26, 3) := by decide +kernel
theorem dX6_takeAxis_44 : decode cX6_takeAxis 44 = .ok (.aload_n 0, 1) := by decide +kernel
theorem dX6_takeAxis_45 : decode cX6_takeAxis 45 = .ok (.getfield 19, 3) := by decide +kernel
theorem dX6_takeAxis_48 : decode cX6_takeAxis 48 = .ok (.getfield 87, 3) := by decide +kernel
theorem dX6_takeAxis_51 : decode cX6_takeAxis 51 = .ok (.iload_n 2, 1) := by decide +kernel
theorem dX6_takeAxis_52 : decode cX6_takeAxis 52 = .ok (.aaload, 1) := by decide +kernel
theorem dX6_takeAxis_53 : decode cX6_takeAxis 53 = .ok (.getfield 125, 3) := by decide +kernel
theorem dX6_takeAxis_56 : decode cX6_takeAxis 56 = .ok (.ifCond .eq 11, 3) := by decide +kernel
theorem dX6_takeAxis_59 : decode cX6_takeAxis 59 = .ok (.aload_n 0, 1) := by decide +kernel
theorem dX6_takeAxis_60 : decode cX6_takeAxis 60 = .ok (.iconst 5, 1) := by decide +kernel
theorem dX6_takeAxis_61 : decode cX6_takeAxis 61 = .ok (.invokevirtual 70, 3) := by decide +kernel
theorem dX6_takeAxis_64 : decode cX6_takeAxis 64 = .ok (.pop, 1) := by decide +kernel
theorem dX6_takeAxis_65 : decode cX6_takeAxis 65 = .ok (.iconst (-1), 1) := by decide +kernel
theorem dX6_takeAxis_66 : decode cX6_takeAxis 66 = .ok (.ireturn, 1) := by decide +kernel
theorem dX6_takeAxis_67 : decode cX6_takeAxis 67 = .ok (.aload_n 0, 1) := by decide +kernel
theorem dX6_takeAxis_68 : decode cX6_takeAxis 68 = .ok (.invokevirtual 34, 3) := by decide +kernel
theorem dX6_takeAxis_71 : decode cX6_takeAxis 71 = .ok (.iload_n 2, 1) := by decide +kernel
theorem dX6_takeAxis_72 : decode cX6_takeAxis 72 = .ok (.ireturn, 1) := by decide +kernel
theorem dX6_readMotor_0 : decode cX6_readMotor 0 = .ok (.aload_n 0, 1) := by decide +kernel
theorem dX6_readMotor_1 : decode cX6_readMotor 1 = .ok (.invokevirtual 34, 3) := by decide +kernel
theorem dX6_readMotor_4 : decode cX6_readMotor 4 = .ok (.aload_n 0, 1) := by decide +kernel
theorem dX6_readMotor_5 : decode cX6_readMotor 5 = .ok (.iconst 1, 1) := by decide +kernel
theorem dX6_readMotor_6 : decode cX6_readMotor 6 = .ok (.invokevirtual 121, 3) := by decide +kernel
theorem dX6_readMotor_9 : decode cX6_readMotor 9 = .ok (.istore_n 1, 1) := by decide +kernel
theorem dX6_readMotor_10 : decode cX6_readMotor 10 = .ok (.iload_n 1, 1) := by decide +kernel
theorem dX6_readMotor_11 : decode cX6_readMotor 11 = .ok (.iconst (-1), 1) := by decide +kernel
theorem dX6_readMotor_12 : decode cX6_readMotor 12 = .ok (.if_icmp .ne 5, 3) := by decide +kernel
theorem dX6_readMotor_15 : decode cX6_readMotor 15 = .ok (.iconst 0, 1) := by decide +kernel
theorem dX6_readMotor_16 : decode cX6_readMotor 16 = .ok (.ireturn, 1) := by decide +kernel
theorem dX6_readMotor_17 : decode cX6_readMotor 17 = .ok (.aload_n 0, 1) := by decide +kernel
theorem dX6_readMotor_18 : decode cX6_readMotor 18 = .ok (.getfield 19, 3) := by decide +kernel
theorem dX6_readMotor_21 : decode cX6_readMotor 21 = .ok (.getfield 87, 3) := by decide +kernel
theorem dX6_readMotor_24 : decode cX6_readMotor 24 = .ok (.iload_n 1, 1) := by decide +kernel
theorem dX6_readMotor_25 : decode cX6_readMotor 25 = .ok (.aaload, 1) := by decide +kernel
theorem dX6_readMotor_26 : decode cX6_readMotor 26 = .ok (.astore_n 2, 1) := by decide +kernel
theorem dX6_readMotor_27 : decode cX6_readMotor 27 = .ok (.aload_n 2, 1) := by decide +kernel
theorem dX6_readMotor_28 : decode cX6_readMotor 28 = .ok (.iconst 1, 1) := by decide +kernel
theorem dX6_readMotor_29 : decode cX6_readMotor 29 = .ok (.putfield 125, 3) := by decide +kernel
theorem dX6_readMotor_32 : decode cX6_readMotor 32 = .ok (.aload_n 0, 1) := by decide +kernel
theorem dX6_readMotor_33 : decode cX6_readMotor 33 = .ok (.ldc 129, 2) := by decide +kernel
theorem dX6_readMotor_35 : decode cX6_readMotor 35 = .ok (.invokevirtual 98, 3) := by decide +kernel
theorem dX6_readMotor_38 : decode cX6_readMotor 38 = .ok (.ifCond .eq 14, 3) := by decide +kernel
theorem dX6_readMotor_41 : decode cX6_readMotor 41 = .ok (.aload_n 0, 1) := by decide +kernel
theorem dX6_readMotor_42 : decode cX6_readMotor 42 = .ok (.iconst 1, 1) := by decide +kernel
theorem dX6_readMotor_43 : decode cX6_readMotor 43 = .ok (.sipush 9999, 3) := by decide +kernel
theorem dX6_readMotor_46 : decode cX6_readMotor 46 = .ok (.invokevirtual 101, 3) := by decide +kernel
theorem dX6_readMotor_49 : decode cX6_readMotor 49 = .ok (.ifCond .ne 5, 3) := by decide +kernel
theorem dX6_readMotor_52 : decode cX6_readMotor 52 = .ok (.iconst 0, 1) := by decide +kernel
theorem dX6_readMotor_53 : decode cX6_readMotor 53 = .ok (.ireturn, 1) := by decide +kernel
theorem dX6_readMotor_54 : decode cX6_readMotor 54 = .ok (.aload_n 2, 1) := by decide +kernel
theorem dX6_readMotor_55 : decode cX6_readMotor 55 = .ok (.aload_n 0, 1) := by decide +kernel
theorem dX6_readMotor_56 : decode cX6_readMotor 56 = .ok (.getfield 105, 3) := by decide +kernel
theorem dX6_readMotor_59 : decode cX6_readMotor 59 = .ok (.putfield 131, 3) := by decide +kernel
theorem dX6_readMotor_62 : decode cX6_readMotor 62 = .ok (.aload_n 0, 1) := by decide +kernel
theorem dX6_readMotor_63 : decode cX6_readMotor 63 = .ok (.ldc 133, 2) := by decide +kernel
theorem dX6_readMotor_65 : decode cX6_readMotor 65 = .ok (.invokevirtual 98, 3) := by decide +kernel
theorem dX6_readMotor_68 : decode cX6_readMotor 68 = .ok (.ifCond .eq 14, 3) := by decide +kernel
theorem dX6_readMotor_71 : decode cX6_readMotor 71 = .ok (.aload_n 0, 1) := by decide +kernel
theorem dX6_readMotor_72 : decode cX6_readMotor 72 = .ok (.iconst 1, 1) := by decide +kernel
theorem dX6_readMotor_73 : decode cX6_readMotor 73 = .ok (.sipush 999, 3) := by decide +kernel
theorem dX6_readMotor_76 : decode cX6_readMotor 76 = .ok (.invokevirtual 101, 3) := by decide +kernel
theorem dX6_readMotor_79 : decode cX6_readMotor 79 = .ok (.ifCond .ne 5, 3) := by decide +kernel
theorem dX6_readMotor_82 : decode cX6_readMotor 82 = .ok (.iconst 0, 1) := by decide +kernel
theorem dX6_readMotor_83 : decode cX6_readMotor 83 = .ok (.ireturn, 1) := by decide +kernel
theorem dX6_readMotor_84 : decode cX6_readMotor 84 = .ok (.aload_n 2, 1) := by decide +kernel
theorem dX6_readMotor_85 : decode cX6_readMotor 85 = .ok (.aload_n 0, 1) := by decide +kernel
theorem dX6_readMotor_86 : decode cX6_readMotor 86 = .ok (.getfield 105, 3) := by decide +kernel
theorem dX6_readMotor_89 : decode cX6_readMotor 89 = .ok (.putfield 135, 3) := by decide +kernel
theorem dX6_readMotor_92 : decode cX6_readMotor 92 = .ok (.aload_n 0, 1) := by decide +kernel
theorem dX6_readMotor_93 : decode cX6_readMotor 93 = .ok (.ldc 137, 2) := by decide +kernel
theorem dX6_readMotor_95 : decode cX6_readMotor 95 = .ok (.invokevirtual 98, 3) := by decide +kernel
theorem dX6_readMotor_98 : decode cX6_readMotor 98 = .ok (.ifCond .eq 13, 3) := by decide +kernel
theorem dX6_readMotor_101 : decode cX6_readMotor 101 = .ok (.aload_n 0, 1) := by decide +kernel
theorem dX6_readMotor_102 : decode cX6_readMotor 102 = .ok (.iconst 0, 1) := by decide +kernel
theorem dX6_readMotor_103 : decode cX6_readMotor 103 = .ok (.bipush 90, 2) := by decide +kernel
theorem dX6_readMotor_105 : decode cX6_readMotor 105 = .ok (.invokevirtual 101, 3) := by decide +kernel
theorem dX6_readMotor_108 : decode cX6_readMotor 108 = .ok (.ifCond .ne 5, 3) := by decide +kernel
theorem dX6_readMotor_111 : decode cX6_readMotor 111 = .ok (.iconst 0, 1) := by decide +kernel
theorem dX6_readMotor_112 : decode cX6_readMotor 112 = .ok (.ireturn, 1) := by decide +kernel
theorem dX6_readMotor_113 : decode cX6_readMotor 113 = .ok (.aload_n 2, 1) := by decide +kernel
theorem dX6_readMotor_114 : decode cX6_readMotor 114 = .ok (.aload_n 0, 1) := by decide +kernel
theorem dX6_readMotor_115 : decode cX6_readMotor 115 = .ok (.getfield 105, 3) := by decide +kernel
theorem dX6_readMotor_118 : decode cX6_readMotor 118 = .ok (.putfield 139, 3) := by decide +kernel
theorem dX6_readMotor_121 : decode cX6_readMotor 121 = .ok (.aload_n 0, 1) := by decide +kernel
theorem dX6_readMotor_122 : decode cX6_readMotor 122 = .ok (.invokevirtual 118, 3) := by decide +kernel
theorem dX6_readMotor_125 : decode cX6_readMotor 125 = .ok (.ireturn, 1) := by decide +kernel
theorem dX6_readBand_0 : decode cX6_readBand 0 = .ok (.aload_n 0, 1) := by decide +kernel
theorem dX6_readBand_1 : decode cX6_readBand 1 = .ok (.getfield 19, 3) := by decide +kernel
theorem dX6_readBand_4 : decode cX6_readBand 4 = .ok (.getfield 141, 3) := by decide +kernel
theorem dX6_readBand_7 : decode cX6_readBand 7 = .ok (.bipush 6, 2) := by decide +kernel
theorem dX6_readBand_9 : decode cX6_readBand 9 = .ok (.if_icmp .lt 9, 3) := by decide +kernel
theorem dX6_readBand_12 : decode cX6_readBand 12 = .ok (.aload_n 0, 1) := by decide +kernel
theorem dX6_readBand_13 : decode cX6_readBand 13 = .ok (.iconst 5, 1) := by decide +kernel
theorem dX6_readBand_14 : decode cX6_readBand 14 = .ok (.invokevirtual 70, 3) := by decide +kernel
theorem dX6_readBand_17 : decode cX6_readBand 17 = .ok (.ireturn, 1) := by decide +kernel
theorem dX6_readBand_18 : decode cX6_readBand 18 = .ok (.aload_n 0, 1) := by decide +kernel
theorem dX6_readBand_19 : decode cX6_readBand 19 = .ok (.invokevirtual 34, 3) := by decide +kernel
theorem dX6_readBand_22 : decode cX6_readBand 22 = .ok (.aload_n 0, 1) := by decide +kernel
theorem dX6_readBand_23 : decode cX6_readBand 23 = .ok (.iconst 0, 1) := by decide +kernel
theorem dX6_readBand_24 : decode cX6_readBand 24 = .ok (.invokevirtual 121, 3) := by decide +kernel
theorem dX6_readBand_27 : decode cX6_readBand 27 = .ok (.istore_n 1, 1) := by decide +kernel
theorem dX6_readBand_28 : decode cX6_readBand 28 = .ok (.iload_n 1, 1) := by decide +kernel
theorem dX6_readBand_29 : decode cX6_readBand 29 = .ok (.iconst (-1), 1) := by decide +kernel
theorem dX6_readBand_30 : decode cX6_readBand 30 = .ok (.if_icmp .eq 13, 3) := by decide +kernel
theorem dX6_readBand_33 : decode cX6_readBand 33 = .ok (.aload_n 0, 1) := by decide +kernel
theorem dX6_readBand_34 : decode cX6_readBand 34 = .ok (.iconst 1, 1) := by decide +kernel
theorem dX6_readBand_35 : decode cX6_readBand 35 = .ok (.bipush 60, 2) := by decide +kernel
theorem dX6_readBand_37 : decode cX6_readBand 37 = .ok (.invokevirtual 101, 3) := by decide +kernel
theorem dX6_readBand_40 : decode cX6_readBand 40 = .ok (.ifCond .ne 5, 3) := by decide +kernel
theorem dX6_readBand_43 : decode cX6_readBand 43 = .ok (.iconst 0, 1) := by decide +kernel
theorem dX6_readBand_44 : decode cX6_readBand 44 = .ok (.ireturn, 1) := by decide +kernel
theorem dX6_readBand_45 : decode cX6_readBand 45 = .ok (.aload_n 0, 1) := by decide +kernel
theorem dX6_readBand_46 : decode cX6_readBand 46 = .ok (.getfield 105, 3) := by decide +kernel
theorem dX6_readBand_49 : decode cX6_readBand 49 = .ok (.istore_n 2, 1) := by decide +kernel
theorem dX6_readBand_50 : decode cX6_readBand 50 = .ok (.aload_n 0, 1) := by decide +kernel
theorem dX6_readBand_51 : decode cX6_readBand 51 = .ok (.iload_n 2, 1) := by decide +kernel
theorem dX6_readBand_52 : decode cX6_readBand 52 = .ok (.bipush 60, 2) := by decide +kernel
theorem dX6_readBand_54 : decode cX6_readBand 54 = .ok (.invokevirtual 101, 3) := by decide +kernel
theorem dX6_readBand_57 : decode cX6_readBand 57 = .ok (.ifCond .ne 5, 3) := by decide +kernel
theorem dX6_readBand_60 : decode cX6_readBand 60 = .ok (.iconst 0, 1) := by decide +kernel
theorem dX6_readBand_61 : decode cX6_readBand 61 = .ok (.ireturn, 1) := by decide +kernel
theorem dX6_readBand_62 : decode cX6_readBand 62 = .ok (.aload_n 0, 1) := by decide +kernel
theorem dX6_readBand_63 : decode cX6_readBand 63 = .ok (.getfield 19, 3) := by decide +kernel
theorem dX6_readBand_66 : decode cX6_readBand 66 = .ok (.getfield 144, 3) := by decide +kernel
theorem dX6_readBand_69 : decode cX6_readBand 69 = .ok (.aload_n 0, 1) := by decide +kernel
theorem dX6_readBand_70 : decode cX6_readBand 70 = .ok (.getfield 19, 3) := by decide +kernel
theorem dX6_readBand_73 : decode cX6_readBand 73 = .ok (.getfield 141, 3) := by decide +kernel
theorem dX6_readBand_76 : decode cX6_readBand 76 = .ok (.iload_n 1, 1) := by decide +kernel
theorem dX6_readBand_77 : decode cX6_readBand 77 = .ok (.iastore, 1) := by decide +kernel
theorem dX6_readBand_78 : decode cX6_readBand 78 = .ok (.aload_n 0, 1) := by decide +kernel
theorem dX6_readBand_79 : decode cX6_readBand 79 = .ok (.getfield 19, 3) := by decide +kernel
theorem dX6_readBand_82 : decode cX6_readBand 82 = .ok (.getfield 148, 3) := by decide +kernel
theorem dX6_readBand_85 : decode cX6_readBand 85 = .ok (.aload_n 0, 1) := by decide +kernel
theorem dX6_readBand_86 : decode cX6_readBand 86 = .ok (.getfield 19, 3) := by decide +kernel
theorem dX6_readBand_89 : decode cX6_readBand 89 = .ok (.getfield 141, 3) := by decide +kernel
theorem dX6_readBand_92 : decode cX6_readBand 92 = .ok (.iload_n 2, 1) := by decide +kernel
theorem dX6_readBand_93 : decode cX6_readBand 93 = .ok (.iastore, 1) := by decide +kernel
theorem dX6_readBand_94 : decode cX6_readBand 94 = .ok (.aload_n 0, 1) := by decide +kernel
theorem dX6_readBand_95 : decode cX6_readBand 95 = .ok (.getfield 19, 3) := by decide +kernel
theorem dX6_readBand_98 : decode cX6_readBand 98 = .ok (.getfield 151, 3) := by decide +kernel
theorem dX6_readBand_101 : decode cX6_readBand 101 = .ok (.aload_n 0, 1) := by decide +kernel
theorem dX6_readBand_102 : decode cX6_readBand 102 = .ok (.getfield 19, 3) := by decide +kernel
theorem dX6_readBand_105 : decode cX6_readBand 105 = .ok (.getfield 141, 3) := by decide +kernel
theorem dX6_readBand_108 : decode cX6_readBand 108 = .ok (.aload_n 0, 1) := by decide +kernel
theorem dX6_readBand_109 : decode cX6_readBand 109 = .ok (.getfield 105, 3) := by decide +kernel
theorem dX6_readBand_112 : decode cX6_readBand 112 = .ok (.iastore, 1) := by decide +kernel
theorem dX6_readBand_113 : decode cX6_readBand 113 = .ok (.aload_n 0, 1) := by decide +kernel
theorem dX6_readBand_114 : decode cX6_readBand 114 = .ok (.getfield 19, 3) := by decide +kernel
theorem dX6_readBand_117 : decode cX6_readBand 117 = .ok (.dup, 1) := by decide +kernel
theorem dX6_readBand_118 : decode cX6_readBand 118 = .ok (.getfield 141, 3) := by decide +kernel
theorem dX6_readBand_121 : decode cX6_readBand 121 = .ok (.iconst 1, 1) := by decide +kernel
theorem dX6_readBand_122 : decode cX6_readBand 122 = .ok (.iadd, 1) := by decide +kernel
theorem dX6_readBand_123 : decode cX6_readBand 123 = .ok (.putfield 141, 3) := by decide +kernel
theorem dX6_readBand_126 : decode cX6_readBand 126 = .ok (.aload_n 0, 1) := by decide +kernel
theorem dX6_readBand_127 : decode cX6_readBand 127 = .ok (.invokevirtual 118, 3) := by decide +kernel
theorem dX6_readBand_130 : decode cX6_readBand 130 = .ok (.ireturn, 1) := by decide +kernel
theorem dX6_readCoil_0 : decode cX6_readCoil 0 = .ok (.aload_n 0, 1) := by decide +kernel
theorem dX6_readCoil_1 : decode cX6_readCoil 1 = .ok (.getfield 19, 3) := by decide +kernel
theorem dX6_readCoil_4 : decode cX6_readCoil 4 = .ok (.getfield 173, 3) := by decide +kernel
theorem dX6_readCoil_7 : decode cX6_readCoil 7 = .ok (.ifCond .eq 9, 3) := by decide +kernel
theorem dX6_readCoil_10 : decode cX6_readCoil 10 = .ok (.aload_n 0, 1) := by decide +kernel
theorem dX6_readCoil_11 : decode cX6_readCoil 11 = .ok (.iconst 5, 1) := by decide +kernel
theorem dX6_readCoil_12 : decode cX6_readCoil 12 = .ok (.invokevirtual 70, 3) := by decide +kernel
theorem dX6_readCoil_15 : decode cX6_readCoil 15 = .ok (.ireturn, 1) := by decide +kernel
theorem dX6_readCoil_16 : decode cX6_readCoil 16 = .ok (.aload_n 0, 1) := by decide +kernel
theorem dX6_readCoil_17 : decode cX6_readCoil 17 = .ok (.getfield 19, 3) := by decide +kernel
theorem dX6_readCoil_20 : decode cX6_readCoil 20 = .ok (.iconst 1, 1) := by decide +kernel
theorem dX6_readCoil_21 : decode cX6_readCoil 21 = .ok (.putfield 173, 3) := by decide +kernel
theorem dX6_readCoil_24 : decode cX6_readCoil 24 = .ok (.aload_n 0, 1) := by decide +kernel
theorem dX6_readCoil_25 : decode cX6_readCoil 25 = .ok (.invokevirtual 34, 3) := by decide +kernel
theorem dX6_readCoil_28 : decode cX6_readCoil 28 = .ok (.aload_n 0, 1) := by decide +kernel
theorem dX6_readCoil_29 : decode cX6_readCoil 29 = .ok (.ldc 176, 2) := by decide +kernel
theorem dX6_readCoil_31 : decode cX6_readCoil 31 = .ok (.invokevirtual 98, 3) := by decide +kernel
theorem dX6_readCoil_34 : decode cX6_readCoil 34 = .ok (.ifCond .eq 14, 3) := by decide +kernel
theorem dX6_readCoil_37 : decode cX6_readCoil 37 = .ok (.aload_n 0, 1) := by decide +kernel
theorem dX6_readCoil_38 : decode cX6_readCoil 38 = .ok (.iconst 1, 1) := by decide +kernel
theorem dX6_readCoil_39 : decode cX6_readCoil 39 = .ok (.sipush 2000, 3) := by decide +kernel
theorem dX6_readCoil_42 : decode cX6_readCoil 42 = .ok (.invokevirtual 101, 3) := by decide +kernel
theorem dX6_readCoil_45 : decode cX6_readCoil 45 = .ok (.ifCond .ne 5, 3) := by decide +kernel
theorem dX6_readCoil_48 : decode cX6_readCoil 48 = .ok (.iconst 0, 1) := by decide +kernel
theorem dX6_readCoil_49 : decode cX6_readCoil 49 = .ok (.ireturn, 1) := by decide +kernel
theorem dX6_readCoil_50 : decode cX6_readCoil 50 = .ok (.aload_n 0, 1) := by decide +kernel
theorem dX6_readCoil_51 : decode cX6_readCoil 51 = .ok (.getfield 19, 3) := by decide +kernel
theorem dX6_readCoil_54 : decode cX6_readCoil 54 = .ok (.aload_n 0, 1) := by decide +kernel
theorem dX6_readCoil_55 : decode cX6_readCoil 55 = .ok (.getfield 105, 3) := by decide +kernel
theorem dX6_readCoil_58 : decode cX6_readCoil 58 = .ok (.putfield 178, 3) := by decide +kernel
theorem dX6_readCoil_61 : decode cX6_readCoil 61 = .ok (.aload_n 0, 1) := by decide +kernel
theorem dX6_readCoil_62 : decode cX6_readCoil 62 = .ok (.ldc 180, 2) := by decide +kernel
theorem dX6_readCoil_64 : decode cX6_readCoil 64 = .ok (.invokevirtual 98, 3) := by decide +kernel
theorem dX6_readCoil_67 : decode cX6_readCoil 67 = .ok (.ifCond .eq 13, 3) := by decide +kernel
theorem dX6_readCoil_70 : decode cX6_readCoil 70 = .ok (.aload_n 0, 1) := by decide +kernel
theorem dX6_readCoil_71 : decode cX6_readCoil 71 = .ok (.iconst 1, 1) := by decide +kernel
theorem dX6_readCoil_72 : decode cX6_readCoil 72 = .ok (.bipush 99, 2) := by decide +kernel
theorem dX6_readCoil_74 : decode cX6_readCoil 74 = .ok (.invokevirtual 101, 3) := by decide +kernel
theorem dX6_readCoil_77 : decode cX6_readCoil 77 = .ok (.ifCond .ne 5, 3) := by decide +kernel
theorem dX6_readCoil_80 : decode cX6_readCoil 80 = .ok (.iconst 0, 1) := by decide +kernel
theorem dX6_readCoil_81 : decode cX6_readCoil 81 = .ok (.ireturn, 1) := by decide +kernel
theorem dX6_readCoil_82 : decode cX6_readCoil 82 = .ok (.aload_n 0, 1) := by decide +kernel
theorem dX6_readCoil_83 : decode cX6_readCoil 83 = .ok (.getfield 19, 3) := by decide +kernel
theorem dX6_readCoil_86 : decode cX6_readCoil 86 = .ok (.aload_n 0, 1) := by decide +kernel
theorem dX6_readCoil_87 : decode cX6_readCoil 87 = .ok (.getfield 105, 3) := by decide +kernel
theorem dX6_readCoil_90 : decode cX6_readCoil 90 = .ok (.putfield 182, 3) := by decide +kernel
theorem dX6_readCoil_93 : decode cX6_readCoil 93 = .ok (.aload_n 0, 1) := by decide +kernel
theorem dX6_readCoil_94 : decode cX6_readCoil 94 = .ok (.invokevirtual 118, 3) := by decide +kernel
theorem dX6_readCoil_97 : decode cX6_readCoil 97 = .ok (.ireturn, 1) := by decide +kernel
theorem dX6_readLine_0 : decode cX6_readLine 0 = .ok (.aload_n 0, 1) := by decide +kernel
theorem dX6_readLine_1 : decode cX6_readLine 1 = .ok (.ldc 40, 2) := by decide +kernel
theorem dX6_readLine_3 : decode cX6_readLine 3 = .ok (.invokevirtual 42, 3) := by decide +kernel
theorem dX6_readLine_6 : decode cX6_readLine 6 = .ok (.ifCond .eq 8, 3) := by decide +kernel
theorem dX6_readLine_9 : decode cX6_readLine 9 = .ok (.aload_n 0, 1) := by decide +kernel
theorem dX6_readLine_10 : decode cX6_readLine 10 = .ok (.invokevirtual 46, 3) := by decide +kernel
theorem dX6_readLine_13 : decode cX6_readLine 13 = .ok (.ireturn, 1) := by decide +kernel
theorem dX6_readLine_14 : decode cX6_readLine 14 = .ok (.aload_n 0, 1) := by decide +kernel
theorem dX6_readLine_15 : decode cX6_readLine 15 = .ok (.ldc 50, 2) := by decide +kernel
theorem dX6_readLine_17 : decode cX6_readLine 17 = .ok (.invokevirtual 42, 3) := by decide +kernel
theorem dX6_readLine_20 : decode cX6_readLine 20 = .ok (.ifCond .eq 8, 3) := by decide +kernel
theorem dX6_readLine_23 : decode cX6_readLine 23 = .ok (.aload_n 0, 1) := by decide +kernel
theorem dX6_readLine_24 : decode cX6_readLine 24 = .ok (.invokevirtual 52, 3) := by decide +kernel
theorem dX6_readLine_27 : decode cX6_readLine 27 = .ok (.ireturn, 1) := by decide +kernel
theorem dX6_readLine_28 : decode cX6_readLine 28 = .ok (.aload_n 0, 1) := by decide +kernel
theorem dX6_readLine_29 : decode cX6_readLine 29 = .ok (.ldc 55, 2) := by decide +kernel
theorem dX6_readLine_31 : decode cX6_readLine 31 = .ok (.invokevirtual 42, 3) := by decide +kernel
theorem dX6_readLine_34 : decode cX6_readLine 34 = .ok (.ifCond .eq 8, 3) := by decide +kernel
theorem dX6_readLine_37 : decode cX6_readLine 37 = .ok (.aload_n 0, 1) := by decide +kernel
theorem dX6_readLine_38 : decode cX6_readLine 38 = .ok (.invokevirtual 57, 3) := by decide +kernel
theorem dX6_readLine_41 : decode cX6_readLine 41 = .ok (.ireturn, 1) := by decide +kernel
theorem dX6_readLine_42 : decode cX6_readLine 42 = .ok (.aload_n 0, 1) := by decide +kernel
theorem dX6_readLine_43 : decode cX6_readLine 43 = .ok (.ldc 60, 2) := by decide +kernel
theorem dX6_readLine_45 : decode cX6_readLine 45 = .ok (.invokevirtual 42, 3) := by decide +kernel
theorem dX6_readLine_48 : decode cX6_readLine 48 = .ok (.ifCond .eq 8, 3) := by decide +kernel
theorem dX6_readLine_51 : decode cX6_readLine 51 = .ok (.aload_n 0, 1) := by decide +kernel
theorem dX6_readLine_52 : decode cX6_readLine 52 = .ok (.invokevirtual 62, 3) := by decide +kernel
theorem dX6_readLine_55 : decode cX6_readLine 55 = .ok (.ireturn, 1) := by decide +kernel
theorem dX6_readLine_56 : decode cX6_readLine 56 = .ok (.aload_n 0, 1) := by decide +kernel
theorem dX6_readLine_57 : decode cX6_readLine 57 = .ok (.ldc 65, 2) := by decide +kernel
theorem dX6_readLine_59 : decode cX6_readLine 59 = .ok (.invokevirtual 42, 3) := by decide +kernel
theorem dX6_readLine_62 : decode cX6_readLine 62 = .ok (.ifCond .eq 8, 3) := by decide +kernel
theorem dX6_readLine_65 : decode cX6_readLine 65 = .ok (.aload_n 0, 1) := by decide +kernel
theorem dX6_readLine_66 : decode cX6_readLine 66 = .ok (.invokevirtual 67, 3) := by decide +kernel
theorem dX6_readLine_69 : decode cX6_readLine 69 = .ok (.ireturn, 1) := by decide +kernel
theorem dX6_readLine_70 : decode cX6_readLine 70 = .ok (.aload_n 0, 1) := by decide +kernel
theorem dX6_readLine_71 : decode cX6_readLine 71 = .ok (.iconst 2, 1) := by decide +kernel
theorem dX6_readLine_72 : decode cX6_readLine 72 = .ok (.invokevirtual 70, 3) := by decide +kernel
theorem dX6_readLine_75 : decode cX6_readLine 75 = .ok (.ireturn, 1) := by decide +kernel
theorem dX11_bench_0 : decode cX11_bench 0 = .ok (.iconst 1, 1) := by decide +kernel
theorem dX11_bench_1 : decode cX11_bench 1 = .ok (.istore_n 1, 1) := by decide +kernel
theorem dX11_bench_2 : decode cX11_bench 2 = .ok (.aload_n 0, 1) := by decide +kernel
theorem dX11_bench_3 : decode cX11_bench 3 = .ok (.getfield 33, 3) := by decide +kernel
theorem dX11_bench_6 : decode cX11_bench 6 = .ok (.aload_n 0, 1) := by decide +kernel
theorem dX11_bench_7 : decode cX11_bench 7 = .ok (.getfield 18, 3) := by decide +kernel
theorem dX11_bench_10 : decode cX11_bench 10 = .ok (.invokevirtual 97, 3) := by decide +kernel
theorem dX11_bench_13 : decode cX11_bench 13 = .ok (.iconst 0, 1) := by decide +kernel
theorem dX11_bench_14 : decode cX11_bench 14 = .ok (.istore_n 2, 1) := by decide +kernel
theorem dX11_bench_15 : decode cX11_bench 15 = .ok (.iload_n 2, 1) := by decide +kernel
theorem dX11_bench_16 : decode cX11_bench 16 = .ok (.sipush 900, 3) := by decide +kernel
theorem dX11_bench_19 : decode cX11_bench 19 = .ok (.if_icmp .ge 31, 3) := by decide +kernel
theorem dX11_bench_22 : decode cX11_bench 22 = .ok (.iload_n 1, 1) := by decide +kernel
theorem dX11_bench_23 : decode cX11_bench 23 = .ok (.ifCond .eq 27, 3) := by decide +kernel
theorem dX11_bench_26 : decode cX11_bench 26 = .ok (.aload_n 0, 1) := by decide +kernel
theorem dX11_bench_27 : decode cX11_bench 27 = .ok (.getfield 33, 3) := by decide +kernel
theorem dX11_bench_30 : decode cX11_bench 30 = .ok (.invokevirtual 101, 3) := by decide +kernel
theorem dX11_bench_33 : decode cX11_bench 33 = .ok (.ifCond .eq 17, 3) := by decide +kernel
theorem dX11_bench_36 : decode cX11_bench 36 = .ok (.aload_n 0, 1) := by decide +kernel
theorem dX11_bench_37 : decode cX11_bench 37 = .ok (.getfield 33, 3) := by decide +kernel
theorem dX11_bench_40 : decode cX11_bench 40 = .ok (.invokevirtual 105, 3) := by decide +kernel
theorem dX11_bench_43 : decode cX11_bench 43 = .ok (.istore_n 1, 1) := by decide +kernel
theorem dX11_bench_44 : decode cX11_bench 44 = .ok (.iinc 2 1, 3) := by decide +kernel
theorem dX11_bench_47 : decode cX11_bench 47 = .ok (.goto (-32), 3) := by decide +kernel
theorem dX11_bench_50 : decode cX11_bench 50 = .ok (.aload_n 0, 1) := by decide +kernel
theorem dX11_bench_51 : decode cX11_bench 51 = .ok (.getfield 24, 3) := by decide +kernel
theorem dX11_bench_54 : decode cX11_bench 54 = .ok (.iconst 0, 1) := by decide +kernel
theorem dX11_bench_55 : decode cX11_bench 55 = .ok (.putfield 89, 3) := by decide +kernel
theorem dX11_bench_58 : decode cX11_bench 58 = .ok (.iload_n 1, 1) := by decide +kernel
theorem dX11_bench_59 : decode cX11_bench 59 = .ok (.ifCond .ne 5, 3) := by decide +kernel
theorem dX11_bench_62 : decode cX11_bench 62 = .ok (.iconst (-1), 1) := by decide +kernel
theorem dX11_bench_63 : decode cX11_bench 63 = .ok (.ireturn, 1) := by decide +kernel
theorem dX11_bench_64 : decode cX11_bench 64 = .ok (.aload_n 0, 1) := by decide +kernel
theorem dX11_bench_65 : decode cX11_bench 65 = .ok (.getfield 12, 3) := by decide +kernel
theorem dX11_bench_68 : decode cX11_bench 68 = .ok (.astore_n 2, 1) := by decide +kernel
theorem dX11_bench_69 : decode cX11_bench 69 = .ok (.aload_n 0, 1) := by decide +kernel
theorem dX11_bench_70 : decode cX11_bench 70 = .ok (.aload_n 0, 1) := by decide +kernel
theorem dX11_bench_71 : decode cX11_bench 71 = .ok (.getfield 18, 3) := by decide +kernel
theorem dX11_bench_74 : decode cX11_bench 74 = .ok (.putfield 12, 3) := by decide +kernel
theorem dX11_bench_77 : decode cX11_bench 77 = .ok (.aload_n 0, 1) := by decide +kernel
theorem dX11_bench_78 : decode cX11_bench 78 = .ok (.aload_n 2, 1) := by decide +kernel
theorem dX11_bench_79 : decode cX11_bench 79 = .ok (.putfield 18, 3) := by decide +kernel
theorem dX11_bench_82 : decode cX11_bench 82 = .ok (.aload_n 0, 1) := by decide +kernel
theorem dX11_bench_83 : decode cX11_bench 83 = .ok (.getfield 40, 3) := by decide +kernel
theorem dX11_bench_86 : decode cX11_bench 86 = .ok (.invokevirtual 108, 3) := by decide +kernel
theorem dX11_bench_89 : decode cX11_bench 89 = .ok (.aload_n 0, 1) := by decide +kernel
theorem dX11_bench_90 : decode cX11_bench 90 = .ok (.getfield 50, 3) := by decide +kernel
theorem dX11_bench_93 : decode cX11_bench 93 = .ok (.iconst 0, 1) := by decide +kernel
theorem dX11_bench_94 : decode cX11_bench 94 = .ok (.putfield 111, 3) := by decide +kernel
theorem dX11_bench_97 : decode cX11_bench 97 = .ok (.aload_n 0, 1) := by decide +kernel
theorem dX11_bench_98 : decode cX11_bench 98 = .ok (.getfield 12, 3) := by decide +kernel
theorem dX11_bench_101 : decode cX11_bench 101 = .ok (.getfield 114, 3) := by decide +kernel
theorem dX11_bench_104 : decode cX11_bench 104 = .ok (.ireturn, 1) := by decide +kernel
def zjX6_isWord_24 (sh : zShp) (k0 : Nat) (k1 : Nat) (M : zMem)  (s0 : Int32) : Option (Int32) :=
  zgd (zisB s0) <|
  some s0
def zjX6_isWord_23 (sh : zShp) (k0 : Nat) (k1 : Nat) (M : zMem)   : Option (Int32) :=
  zjX6_isWord_24 sh k0 k1 M (0 : Int32)
def zX6_isWord (sh : zShp) (k0 : Nat) (k1 : Nat) (M : zMem) : Option (Int32) :=
  if (zI M k0 3) = (1 : Int32) then (
  zob (zX6_codeOf sh k1 M) fun r_4 =>
  if (zI M k0 5) = r_4 then (
  zjX6_isWord_24 sh k0 k1 M (1 : Int32))
  else (
  zjX6_isWord_23 sh k0 k1 M))
  else (
  zjX6_isWord_23 sh k0 k1 M)
set_option maxHeartbeats 4000000 in
set_option maxRecDepth 100000 in
theorem ztX6_isWord (l : Launch) (D : va_G) (cy : Nat → ClassId) (sh : zShp) (ad : Nat → Nat) (ka : zKa) {k0 : Nat} {k1 : Nat} (h0 : zT sh k0 6) (h1 : k1 < 13) {M : zMem} {r : Int32} (hd : zX6_isWord sh k0 k1 M = some r) : zSCI l yX6_isWord cX6_isWord 2 .boolean { frames := 5, cells := 0, slots := 0, locals := 107 } [.ref (ad k0), .ref (ka.1 k1)] D cy sh ad ka M r M := by
  refine zsci_of (plainFor_of_name (by decide)) (Nat.le_of_ble_eq_true rfl) (fun p e s m below meth c ls F hr hlk hl hw hS => ?_)
  have hx := F.1.1
  have hb := F.1.2.1
  have hl : lv_has ls 2 [(0, .ref (ad k0)), (1, .ref (ka.1 k1))] := hl
  have J24 : ∀ (s0 : Int32) (H : Heap) (locs : List Loc) (ls : Array Slot), lv_has ls 2 [] → zWd D cy sh ad s M H locs → zjX6_isWord_24 sh k0 k1 M  s0 = some r → W p l e { frames := 5, cells := 0, slots := 0, locals := 107 } s m ([.ref (ad k0), .ref (ka.1 k1)] : List Value).toArray below meth c H locs 0 0 (zQI below D cy sh ad s [.ref (ad k0), .ref (ka.1 k1)] r M) (F0 m 24 ls [.int s0]) := by
    intro  s0 H locs ls hl hw hd
    unfold zjX6_isWord_24 at hd
    obtain ⟨g_1, hd⟩ := zgd_some hd
    exact z_zret F hr hlk hw g_1 (Option.some.inj hd) rfl dX6_isWord_24
  have J23 : ∀  (H : Heap) (locs : List Loc) (ls : Array Slot), lv_has ls 2 [] → zWd D cy sh ad s M H locs → zjX6_isWord_23 sh k0 k1 M   = some r → W p l e { frames := 5, cells := 0, slots := 0, locals := 107 } s m ([.ref (ad k0), .ref (ka.1 k1)] : List Value).toArray below meth c H locs 0 0 (zQI below D cy sh ad s [.ref (ad k0), .ref (ka.1 k1)] r M) (F0 m 23 ls []) := by
    intro  H locs ls hl hw hd
    unfold zjX6_isWord_23 at hd
    refine lv_iconst (v := (0 : Int32)) hx hb dX6_isWord_23 (by decide) ?_
    exact J24 _ _ _ _ (lv_sub hl [] rfl) hw hd
  unfold zX6_isWord at hd
  refine lv_aload_n hx hb dX6_isWord_0 rfl (lv_at hl 0 rfl) ?_
  refine z_gI F hw h0 zc6 3 (by decide) rfl zf6_37 dX6_isWord_1 ?_
  refine lv_iconst (v := (1 : Int32)) hx hb dX6_isWord_4 (by decide) ?_
  refine lv_icmp_ne (tgt := 23) hx hb dX6_isWord_5 (by decide) (fun c_2 => ?_) (fun c_2 => ?_)
  · have hd := zif_neg c_2 hd
    exact J23 _ _ _ (lv_sub hl [] rfl) hw hd
  · have hd := zif_pos c_2 hd
    refine lv_aload_n hx hb dX6_isWord_8 rfl (lv_at hl 0 rfl) ?_
    refine z_gI F hw h0 zc6 5 (by decide) rfl zf6_80 dX6_isWord_9 ?_
    refine lv_aload_n hx hb dX6_isWord_12 rfl (lv_at hl 1 rfl) ?_
    obtain ⟨r_4, hc_3, hd⟩ := zob_some hd
    refine z_ssI F hS hw hl.1 (As := [.ref (ka.1 k1)]) (rest := [.int (zI M k0 5)]) (ztX6_codeOf l D cy sh ad ka h1 hc_3) zyX6_codeOf zk6_191 ⟨rfl, rfl⟩ ⟨by decide, by decide⟩ rfl rfl (Nat.le_of_ble_eq_true rfl) dX6_isWord_13 (fun H locs hw => ?_)
    refine lv_icmp_ne (tgt := 23) hx hb dX6_isWord_16 (by decide) (fun c_5 => ?_) (fun c_5 => ?_)
    · have hd := zif_neg c_5 hd
      exact J23 _ _ _ (lv_sub hl [] rfl) hw hd
    · have hd := zif_pos c_5 hd
      refine lv_iconst (v := (1 : Int32)) hx hb dX6_isWord_19 (by decide) ?_
      refine lv_goto (tgt := 24) hx hb dX6_isWord_20 (by decide) ?_
      exact J24 _ _ _ _ (lv_sub hl [] rfl) hw hd

def zjX6_isName_130 (sh : zShp) (k0 : Nat) (M : zMem)  (s0 : Int32) : Option (Int32) :=
  zgd (zisB s0) <|
  some s0
def zjX6_isName_129 (sh : zShp) (k0 : Nat) (M : zMem)   : Option (Int32) :=
  zjX6_isName_130 sh k0 M (0 : Int32)
def zX6_isName (sh : zShp) (k0 : Nat) (M : zMem) : Option (Int32) :=
  if (zI M k0 3) = (1 : Int32) then (
  zob (zX6_isWord sh k0 0 M) fun r_4 =>
  if r_4 = 0 then (
  zob (zX6_isWord sh k0 10 M) fun r_7 =>
  if r_7 = 0 then (
  zob (zX6_isWord sh k0 1 M) fun r_10 =>
  if r_10 = 0 then (
  zob (zX6_isWord sh k0 4 M) fun r_13 =>
  if r_13 = 0 then (
  zob (zX6_isWord sh k0 2 M) fun r_16 =>
  if r_16 = 0 then (
  zob (zX6_isWord sh k0 11 M) fun r_19 =>
  if r_19 = 0 then (
  zob (zX6_isWord sh k0 5 M) fun r_22 =>
  if r_22 = 0 then (
  zob (zX6_isWord sh k0 7 M) fun r_25 =>
  if r_25 = 0 then (
  zob (zX6_isWord sh k0 6 M) fun r_28 =>
  if r_28 = 0 then (
  zob (zX6_isWord sh k0 9 M) fun r_31 =>
  if r_31 = 0 then (
  zob (zX6_isWord sh k0 3 M) fun r_34 =>
  if r_34 = 0 then (
  zob (zX6_isWord sh k0 12 M) fun r_37 =>
  if r_37 = 0 then (
  zob (zX6_isWord sh k0 8 M) fun r_40 =>
  if r_40 = 0 then (
  zjX6_isName_130 sh k0 M (1 : Int32))
  else (
  zjX6_isName_129 sh k0 M))
  else (
  zjX6_isName_129 sh k0 M))
  else (
  zjX6_isName_129 sh k0 M))
  else (
  zjX6_isName_129 sh k0 M))
  else (
  zjX6_isName_129 sh k0 M))
  else (
  zjX6_isName_129 sh k0 M))
  else (
  zjX6_isName_129 sh k0 M))
  else (
  zjX6_isName_129 sh k0 M))
  else (
  zjX6_isName_129 sh k0 M))
  else (
  zjX6_isName_129 sh k0 M))
  else (
  zjX6_isName_129 sh k0 M))
  else (
  zjX6_isName_129 sh k0 M))
  else (
  zjX6_isName_129 sh k0 M))
  else (
  zjX6_isName_129 sh k0 M)
set_option maxHeartbeats 4000000 in
set_option maxRecDepth 100000 in
theorem ztX6_isName (l : Launch) (D : va_G) (cy : Nat → ClassId) (sh : zShp) (ad : Nat → Nat) (ka : zKa) {k0 : Nat} (h0 : zT sh k0 6) {M : zMem} {r : Int32} (hd : zX6_isName sh k0 M = some r) : zSCI l yX6_isName cX6_isName 1 .boolean { frames := 6, cells := 0, slots := 0, locals := 128 } [.ref (ad k0)] D cy sh ad ka M r M := by
  refine zsci_of (plainFor_of_name (by decide)) (Nat.le_of_ble_eq_true rfl) (fun p e s m below meth c ls F hr hlk hl hw hS => ?_)
  have hx := F.1.1
  have hb := F.1.2.1
  have hl : lv_has ls 1 [(0, .ref (ad k0))] := hl
  have J130 : ∀ (s0 : Int32) (H : Heap) (locs : List Loc) (ls : Array Slot), lv_has ls 1 [] → zWd D cy sh ad s M H locs → zjX6_isName_130 sh k0 M  s0 = some r → W p l e { frames := 6, cells := 0, slots := 0, locals := 128 } s m ([.ref (ad k0)] : List Value).toArray below meth c H locs 0 0 (zQI below D cy sh ad s [.ref (ad k0)] r M) (F0 m 130 ls [.int s0]) := by
    intro  s0 H locs ls hl hw hd
    unfold zjX6_isName_130 at hd
    obtain ⟨g_1, hd⟩ := zgd_some hd
    exact z_zret F hr hlk hw g_1 (Option.some.inj hd) rfl dX6_isName_130
  have J129 : ∀  (H : Heap) (locs : List Loc) (ls : Array Slot), lv_has ls 1 [] → zWd D cy sh ad s M H locs → zjX6_isName_129 sh k0 M   = some r → W p l e { frames := 6, cells := 0, slots := 0, locals := 128 } s m ([.ref (ad k0)] : List Value).toArray below meth c H locs 0 0 (zQI below D cy sh ad s [.ref (ad k0)] r M) (F0 m 129 ls []) := by
    intro  H locs ls hl hw hd
    unfold zjX6_isName_129 at hd
    refine lv_iconst (v := (0 : Int32)) hx hb dX6_isName_129 (by decide) ?_
    exact J130 _ _ _ _ (lv_sub hl [] rfl) hw hd
  unfold zX6_isName at hd
  refine lv_aload_n hx hb dX6_isName_0 rfl (lv_at hl 0 rfl) ?_
  refine z_gI F hw h0 zc6 3 (by decide) rfl zf6_37 dX6_isName_1 ?_
  refine lv_iconst (v := (1 : Int32)) hx hb dX6_isName_4 (by decide) ?_
  refine lv_icmp_ne (tgt := 129) hx hb dX6_isName_5 (by decide) (fun c_2 => ?_) (fun c_2 => ?_)
  · have hd := zif_neg c_2 hd
    exact J129 _ _ _ (lv_sub hl [] rfl) hw hd
  · have hd := zif_pos c_2 hd
    refine lv_aload_n hx hb dX6_isName_8 rfl (lv_at hl 0 rfl) ?_
    refine va_ldcS hx hb F.1.2.2.2.1 (show vk_R RX6 40 "axis" (ka.1 0) s from hS.2.2.2 0 (by decide)) dX6_isName_9 ?_
    obtain ⟨r_4, hc_3, hd⟩ := zob_some hd
    refine z_svI F hS hw hl.1 (As := [.ref (ka.1 0)]) (rest := []) (ztX6_isWord l D cy sh ad ka h0 (by decide) hc_3) zyX6_isWord (va_recv F.2.1 hw.1 zc6.2.1 (zW_obj h0 zc6.1)) zk6_42 ⟨rfl, rfl⟩ ⟨by decide, by decide⟩ rfl rfl (Nat.le_of_ble_eq_true rfl) dX6_isName_11 (fun H locs hw => ?_)
    refine lv_if_ne (tgt := 129) hx hb dX6_isName_14 (by decide) (fun c_5 => ?_) (fun c_5 => ?_)
    · have hd := zif_neg c_5 hd
      exact J129 _ _ _ (lv_sub hl [] rfl) hw hd
    · have hd := zif_pos c_5 hd
      refine lv_aload_n hx hb dX6_isName_17 rfl (lv_at hl 0 rfl) ?_
      refine va_ldcS hx hb F.1.2.2.2.1 (show vk_R RX6 50 "motor" (ka.1 10) s from hS.2.2.2 10 (by decide)) dX6_isName_18 ?_
      obtain ⟨r_7, hc_6, hd⟩ := zob_some hd
      refine z_svI F hS hw hl.1 (As := [.ref (ka.1 10)]) (rest := []) (ztX6_isWord l D cy sh ad ka h0 (by decide) hc_6) zyX6_isWord (va_recv F.2.1 hw.1 zc6.2.1 (zW_obj h0 zc6.1)) zk6_42 ⟨rfl, rfl⟩ ⟨by decide, by decide⟩ rfl rfl (Nat.le_of_ble_eq_true rfl) dX6_isName_20 (fun H locs hw => ?_)
      refine lv_if_ne (tgt := 129) hx hb dX6_isName_23 (by decide) (fun c_8 => ?_) (fun c_8 => ?_)
      · have hd := zif_neg c_8 hd
        exact J129 _ _ _ (lv_sub hl [] rfl) hw hd
      · have hd := zif_pos c_8 hd
        refine lv_aload_n hx hb dX6_isName_26 rfl (lv_at hl 0 rfl) ?_
        refine va_ldcS hx hb F.1.2.2.2.1 (show vk_R RX6 55 "band" (ka.1 1) s from hS.2.2.2 1 (by decide)) dX6_isName_27 ?_
        obtain ⟨r_10, hc_9, hd⟩ := zob_some hd
        refine z_svI F hS hw hl.1 (As := [.ref (ka.1 1)]) (rest := []) (ztX6_isWord l D cy sh ad ka h0 (by decide) hc_9) zyX6_isWord (va_recv F.2.1 hw.1 zc6.2.1 (zW_obj h0 zc6.1)) zk6_42 ⟨rfl, rfl⟩ ⟨by decide, by decide⟩ rfl rfl (Nat.le_of_ble_eq_true rfl) dX6_isName_29 (fun H locs hw => ?_)
        refine lv_if_ne (tgt := 129) hx hb dX6_isName_32 (by decide) (fun c_11 => ?_) (fun c_11 => ?_)
        · have hd := zif_neg c_11 hd
          exact J129 _ _ _ (lv_sub hl [] rfl) hw hd
        · have hd := zif_pos c_11 hd
          refine lv_aload_n hx hb dX6_isName_35 rfl (lv_at hl 0 rfl) ?_
          refine va_ldcS hx hb F.1.2.2.2.1 (show vk_R RX6 60 "fix" (ka.1 4) s from hS.2.2.2 4 (by decide)) dX6_isName_36 ?_
          obtain ⟨r_13, hc_12, hd⟩ := zob_some hd
          refine z_svI F hS hw hl.1 (As := [.ref (ka.1 4)]) (rest := []) (ztX6_isWord l D cy sh ad ka h0 (by decide) hc_12) zyX6_isWord (va_recv F.2.1 hw.1 zc6.2.1 (zW_obj h0 zc6.1)) zk6_42 ⟨rfl, rfl⟩ ⟨by decide, by decide⟩ rfl rfl (Nat.le_of_ble_eq_true rfl) dX6_isName_38 (fun H locs hw => ?_)
          refine lv_if_ne (tgt := 129) hx hb dX6_isName_41 (by decide) (fun c_14 => ?_) (fun c_14 => ?_)
          · have hd := zif_neg c_14 hd
            exact J129 _ _ _ (lv_sub hl [] rfl) hw hd
          · have hd := zif_pos c_14 hd
            refine lv_aload_n hx hb dX6_isName_44 rfl (lv_at hl 0 rfl) ?_
            refine va_ldcS hx hb F.1.2.2.2.1 (show vk_R RX6 65 "coil" (ka.1 2) s from hS.2.2.2 2 (by decide)) dX6_isName_45 ?_
            obtain ⟨r_16, hc_15, hd⟩ := zob_some hd
            refine z_svI F hS hw hl.1 (As := [.ref (ka.1 2)]) (rest := []) (ztX6_isWord l D cy sh ad ka h0 (by decide) hc_15) zyX6_isWord (va_recv F.2.1 hw.1 zc6.2.1 (zW_obj h0 zc6.1)) zk6_42 ⟨rfl, rfl⟩ ⟨by decide, by decide⟩ rfl rfl (Nat.le_of_ble_eq_true rfl) dX6_isName_47 (fun H locs hw => ?_)
            refine lv_if_ne (tgt := 129) hx hb dX6_isName_50 (by decide) (fun c_17 => ?_) (fun c_17 => ?_)
            · have hd := zif_neg c_17 hd
              exact J129 _ _ _ (lv_sub hl [] rfl) hw hd
            · have hd := zif_pos c_17 hd
              refine lv_aload_n hx hb dX6_isName_53 rfl (lv_at hl 0 rfl) ?_
              refine va_ldcS hx hb F.1.2.2.2.1 (show vk_R RX6 96 "speed" (ka.1 11) s from hS.2.2.2 11 (by decide)) dX6_isName_54 ?_
              obtain ⟨r_19, hc_18, hd⟩ := zob_some hd
              refine z_svI F hS hw hl.1 (As := [.ref (ka.1 11)]) (rest := []) (ztX6_isWord l D cy sh ad ka h0 (by decide) hc_18) zyX6_isWord (va_recv F.2.1 hw.1 zc6.2.1 (zW_obj h0 zc6.1)) zk6_42 ⟨rfl, rfl⟩ ⟨by decide, by decide⟩ rfl rfl (Nat.le_of_ble_eq_true rfl) dX6_isName_56 (fun H locs hw => ?_)
              refine lv_if_ne (tgt := 129) hx hb dX6_isName_59 (by decide) (fun c_20 => ?_) (fun c_20 => ?_)
              · have hd := zif_neg c_20 hd
                exact J129 _ _ _ (lv_sub hl [] rfl) hw hd
              · have hd := zif_pos c_20 hd
                refine lv_aload_n hx hb dX6_isName_62 rfl (lv_at hl 0 rfl) ?_
                refine va_ldcS hx hb F.1.2.2.2.1 (show vk_R RX6 110 "gain" (ka.1 5) s from hS.2.2.2 5 (by decide)) dX6_isName_63 ?_
                obtain ⟨r_22, hc_21, hd⟩ := zob_some hd
                refine z_svI F hS hw hl.1 (As := [.ref (ka.1 5)]) (rest := []) (ztX6_isWord l D cy sh ad ka h0 (by decide) hc_21) zyX6_isWord (va_recv F.2.1 hw.1 zc6.2.1 (zW_obj h0 zc6.1)) zk6_42 ⟨rfl, rfl⟩ ⟨by decide, by decide⟩ rfl rfl (Nat.le_of_ble_eq_true rfl) dX6_isName_65 (fun H locs hw => ?_)
                refine lv_if_ne (tgt := 129) hx hb dX6_isName_68 (by decide) (fun c_23 => ?_) (fun c_23 => ?_)
                · have hd := zif_neg c_23 hd
                  exact J129 _ _ _ (lv_sub hl [] rfl) hw hd
                · have hd := zif_pos c_23 hd
                  refine lv_aload_n hx hb dX6_isName_71 rfl (lv_at hl 0 rfl) ?_
                  refine va_ldcS hx hb F.1.2.2.2.1 (show vk_R RX6 114 "jerk" (ka.1 7) s from hS.2.2.2 7 (by decide)) dX6_isName_72 ?_
                  obtain ⟨r_25, hc_24, hd⟩ := zob_some hd
                  refine z_svI F hS hw hl.1 (As := [.ref (ka.1 7)]) (rest := []) (ztX6_isWord l D cy sh ad ka h0 (by decide) hc_24) zyX6_isWord (va_recv F.2.1 hw.1 zc6.2.1 (zW_obj h0 zc6.1)) zk6_42 ⟨rfl, rfl⟩ ⟨by decide, by decide⟩ rfl rfl (Nat.le_of_ble_eq_true rfl) dX6_isName_74 (fun H locs hw => ?_)
                  refine lv_if_ne (tgt := 129) hx hb dX6_isName_77 (by decide) (fun c_26 => ?_) (fun c_26 => ?_)
                  · have hd := zif_neg c_26 hd
                    exact J129 _ _ _ (lv_sub hl [] rfl) hw hd
                  · have hd := zif_pos c_26 hd
                    refine lv_aload_n hx hb dX6_isName_80 rfl (lv_at hl 0 rfl) ?_
                    refine va_ldcS hx hb F.1.2.2.2.1 (show vk_R RX6 129 "hold" (ka.1 6) s from hS.2.2.2 6 (by decide)) dX6_isName_81 ?_
                    obtain ⟨r_28, hc_27, hd⟩ := zob_some hd
                    refine z_svI F hS hw hl.1 (As := [.ref (ka.1 6)]) (rest := []) (ztX6_isWord l D cy sh ad ka h0 (by decide) hc_27) zyX6_isWord (va_recv F.2.1 hw.1 zc6.2.1 (zW_obj h0 zc6.1)) zk6_42 ⟨rfl, rfl⟩ ⟨by decide, by decide⟩ rfl rfl (Nat.le_of_ble_eq_true rfl) dX6_isName_83 (fun H locs hw => ?_)
                    refine lv_if_ne (tgt := 129) hx hb dX6_isName_86 (by decide) (fun c_29 => ?_) (fun c_29 => ?_)
                    · have hd := zif_neg c_29 hd
                      exact J129 _ _ _ (lv_sub hl [] rfl) hw hd
                    · have hd := zif_pos c_29 hd
                      refine lv_aload_n hx hb dX6_isName_89 rfl (lv_at hl 0 rfl) ?_
                      refine va_ldcS hx hb F.1.2.2.2.1 (show vk_R RX6 133 "mass" (ka.1 9) s from hS.2.2.2 9 (by decide)) dX6_isName_90 ?_
                      obtain ⟨r_31, hc_30, hd⟩ := zob_some hd
                      refine z_svI F hS hw hl.1 (As := [.ref (ka.1 9)]) (rest := []) (ztX6_isWord l D cy sh ad ka h0 (by decide) hc_30) zyX6_isWord (va_recv F.2.1 hw.1 zc6.2.1 (zW_obj h0 zc6.1)) zk6_42 ⟨rfl, rfl⟩ ⟨by decide, by decide⟩ rfl rfl (Nat.le_of_ble_eq_true rfl) dX6_isName_92 (fun H locs hw => ?_)
                      refine lv_if_ne (tgt := 129) hx hb dX6_isName_95 (by decide) (fun c_32 => ?_) (fun c_32 => ?_)
                      · have hd := zif_neg c_32 hd
                        exact J129 _ _ _ (lv_sub hl [] rfl) hw hd
                      · have hd := zif_pos c_32 hd
                        refine lv_aload_n hx hb dX6_isName_98 rfl (lv_at hl 0 rfl) ?_
                        refine va_ldcS hx hb F.1.2.2.2.1 (show vk_R RX6 137 "damp" (ka.1 3) s from hS.2.2.2 3 (by decide)) dX6_isName_99 ?_
                        obtain ⟨r_34, hc_33, hd⟩ := zob_some hd
                        refine z_svI F hS hw hl.1 (As := [.ref (ka.1 3)]) (rest := []) (ztX6_isWord l D cy sh ad ka h0 (by decide) hc_33) zyX6_isWord (va_recv F.2.1 hw.1 zc6.2.1 (zW_obj h0 zc6.1)) zk6_42 ⟨rfl, rfl⟩ ⟨by decide, by decide⟩ rfl rfl (Nat.le_of_ble_eq_true rfl) dX6_isName_101 (fun H locs hw => ?_)
                        refine lv_if_ne (tgt := 129) hx hb dX6_isName_104 (by decide) (fun c_35 => ?_) (fun c_35 => ?_)
                        · have hd := zif_neg c_35 hd
                          exact J129 _ _ _ (lv_sub hl [] rfl) hw hd
                        · have hd := zif_pos c_35 hd
                          refine lv_aload_n hx hb dX6_isName_107 rfl (lv_at hl 0 rfl) ?_
                          refine va_ldcS hx hb F.1.2.2.2.1 (show vk_R RX6 176 "supply" (ka.1 12) s from hS.2.2.2 12 (by decide)) dX6_isName_108 ?_
                          obtain ⟨r_37, hc_36, hd⟩ := zob_some hd
                          refine z_svI F hS hw hl.1 (As := [.ref (ka.1 12)]) (rest := []) (ztX6_isWord l D cy sh ad ka h0 (by decide) hc_36) zyX6_isWord (va_recv F.2.1 hw.1 zc6.2.1 (zW_obj h0 zc6.1)) zk6_42 ⟨rfl, rfl⟩ ⟨by decide, by decide⟩ rfl rfl (Nat.le_of_ble_eq_true rfl) dX6_isName_110 (fun H locs hw => ?_)
                          refine lv_if_ne (tgt := 129) hx hb dX6_isName_113 (by decide) (fun c_38 => ?_) (fun c_38 => ?_)
                          · have hd := zif_neg c_38 hd
                            exact J129 _ _ _ (lv_sub hl [] rfl) hw hd
                          · have hd := zif_pos c_38 hd
                            refine lv_aload_n hx hb dX6_isName_116 rfl (lv_at hl 0 rfl) ?_
                            refine va_ldcS hx hb F.1.2.2.2.1 (show vk_R RX6 180 "loss" (ka.1 8) s from hS.2.2.2 8 (by decide)) dX6_isName_117 ?_
                            obtain ⟨r_40, hc_39, hd⟩ := zob_some hd
                            refine z_svI F hS hw hl.1 (As := [.ref (ka.1 8)]) (rest := []) (ztX6_isWord l D cy sh ad ka h0 (by decide) hc_39) zyX6_isWord (va_recv F.2.1 hw.1 zc6.2.1 (zW_obj h0 zc6.1)) zk6_42 ⟨rfl, rfl⟩ ⟨by decide, by decide⟩ rfl rfl (Nat.le_of_ble_eq_true rfl) dX6_isName_119 (fun H locs hw => ?_)
                            refine lv_if_ne (tgt := 129) hx hb dX6_isName_122 (by decide) (fun c_41 => ?_) (fun c_41 => ?_)
                            · have hd := zif_neg c_41 hd
                              exact J129 _ _ _ (lv_sub hl [] rfl) hw hd
                            · have hd := zif_pos c_41 hd
                              refine lv_iconst (v := (1 : Int32)) hx hb dX6_isName_125 (by decide) ?_
                              refine lv_goto (tgt := 130) hx hb dX6_isName_126 (by decide) ?_
                              exact J130 _ _ _ _ (lv_sub hl [] rfl) hw hd

def zX6_takeWord (sh : zShp) (k0 : Nat) (k1 : Nat) (M : zMem) : Option (Int32 × zMem) :=
  zob (zX6_isWord sh k0 k1 M) fun r_2 =>
  if r_2 = 0 then (
  zob2 (zX6_refuse sh k0 (2 : Int32) M) fun r_7 M_8 =>
  zgd (zisB r_7) <|
  some (r_7, M_8))
  else (
  zob (zX6_step sh k0 M) fun M_5 =>
  some ((1 : Int32), M_5))
set_option maxHeartbeats 4000000 in
set_option maxRecDepth 100000 in
theorem ztX6_takeWord (l : Launch) (D : va_G) (cy : Nat → ClassId) (sh : zShp) (ad : Nat → Nat) (ka : zKa) {k0 : Nat} {k1 : Nat} (h0 : zT sh k0 6) (h1 : k1 < 13) {M : zMem} {r : Int32} {M1 : zMem} (hd : zX6_takeWord sh k0 k1 M = some (r, M1)) : zSCI l yX6_takeWord cX6_takeWord 2 .boolean { frames := 6, cells := 0, slots := 0, locals := 128 } [.ref (ad k0), .ref (ka.1 k1)] D cy sh ad ka M r M1 := by
  refine zsci_of (plainFor_of_name (by decide)) (Nat.le_of_ble_eq_true rfl) (fun p e s m below meth c ls F hr hlk hl hw hS => ?_)
  have hx := F.1.1
  have hb := F.1.2.1
  have hl : lv_has ls 2 [(0, .ref (ad k0)), (1, .ref (ka.1 k1))] := hl
  unfold zX6_takeWord at hd
  refine lv_aload_n hx hb dX6_takeWord_0 rfl (lv_at hl 0 rfl) ?_
  refine lv_aload_n hx hb dX6_takeWord_1 rfl (lv_at hl 1 rfl) ?_
  obtain ⟨r_2, hc_1, hd⟩ := zob_some hd
  refine z_svI F hS hw hl.1 (As := [.ref (ka.1 k1)]) (rest := []) (ztX6_isWord l D cy sh ad ka h0 h1 hc_1) zyX6_isWord (va_recv F.2.1 hw.1 zc6.2.1 (zW_obj h0 zc6.1)) zk6_42 ⟨rfl, rfl⟩ ⟨by decide, by decide⟩ rfl rfl (Nat.le_of_ble_eq_true rfl) dX6_takeWord_2 (fun H locs hw => ?_)
  refine lv_if_ne (tgt := 14) hx hb dX6_takeWord_5 (by decide) (fun c_3 => ?_) (fun c_3 => ?_)
  · have hd := zif_neg c_3 hd
    refine lv_aload_n hx hb dX6_takeWord_14 rfl (lv_at hl 0 rfl) ?_
    obtain ⟨M_5, hc_4, hd⟩ := zob_some hd
    refine z_cvV F hw hl.1 (As := []) (rest := []) (ztX6_step l D cy sh ad h0 hc_4) zyX6_step h0 zc6 zk6_34 ⟨rfl, rfl⟩ ⟨by decide, by decide⟩ rfl rfl (Nat.le_of_ble_eq_true rfl) dX6_takeWord_15 (fun H locs hw => ?_)
    refine lv_iconst (v := (1 : Int32)) hx hb dX6_takeWord_18 (by decide) ?_
    exact z_zret F hr hlk hw (by decide) (zpr1 hd) (zpr2 hd) dX6_takeWord_19
  · have hd := zif_pos c_3 hd
    refine lv_aload_n hx hb dX6_takeWord_8 rfl (lv_at hl 0 rfl) ?_
    refine lv_iconst (v := (2 : Int32)) hx hb dX6_takeWord_9 (by decide) ?_
    obtain ⟨r_7, M_8, hc_6, hd⟩ := zob2_some hd
    refine z_cvI F hw hl.1 (As := [.int (2 : Int32)]) (rest := []) (ztX6_refuse l D cy sh ad h0 hc_6) zyX6_refuse h0 zc6 zk6_70 ⟨rfl, rfl⟩ ⟨by decide, by decide⟩ rfl rfl (Nat.le_of_ble_eq_true rfl) dX6_takeWord_10 (fun H locs hw => ?_)
    obtain ⟨g_9, hd⟩ := zgd_some hd
    exact z_zret F hr hlk hw g_9 (zpr1 hd) (zpr2 hd) dX6_takeWord_13

def zjX6_readAxis_102 (sh : zShp) (k0 : Nat)  (M : zMem) : Option (Int32 × zMem) :=
  some ((0 : Int32), M)
def zjX6_readAxis_131 (sh : zShp) (k0 : Nat)  (M : zMem) : Option (Int32 × zMem) :=
  some ((0 : Int32), M)
def zjX6_readAxis_160 (sh : zShp) (k0 : Nat)  (M : zMem) : Option (Int32 × zMem) :=
  some ((0 : Int32), M)
def zX6_readAxis (sh : zShp) (k0 : Nat) (M : zMem) : Option (Int32 × zMem) :=
  if (zI M (zR M k0 1) 6) < (3 : Int32) then (
  zob (zX6_step sh k0 M) fun M_4 =>
  zob (zX6_isName sh k0 M_4) fun r_6 =>
  if r_6 = 0 then (
  zob2 (zX6_refuse sh k0 (2 : Int32) M_4) fun r_59 M_60 =>
  zgd (zisB r_59) <|
  some (r_59, M_60))
  else (
  zob (zX1_axisNamed sh (zR M_4 k0 1) (zI M_4 k0 5) M_4) fun r_10 =>
  if r_10 = (-1 : Int32) then (
  zgd (zin (zI M_4 (zR M_4 k0 1) 6) (zlen sh (zR M_4 (zR M_4 k0 1) 0))) <|
  zob (zX0_clear sh (zR M_4 (zR M_4 (zR M_4 k0 1) 0) ((zI M_4 (zR M_4 k0 1) 6).toNatClampNeg)) (zI M_4 k0 5) M_4) fun M_18 =>
  zob (zX6_step sh k0 M_18) fun M_20 =>
  zob2 (zX6_takeWord sh k0 11 M_20) fun r_22 M_23 =>
  if r_22 = 0 then (
  zjX6_readAxis_102 sh k0 M_23)
  else (
  zob2 (zX6_takeNumber sh k0 (1 : Int32) (60 : Int32) M_23) fun r_26 M_27 =>
  if r_26 = 0 then (
  zjX6_readAxis_102 sh k0 M_27)
  else (
  zbd (zpI M_27 (zR M_4 (zR M_4 (zR M_4 k0 1) 0) ((zI M_4 (zR M_4 k0 1) 6).toNatClampNeg)) 1 (zI M_27 k0 6)) fun M_29 =>
  zob2 (zX6_takeWord sh k0 5 M_29) fun r_31 M_32 =>
  if r_31 = 0 then (
  zjX6_readAxis_131 sh k0 M_32)
  else (
  zob2 (zX6_takeNumber sh k0 (1 : Int32) (30 : Int32) M_32) fun r_35 M_36 =>
  if r_35 = 0 then (
  zjX6_readAxis_131 sh k0 M_36)
  else (
  zbd (zpI M_36 (zR M_4 (zR M_4 (zR M_4 k0 1) 0) ((zI M_4 (zR M_4 k0 1) 6).toNatClampNeg)) 2 (zI M_36 k0 6)) fun M_38 =>
  zob2 (zX6_takeWord sh k0 7 M_38) fun r_40 M_41 =>
  if r_40 = 0 then (
  zjX6_readAxis_160 sh k0 M_41)
  else (
  zob2 (zX6_takeNumber sh k0 (1 : Int32) (10 : Int32) M_41) fun r_44 M_45 =>
  if r_44 = 0 then (
  zjX6_readAxis_160 sh k0 M_45)
  else (
  zbd (zpI M_45 (zR M_4 (zR M_4 (zR M_4 k0 1) 0) ((zI M_4 (zR M_4 k0 1) 6).toNatClampNeg)) 3 (zI M_45 k0 6)) fun M_47 =>
  zbd (zpI M_47 (zR M_47 k0 1) 6 ((zI M_47 (zR M_47 k0 1) 6) + (1 : Int32))) fun M_49 =>
  zob2 (zX6_takeStop sh k0 M_49) fun r_51 M_52 =>
  zgd (zisB r_51) <|
  some (r_51, M_52))))))))
  else (
  zob2 (zX6_refuse sh k0 (3 : Int32) M_4) fun r_55 M_56 =>
  zgd (zisB r_55) <|
  some (r_55, M_56))))
  else (
  zob2 (zX6_refuse sh k0 (5 : Int32) M) fun r_63 M_64 =>
  zgd (zisB r_63) <|
  some (r_63, M_64))
set_option maxHeartbeats 4000000 in
set_option maxRecDepth 100000 in
theorem ztX6_readAxis (l : Launch) (D : va_G) (cy : Nat → ClassId) (sh : zShp) (ad : Nat → Nat) (ka : zKa) {k0 : Nat} (h0 : zT sh k0 6) {M : zMem} {r : Int32} {M1 : zMem} (hd : zX6_readAxis sh k0 M = some (r, M1)) : zSCI l yX6_readAxis cX6_readAxis 2 .boolean { frames := 7, cells := 0, slots := 0, locals := 149 } [.ref (ad k0)] D cy sh ad ka M r M1 := by
  refine zsci_of (plainFor_of_name (by decide)) (Nat.le_of_ble_eq_true rfl) (fun p e s m below meth c ls F hr hlk hl hw hS => ?_)
  have hx := F.1.1
  have hb := F.1.2.1
  have hl : lv_has ls 2 [(0, .ref (ad k0))] := hl
  have J102 : ∀ (M : zMem) (H : Heap) (locs : List Loc) (ls : Array Slot), lv_has ls 2 [] → zWd D cy sh ad s M H locs → zjX6_readAxis_102 sh k0  M = some (r, M1) → W p l e { frames := 7, cells := 0, slots := 0, locals := 149 } s m ([.ref (ad k0)] : List Value).toArray below meth c H locs 0 0 (zQI below D cy sh ad s [.ref (ad k0)] r M1) (F0 m 102 ls []) := by
    intro  M H locs ls hl hw hd
    unfold zjX6_readAxis_102 at hd
    refine lv_iconst (v := (0 : Int32)) hx hb dX6_readAxis_102 (by decide) ?_
    exact z_zret F hr hlk hw (by decide) (zpr1 hd) (zpr2 hd) dX6_readAxis_103
  have J131 : ∀ (M : zMem) (H : Heap) (locs : List Loc) (ls : Array Slot), lv_has ls 2 [] → zWd D cy sh ad s M H locs → zjX6_readAxis_131 sh k0  M = some (r, M1) → W p l e { frames := 7, cells := 0, slots := 0, locals := 149 } s m ([.ref (ad k0)] : List Value).toArray below meth c H locs 0 0 (zQI below D cy sh ad s [.ref (ad k0)] r M1) (F0 m 131 ls []) := by
    intro  M H locs ls hl hw hd
    unfold zjX6_readAxis_131 at hd
    refine lv_iconst (v := (0 : Int32)) hx hb dX6_readAxis_131 (by decide) ?_
    exact z_zret F hr hlk hw (by decide) (zpr1 hd) (zpr2 hd) dX6_readAxis_132
  have J160 : ∀ (M : zMem) (H : Heap) (locs : List Loc) (ls : Array Slot), lv_has ls 2 [] → zWd D cy sh ad s M H locs → zjX6_readAxis_160 sh k0  M = some (r, M1) → W p l e { frames := 7, cells := 0, slots := 0, locals := 149 } s m ([.ref (ad k0)] : List Value).toArray below meth c H locs 0 0 (zQI below D cy sh ad s [.ref (ad k0)] r M1) (F0 m 160 ls []) := by
    intro  M H locs ls hl hw hd
    unfold zjX6_readAxis_160 at hd
    refine lv_iconst (v := (0 : Int32)) hx hb dX6_readAxis_160 (by decide) ?_
    exact z_zret F hr hlk hw (by decide) (zpr1 hd) (zpr2 hd) dX6_readAxis_161
  unfold zX6_readAxis at hd
  refine lv_aload_n hx hb dX6_readAxis_0 rfl (lv_at hl 0 rfl) ?_
  refine z_gR F hw h0 zc6 1 (by decide) rfl zf6_19 dX6_readAxis_1 ?_
  have t_1 : zT sh (zR M k0 1) 1 := hw.2.2.2.fld h0 1 1
  refine z_gI F hw t_1 zc1 6 (by decide) rfl zf6_74 dX6_readAxis_4 ?_
  refine lv_iconst (v := (3 : Int32)) hx hb dX6_readAxis_7 (by decide) ?_
  refine lv_icmp_lt (tgt := 17) hx hb dX6_readAxis_8 (by decide) (fun c_2 => ?_) (fun c_2 => ?_)
  · have hd := zif_pos c_2 hd
    refine lv_aload_n hx hb dX6_readAxis_17 rfl (lv_at hl 0 rfl) ?_
    obtain ⟨M_4, hc_3, hd⟩ := zob_some hd
    refine z_cvV F hw hl.1 (As := []) (rest := []) (ztX6_step l D cy sh ad h0 hc_3) zyX6_step h0 zc6 zk6_34 ⟨rfl, rfl⟩ ⟨by decide, by decide⟩ rfl rfl (Nat.le_of_ble_eq_true rfl) dX6_readAxis_18 (fun H locs hw => ?_)
    refine lv_aload_n hx hb dX6_readAxis_21 rfl (lv_at hl 0 rfl) ?_
    obtain ⟨r_6, hc_5, hd⟩ := zob_some hd
    refine z_svI F hS hw hl.1 (As := []) (rest := []) (ztX6_isName l D cy sh ad ka h0 hc_5) zyX6_isName (va_recv F.2.1 hw.1 zc6.2.1 (zW_obj h0 zc6.1)) zk6_77 ⟨rfl, rfl⟩ ⟨by decide, by decide⟩ rfl rfl (Nat.le_of_ble_eq_true rfl) dX6_readAxis_22 (fun H locs hw => ?_)
    refine lv_if_ne (tgt := 34) hx hb dX6_readAxis_25 (by decide) (fun c_7 => ?_) (fun c_7 => ?_)
    · have hd := zif_neg c_7 hd
      refine lv_aload_n hx hb dX6_readAxis_34 rfl (lv_at hl 0 rfl) ?_
      refine z_gR F hw h0 zc6 1 (by decide) rfl zf6_19 dX6_readAxis_35 ?_
      have t_8 : zT sh (zR M_4 k0 1) 1 := hw.2.2.2.fld h0 1 1
      refine lv_aload_n hx hb dX6_readAxis_38 rfl (lv_at hl 0 rfl) ?_
      refine z_gI F hw h0 zc6 5 (by decide) rfl zf6_80 dX6_readAxis_39 ?_
      obtain ⟨r_10, hc_9, hd⟩ := zob_some hd
      refine z_cvI F hw hl.1 (As := [.int (zI M_4 k0 5)]) (rest := []) (ztX1_axisNamed l D cy sh ad t_8 hc_9) zyX1_axisNamed t_8 zc1 zk6_83 ⟨rfl, rfl⟩ ⟨by decide, by decide⟩ rfl rfl (Nat.le_of_ble_eq_true rfl) dX6_readAxis_42 (fun H locs hw => ?_)
      refine lv_iconst (v := (-1 : Int32)) hx hb dX6_readAxis_45 (by decide) ?_
      refine lv_icmp_eq (tgt := 55) hx hb dX6_readAxis_46 (by decide) (fun c_11 => ?_) (fun c_11 => ?_)
      · have hd := zif_pos c_11 hd
        refine lv_aload_n hx hb dX6_readAxis_55 rfl (lv_at hl 0 rfl) ?_
        refine z_gR F hw h0 zc6 1 (by decide) rfl zf6_19 dX6_readAxis_56 ?_
        have t_12 : zT sh (zR M_4 k0 1) 1 := hw.2.2.2.fld h0 1 1
        refine z_gR F hw t_12 zc1 0 (by decide) rfl zf6_87 dX6_readAxis_59 ?_
        have t_13 : zT sh (zR M_4 (zR M_4 k0 1) 0) 17 := hw.2.2.2.fld t_12 0 17
        refine lv_aload_n hx hb dX6_readAxis_62 rfl (lv_at hl 0 rfl) ?_
        refine z_gR F hw h0 zc6 1 (by decide) rfl zf6_19 dX6_readAxis_63 ?_
        have t_14 : zT sh (zR M_4 k0 1) 1 := hw.2.2.2.fld h0 1 1
        refine z_gI F hw t_14 zc1 6 (by decide) rfl zf6_74 dX6_readAxis_66 ?_
        obtain ⟨g_15, hd⟩ := zgd_some hd
        refine z_aald F hw t_13 (by decide) 4 rfl g_15 dX6_readAxis_69 ?_
        have t_16 : zT sh (zR M_4 (zR M_4 (zR M_4 k0 1) 0) ((zI M_4 (zR M_4 k0 1) 6).toNatClampNeg)) 0 := hw.2.2.2.arr t_13 _ 0 (zin_lt g_15)
        refine lv_astore_n (lv' := [(1, .ref (ad (zR M_4 (zR M_4 (zR M_4 k0 1) 0) ((zI M_4 (zR M_4 k0 1) 6).toNatClampNeg)))), (0, .ref (ad k0))]) hx hb dX6_readAxis_70 rfl hl (by decide) rfl (fun ls hl => ?_)
        refine lv_aload_n hx hb dX6_readAxis_71 rfl (lv_at hl 0 rfl) ?_
        refine lv_aload_n hx hb dX6_readAxis_72 rfl (lv_at hl 1 rfl) ?_
        refine z_gI F hw h0 zc6 5 (by decide) rfl zf6_80 dX6_readAxis_73 ?_
        obtain ⟨M_18, hc_17, hd⟩ := zob_some hd
        refine z_cvV F hw hl.1 (As := [.int (zI M_4 k0 5)]) (rest := []) (ztX0_clear l D cy sh ad t_16 hc_17) zyX0_clear t_16 zc0 zk6_91 ⟨rfl, rfl⟩ ⟨by decide, by decide⟩ rfl rfl (Nat.le_of_ble_eq_true rfl) dX6_readAxis_76 (fun H locs hw => ?_)
        refine lv_aload_n hx hb dX6_readAxis_79 rfl (lv_at hl 1 rfl) ?_
        obtain ⟨M_20, hc_19, hd⟩ := zob_some hd
        refine z_cvV F hw hl.1 (As := []) (rest := []) (ztX6_step l D cy sh ad h0 hc_19) zyX6_step h0 zc6 zk6_34 ⟨rfl, rfl⟩ ⟨by decide, by decide⟩ rfl rfl (Nat.le_of_ble_eq_true rfl) dX6_readAxis_80 (fun H locs hw => ?_)
        refine lv_aload_n hx hb dX6_readAxis_83 rfl (lv_at hl 1 rfl) ?_
        refine va_ldcS hx hb F.1.2.2.2.1 (show vk_R RX6 96 "speed" (ka.1 11) s from hS.2.2.2 11 (by decide)) dX6_readAxis_84 ?_
        obtain ⟨r_22, M_23, hc_21, hd⟩ := zob2_some hd
        refine z_svI F hS hw hl.1 (As := [.ref (ka.1 11)]) (rest := []) (ztX6_takeWord l D cy sh ad ka h0 (by decide) hc_21) zyX6_takeWord (va_recv F.2.1 hw.1 zc6.2.1 (zW_obj h0 zc6.1)) zk6_98 ⟨rfl, rfl⟩ ⟨by decide, by decide⟩ rfl rfl (Nat.le_of_ble_eq_true rfl) dX6_readAxis_86 (fun H locs hw => ?_)
        refine lv_if_eq (tgt := 102) hx hb dX6_readAxis_89 (by decide) (fun c_24 => ?_) (fun c_24 => ?_)
        · have hd := zif_pos c_24 hd
          exact J102 _ _ _ _ (lv_sub hl [] rfl) hw hd
        · have hd := zif_neg c_24 hd
          refine lv_aload_n hx hb dX6_readAxis_92 rfl (lv_at hl 1 rfl) ?_
          refine lv_iconst (v := (1 : Int32)) hx hb dX6_readAxis_93 (by decide) ?_
          refine lv_bipush (v := (60 : Int32)) hx hb dX6_readAxis_94 (by decide) ?_
          obtain ⟨r_26, M_27, hc_25, hd⟩ := zob2_some hd
          refine z_cvI F hw hl.1 (As := [.int (1 : Int32), .int (60 : Int32)]) (rest := []) (ztX6_takeNumber l D cy sh ad h0 hc_25) zyX6_takeNumber h0 zc6 zk6_101 ⟨rfl, rfl⟩ ⟨by decide, by decide⟩ rfl rfl (Nat.le_of_ble_eq_true rfl) dX6_readAxis_96 (fun H locs hw => ?_)
          refine lv_if_ne (tgt := 104) hx hb dX6_readAxis_99 (by decide) (fun c_28 => ?_) (fun c_28 => ?_)
          · have hd := zif_neg c_28 hd
            refine lv_aload_n hx hb dX6_readAxis_104 rfl (lv_at hl 0 rfl) ?_
            refine lv_aload_n hx hb dX6_readAxis_105 rfl (lv_at hl 1 rfl) ?_
            refine z_gI F hw h0 zc6 6 (by decide) rfl zf6_105 dX6_readAxis_106 ?_
            refine z_pI F hw t_16 zc0 1 (by decide) rfl zf6_108 rfl rfl rfl dX6_readAxis_109 (fun H locs M_29 eM_29 hw => ?_)
            have hd := zbd_eq eM_29 hd
            refine lv_aload_n hx hb dX6_readAxis_112 rfl (lv_at hl 1 rfl) ?_
            refine va_ldcS hx hb F.1.2.2.2.1 (show vk_R RX6 110 "gain" (ka.1 5) s from hS.2.2.2 5 (by decide)) dX6_readAxis_113 ?_
            obtain ⟨r_31, M_32, hc_30, hd⟩ := zob2_some hd
            refine z_svI F hS hw hl.1 (As := [.ref (ka.1 5)]) (rest := []) (ztX6_takeWord l D cy sh ad ka h0 (by decide) hc_30) zyX6_takeWord (va_recv F.2.1 hw.1 zc6.2.1 (zW_obj h0 zc6.1)) zk6_98 ⟨rfl, rfl⟩ ⟨by decide, by decide⟩ rfl rfl (Nat.le_of_ble_eq_true rfl) dX6_readAxis_115 (fun H locs hw => ?_)
            refine lv_if_eq (tgt := 131) hx hb dX6_readAxis_118 (by decide) (fun c_33 => ?_) (fun c_33 => ?_)
            · have hd := zif_pos c_33 hd
              exact J131 _ _ _ _ (lv_sub hl [] rfl) hw hd
            · have hd := zif_neg c_33 hd
              refine lv_aload_n hx hb dX6_readAxis_121 rfl (lv_at hl 1 rfl) ?_
              refine lv_iconst (v := (1 : Int32)) hx hb dX6_readAxis_122 (by decide) ?_
              refine lv_bipush (v := (30 : Int32)) hx hb dX6_readAxis_123 (by decide) ?_
              obtain ⟨r_35, M_36, hc_34, hd⟩ := zob2_some hd
              refine z_cvI F hw hl.1 (As := [.int (1 : Int32), .int (30 : Int32)]) (rest := []) (ztX6_takeNumber l D cy sh ad h0 hc_34) zyX6_takeNumber h0 zc6 zk6_101 ⟨rfl, rfl⟩ ⟨by decide, by decide⟩ rfl rfl (Nat.le_of_ble_eq_true rfl) dX6_readAxis_125 (fun H locs hw => ?_)
              refine lv_if_ne (tgt := 133) hx hb dX6_readAxis_128 (by decide) (fun c_37 => ?_) (fun c_37 => ?_)
              · have hd := zif_neg c_37 hd
                refine lv_aload_n hx hb dX6_readAxis_133 rfl (lv_at hl 0 rfl) ?_
                refine lv_aload_n hx hb dX6_readAxis_134 rfl (lv_at hl 1 rfl) ?_
                refine z_gI F hw h0 zc6 6 (by decide) rfl zf6_105 dX6_readAxis_135 ?_
                refine z_pI F hw t_16 zc0 2 (by decide) rfl zf6_112 rfl rfl rfl dX6_readAxis_138 (fun H locs M_38 eM_38 hw => ?_)
                have hd := zbd_eq eM_38 hd
                refine lv_aload_n hx hb dX6_readAxis_141 rfl (lv_at hl 1 rfl) ?_
                refine va_ldcS hx hb F.1.2.2.2.1 (show vk_R RX6 114 "jerk" (ka.1 7) s from hS.2.2.2 7 (by decide)) dX6_readAxis_142 ?_
                obtain ⟨r_40, M_41, hc_39, hd⟩ := zob2_some hd
                refine z_svI F hS hw hl.1 (As := [.ref (ka.1 7)]) (rest := []) (ztX6_takeWord l D cy sh ad ka h0 (by decide) hc_39) zyX6_takeWord (va_recv F.2.1 hw.1 zc6.2.1 (zW_obj h0 zc6.1)) zk6_98 ⟨rfl, rfl⟩ ⟨by decide, by decide⟩ rfl rfl (Nat.le_of_ble_eq_true rfl) dX6_readAxis_144 (fun H locs hw => ?_)
                refine lv_if_eq (tgt := 160) hx hb dX6_readAxis_147 (by decide) (fun c_42 => ?_) (fun c_42 => ?_)
                · have hd := zif_pos c_42 hd
                  exact J160 _ _ _ _ (lv_sub hl [] rfl) hw hd
                · have hd := zif_neg c_42 hd
                  refine lv_aload_n hx hb dX6_readAxis_150 rfl (lv_at hl 1 rfl) ?_
                  refine lv_iconst (v := (1 : Int32)) hx hb dX6_readAxis_151 (by decide) ?_
                  refine lv_bipush (v := (10 : Int32)) hx hb dX6_readAxis_152 (by decide) ?_
                  obtain ⟨r_44, M_45, hc_43, hd⟩ := zob2_some hd
                  refine z_cvI F hw hl.1 (As := [.int (1 : Int32), .int (10 : Int32)]) (rest := []) (ztX6_takeNumber l D cy sh ad h0 hc_43) zyX6_takeNumber h0 zc6 zk6_101 ⟨rfl, rfl⟩ ⟨by decide, by decide⟩ rfl rfl (Nat.le_of_ble_eq_true rfl) dX6_readAxis_154 (fun H locs hw => ?_)
                  refine lv_if_ne (tgt := 162) hx hb dX6_readAxis_157 (by decide) (fun c_46 => ?_) (fun c_46 => ?_)
                  · have hd := zif_neg c_46 hd
                    refine lv_aload_n hx hb dX6_readAxis_162 rfl (lv_at hl 0 rfl) ?_
                    refine lv_aload_n hx hb dX6_readAxis_163 rfl (lv_at hl 1 rfl) ?_
                    refine z_gI F hw h0 zc6 6 (by decide) rfl zf6_105 dX6_readAxis_164 ?_
                    refine z_pI F hw t_16 zc0 3 (by decide) rfl zf6_116 rfl rfl rfl dX6_readAxis_167 (fun H locs M_47 eM_47 hw => ?_)
                    have hd := zbd_eq eM_47 hd
                    refine lv_aload_n hx hb dX6_readAxis_170 rfl (lv_at hl 1 rfl) ?_
                    refine z_gR F hw h0 zc6 1 (by decide) rfl zf6_19 dX6_readAxis_171 ?_
                    have t_48 : zT sh (zR M_47 k0 1) 1 := hw.2.2.2.fld h0 1 1
                    refine lv_dup hx hb dX6_readAxis_174 rfl ?_
                    refine z_gI F hw t_48 zc1 6 (by decide) rfl zf6_74 dX6_readAxis_175 ?_
                    refine lv_iconst (v := (1 : Int32)) hx hb dX6_readAxis_178 (by decide) ?_
                    refine lv_iadd hx hb dX6_readAxis_179 ?_
                    refine z_pI F hw t_48 zc1 6 (by decide) rfl zf6_74 rfl rfl rfl dX6_readAxis_180 (fun H locs M_49 eM_49 hw => ?_)
                    have hd := zbd_eq eM_49 hd
                    refine lv_aload_n hx hb dX6_readAxis_183 rfl (lv_at hl 1 rfl) ?_
                    obtain ⟨r_51, M_52, hc_50, hd⟩ := zob2_some hd
                    refine z_cvI F hw hl.1 (As := []) (rest := []) (ztX6_takeStop l D cy sh ad h0 hc_50) zyX6_takeStop h0 zc6 zk6_118 ⟨rfl, rfl⟩ ⟨by decide, by decide⟩ rfl rfl (Nat.le_of_ble_eq_true rfl) dX6_readAxis_184 (fun H locs hw => ?_)
                    obtain ⟨g_53, hd⟩ := zgd_some hd
                    exact z_zret F hr hlk hw g_53 (zpr1 hd) (zpr2 hd) dX6_readAxis_187
                  · have hd := zif_pos c_46 hd
                    exact J160 _ _ _ _ (lv_sub hl [] rfl) hw hd
              · have hd := zif_pos c_37 hd
                exact J131 _ _ _ _ (lv_sub hl [] rfl) hw hd
          · have hd := zif_pos c_28 hd
            exact J102 _ _ _ _ (lv_sub hl [] rfl) hw hd
      · have hd := zif_neg c_11 hd
        refine lv_aload_n hx hb dX6_readAxis_49 rfl (lv_at hl 0 rfl) ?_
        refine lv_iconst (v := (3 : Int32)) hx hb dX6_readAxis_50 (by decide) ?_
        obtain ⟨r_55, M_56, hc_54, hd⟩ := zob2_some hd
        refine z_cvI F hw hl.1 (As := [.int (3 : Int32)]) (rest := []) (ztX6_refuse l D cy sh ad h0 hc_54) zyX6_refuse h0 zc6 zk6_70 ⟨rfl, rfl⟩ ⟨by decide, by decide⟩ rfl rfl (Nat.le_of_ble_eq_true rfl) dX6_readAxis_51 (fun H locs hw => ?_)
        obtain ⟨g_57, hd⟩ := zgd_some hd
        exact z_zret F hr hlk hw g_57 (zpr1 hd) (zpr2 hd) dX6_readAxis_54
    · have hd := zif_pos c_7 hd
      refine lv_aload_n hx hb dX6_readAxis_28 rfl (lv_at hl 0 rfl) ?_
      refine lv_iconst (v := (2 : Int32)) hx hb dX6_readAxis_29 (by decide) ?_
      obtain ⟨r_59, M_60, hc_58, hd⟩ := zob2_some hd
      refine z_cvI F hw hl.1 (As := [.int (2 : Int32)]) (rest := []) (ztX6_refuse l D cy sh ad h0 hc_58) zyX6_refuse h0 zc6 zk6_70 ⟨rfl, rfl⟩ ⟨by decide, by decide⟩ rfl rfl (Nat.le_of_ble_eq_true rfl) dX6_readAxis_30 (fun H locs hw => ?_)
      obtain ⟨g_61, hd⟩ := zgd_some hd
      exact z_zret F hr hlk hw g_61 (zpr1 hd) (zpr2 hd) dX6_readAxis_33
  · have hd := zif_neg c_2 hd
    refine lv_aload_n hx hb dX6_readAxis_11 rfl (lv_at hl 0 rfl) ?_
    refine lv_iconst (v := (5 : Int32)) hx hb dX6_readAxis_12 (by decide) ?_
    obtain ⟨r_63, M_64, hc_62, hd⟩ := zob2_some hd
    refine z_cvI F hw hl.1 (As := [.int (5 : Int32)]) (rest := []) (ztX6_refuse l D cy sh ad h0 hc_62) zyX6_refuse h0 zc6 zk6_70 ⟨rfl, rfl⟩ ⟨by decide, by decide⟩ rfl rfl (Nat.le_of_ble_eq_true rfl) dX6_readAxis_13 (fun H locs hw => ?_)
    obtain ⟨g_65, hd⟩ := zgd_some hd
    exact z_zret F hr hlk hw g_65 (zpr1 hd) (zpr2 hd) dX6_readAxis_16

def zjX6_takeAxis_67 (sh : zShp) (k0 : Nat) (p1 : Int32)  (x2 : Int32) (M : zMem) : Option (Int32 × zMem) :=
  zob (zX6_step sh k0 M) fun M_2 =>
  some (x2, M_2)
def zX6_takeAxis (sh : zShp) (k0 : Nat) (p1 : Int32) (M : zMem) : Option (Int32 × zMem) :=
  zob (zX6_isName sh k0 M) fun r_4 =>
  if r_4 = 0 then (
  zob2 (zX6_refuse sh k0 (2 : Int32) M) fun r_23 M_24 =>
  some ((-1 : Int32), M_24))
  else (
  zob (zX1_axisNamed sh (zR M k0 1) (zI M k0 5) M) fun r_8 =>
  if r_8 = (-1 : Int32) then (
  zob2 (zX6_refuse sh k0 (3 : Int32) M) fun r_20 M_21 =>
  some ((-1 : Int32), M_21))
  else (
  if p1 = 0 then (
  zjX6_takeAxis_67 sh k0 p1 r_8 M)
  else (
  zgd (zin r_8 (zlen sh (zR M (zR M k0 1) 0))) <|
  if (zI M (zR M (zR M (zR M k0 1) 0) r_8.toNatClampNeg) 7) = 0 then (
  zjX6_takeAxis_67 sh k0 p1 r_8 M)
  else (
  zob2 (zX6_refuse sh k0 (5 : Int32) M) fun r_17 M_18 =>
  some ((-1 : Int32), M_18)))))
set_option maxHeartbeats 4000000 in
set_option maxRecDepth 100000 in
theorem ztX6_takeAxis (l : Launch) (D : va_G) (cy : Nat → ClassId) (sh : zShp) (ad : Nat → Nat) (ka : zKa) {k0 : Nat} {p1 : Int32} (h0 : zT sh k0 6) {M : zMem} {r : Int32} {M1 : zMem} (hd : zX6_takeAxis sh k0 p1 M = some (r, M1)) : zSCI l yX6_takeAxis cX6_takeAxis 3 .int { frames := 7, cells := 0, slots := 0, locals := 148 } [.ref (ad k0), .int p1] D cy sh ad ka M r M1 := by
  refine zsci_of (plainFor_of_name (by decide)) (Nat.le_of_ble_eq_true rfl) (fun p e s m below meth c ls F hr hlk hl hw hS => ?_)
  have hx := F.1.1
  have hb := F.1.2.1
  have hl : lv_has ls 3 [(0, .ref (ad k0)), (1, .int p1)] := hl
  have J67 : ∀ (x2 : Int32) (M : zMem) (H : Heap) (locs : List Loc) (ls : Array Slot), lv_has ls 3 [(0, .ref (ad k0)), (2, .int x2)] → zWd D cy sh ad s M H locs → zjX6_takeAxis_67 sh k0 p1  x2 M = some (r, M1) → W p l e { frames := 7, cells := 0, slots := 0, locals := 148 } s m ([.ref (ad k0), .int p1] : List Value).toArray below meth c H locs 0 0 (zQI below D cy sh ad s [.ref (ad k0), .int p1] r M1) (F0 m 67 ls []) := by
    intro  x2 M H locs ls hl hw hd
    unfold zjX6_takeAxis_67 at hd
    refine lv_aload_n hx hb dX6_takeAxis_67 rfl (lv_at hl 0 rfl) ?_
    obtain ⟨M_2, hc_1, hd⟩ := zob_some hd
    refine z_cvV F hw hl.1 (As := []) (rest := []) (ztX6_step l D cy sh ad h0 hc_1) zyX6_step h0 zc6 zk6_34 ⟨rfl, rfl⟩ ⟨by decide, by decide⟩ rfl rfl (Nat.le_of_ble_eq_true rfl) dX6_takeAxis_68 (fun H locs hw => ?_)
    refine lv_iload_n hx hb dX6_takeAxis_71 rfl (lv_at hl 1 rfl) ?_
    exact z_iret F hr hlk hw (zpr1 hd) (zpr2 hd) dX6_takeAxis_72
  unfold zX6_takeAxis at hd
  refine lv_aload_n hx hb dX6_takeAxis_0 rfl (lv_at hl 0 rfl) ?_
  obtain ⟨r_4, hc_3, hd⟩ := zob_some hd
  refine z_svI F hS hw hl.1 (As := []) (rest := []) (ztX6_isName l D cy sh ad ka h0 hc_3) zyX6_isName (va_recv F.2.1 hw.1 zc6.2.1 (zW_obj h0 zc6.1)) zk6_77 ⟨rfl, rfl⟩ ⟨by decide, by decide⟩ rfl rfl (Nat.le_of_ble_eq_true rfl) dX6_takeAxis_1 (fun H locs hw => ?_)
  refine lv_if_ne (tgt := 15) hx hb dX6_takeAxis_4 (by decide) (fun c_5 => ?_) (fun c_5 => ?_)
  · have hd := zif_neg c_5 hd
    refine lv_aload_n hx hb dX6_takeAxis_15 rfl (lv_at hl 0 rfl) ?_
    refine z_gR F hw h0 zc6 1 (by decide) rfl zf6_19 dX6_takeAxis_16 ?_
    have t_6 : zT sh (zR M k0 1) 1 := hw.2.2.2.fld h0 1 1
    refine lv_aload_n hx hb dX6_takeAxis_19 rfl (lv_at hl 0 rfl) ?_
    refine z_gI F hw h0 zc6 5 (by decide) rfl zf6_80 dX6_takeAxis_20 ?_
    obtain ⟨r_8, hc_7, hd⟩ := zob_some hd
    refine z_cvI F hw hl.1 (As := [.int (zI M k0 5)]) (rest := []) (ztX1_axisNamed l D cy sh ad t_6 hc_7) zyX1_axisNamed t_6 zc1 zk6_83 ⟨rfl, rfl⟩ ⟨by decide, by decide⟩ rfl rfl (Nat.le_of_ble_eq_true rfl) dX6_takeAxis_23 (fun H locs hw => ?_)
    refine lv_istore_n (lv' := [(2, .int r_8), (0, .ref (ad k0)), (1, .int p1)]) hx hb dX6_takeAxis_26 rfl hl (by decide) rfl (fun ls hl => ?_)
    refine lv_iload_n hx hb dX6_takeAxis_27 rfl (lv_at hl 0 rfl) ?_
    refine lv_iconst (v := (-1 : Int32)) hx hb dX6_takeAxis_28 (by decide) ?_
    refine lv_icmp_ne (tgt := 40) hx hb dX6_takeAxis_29 (by decide) (fun c_9 => ?_) (fun c_9 => ?_)
    · have hd := zif_neg c_9 hd
      refine lv_iload_n hx hb dX6_takeAxis_40 rfl (lv_at hl 2 rfl) ?_
      refine lv_if_eq (tgt := 67) hx hb dX6_takeAxis_41 (by decide) (fun c_10 => ?_) (fun c_10 => ?_)
      · have hd := zif_pos c_10 hd
        exact J67 _ _ _ _ _ (lv_sub hl [1, 0] rfl) hw hd
      · have hd := zif_neg c_10 hd
        refine lv_aload_n hx hb dX6_takeAxis_44 rfl (lv_at hl 1 rfl) ?_
        refine z_gR F hw h0 zc6 1 (by decide) rfl zf6_19 dX6_takeAxis_45 ?_
        have t_11 : zT sh (zR M k0 1) 1 := hw.2.2.2.fld h0 1 1
        refine z_gR F hw t_11 zc1 0 (by decide) rfl zf6_87 dX6_takeAxis_48 ?_
        have t_12 : zT sh (zR M (zR M k0 1) 0) 17 := hw.2.2.2.fld t_11 0 17
        refine lv_iload_n hx hb dX6_takeAxis_51 rfl (lv_at hl 0 rfl) ?_
        obtain ⟨g_13, hd⟩ := zgd_some hd
        refine z_aald F hw t_12 (by decide) 4 rfl g_13 dX6_takeAxis_52 ?_
        have t_14 : zT sh (zR M (zR M (zR M k0 1) 0) r_8.toNatClampNeg) 0 := hw.2.2.2.arr t_12 _ 0 (zin_lt g_13)
        refine z_gI F hw t_14 zc0 7 (by decide) rfl zf6_125 dX6_takeAxis_53 ?_
        refine lv_if_eq (tgt := 67) hx hb dX6_takeAxis_56 (by decide) (fun c_15 => ?_) (fun c_15 => ?_)
        · have hd := zif_pos c_15 hd
          exact J67 _ _ _ _ _ (lv_sub hl [1, 0] rfl) hw hd
        · have hd := zif_neg c_15 hd
          refine lv_aload_n hx hb dX6_takeAxis_59 rfl (lv_at hl 1 rfl) ?_
          refine lv_iconst (v := (5 : Int32)) hx hb dX6_takeAxis_60 (by decide) ?_
          obtain ⟨r_17, M_18, hc_16, hd⟩ := zob2_some hd
          refine z_cvI F hw hl.1 (As := [.int (5 : Int32)]) (rest := []) (ztX6_refuse l D cy sh ad h0 hc_16) zyX6_refuse h0 zc6 zk6_70 ⟨rfl, rfl⟩ ⟨by decide, by decide⟩ rfl rfl (Nat.le_of_ble_eq_true rfl) dX6_takeAxis_61 (fun H locs hw => ?_)
          refine lv_pop hx hb dX6_takeAxis_64 rfl ?_
          refine lv_iconst (v := (-1 : Int32)) hx hb dX6_takeAxis_65 (by decide) ?_
          exact z_iret F hr hlk hw (zpr1 hd) (zpr2 hd) dX6_takeAxis_66
    · have hd := zif_pos c_9 hd
      refine lv_aload_n hx hb dX6_takeAxis_32 rfl (lv_at hl 1 rfl) ?_
      refine lv_iconst (v := (3 : Int32)) hx hb dX6_takeAxis_33 (by decide) ?_
      obtain ⟨r_20, M_21, hc_19, hd⟩ := zob2_some hd
      refine z_cvI F hw hl.1 (As := [.int (3 : Int32)]) (rest := []) (ztX6_refuse l D cy sh ad h0 hc_19) zyX6_refuse h0 zc6 zk6_70 ⟨rfl, rfl⟩ ⟨by decide, by decide⟩ rfl rfl (Nat.le_of_ble_eq_true rfl) dX6_takeAxis_34 (fun H locs hw => ?_)
      refine lv_pop hx hb dX6_takeAxis_37 rfl ?_
      refine lv_iconst (v := (-1 : Int32)) hx hb dX6_takeAxis_38 (by decide) ?_
      exact z_iret F hr hlk hw (zpr1 hd) (zpr2 hd) dX6_takeAxis_39
  · have hd := zif_pos c_5 hd
    refine lv_aload_n hx hb dX6_takeAxis_7 rfl (lv_at hl 0 rfl) ?_
    refine lv_iconst (v := (2 : Int32)) hx hb dX6_takeAxis_8 (by decide) ?_
    obtain ⟨r_23, M_24, hc_22, hd⟩ := zob2_some hd
    refine z_cvI F hw hl.1 (As := [.int (2 : Int32)]) (rest := []) (ztX6_refuse l D cy sh ad h0 hc_22) zyX6_refuse h0 zc6 zk6_70 ⟨rfl, rfl⟩ ⟨by decide, by decide⟩ rfl rfl (Nat.le_of_ble_eq_true rfl) dX6_takeAxis_9 (fun H locs hw => ?_)
    refine lv_pop hx hb dX6_takeAxis_12 rfl ?_
    refine lv_iconst (v := (-1 : Int32)) hx hb dX6_takeAxis_13 (by decide) ?_
    exact z_iret F hr hlk hw (zpr1 hd) (zpr2 hd) dX6_takeAxis_14

def zjX6_readMotor_52 (sh : zShp) (k0 : Nat)  (M : zMem) : Option (Int32 × zMem) :=
  some ((0 : Int32), M)
def zjX6_readMotor_82 (sh : zShp) (k0 : Nat)  (M : zMem) : Option (Int32 × zMem) :=
  some ((0 : Int32), M)
def zjX6_readMotor_111 (sh : zShp) (k0 : Nat)  (M : zMem) : Option (Int32 × zMem) :=
  some ((0 : Int32), M)
def zX6_readMotor (sh : zShp) (k0 : Nat) (M : zMem) : Option (Int32 × zMem) :=
  zob (zX6_step sh k0 M) fun M_2 =>
  zob2 (zX6_takeAxis sh k0 (1 : Int32) M_2) fun r_4 M_5 =>
  if r_4 = (-1 : Int32) then (
  some ((0 : Int32), M_5))
  else (
  zgd (zin r_4 (zlen sh (zR M_5 (zR M_5 k0 1) 0))) <|
  zbd (zpI M_5 (zR M_5 (zR M_5 (zR M_5 k0 1) 0) r_4.toNatClampNeg) 7 (1 : Int32)) fun M_11 =>
  zob2 (zX6_takeWord sh k0 6 M_11) fun r_13 M_14 =>
  if r_13 = 0 then (
  zjX6_readMotor_52 sh k0 M_14)
  else (
  zob2 (zX6_takeNumber sh k0 (1 : Int32) (9999 : Int32) M_14) fun r_17 M_18 =>
  if r_17 = 0 then (
  zjX6_readMotor_52 sh k0 M_18)
  else (
  zbd (zpI M_18 (zR M_5 (zR M_5 (zR M_5 k0 1) 0) r_4.toNatClampNeg) 4 (zI M_18 k0 6)) fun M_20 =>
  zob2 (zX6_takeWord sh k0 9 M_20) fun r_22 M_23 =>
  if r_22 = 0 then (
  zjX6_readMotor_82 sh k0 M_23)
  else (
  zob2 (zX6_takeNumber sh k0 (1 : Int32) (999 : Int32) M_23) fun r_26 M_27 =>
  if r_26 = 0 then (
  zjX6_readMotor_82 sh k0 M_27)
  else (
  zbd (zpI M_27 (zR M_5 (zR M_5 (zR M_5 k0 1) 0) r_4.toNatClampNeg) 5 (zI M_27 k0 6)) fun M_29 =>
  zob2 (zX6_takeWord sh k0 3 M_29) fun r_31 M_32 =>
  if r_31 = 0 then (
  zjX6_readMotor_111 sh k0 M_32)
  else (
  zob2 (zX6_takeNumber sh k0 (0 : Int32) (90 : Int32) M_32) fun r_35 M_36 =>
  if r_35 = 0 then (
  zjX6_readMotor_111 sh k0 M_36)
  else (
  zbd (zpI M_36 (zR M_5 (zR M_5 (zR M_5 k0 1) 0) r_4.toNatClampNeg) 6 (zI M_36 k0 6)) fun M_38 =>
  zob2 (zX6_takeStop sh k0 M_38) fun r_40 M_41 =>
  zgd (zisB r_40) <|
  some (r_40, M_41))))))))
set_option maxHeartbeats 4000000 in
set_option maxRecDepth 100000 in
theorem ztX6_readMotor (l : Launch) (D : va_G) (cy : Nat → ClassId) (sh : zShp) (ad : Nat → Nat) (ka : zKa) {k0 : Nat} (h0 : zT sh k0 6) {M : zMem} {r : Int32} {M1 : zMem} (hd : zX6_readMotor sh k0 M = some (r, M1)) : zSCI l yX6_readMotor cX6_readMotor 3 .boolean { frames := 8, cells := 0, slots := 0, locals := 170 } [.ref (ad k0)] D cy sh ad ka M r M1 := by
  refine zsci_of (plainFor_of_name (by decide)) (Nat.le_of_ble_eq_true rfl) (fun p e s m below meth c ls F hr hlk hl hw hS => ?_)
  have hx := F.1.1
  have hb := F.1.2.1
  have hl : lv_has ls 3 [(0, .ref (ad k0))] := hl
  have J52 : ∀ (M : zMem) (H : Heap) (locs : List Loc) (ls : Array Slot), lv_has ls 3 [] → zWd D cy sh ad s M H locs → zjX6_readMotor_52 sh k0  M = some (r, M1) → W p l e { frames := 8, cells := 0, slots := 0, locals := 170 } s m ([.ref (ad k0)] : List Value).toArray below meth c H locs 0 0 (zQI below D cy sh ad s [.ref (ad k0)] r M1) (F0 m 52 ls []) := by
    intro  M H locs ls hl hw hd
    unfold zjX6_readMotor_52 at hd
    refine lv_iconst (v := (0 : Int32)) hx hb dX6_readMotor_52 (by decide) ?_
    exact z_zret F hr hlk hw (by decide) (zpr1 hd) (zpr2 hd) dX6_readMotor_53
  have J82 : ∀ (M : zMem) (H : Heap) (locs : List Loc) (ls : Array Slot), lv_has ls 3 [] → zWd D cy sh ad s M H locs → zjX6_readMotor_82 sh k0  M = some (r, M1) → W p l e { frames := 8, cells := 0, slots := 0, locals := 170 } s m ([.ref (ad k0)] : List Value).toArray below meth c H locs 0 0 (zQI below D cy sh ad s [.ref (ad k0)] r M1) (F0 m 82 ls []) := by
    intro  M H locs ls hl hw hd
    unfold zjX6_readMotor_82 at hd
    refine lv_iconst (v := (0 : Int32)) hx hb dX6_readMotor_82 (by decide) ?_
    exact z_zret F hr hlk hw (by decide) (zpr1 hd) (zpr2 hd) dX6_readMotor_83
  have J111 : ∀ (M : zMem) (H : Heap) (locs : List Loc) (ls : Array Slot), lv_has ls 3 [] → zWd D cy sh ad s M H locs → zjX6_readMotor_111 sh k0  M = some (r, M1) → W p l e { frames := 8, cells := 0, slots := 0, locals := 170 } s m ([.ref (ad k0)] : List Value).toArray below meth c H locs 0 0 (zQI below D cy sh ad s [.ref (ad k0)] r M1) (F0 m 111 ls []) := by
    intro  M H locs ls hl hw hd
    unfold zjX6_readMotor_111 at hd
    refine lv_iconst (v := (0 : Int32)) hx hb dX6_readMotor_111 (by decide) ?_
    exact z_zret F hr hlk hw (by decide) (zpr1 hd) (zpr2 hd) dX6_readMotor_112
  unfold zX6_readMotor at hd
  refine lv_aload_n hx hb dX6_readMotor_0 rfl (lv_at hl 0 rfl) ?_
  obtain ⟨M_2, hc_1, hd⟩ := zob_some hd
  refine z_cvV F hw hl.1 (As := []) (rest := []) (ztX6_step l D cy sh ad h0 hc_1) zyX6_step h0 zc6 zk6_34 ⟨rfl, rfl⟩ ⟨by decide, by decide⟩ rfl rfl (Nat.le_of_ble_eq_true rfl) dX6_readMotor_1 (fun H locs hw => ?_)
  refine lv_aload_n hx hb dX6_readMotor_4 rfl (lv_at hl 0 rfl) ?_
  refine lv_iconst (v := (1 : Int32)) hx hb dX6_readMotor_5 (by decide) ?_
  obtain ⟨r_4, M_5, hc_3, hd⟩ := zob2_some hd
  refine z_svI F hS hw hl.1 (As := [.int (1 : Int32)]) (rest := []) (ztX6_takeAxis l D cy sh ad ka h0 hc_3) zyX6_takeAxis (va_recv F.2.1 hw.1 zc6.2.1 (zW_obj h0 zc6.1)) zk6_121 ⟨rfl, rfl⟩ ⟨by decide, by decide⟩ rfl rfl (Nat.le_of_ble_eq_true rfl) dX6_readMotor_6 (fun H locs hw => ?_)
  refine lv_istore_n (lv' := [(1, .int r_4), (0, .ref (ad k0))]) hx hb dX6_readMotor_9 rfl hl (by decide) rfl (fun ls hl => ?_)
  refine lv_iload_n hx hb dX6_readMotor_10 rfl (lv_at hl 0 rfl) ?_
  refine lv_iconst (v := (-1 : Int32)) hx hb dX6_readMotor_11 (by decide) ?_
  refine lv_icmp_ne (tgt := 17) hx hb dX6_readMotor_12 (by decide) (fun c_6 => ?_) (fun c_6 => ?_)
  · have hd := zif_neg c_6 hd
    refine lv_aload_n hx hb dX6_readMotor_17 rfl (lv_at hl 1 rfl) ?_
    refine z_gR F hw h0 zc6 1 (by decide) rfl zf6_19 dX6_readMotor_18 ?_
    have t_7 : zT sh (zR M_5 k0 1) 1 := hw.2.2.2.fld h0 1 1
    refine z_gR F hw t_7 zc1 0 (by decide) rfl zf6_87 dX6_readMotor_21 ?_
    have t_8 : zT sh (zR M_5 (zR M_5 k0 1) 0) 17 := hw.2.2.2.fld t_7 0 17
    refine lv_iload_n hx hb dX6_readMotor_24 rfl (lv_at hl 0 rfl) ?_
    obtain ⟨g_9, hd⟩ := zgd_some hd
    refine z_aald F hw t_8 (by decide) 4 rfl g_9 dX6_readMotor_25 ?_
    have t_10 : zT sh (zR M_5 (zR M_5 (zR M_5 k0 1) 0) r_4.toNatClampNeg) 0 := hw.2.2.2.arr t_8 _ 0 (zin_lt g_9)
    refine lv_astore_n (lv' := [(2, .ref (ad (zR M_5 (zR M_5 (zR M_5 k0 1) 0) r_4.toNatClampNeg))), (1, .int r_4), (0, .ref (ad k0))]) hx hb dX6_readMotor_26 rfl hl (by decide) rfl (fun ls hl => ?_)
    refine lv_aload_n hx hb dX6_readMotor_27 rfl (lv_at hl 0 rfl) ?_
    refine lv_iconst (v := (1 : Int32)) hx hb dX6_readMotor_28 (by decide) ?_
    refine z_pI F hw t_10 zc0 7 (by decide) rfl zf6_125 rfl (by decide) rfl dX6_readMotor_29 (fun H locs M_11 eM_11 hw => ?_)
    have hd := zbd_eq eM_11 hd
    refine lv_aload_n hx hb dX6_readMotor_32 rfl (lv_at hl 2 rfl) ?_
    refine va_ldcS hx hb F.1.2.2.2.1 (show vk_R RX6 129 "hold" (ka.1 6) s from hS.2.2.2 6 (by decide)) dX6_readMotor_33 ?_
    obtain ⟨r_13, M_14, hc_12, hd⟩ := zob2_some hd
    refine z_svI F hS hw hl.1 (As := [.ref (ka.1 6)]) (rest := []) (ztX6_takeWord l D cy sh ad ka h0 (by decide) hc_12) zyX6_takeWord (va_recv F.2.1 hw.1 zc6.2.1 (zW_obj h0 zc6.1)) zk6_98 ⟨rfl, rfl⟩ ⟨by decide, by decide⟩ rfl rfl (Nat.le_of_ble_eq_true rfl) dX6_readMotor_35 (fun H locs hw => ?_)
    refine lv_if_eq (tgt := 52) hx hb dX6_readMotor_38 (by decide) (fun c_15 => ?_) (fun c_15 => ?_)
    · have hd := zif_pos c_15 hd
      exact J52 _ _ _ _ (lv_sub hl [] rfl) hw hd
    · have hd := zif_neg c_15 hd
      refine lv_aload_n hx hb dX6_readMotor_41 rfl (lv_at hl 2 rfl) ?_
      refine lv_iconst (v := (1 : Int32)) hx hb dX6_readMotor_42 (by decide) ?_
      refine lv_sipush (v := (9999 : Int32)) hx hb dX6_readMotor_43 (by decide) ?_
      obtain ⟨r_17, M_18, hc_16, hd⟩ := zob2_some hd
      refine z_cvI F hw hl.1 (As := [.int (1 : Int32), .int (9999 : Int32)]) (rest := []) (ztX6_takeNumber l D cy sh ad h0 hc_16) zyX6_takeNumber h0 zc6 zk6_101 ⟨rfl, rfl⟩ ⟨by decide, by decide⟩ rfl rfl (Nat.le_of_ble_eq_true rfl) dX6_readMotor_46 (fun H locs hw => ?_)
      refine lv_if_ne (tgt := 54) hx hb dX6_readMotor_49 (by decide) (fun c_19 => ?_) (fun c_19 => ?_)
      · have hd := zif_neg c_19 hd
        refine lv_aload_n hx hb dX6_readMotor_54 rfl (lv_at hl 0 rfl) ?_
        refine lv_aload_n hx hb dX6_readMotor_55 rfl (lv_at hl 2 rfl) ?_
        refine z_gI F hw h0 zc6 6 (by decide) rfl zf6_105 dX6_readMotor_56 ?_
        refine z_pI F hw t_10 zc0 4 (by decide) rfl zf6_131 rfl rfl rfl dX6_readMotor_59 (fun H locs M_20 eM_20 hw => ?_)
        have hd := zbd_eq eM_20 hd
        refine lv_aload_n hx hb dX6_readMotor_62 rfl (lv_at hl 2 rfl) ?_
        refine va_ldcS hx hb F.1.2.2.2.1 (show vk_R RX6 133 "mass" (ka.1 9) s from hS.2.2.2 9 (by decide)) dX6_readMotor_63 ?_
        obtain ⟨r_22, M_23, hc_21, hd⟩ := zob2_some hd
        refine z_svI F hS hw hl.1 (As := [.ref (ka.1 9)]) (rest := []) (ztX6_takeWord l D cy sh ad ka h0 (by decide) hc_21) zyX6_takeWord (va_recv F.2.1 hw.1 zc6.2.1 (zW_obj h0 zc6.1)) zk6_98 ⟨rfl, rfl⟩ ⟨by decide, by decide⟩ rfl rfl (Nat.le_of_ble_eq_true rfl) dX6_readMotor_65 (fun H locs hw => ?_)
        refine lv_if_eq (tgt := 82) hx hb dX6_readMotor_68 (by decide) (fun c_24 => ?_) (fun c_24 => ?_)
        · have hd := zif_pos c_24 hd
          exact J82 _ _ _ _ (lv_sub hl [] rfl) hw hd
        · have hd := zif_neg c_24 hd
          refine lv_aload_n hx hb dX6_readMotor_71 rfl (lv_at hl 2 rfl) ?_
          refine lv_iconst (v := (1 : Int32)) hx hb dX6_readMotor_72 (by decide) ?_
          refine lv_sipush (v := (999 : Int32)) hx hb dX6_readMotor_73 (by decide) ?_
          obtain ⟨r_26, M_27, hc_25, hd⟩ := zob2_some hd
          refine z_cvI F hw hl.1 (As := [.int (1 : Int32), .int (999 : Int32)]) (rest := []) (ztX6_takeNumber l D cy sh ad h0 hc_25) zyX6_takeNumber h0 zc6 zk6_101 ⟨rfl, rfl⟩ ⟨by decide, by decide⟩ rfl rfl (Nat.le_of_ble_eq_true rfl) dX6_readMotor_76 (fun H locs hw => ?_)
          refine lv_if_ne (tgt := 84) hx hb dX6_readMotor_79 (by decide) (fun c_28 => ?_) (fun c_28 => ?_)
          · have hd := zif_neg c_28 hd
            refine lv_aload_n hx hb dX6_readMotor_84 rfl (lv_at hl 0 rfl) ?_
            refine lv_aload_n hx hb dX6_readMotor_85 rfl (lv_at hl 2 rfl) ?_
            refine z_gI F hw h0 zc6 6 (by decide) rfl zf6_105 dX6_readMotor_86 ?_
            refine z_pI F hw t_10 zc0 5 (by decide) rfl zf6_135 rfl rfl rfl dX6_readMotor_89 (fun H locs M_29 eM_29 hw => ?_)
            have hd := zbd_eq eM_29 hd
            refine lv_aload_n hx hb dX6_readMotor_92 rfl (lv_at hl 2 rfl) ?_
            refine va_ldcS hx hb F.1.2.2.2.1 (show vk_R RX6 137 "damp" (ka.1 3) s from hS.2.2.2 3 (by decide)) dX6_readMotor_93 ?_
            obtain ⟨r_31, M_32, hc_30, hd⟩ := zob2_some hd
            refine z_svI F hS hw hl.1 (As := [.ref (ka.1 3)]) (rest := []) (ztX6_takeWord l D cy sh ad ka h0 (by decide) hc_30) zyX6_takeWord (va_recv F.2.1 hw.1 zc6.2.1 (zW_obj h0 zc6.1)) zk6_98 ⟨rfl, rfl⟩ ⟨by decide, by decide⟩ rfl rfl (Nat.le_of_ble_eq_true rfl) dX6_readMotor_95 (fun H locs hw => ?_)
            refine lv_if_eq (tgt := 111) hx hb dX6_readMotor_98 (by decide) (fun c_33 => ?_) (fun c_33 => ?_)
            · have hd := zif_pos c_33 hd
              exact J111 _ _ _ _ (lv_sub hl [] rfl) hw hd
            · have hd := zif_neg c_33 hd
              refine lv_aload_n hx hb dX6_readMotor_101 rfl (lv_at hl 2 rfl) ?_
              refine lv_iconst (v := (0 : Int32)) hx hb dX6_readMotor_102 (by decide) ?_
              refine lv_bipush (v := (90 : Int32)) hx hb dX6_readMotor_103 (by decide) ?_
              obtain ⟨r_35, M_36, hc_34, hd⟩ := zob2_some hd
              refine z_cvI F hw hl.1 (As := [.int (0 : Int32), .int (90 : Int32)]) (rest := []) (ztX6_takeNumber l D cy sh ad h0 hc_34) zyX6_takeNumber h0 zc6 zk6_101 ⟨rfl, rfl⟩ ⟨by decide, by decide⟩ rfl rfl (Nat.le_of_ble_eq_true rfl) dX6_readMotor_105 (fun H locs hw => ?_)
              refine lv_if_ne (tgt := 113) hx hb dX6_readMotor_108 (by decide) (fun c_37 => ?_) (fun c_37 => ?_)
              · have hd := zif_neg c_37 hd
                refine lv_aload_n hx hb dX6_readMotor_113 rfl (lv_at hl 0 rfl) ?_
                refine lv_aload_n hx hb dX6_readMotor_114 rfl (lv_at hl 2 rfl) ?_
                refine z_gI F hw h0 zc6 6 (by decide) rfl zf6_105 dX6_readMotor_115 ?_
                refine z_pI F hw t_10 zc0 6 (by decide) rfl zf6_139 rfl rfl rfl dX6_readMotor_118 (fun H locs M_38 eM_38 hw => ?_)
                have hd := zbd_eq eM_38 hd
                refine lv_aload_n hx hb dX6_readMotor_121 rfl (lv_at hl 2 rfl) ?_
                obtain ⟨r_40, M_41, hc_39, hd⟩ := zob2_some hd
                refine z_cvI F hw hl.1 (As := []) (rest := []) (ztX6_takeStop l D cy sh ad h0 hc_39) zyX6_takeStop h0 zc6 zk6_118 ⟨rfl, rfl⟩ ⟨by decide, by decide⟩ rfl rfl (Nat.le_of_ble_eq_true rfl) dX6_readMotor_122 (fun H locs hw => ?_)
                obtain ⟨g_42, hd⟩ := zgd_some hd
                exact z_zret F hr hlk hw g_42 (zpr1 hd) (zpr2 hd) dX6_readMotor_125
              · have hd := zif_pos c_37 hd
                exact J111 _ _ _ _ (lv_sub hl [] rfl) hw hd
          · have hd := zif_pos c_28 hd
            exact J82 _ _ _ _ (lv_sub hl [] rfl) hw hd
      · have hd := zif_pos c_19 hd
        exact J52 _ _ _ _ (lv_sub hl [] rfl) hw hd
  · have hd := zif_pos c_6 hd
    refine lv_iconst (v := (0 : Int32)) hx hb dX6_readMotor_15 (by decide) ?_
    exact z_zret F hr hlk hw (by decide) (zpr1 hd) (zpr2 hd) dX6_readMotor_16

def zjX6_readBand_43 (sh : zShp) (k0 : Nat)  (M : zMem) : Option (Int32 × zMem) :=
  some ((0 : Int32), M)
def zX6_readBand (sh : zShp) (k0 : Nat) (M : zMem) : Option (Int32 × zMem) :=
  if (zI M (zR M k0 1) 7) < (6 : Int32) then (
  zob (zX6_step sh k0 M) fun M_4 =>
  zob2 (zX6_takeAxis sh k0 (0 : Int32) M_4) fun r_6 M_7 =>
  if r_6 = (-1 : Int32) then (
  zjX6_readBand_43 sh k0 M_7)
  else (
  zob2 (zX6_takeNumber sh k0 (1 : Int32) (60 : Int32) M_7) fun r_10 M_11 =>
  if r_10 = 0 then (
  zjX6_readBand_43 sh k0 M_11)
  else (
  zob2 (zX6_takeNumber sh k0 (zI M_11 k0 6) (60 : Int32) M_11) fun r_14 M_15 =>
  if r_14 = 0 then (
  some ((0 : Int32), M_15))
  else (
  zgd (zin (zI M_15 (zR M_15 k0 1) 7) (zlen sh (zR M_15 (zR M_15 k0 1) 1))) <|
  zbd (zpI M_15 (zR M_15 (zR M_15 k0 1) 1) ((zI M_15 (zR M_15 k0 1) 7).toNatClampNeg) r_6) fun M_21 =>
  zgd (zin (zI M_21 (zR M_21 k0 1) 7) (zlen sh (zR M_21 (zR M_21 k0 1) 2))) <|
  zbd (zpI M_21 (zR M_21 (zR M_21 k0 1) 2) ((zI M_21 (zR M_21 k0 1) 7).toNatClampNeg) (zI M_11 k0 6)) fun M_26 =>
  zgd (zin (zI M_26 (zR M_26 k0 1) 7) (zlen sh (zR M_26 (zR M_26 k0 1) 3))) <|
  zbd (zpI M_26 (zR M_26 (zR M_26 k0 1) 3) ((zI M_26 (zR M_26 k0 1) 7).toNatClampNeg) (zI M_26 k0 6)) fun M_31 =>
  zbd (zpI M_31 (zR M_31 k0 1) 7 ((zI M_31 (zR M_31 k0 1) 7) + (1 : Int32))) fun M_33 =>
  zob2 (zX6_takeStop sh k0 M_33) fun r_35 M_36 =>
  zgd (zisB r_35) <|
  some (r_35, M_36)))))
  else (
  zob2 (zX6_refuse sh k0 (5 : Int32) M) fun r_39 M_40 =>
  zgd (zisB r_39) <|
  some (r_39, M_40))
set_option maxHeartbeats 4000000 in
set_option maxRecDepth 100000 in
theorem ztX6_readBand (l : Launch) (D : va_G) (cy : Nat → ClassId) (sh : zShp) (ad : Nat → Nat) (ka : zKa) {k0 : Nat} (h0 : zT sh k0 6) {M : zMem} {r : Int32} {M1 : zMem} (hd : zX6_readBand sh k0 M = some (r, M1)) : zSCI l yX6_readBand cX6_readBand 3 .boolean { frames := 8, cells := 0, slots := 0, locals := 170 } [.ref (ad k0)] D cy sh ad ka M r M1 := by
  refine zsci_of (plainFor_of_name (by decide)) (Nat.le_of_ble_eq_true rfl) (fun p e s m below meth c ls F hr hlk hl hw hS => ?_)
  have hx := F.1.1
  have hb := F.1.2.1
  have hl : lv_has ls 3 [(0, .ref (ad k0))] := hl
  have J43 : ∀ (M : zMem) (H : Heap) (locs : List Loc) (ls : Array Slot), lv_has ls 3 [] → zWd D cy sh ad s M H locs → zjX6_readBand_43 sh k0  M = some (r, M1) → W p l e { frames := 8, cells := 0, slots := 0, locals := 170 } s m ([.ref (ad k0)] : List Value).toArray below meth c H locs 0 0 (zQI below D cy sh ad s [.ref (ad k0)] r M1) (F0 m 43 ls []) := by
    intro  M H locs ls hl hw hd
    unfold zjX6_readBand_43 at hd
    refine lv_iconst (v := (0 : Int32)) hx hb dX6_readBand_43 (by decide) ?_
    exact z_zret F hr hlk hw (by decide) (zpr1 hd) (zpr2 hd) dX6_readBand_44
  unfold zX6_readBand at hd
  refine lv_aload_n hx hb dX6_readBand_0 rfl (lv_at hl 0 rfl) ?_
  refine z_gR F hw h0 zc6 1 (by decide) rfl zf6_19 dX6_readBand_1 ?_
  have t_1 : zT sh (zR M k0 1) 1 := hw.2.2.2.fld h0 1 1
  refine z_gI F hw t_1 zc1 7 (by decide) rfl zf6_141 dX6_readBand_4 ?_
  refine lv_bipush (v := (6 : Int32)) hx hb dX6_readBand_7 (by decide) ?_
  refine lv_icmp_lt (tgt := 18) hx hb dX6_readBand_9 (by decide) (fun c_2 => ?_) (fun c_2 => ?_)
  · have hd := zif_pos c_2 hd
    refine lv_aload_n hx hb dX6_readBand_18 rfl (lv_at hl 0 rfl) ?_
    obtain ⟨M_4, hc_3, hd⟩ := zob_some hd
    refine z_cvV F hw hl.1 (As := []) (rest := []) (ztX6_step l D cy sh ad h0 hc_3) zyX6_step h0 zc6 zk6_34 ⟨rfl, rfl⟩ ⟨by decide, by decide⟩ rfl rfl (Nat.le_of_ble_eq_true rfl) dX6_readBand_19 (fun H locs hw => ?_)
    refine lv_aload_n hx hb dX6_readBand_22 rfl (lv_at hl 0 rfl) ?_
    refine lv_iconst (v := (0 : Int32)) hx hb dX6_readBand_23 (by decide) ?_
    obtain ⟨r_6, M_7, hc_5, hd⟩ := zob2_some hd
    refine z_svI F hS hw hl.1 (As := [.int (0 : Int32)]) (rest := []) (ztX6_takeAxis l D cy sh ad ka h0 hc_5) zyX6_takeAxis (va_recv F.2.1 hw.1 zc6.2.1 (zW_obj h0 zc6.1)) zk6_121 ⟨rfl, rfl⟩ ⟨by decide, by decide⟩ rfl rfl (Nat.le_of_ble_eq_true rfl) dX6_readBand_24 (fun H locs hw => ?_)
    refine lv_istore_n (lv' := [(1, .int r_6), (0, .ref (ad k0))]) hx hb dX6_readBand_27 rfl hl (by decide) rfl (fun ls hl => ?_)
    refine lv_iload_n hx hb dX6_readBand_28 rfl (lv_at hl 0 rfl) ?_
    refine lv_iconst (v := (-1 : Int32)) hx hb dX6_readBand_29 (by decide) ?_
    refine lv_icmp_eq (tgt := 43) hx hb dX6_readBand_30 (by decide) (fun c_8 => ?_) (fun c_8 => ?_)
    · have hd := zif_pos c_8 hd
      exact J43 _ _ _ _ (lv_sub hl [] rfl) hw hd
    · have hd := zif_neg c_8 hd
      refine lv_aload_n hx hb dX6_readBand_33 rfl (lv_at hl 1 rfl) ?_
      refine lv_iconst (v := (1 : Int32)) hx hb dX6_readBand_34 (by decide) ?_
      refine lv_bipush (v := (60 : Int32)) hx hb dX6_readBand_35 (by decide) ?_
      obtain ⟨r_10, M_11, hc_9, hd⟩ := zob2_some hd
      refine z_cvI F hw hl.1 (As := [.int (1 : Int32), .int (60 : Int32)]) (rest := []) (ztX6_takeNumber l D cy sh ad h0 hc_9) zyX6_takeNumber h0 zc6 zk6_101 ⟨rfl, rfl⟩ ⟨by decide, by decide⟩ rfl rfl (Nat.le_of_ble_eq_true rfl) dX6_readBand_37 (fun H locs hw => ?_)
      refine lv_if_ne (tgt := 45) hx hb dX6_readBand_40 (by decide) (fun c_12 => ?_) (fun c_12 => ?_)
      · have hd := zif_neg c_12 hd
        refine lv_aload_n hx hb dX6_readBand_45 rfl (lv_at hl 1 rfl) ?_
        refine z_gI F hw h0 zc6 6 (by decide) rfl zf6_105 dX6_readBand_46 ?_
        refine lv_istore_n (lv' := [(2, .int (zI M_11 k0 6)), (1, .int r_6), (0, .ref (ad k0))]) hx hb dX6_readBand_49 rfl hl (by decide) rfl (fun ls hl => ?_)
        refine lv_aload_n hx hb dX6_readBand_50 rfl (lv_at hl 2 rfl) ?_
        refine lv_iload_n hx hb dX6_readBand_51 rfl (lv_at hl 0 rfl) ?_
        refine lv_bipush (v := (60 : Int32)) hx hb dX6_readBand_52 (by decide) ?_
        obtain ⟨r_14, M_15, hc_13, hd⟩ := zob2_some hd
        refine z_cvI F hw hl.1 (As := [.int (zI M_11 k0 6), .int (60 : Int32)]) (rest := []) (ztX6_takeNumber l D cy sh ad h0 hc_13) zyX6_takeNumber h0 zc6 zk6_101 ⟨rfl, rfl⟩ ⟨by decide, by decide⟩ rfl rfl (Nat.le_of_ble_eq_true rfl) dX6_readBand_54 (fun H locs hw => ?_)
        refine lv_if_ne (tgt := 62) hx hb dX6_readBand_57 (by decide) (fun c_16 => ?_) (fun c_16 => ?_)
        · have hd := zif_neg c_16 hd
          refine lv_aload_n hx hb dX6_readBand_62 rfl (lv_at hl 2 rfl) ?_
          refine z_gR F hw h0 zc6 1 (by decide) rfl zf6_19 dX6_readBand_63 ?_
          have t_17 : zT sh (zR M_15 k0 1) 1 := hw.2.2.2.fld h0 1 1
          refine z_gR F hw t_17 zc1 1 (by decide) rfl zf6_144 dX6_readBand_66 ?_
          have t_18 : zT sh (zR M_15 (zR M_15 k0 1) 1) 14 := hw.2.2.2.fld t_17 1 14
          refine lv_aload_n hx hb dX6_readBand_69 rfl (lv_at hl 2 rfl) ?_
          refine z_gR F hw h0 zc6 1 (by decide) rfl zf6_19 dX6_readBand_70 ?_
          have t_19 : zT sh (zR M_15 k0 1) 1 := hw.2.2.2.fld h0 1 1
          refine z_gI F hw t_19 zc1 7 (by decide) rfl zf6_141 dX6_readBand_73 ?_
          refine lv_iload_n hx hb dX6_readBand_76 rfl (lv_at hl 1 rfl) ?_
          obtain ⟨g_20, hd⟩ := zgd_some hd
          refine z_iast F hw t_18 g_20 dX6_readBand_77 (fun H locs M_21 eM_21 hw => ?_)
          have hd := zbd_eq eM_21 hd
          refine lv_aload_n hx hb dX6_readBand_78 rfl (lv_at hl 2 rfl) ?_
          refine z_gR F hw h0 zc6 1 (by decide) rfl zf6_19 dX6_readBand_79 ?_
          have t_22 : zT sh (zR M_21 k0 1) 1 := hw.2.2.2.fld h0 1 1
          refine z_gR F hw t_22 zc1 2 (by decide) rfl zf6_148 dX6_readBand_82 ?_
          have t_23 : zT sh (zR M_21 (zR M_21 k0 1) 2) 14 := hw.2.2.2.fld t_22 2 14
          refine lv_aload_n hx hb dX6_readBand_85 rfl (lv_at hl 2 rfl) ?_
          refine z_gR F hw h0 zc6 1 (by decide) rfl zf6_19 dX6_readBand_86 ?_
          have t_24 : zT sh (zR M_21 k0 1) 1 := hw.2.2.2.fld h0 1 1
          refine z_gI F hw t_24 zc1 7 (by decide) rfl zf6_141 dX6_readBand_89 ?_
          refine lv_iload_n hx hb dX6_readBand_92 rfl (lv_at hl 0 rfl) ?_
          obtain ⟨g_25, hd⟩ := zgd_some hd
          refine z_iast F hw t_23 g_25 dX6_readBand_93 (fun H locs M_26 eM_26 hw => ?_)
          have hd := zbd_eq eM_26 hd
          refine lv_aload_n hx hb dX6_readBand_94 rfl (lv_at hl 2 rfl) ?_
          refine z_gR F hw h0 zc6 1 (by decide) rfl zf6_19 dX6_readBand_95 ?_
          have t_27 : zT sh (zR M_26 k0 1) 1 := hw.2.2.2.fld h0 1 1
          refine z_gR F hw t_27 zc1 3 (by decide) rfl zf6_151 dX6_readBand_98 ?_
          have t_28 : zT sh (zR M_26 (zR M_26 k0 1) 3) 14 := hw.2.2.2.fld t_27 3 14
          refine lv_aload_n hx hb dX6_readBand_101 rfl (lv_at hl 2 rfl) ?_
          refine z_gR F hw h0 zc6 1 (by decide) rfl zf6_19 dX6_readBand_102 ?_
          have t_29 : zT sh (zR M_26 k0 1) 1 := hw.2.2.2.fld h0 1 1
          refine z_gI F hw t_29 zc1 7 (by decide) rfl zf6_141 dX6_readBand_105 ?_
          refine lv_aload_n hx hb dX6_readBand_108 rfl (lv_at hl 2 rfl) ?_
          refine z_gI F hw h0 zc6 6 (by decide) rfl zf6_105 dX6_readBand_109 ?_
          obtain ⟨g_30, hd⟩ := zgd_some hd
          refine z_iast F hw t_28 g_30 dX6_readBand_112 (fun H locs M_31 eM_31 hw => ?_)
          have hd := zbd_eq eM_31 hd
          refine lv_aload_n hx hb dX6_readBand_113 rfl (lv_at hl 2 rfl) ?_
          refine z_gR F hw h0 zc6 1 (by decide) rfl zf6_19 dX6_readBand_114 ?_
          have t_32 : zT sh (zR M_31 k0 1) 1 := hw.2.2.2.fld h0 1 1
          refine lv_dup hx hb dX6_readBand_117 rfl ?_
          refine z_gI F hw t_32 zc1 7 (by decide) rfl zf6_141 dX6_readBand_118 ?_
          refine lv_iconst (v := (1 : Int32)) hx hb dX6_readBand_121 (by decide) ?_
          refine lv_iadd hx hb dX6_readBand_122 ?_
          refine z_pI F hw t_32 zc1 7 (by decide) rfl zf6_141 rfl rfl rfl dX6_readBand_123 (fun H locs M_33 eM_33 hw => ?_)
          have hd := zbd_eq eM_33 hd
          refine lv_aload_n hx hb dX6_readBand_126 rfl (lv_at hl 2 rfl) ?_
          obtain ⟨r_35, M_36, hc_34, hd⟩ := zob2_some hd
          refine z_cvI F hw hl.1 (As := []) (rest := []) (ztX6_takeStop l D cy sh ad h0 hc_34) zyX6_takeStop h0 zc6 zk6_118 ⟨rfl, rfl⟩ ⟨by decide, by decide⟩ rfl rfl (Nat.le_of_ble_eq_true rfl) dX6_readBand_127 (fun H locs hw => ?_)
          obtain ⟨g_37, hd⟩ := zgd_some hd
          exact z_zret F hr hlk hw g_37 (zpr1 hd) (zpr2 hd) dX6_readBand_130
        · have hd := zif_pos c_16 hd
          refine lv_iconst (v := (0 : Int32)) hx hb dX6_readBand_60 (by decide) ?_
          exact z_zret F hr hlk hw (by decide) (zpr1 hd) (zpr2 hd) dX6_readBand_61
      · have hd := zif_pos c_12 hd
        exact J43 _ _ _ _ (lv_sub hl [] rfl) hw hd
  · have hd := zif_neg c_2 hd
    refine lv_aload_n hx hb dX6_readBand_12 rfl (lv_at hl 0 rfl) ?_
    refine lv_iconst (v := (5 : Int32)) hx hb dX6_readBand_13 (by decide) ?_
    obtain ⟨r_39, M_40, hc_38, hd⟩ := zob2_some hd
    refine z_cvI F hw hl.1 (As := [.int (5 : Int32)]) (rest := []) (ztX6_refuse l D cy sh ad h0 hc_38) zyX6_refuse h0 zc6 zk6_70 ⟨rfl, rfl⟩ ⟨by decide, by decide⟩ rfl rfl (Nat.le_of_ble_eq_true rfl) dX6_readBand_14 (fun H locs hw => ?_)
    obtain ⟨g_41, hd⟩ := zgd_some hd
    exact z_zret F hr hlk hw g_41 (zpr1 hd) (zpr2 hd) dX6_readBand_17

def zjX6_readCoil_48 (sh : zShp) (k0 : Nat)  (M : zMem) : Option (Int32 × zMem) :=
  some ((0 : Int32), M)
def zjX6_readCoil_80 (sh : zShp) (k0 : Nat)  (M : zMem) : Option (Int32 × zMem) :=
  some ((0 : Int32), M)
def zX6_readCoil (sh : zShp) (k0 : Nat) (M : zMem) : Option (Int32 × zMem) :=
  if (zI M (zR M k0 1) 11) = 0 then (
  zbd (zpI M (zR M k0 1) 11 (1 : Int32)) fun M_4 =>
  zob (zX6_step sh k0 M_4) fun M_6 =>
  zob2 (zX6_takeWord sh k0 12 M_6) fun r_8 M_9 =>
  if r_8 = 0 then (
  zjX6_readCoil_48 sh k0 M_9)
  else (
  zob2 (zX6_takeNumber sh k0 (1 : Int32) (2000 : Int32) M_9) fun r_12 M_13 =>
  if r_12 = 0 then (
  zjX6_readCoil_48 sh k0 M_13)
  else (
  zbd (zpI M_13 (zR M_13 k0 1) 9 (zI M_13 k0 6)) fun M_16 =>
  zob2 (zX6_takeWord sh k0 8 M_16) fun r_18 M_19 =>
  if r_18 = 0 then (
  zjX6_readCoil_80 sh k0 M_19)
  else (
  zob2 (zX6_takeNumber sh k0 (1 : Int32) (99 : Int32) M_19) fun r_22 M_23 =>
  if r_22 = 0 then (
  zjX6_readCoil_80 sh k0 M_23)
  else (
  zbd (zpI M_23 (zR M_23 k0 1) 10 (zI M_23 k0 6)) fun M_26 =>
  zob2 (zX6_takeStop sh k0 M_26) fun r_28 M_29 =>
  zgd (zisB r_28) <|
  some (r_28, M_29))))))
  else (
  zob2 (zX6_refuse sh k0 (5 : Int32) M) fun r_32 M_33 =>
  zgd (zisB r_32) <|
  some (r_32, M_33))
set_option maxHeartbeats 4000000 in
set_option maxRecDepth 100000 in
theorem ztX6_readCoil (l : Launch) (D : va_G) (cy : Nat → ClassId) (sh : zShp) (ad : Nat → Nat) (ka : zKa) {k0 : Nat} (h0 : zT sh k0 6) {M : zMem} {r : Int32} {M1 : zMem} (hd : zX6_readCoil sh k0 M = some (r, M1)) : zSCI l yX6_readCoil cX6_readCoil 1 .boolean { frames := 7, cells := 0, slots := 0, locals := 149 } [.ref (ad k0)] D cy sh ad ka M r M1 := by
  refine zsci_of (plainFor_of_name (by decide)) (Nat.le_of_ble_eq_true rfl) (fun p e s m below meth c ls F hr hlk hl hw hS => ?_)
  have hx := F.1.1
  have hb := F.1.2.1
  have hl : lv_has ls 1 [(0, .ref (ad k0))] := hl
  have J48 : ∀ (M : zMem) (H : Heap) (locs : List Loc) (ls : Array Slot), lv_has ls 1 [] → zWd D cy sh ad s M H locs → zjX6_readCoil_48 sh k0  M = some (r, M1) → W p l e { frames := 7, cells := 0, slots := 0, locals := 149 } s m ([.ref (ad k0)] : List Value).toArray below meth c H locs 0 0 (zQI below D cy sh ad s [.ref (ad k0)] r M1) (F0 m 48 ls []) := by
    intro  M H locs ls hl hw hd
    unfold zjX6_readCoil_48 at hd
    refine lv_iconst (v := (0 : Int32)) hx hb dX6_readCoil_48 (by decide) ?_
    exact z_zret F hr hlk hw (by decide) (zpr1 hd) (zpr2 hd) dX6_readCoil_49
  have J80 : ∀ (M : zMem) (H : Heap) (locs : List Loc) (ls : Array Slot), lv_has ls 1 [] → zWd D cy sh ad s M H locs → zjX6_readCoil_80 sh k0  M = some (r, M1) → W p l e { frames := 7, cells := 0, slots := 0, locals := 149 } s m ([.ref (ad k0)] : List Value).toArray below meth c H locs 0 0 (zQI below D cy sh ad s [.ref (ad k0)] r M1) (F0 m 80 ls []) := by
    intro  M H locs ls hl hw hd
    unfold zjX6_readCoil_80 at hd
    refine lv_iconst (v := (0 : Int32)) hx hb dX6_readCoil_80 (by decide) ?_
    exact z_zret F hr hlk hw (by decide) (zpr1 hd) (zpr2 hd) dX6_readCoil_81
  unfold zX6_readCoil at hd
  refine lv_aload_n hx hb dX6_readCoil_0 rfl (lv_at hl 0 rfl) ?_
  refine z_gR F hw h0 zc6 1 (by decide) rfl zf6_19 dX6_readCoil_1 ?_
  have t_1 : zT sh (zR M k0 1) 1 := hw.2.2.2.fld h0 1 1
  refine z_gI F hw t_1 zc1 11 (by decide) rfl zf6_173 dX6_readCoil_4 ?_
  refine lv_if_eq (tgt := 16) hx hb dX6_readCoil_7 (by decide) (fun c_2 => ?_) (fun c_2 => ?_)
  · have hd := zif_pos c_2 hd
    refine lv_aload_n hx hb dX6_readCoil_16 rfl (lv_at hl 0 rfl) ?_
    refine z_gR F hw h0 zc6 1 (by decide) rfl zf6_19 dX6_readCoil_17 ?_
    have t_3 : zT sh (zR M k0 1) 1 := hw.2.2.2.fld h0 1 1
    refine lv_iconst (v := (1 : Int32)) hx hb dX6_readCoil_20 (by decide) ?_
    refine z_pI F hw t_3 zc1 11 (by decide) rfl zf6_173 rfl (by decide) rfl dX6_readCoil_21 (fun H locs M_4 eM_4 hw => ?_)
    have hd := zbd_eq eM_4 hd
    refine lv_aload_n hx hb dX6_readCoil_24 rfl (lv_at hl 0 rfl) ?_
    obtain ⟨M_6, hc_5, hd⟩ := zob_some hd
    refine z_cvV F hw hl.1 (As := []) (rest := []) (ztX6_step l D cy sh ad h0 hc_5) zyX6_step h0 zc6 zk6_34 ⟨rfl, rfl⟩ ⟨by decide, by decide⟩ rfl rfl (Nat.le_of_ble_eq_true rfl) dX6_readCoil_25 (fun H locs hw => ?_)
    refine lv_aload_n hx hb dX6_readCoil_28 rfl (lv_at hl 0 rfl) ?_
    refine va_ldcS hx hb F.1.2.2.2.1 (show vk_R RX6 176 "supply" (ka.1 12) s from hS.2.2.2 12 (by decide)) dX6_readCoil_29 ?_
    obtain ⟨r_8, M_9, hc_7, hd⟩ := zob2_some hd
    refine z_svI F hS hw hl.1 (As := [.ref (ka.1 12)]) (rest := []) (ztX6_takeWord l D cy sh ad ka h0 (by decide) hc_7) zyX6_takeWord (va_recv F.2.1 hw.1 zc6.2.1 (zW_obj h0 zc6.1)) zk6_98 ⟨rfl, rfl⟩ ⟨by decide, by decide⟩ rfl rfl (Nat.le_of_ble_eq_true rfl) dX6_readCoil_31 (fun H locs hw => ?_)
    refine lv_if_eq (tgt := 48) hx hb dX6_readCoil_34 (by decide) (fun c_10 => ?_) (fun c_10 => ?_)
    · have hd := zif_pos c_10 hd
      exact J48 _ _ _ _ (lv_sub hl [] rfl) hw hd
    · have hd := zif_neg c_10 hd
      refine lv_aload_n hx hb dX6_readCoil_37 rfl (lv_at hl 0 rfl) ?_
      refine lv_iconst (v := (1 : Int32)) hx hb dX6_readCoil_38 (by decide) ?_
      refine lv_sipush (v := (2000 : Int32)) hx hb dX6_readCoil_39 (by decide) ?_
      obtain ⟨r_12, M_13, hc_11, hd⟩ := zob2_some hd
      refine z_cvI F hw hl.1 (As := [.int (1 : Int32), .int (2000 : Int32)]) (rest := []) (ztX6_takeNumber l D cy sh ad h0 hc_11) zyX6_takeNumber h0 zc6 zk6_101 ⟨rfl, rfl⟩ ⟨by decide, by decide⟩ rfl rfl (Nat.le_of_ble_eq_true rfl) dX6_readCoil_42 (fun H locs hw => ?_)
      refine lv_if_ne (tgt := 50) hx hb dX6_readCoil_45 (by decide) (fun c_14 => ?_) (fun c_14 => ?_)
      · have hd := zif_neg c_14 hd
        refine lv_aload_n hx hb dX6_readCoil_50 rfl (lv_at hl 0 rfl) ?_
        refine z_gR F hw h0 zc6 1 (by decide) rfl zf6_19 dX6_readCoil_51 ?_
        have t_15 : zT sh (zR M_13 k0 1) 1 := hw.2.2.2.fld h0 1 1
        refine lv_aload_n hx hb dX6_readCoil_54 rfl (lv_at hl 0 rfl) ?_
        refine z_gI F hw h0 zc6 6 (by decide) rfl zf6_105 dX6_readCoil_55 ?_
        refine z_pI F hw t_15 zc1 9 (by decide) rfl zf6_178 rfl rfl rfl dX6_readCoil_58 (fun H locs M_16 eM_16 hw => ?_)
        have hd := zbd_eq eM_16 hd
        refine lv_aload_n hx hb dX6_readCoil_61 rfl (lv_at hl 0 rfl) ?_
        refine va_ldcS hx hb F.1.2.2.2.1 (show vk_R RX6 180 "loss" (ka.1 8) s from hS.2.2.2 8 (by decide)) dX6_readCoil_62 ?_
        obtain ⟨r_18, M_19, hc_17, hd⟩ := zob2_some hd
        refine z_svI F hS hw hl.1 (As := [.ref (ka.1 8)]) (rest := []) (ztX6_takeWord l D cy sh ad ka h0 (by decide) hc_17) zyX6_takeWord (va_recv F.2.1 hw.1 zc6.2.1 (zW_obj h0 zc6.1)) zk6_98 ⟨rfl, rfl⟩ ⟨by decide, by decide⟩ rfl rfl (Nat.le_of_ble_eq_true rfl) dX6_readCoil_64 (fun H locs hw => ?_)
        refine lv_if_eq (tgt := 80) hx hb dX6_readCoil_67 (by decide) (fun c_20 => ?_) (fun c_20 => ?_)
        · have hd := zif_pos c_20 hd
          exact J80 _ _ _ _ (lv_sub hl [] rfl) hw hd
        · have hd := zif_neg c_20 hd
          refine lv_aload_n hx hb dX6_readCoil_70 rfl (lv_at hl 0 rfl) ?_
          refine lv_iconst (v := (1 : Int32)) hx hb dX6_readCoil_71 (by decide) ?_
          refine lv_bipush (v := (99 : Int32)) hx hb dX6_readCoil_72 (by decide) ?_
          obtain ⟨r_22, M_23, hc_21, hd⟩ := zob2_some hd
          refine z_cvI F hw hl.1 (As := [.int (1 : Int32), .int (99 : Int32)]) (rest := []) (ztX6_takeNumber l D cy sh ad h0 hc_21) zyX6_takeNumber h0 zc6 zk6_101 ⟨rfl, rfl⟩ ⟨by decide, by decide⟩ rfl rfl (Nat.le_of_ble_eq_true rfl) dX6_readCoil_74 (fun H locs hw => ?_)
          refine lv_if_ne (tgt := 82) hx hb dX6_readCoil_77 (by decide) (fun c_24 => ?_) (fun c_24 => ?_)
          · have hd := zif_neg c_24 hd
            refine lv_aload_n hx hb dX6_readCoil_82 rfl (lv_at hl 0 rfl) ?_
            refine z_gR F hw h0 zc6 1 (by decide) rfl zf6_19 dX6_readCoil_83 ?_
            have t_25 : zT sh (zR M_23 k0 1) 1 := hw.2.2.2.fld h0 1 1
            refine lv_aload_n hx hb dX6_readCoil_86 rfl (lv_at hl 0 rfl) ?_
            refine z_gI F hw h0 zc6 6 (by decide) rfl zf6_105 dX6_readCoil_87 ?_
            refine z_pI F hw t_25 zc1 10 (by decide) rfl zf6_182 rfl rfl rfl dX6_readCoil_90 (fun H locs M_26 eM_26 hw => ?_)
            have hd := zbd_eq eM_26 hd
            refine lv_aload_n hx hb dX6_readCoil_93 rfl (lv_at hl 0 rfl) ?_
            obtain ⟨r_28, M_29, hc_27, hd⟩ := zob2_some hd
            refine z_cvI F hw hl.1 (As := []) (rest := []) (ztX6_takeStop l D cy sh ad h0 hc_27) zyX6_takeStop h0 zc6 zk6_118 ⟨rfl, rfl⟩ ⟨by decide, by decide⟩ rfl rfl (Nat.le_of_ble_eq_true rfl) dX6_readCoil_94 (fun H locs hw => ?_)
            obtain ⟨g_30, hd⟩ := zgd_some hd
            exact z_zret F hr hlk hw g_30 (zpr1 hd) (zpr2 hd) dX6_readCoil_97
          · have hd := zif_pos c_24 hd
            exact J80 _ _ _ _ (lv_sub hl [] rfl) hw hd
      · have hd := zif_pos c_14 hd
        exact J48 _ _ _ _ (lv_sub hl [] rfl) hw hd
  · have hd := zif_neg c_2 hd
    refine lv_aload_n hx hb dX6_readCoil_10 rfl (lv_at hl 0 rfl) ?_
    refine lv_iconst (v := (5 : Int32)) hx hb dX6_readCoil_11 (by decide) ?_
    obtain ⟨r_32, M_33, hc_31, hd⟩ := zob2_some hd
    refine z_cvI F hw hl.1 (As := [.int (5 : Int32)]) (rest := []) (ztX6_refuse l D cy sh ad h0 hc_31) zyX6_refuse h0 zc6 zk6_70 ⟨rfl, rfl⟩ ⟨by decide, by decide⟩ rfl rfl (Nat.le_of_ble_eq_true rfl) dX6_readCoil_12 (fun H locs hw => ?_)
    obtain ⟨g_34, hd⟩ := zgd_some hd
    exact z_zret F hr hlk hw g_34 (zpr1 hd) (zpr2 hd) dX6_readCoil_15

def zX6_readLine (sh : zShp) (k0 : Nat) (M : zMem) : Option (Int32 × zMem) :=
  zob (zX6_isWord sh k0 0 M) fun r_2 =>
  if r_2 = 0 then (
  zob (zX6_isWord sh k0 10 M) fun r_5 =>
  if r_5 = 0 then (
  zob (zX6_isWord sh k0 1 M) fun r_8 =>
  if r_8 = 0 then (
  zob (zX6_isWord sh k0 4 M) fun r_11 =>
  if r_11 = 0 then (
  zob (zX6_isWord sh k0 2 M) fun r_14 =>
  if r_14 = 0 then (
  zob2 (zX6_refuse sh k0 (2 : Int32) M) fun r_17 M_18 =>
  zgd (zisB r_17) <|
  some (r_17, M_18))
  else (
  zob2 (zX6_readCoil sh k0 M) fun r_21 M_22 =>
  zgd (zisB r_21) <|
  some (r_21, M_22)))
  else (
  zob2 (zX6_readFix sh k0 M) fun r_25 M_26 =>
  zgd (zisB r_25) <|
  some (r_25, M_26)))
  else (
  zob2 (zX6_readBand sh k0 M) fun r_29 M_30 =>
  zgd (zisB r_29) <|
  some (r_29, M_30)))
  else (
  zob2 (zX6_readMotor sh k0 M) fun r_33 M_34 =>
  zgd (zisB r_33) <|
  some (r_33, M_34)))
  else (
  zob2 (zX6_readAxis sh k0 M) fun r_37 M_38 =>
  zgd (zisB r_37) <|
  some (r_37, M_38))
set_option maxHeartbeats 4000000 in
set_option maxRecDepth 100000 in
theorem ztX6_readLine (l : Launch) (D : va_G) (cy : Nat → ClassId) (sh : zShp) (ad : Nat → Nat) (ka : zKa) {k0 : Nat} (h0 : zT sh k0 6) {M : zMem} {r : Int32} {M1 : zMem} (hd : zX6_readLine sh k0 M = some (r, M1)) : zSCI l yX6_readLine cX6_readLine 1 .boolean { frames := 9, cells := 0, slots := 0, locals := 192 } [.ref (ad k0)] D cy sh ad ka M r M1 := by
  refine zsci_of (plainFor_of_name (by decide)) (Nat.le_of_ble_eq_true rfl) (fun p e s m below meth c ls F hr hlk hl hw hS => ?_)
  have hx := F.1.1
  have hb := F.1.2.1
  have hl : lv_has ls 1 [(0, .ref (ad k0))] := hl
  unfold zX6_readLine at hd
  refine lv_aload_n hx hb dX6_readLine_0 rfl (lv_at hl 0 rfl) ?_
  refine va_ldcS hx hb F.1.2.2.2.1 (show vk_R RX6 40 "axis" (ka.1 0) s from hS.2.2.2 0 (by decide)) dX6_readLine_1 ?_
  obtain ⟨r_2, hc_1, hd⟩ := zob_some hd
  refine z_svI F hS hw hl.1 (As := [.ref (ka.1 0)]) (rest := []) (ztX6_isWord l D cy sh ad ka h0 (by decide) hc_1) zyX6_isWord (va_recv F.2.1 hw.1 zc6.2.1 (zW_obj h0 zc6.1)) zk6_42 ⟨rfl, rfl⟩ ⟨by decide, by decide⟩ rfl rfl (Nat.le_of_ble_eq_true rfl) dX6_readLine_3 (fun H locs hw => ?_)
  refine lv_if_eq (tgt := 14) hx hb dX6_readLine_6 (by decide) (fun c_3 => ?_) (fun c_3 => ?_)
  · have hd := zif_pos c_3 hd
    refine lv_aload_n hx hb dX6_readLine_14 rfl (lv_at hl 0 rfl) ?_
    refine va_ldcS hx hb F.1.2.2.2.1 (show vk_R RX6 50 "motor" (ka.1 10) s from hS.2.2.2 10 (by decide)) dX6_readLine_15 ?_
    obtain ⟨r_5, hc_4, hd⟩ := zob_some hd
    refine z_svI F hS hw hl.1 (As := [.ref (ka.1 10)]) (rest := []) (ztX6_isWord l D cy sh ad ka h0 (by decide) hc_4) zyX6_isWord (va_recv F.2.1 hw.1 zc6.2.1 (zW_obj h0 zc6.1)) zk6_42 ⟨rfl, rfl⟩ ⟨by decide, by decide⟩ rfl rfl (Nat.le_of_ble_eq_true rfl) dX6_readLine_17 (fun H locs hw => ?_)
    refine lv_if_eq (tgt := 28) hx hb dX6_readLine_20 (by decide) (fun c_6 => ?_) (fun c_6 => ?_)
    · have hd := zif_pos c_6 hd
      refine lv_aload_n hx hb dX6_readLine_28 rfl (lv_at hl 0 rfl) ?_
      refine va_ldcS hx hb F.1.2.2.2.1 (show vk_R RX6 55 "band" (ka.1 1) s from hS.2.2.2 1 (by decide)) dX6_readLine_29 ?_
      obtain ⟨r_8, hc_7, hd⟩ := zob_some hd
      refine z_svI F hS hw hl.1 (As := [.ref (ka.1 1)]) (rest := []) (ztX6_isWord l D cy sh ad ka h0 (by decide) hc_7) zyX6_isWord (va_recv F.2.1 hw.1 zc6.2.1 (zW_obj h0 zc6.1)) zk6_42 ⟨rfl, rfl⟩ ⟨by decide, by decide⟩ rfl rfl (Nat.le_of_ble_eq_true rfl) dX6_readLine_31 (fun H locs hw => ?_)
      refine lv_if_eq (tgt := 42) hx hb dX6_readLine_34 (by decide) (fun c_9 => ?_) (fun c_9 => ?_)
      · have hd := zif_pos c_9 hd
        refine lv_aload_n hx hb dX6_readLine_42 rfl (lv_at hl 0 rfl) ?_
        refine va_ldcS hx hb F.1.2.2.2.1 (show vk_R RX6 60 "fix" (ka.1 4) s from hS.2.2.2 4 (by decide)) dX6_readLine_43 ?_
        obtain ⟨r_11, hc_10, hd⟩ := zob_some hd
        refine z_svI F hS hw hl.1 (As := [.ref (ka.1 4)]) (rest := []) (ztX6_isWord l D cy sh ad ka h0 (by decide) hc_10) zyX6_isWord (va_recv F.2.1 hw.1 zc6.2.1 (zW_obj h0 zc6.1)) zk6_42 ⟨rfl, rfl⟩ ⟨by decide, by decide⟩ rfl rfl (Nat.le_of_ble_eq_true rfl) dX6_readLine_45 (fun H locs hw => ?_)
        refine lv_if_eq (tgt := 56) hx hb dX6_readLine_48 (by decide) (fun c_12 => ?_) (fun c_12 => ?_)
        · have hd := zif_pos c_12 hd
          refine lv_aload_n hx hb dX6_readLine_56 rfl (lv_at hl 0 rfl) ?_
          refine va_ldcS hx hb F.1.2.2.2.1 (show vk_R RX6 65 "coil" (ka.1 2) s from hS.2.2.2 2 (by decide)) dX6_readLine_57 ?_
          obtain ⟨r_14, hc_13, hd⟩ := zob_some hd
          refine z_svI F hS hw hl.1 (As := [.ref (ka.1 2)]) (rest := []) (ztX6_isWord l D cy sh ad ka h0 (by decide) hc_13) zyX6_isWord (va_recv F.2.1 hw.1 zc6.2.1 (zW_obj h0 zc6.1)) zk6_42 ⟨rfl, rfl⟩ ⟨by decide, by decide⟩ rfl rfl (Nat.le_of_ble_eq_true rfl) dX6_readLine_59 (fun H locs hw => ?_)
          refine lv_if_eq (tgt := 70) hx hb dX6_readLine_62 (by decide) (fun c_15 => ?_) (fun c_15 => ?_)
          · have hd := zif_pos c_15 hd
            refine lv_aload_n hx hb dX6_readLine_70 rfl (lv_at hl 0 rfl) ?_
            refine lv_iconst (v := (2 : Int32)) hx hb dX6_readLine_71 (by decide) ?_
            obtain ⟨r_17, M_18, hc_16, hd⟩ := zob2_some hd
            refine z_cvI F hw hl.1 (As := [.int (2 : Int32)]) (rest := []) (ztX6_refuse l D cy sh ad h0 hc_16) zyX6_refuse h0 zc6 zk6_70 ⟨rfl, rfl⟩ ⟨by decide, by decide⟩ rfl rfl (Nat.le_of_ble_eq_true rfl) dX6_readLine_72 (fun H locs hw => ?_)
            obtain ⟨g_19, hd⟩ := zgd_some hd
            exact z_zret F hr hlk hw g_19 (zpr1 hd) (zpr2 hd) dX6_readLine_75
          · have hd := zif_neg c_15 hd
            refine lv_aload_n hx hb dX6_readLine_65 rfl (lv_at hl 0 rfl) ?_
            obtain ⟨r_21, M_22, hc_20, hd⟩ := zob2_some hd
            refine z_svI F hS hw hl.1 (As := []) (rest := []) (ztX6_readCoil l D cy sh ad ka h0 hc_20) zyX6_readCoil (va_recv F.2.1 hw.1 zc6.2.1 (zW_obj h0 zc6.1)) zk6_67 ⟨rfl, rfl⟩ ⟨by decide, by decide⟩ rfl rfl (Nat.le_of_ble_eq_true rfl) dX6_readLine_66 (fun H locs hw => ?_)
            obtain ⟨g_23, hd⟩ := zgd_some hd
            exact z_zret F hr hlk hw g_23 (zpr1 hd) (zpr2 hd) dX6_readLine_69
        · have hd := zif_neg c_12 hd
          refine lv_aload_n hx hb dX6_readLine_51 rfl (lv_at hl 0 rfl) ?_
          obtain ⟨r_25, M_26, hc_24, hd⟩ := zob2_some hd
          refine z_cvI F hw hl.1 (As := []) (rest := []) (ztX6_readFix l D cy sh ad h0 hc_24) zyX6_readFix h0 zc6 zk6_62 ⟨rfl, rfl⟩ ⟨by decide, by decide⟩ rfl rfl (Nat.le_of_ble_eq_true rfl) dX6_readLine_52 (fun H locs hw => ?_)
          obtain ⟨g_27, hd⟩ := zgd_some hd
          exact z_zret F hr hlk hw g_27 (zpr1 hd) (zpr2 hd) dX6_readLine_55
      · have hd := zif_neg c_9 hd
        refine lv_aload_n hx hb dX6_readLine_37 rfl (lv_at hl 0 rfl) ?_
        obtain ⟨r_29, M_30, hc_28, hd⟩ := zob2_some hd
        refine z_svI F hS hw hl.1 (As := []) (rest := []) (ztX6_readBand l D cy sh ad ka h0 hc_28) zyX6_readBand (va_recv F.2.1 hw.1 zc6.2.1 (zW_obj h0 zc6.1)) zk6_57 ⟨rfl, rfl⟩ ⟨by decide, by decide⟩ rfl rfl (Nat.le_of_ble_eq_true rfl) dX6_readLine_38 (fun H locs hw => ?_)
        obtain ⟨g_31, hd⟩ := zgd_some hd
        exact z_zret F hr hlk hw g_31 (zpr1 hd) (zpr2 hd) dX6_readLine_41
    · have hd := zif_neg c_6 hd
      refine lv_aload_n hx hb dX6_readLine_23 rfl (lv_at hl 0 rfl) ?_
      obtain ⟨r_33, M_34, hc_32, hd⟩ := zob2_some hd
      refine z_svI F hS hw hl.1 (As := []) (rest := []) (ztX6_readMotor l D cy sh ad ka h0 hc_32) zyX6_readMotor (va_recv F.2.1 hw.1 zc6.2.1 (zW_obj h0 zc6.1)) zk6_52 ⟨rfl, rfl⟩ ⟨by decide, by decide⟩ rfl rfl (Nat.le_of_ble_eq_true rfl) dX6_readLine_24 (fun H locs hw => ?_)
      obtain ⟨g_35, hd⟩ := zgd_some hd
      exact z_zret F hr hlk hw g_35 (zpr1 hd) (zpr2 hd) dX6_readLine_27
  · have hd := zif_neg c_3 hd
    refine lv_aload_n hx hb dX6_readLine_9 rfl (lv_at hl 0 rfl) ?_
    obtain ⟨r_37, M_38, hc_36, hd⟩ := zob2_some hd
    refine z_svI F hS hw hl.1 (As := []) (rest := []) (ztX6_readAxis l D cy sh ad ka h0 hc_36) zyX6_readAxis (va_recv F.2.1 hw.1 zc6.2.1 (zW_obj h0 zc6.1)) zk6_46 ⟨rfl, rfl⟩ ⟨by decide, by decide⟩ rfl rfl (Nat.le_of_ble_eq_true rfl) dX6_readLine_10 (fun H locs hw => ?_)
    obtain ⟨g_39, hd⟩ := zgd_some hd
    exact z_zret F hr hlk hw g_39 (zpr1 hd) (zpr2 hd) dX6_readLine_13

def zjX11_bench_50 (sh : zShp) (k0 : Nat)  (x1 : Int32) (M : zMem) : Option (Int32 × zMem) :=
  zbd (zpI M (zR M k0 0) 1 (0 : Int32)) fun M_2 =>
  if x1 = 0 then (
  some ((-1 : Int32), M_2))
  else (
  zbd (zpR M_2 k0 11 (zR M_2 k0 12)) fun M_6 =>
  zbd (zpR M_6 k0 12 (zR M_2 k0 11)) fun M_7 =>
  zob (zX8_clear sh (zR M_7 k0 2) M_7) fun M_10 =>
  zbd (zpI M_10 (zR M_10 k0 4) 2 (0 : Int32)) fun M_12 =>
  some ((zI M_12 (zR M_12 k0 11) 6), M_12))
def zbX11_bench_15 (sh : zShp) (k0 : Nat)  (kk15 : Int32 → Int32 → zMem → Option (Int32 × zMem)) (x1 : Int32) (x2 : Int32) (M : zMem) : Option (Int32 × zMem) :=
  if (900 : Int32) ≤ x2 then (
  zjX11_bench_50 sh k0 x1 M)
  else (
  if x1 = 0 then (
  zjX11_bench_50 sh k0 x1 M)
  else (
  zob (zX6_hasMore sh (zR M k0 1) M) fun r_18 =>
  if r_18 = 0 then (
  zjX11_bench_50 sh k0 x1 M)
  else (
  zob2 (zX6_readLine sh (zR M k0 1) M) fun r_22 M_23 =>
  kk15 r_22 (x2 + (1 : Int32)) M_23)))
def zlX11_bench_15 (sh : zShp) (k0 : Nat)  : Nat → Int32 → Int32 → zMem → Option (Int32 × zMem)
  | 0 => fun _ _ _ => none
  | n + 1 => fun x1 x2 M => zbX11_bench_15 sh k0  (zlX11_bench_15 sh k0  n) x1 x2 M
def zX11_bench (sh : zShp) (k0 : Nat) (M : zMem) : Option (Int32 × zMem) :=
  zob (zX6_start sh (zR M k0 1) (zR M k0 12) M) fun M_27 =>
  zlX11_bench_15 sh k0 zF (1 : Int32) (0 : Int32) M_27
set_option maxHeartbeats 4000000 in
set_option maxRecDepth 100000 in
theorem ztX11_bench (l : Launch) (D : va_G) (cy : Nat → ClassId) (sh : zShp) (ad : Nat → Nat) (ka : zKa) {k0 : Nat} (h0 : zT sh k0 11) {M : zMem} {r : Int32} {M1 : zMem} (hd : zX11_bench sh k0 M = some (r, M1)) : zSCI l yX11_bench cX11_bench 3 .int { frames := 10, cells := 0, slots := 0, locals := 212 } [.ref (ad k0)] D cy sh ad ka M r M1 := by
  refine zsci_of (plainFor_of_name (by decide)) (Nat.le_of_ble_eq_true rfl) (fun p e s m below meth c ls F hr hlk hl hw hS => ?_)
  have hx := F.1.1
  have hb := F.1.2.1
  have hl : lv_has ls 3 [(0, .ref (ad k0))] := hl
  have J50 : ∀ (x1 : Int32) (M : zMem) (H : Heap) (locs : List Loc) (ls : Array Slot), lv_has ls 3 [(0, .ref (ad k0)), (1, .int x1)] → zWd D cy sh ad s M H locs → zjX11_bench_50 sh k0  x1 M = some (r, M1) → W p l e { frames := 10, cells := 0, slots := 0, locals := 212 } s m ([.ref (ad k0)] : List Value).toArray below meth c H locs 0 0 (zQI below D cy sh ad s [.ref (ad k0)] r M1) (F0 m 50 ls []) := by
    intro  x1 M H locs ls hl hw hd
    unfold zjX11_bench_50 at hd
    refine lv_aload_n hx hb dX11_bench_50 rfl (lv_at hl 0 rfl) ?_
    refine z_gR F hw h0 zc11 0 (by decide) rfl zf11_24 dX11_bench_51 ?_
    have t_1 : zT sh (zR M k0 0) 10 := hw.2.2.2.fld h0 0 10
    refine lv_iconst (v := (0 : Int32)) hx hb dX11_bench_54 (by decide) ?_
    refine z_pI F hw t_1 zc10 1 (by decide) rfl zf11_89 rfl rfl rfl dX11_bench_55 (fun H locs M_2 eM_2 hw => ?_)
    have hd := zbd_eq eM_2 hd
    refine lv_iload_n hx hb dX11_bench_58 rfl (lv_at hl 1 rfl) ?_
    refine lv_if_ne (tgt := 64) hx hb dX11_bench_59 (by decide) (fun c_3 => ?_) (fun c_3 => ?_)
    · have hd := zif_neg c_3 hd
      refine lv_aload_n hx hb dX11_bench_64 rfl (lv_at hl 0 rfl) ?_
      refine z_gR F hw h0 zc11 11 (by decide) rfl zf11_12 dX11_bench_65 ?_
      have t_4 : zT sh (zR M_2 k0 11) 1 := hw.2.2.2.fld h0 11 1
      refine lv_astore_n (lv' := [(2, .ref (ad (zR M_2 k0 11))), (0, .ref (ad k0)), (1, .int x1)]) hx hb dX11_bench_68 rfl hl (by decide) rfl (fun ls hl => ?_)
      refine lv_aload_n hx hb dX11_bench_69 rfl (lv_at hl 1 rfl) ?_
      refine lv_aload_n hx hb dX11_bench_70 rfl (lv_at hl 1 rfl) ?_
      refine z_gR F hw h0 zc11 12 (by decide) rfl zf11_18 dX11_bench_71 ?_
      have t_5 : zT sh (zR M_2 k0 12) 1 := hw.2.2.2.fld h0 12 1
      refine z_pR F hw h0 zc11 11 (by decide) rfl zf11_12 rfl t_5 rfl rfl dX11_bench_74 (fun H locs M_6 eM_6 hw => ?_)
      have hd := zbd_eq eM_6 hd
      refine lv_aload_n hx hb dX11_bench_77 rfl (lv_at hl 1 rfl) ?_
      refine lv_aload_n hx hb dX11_bench_78 rfl (lv_at hl 0 rfl) ?_
      refine z_pR F hw h0 zc11 12 (by decide) rfl zf11_18 rfl t_4 rfl rfl dX11_bench_79 (fun H locs M_7 eM_7 hw => ?_)
      have hd := zbd_eq eM_7 hd
      refine lv_aload_n hx hb dX11_bench_82 rfl (lv_at hl 1 rfl) ?_
      refine z_gR F hw h0 zc11 2 (by decide) rfl zf11_40 dX11_bench_83 ?_
      have t_8 : zT sh (zR M_7 k0 2) 8 := hw.2.2.2.fld h0 2 8
      obtain ⟨M_10, hc_9, hd⟩ := zob_some hd
      refine z_cvV F hw hl.1 (As := []) (rest := []) (ztX8_clear l D cy sh ad t_8 hc_9) zyX8_clear t_8 zc8 zk11_108 ⟨rfl, rfl⟩ ⟨by decide, by decide⟩ rfl rfl (Nat.le_of_ble_eq_true rfl) dX11_bench_86 (fun H locs hw => ?_)
      refine lv_aload_n hx hb dX11_bench_89 rfl (lv_at hl 1 rfl) ?_
      refine z_gR F hw h0 zc11 4 (by decide) rfl zf11_50 dX11_bench_90 ?_
      have t_11 : zT sh (zR M_10 k0 4) 3 := hw.2.2.2.fld h0 4 3
      refine lv_iconst (v := (0 : Int32)) hx hb dX11_bench_93 (by decide) ?_
      refine z_pI F hw t_11 zc3 2 (by decide) rfl zf11_111 rfl rfl rfl dX11_bench_94 (fun H locs M_12 eM_12 hw => ?_)
      have hd := zbd_eq eM_12 hd
      refine lv_aload_n hx hb dX11_bench_97 rfl (lv_at hl 1 rfl) ?_
      refine z_gR F hw h0 zc11 11 (by decide) rfl zf11_12 dX11_bench_98 ?_
      have t_13 : zT sh (zR M_12 k0 11) 1 := hw.2.2.2.fld h0 11 1
      refine z_gI F hw t_13 zc1 6 (by decide) rfl zf11_114 dX11_bench_101 ?_
      exact z_iret F hr hlk hw (zpr1 hd) (zpr2 hd) dX11_bench_104
    · have hd := zif_pos c_3 hd
      refine lv_iconst (v := (-1 : Int32)) hx hb dX11_bench_62 (by decide) ?_
      exact z_iret F hr hlk hw (zpr1 hd) (zpr2 hd) dX11_bench_63
  have L15 : ∀  (n : Nat), ∀ (x1 : Int32) (x2 : Int32) (M : zMem) (H : Heap) (locs : List Loc) (ls : Array Slot), lv_has ls 3 [(0, .ref (ad k0)), (1, .int x1), (2, .int x2)] → zWd D cy sh ad s M H locs → zlX11_bench_15 sh k0  n x1 x2 M = some (r, M1) → W p l e { frames := 10, cells := 0, slots := 0, locals := 212 } s m ([.ref (ad k0)] : List Value).toArray below meth c H locs 0 0 (zQI below D cy sh ad s [.ref (ad k0)] r M1) (F0 m 15 ls []) := by
    intro  n
    induction n with
    | zero => intro x1 x2 M H locs ls hl hw hd; exact (znone hd).elim
    | succ n hk15 =>
      intro x1 x2 M H locs ls hl hw hd
      have hd : zbX11_bench_15 sh k0  (zlX11_bench_15 sh k0  n) x1 x2 M = some (r, M1) := hd
      unfold zbX11_bench_15 at hd
      refine lv_iload_n hx hb dX11_bench_15 rfl (lv_at hl 2 rfl) ?_
      refine lv_sipush (v := (900 : Int32)) hx hb dX11_bench_16 (by decide) ?_
      refine lv_icmp_ge (tgt := 50) hx hb dX11_bench_19 (by decide) (fun c_14 => ?_) (fun c_14 => ?_)
      · have hd := zif_pos c_14 hd
        exact J50 _ _ _ _ _ (lv_sub hl [0, 1] rfl) hw hd
      · have hd := zif_neg c_14 hd
        refine lv_iload_n hx hb dX11_bench_22 rfl (lv_at hl 1 rfl) ?_
        refine lv_if_eq (tgt := 50) hx hb dX11_bench_23 (by decide) (fun c_15 => ?_) (fun c_15 => ?_)
        · have hd := zif_pos c_15 hd
          exact J50 _ _ _ _ _ (lv_sub hl [0, 1] rfl) hw hd
        · have hd := zif_neg c_15 hd
          refine lv_aload_n hx hb dX11_bench_26 rfl (lv_at hl 0 rfl) ?_
          refine z_gR F hw h0 zc11 1 (by decide) rfl zf11_33 dX11_bench_27 ?_
          have t_16 : zT sh (zR M k0 1) 6 := hw.2.2.2.fld h0 1 6
          obtain ⟨r_18, hc_17, hd⟩ := zob_some hd
          refine z_cvI F hw hl.1 (As := []) (rest := []) (ztX6_hasMore l D cy sh ad t_16 hc_17) zyX6_hasMore t_16 zc6 zk11_101 ⟨rfl, rfl⟩ ⟨by decide, by decide⟩ rfl rfl (Nat.le_of_ble_eq_true rfl) dX11_bench_30 (fun H locs hw => ?_)
          refine lv_if_eq (tgt := 50) hx hb dX11_bench_33 (by decide) (fun c_19 => ?_) (fun c_19 => ?_)
          · have hd := zif_pos c_19 hd
            exact J50 _ _ _ _ _ (lv_sub hl [0, 1] rfl) hw hd
          · have hd := zif_neg c_19 hd
            refine lv_aload_n hx hb dX11_bench_36 rfl (lv_at hl 0 rfl) ?_
            refine z_gR F hw h0 zc11 1 (by decide) rfl zf11_33 dX11_bench_37 ?_
            have t_20 : zT sh (zR M k0 1) 6 := hw.2.2.2.fld h0 1 6
            obtain ⟨r_22, M_23, hc_21, hd⟩ := zob2_some hd
            refine z_svI F hS hw hl.1 (As := []) (rest := []) (ztX6_readLine l D cy sh ad ka t_20 hc_21) zyX6_readLine (va_recv F.2.1 hw.1 zc6.2.1 (zW_obj t_20 zc6.1)) zk11_105 ⟨rfl, rfl⟩ ⟨by decide, by decide⟩ rfl rfl (Nat.le_of_ble_eq_true rfl) dX11_bench_40 (fun H locs hw => ?_)
            refine lv_istore_n (lv' := [(1, .int r_22), (0, .ref (ad k0)), (2, .int x2)]) hx hb dX11_bench_43 rfl hl (by decide) rfl (fun ls hl => ?_)
            refine lv_iinc (v := (x2 + (1 : Int32))) (lv' := [(2, .int (x2 + (1 : Int32))), (1, .int r_22), (0, .ref (ad k0))]) hx hb dX11_bench_44 hl (k := 2) rfl (ziinc (by decide)) (by decide) rfl (fun ls hl => ?_)
            refine lv_goto (tgt := 15) hx hb dX11_bench_47 (by decide) ?_
            exact hk15 _ _ _ _ _ _ (lv_sub hl [2, 1, 0] rfl) hw hd
  unfold zX11_bench at hd
  refine lv_iconst (v := (1 : Int32)) hx hb dX11_bench_0 (by decide) ?_
  refine lv_istore_n (lv' := [(1, .int (1 : Int32)), (0, .ref (ad k0))]) hx hb dX11_bench_1 rfl hl (by decide) rfl (fun ls hl => ?_)
  refine lv_aload_n hx hb dX11_bench_2 rfl (lv_at hl 1 rfl) ?_
  refine z_gR F hw h0 zc11 1 (by decide) rfl zf11_33 dX11_bench_3 ?_
  have t_24 : zT sh (zR M k0 1) 6 := hw.2.2.2.fld h0 1 6
  refine lv_aload_n hx hb dX11_bench_6 rfl (lv_at hl 1 rfl) ?_
  refine z_gR F hw h0 zc11 12 (by decide) rfl zf11_18 dX11_bench_7 ?_
  have t_25 : zT sh (zR M k0 12) 1 := hw.2.2.2.fld h0 12 1
  obtain ⟨M_27, hc_26, hd⟩ := zob_some hd
  refine z_cvV F hw hl.1 (As := [.ref (ad (zR M k0 12))]) (rest := []) (ztX6_start l D cy sh ad t_24 t_25 hc_26) zyX6_start t_24 zc6 zk11_97 ⟨rfl, rfl⟩ ⟨by decide, by decide⟩ rfl rfl (Nat.le_of_ble_eq_true rfl) dX11_bench_10 (fun H locs hw => ?_)
  refine lv_iconst (v := (0 : Int32)) hx hb dX11_bench_13 (by decide) ?_
  refine lv_istore_n (lv' := [(2, .int (0 : Int32)), (1, .int (1 : Int32)), (0, .ref (ad k0))]) hx hb dX11_bench_14 rfl hl (by decide) rfl (fun ls hl => ?_)
  exact L15 zF _ _ _ _ _ _ (lv_sub hl [2, 1, 0] rfl) hw hd
