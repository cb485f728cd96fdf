theorem dX12_trips_0 : decode cX12_trips 0 = .ok (.iconst 0, 1) := by decide +kernel
theorem dX12_trips_1 : decode cX12_trips 1 = .ok (.istore_n 1, 1) := by decide +kernel
theorem dX12_trips_2 : decode cX12_trips 2 = .ok (.iload_n 1, 1) := by decide +kernel
theorem dX12_trips_3 : decode cX12_trips 3 = .ok (.aload_n 0, 1) := by decide +kernel
theorem dX12_trips_4 : decode cX12_trips 4 = .ok (.getfield 240, 3) := by decide +kernel
theorem dX12_trips_7 : decode cX12_trips 7 = .ok (.if_icmp .ge 84, 3) := by decide +kernel
theorem dX12_trips_10 : decode cX12_trips 10 = .ok (.aload_n 0, 1) := by decide +kernel
theorem dX12_trips_11 : decode cX12_trips 11 = .ok (.getfield 7, 3) := by decide +kernel
theorem dX12_trips_14 : decode cX12_trips 14 = .ok (.iconst 1, 1) := by decide +kernel
theorem dX12_trips_15 : decode cX12_trips 15 = .ok (.iaload, 1) := by decide +kernel
theorem dX12_trips_16 : decode cX12_trips 16 = .ok (.iconst 1, 1) := by decide +kernel
theorem dX12_trips_17 : decode cX12_trips 17 = .ok (.if_icmp .ne 74, 3) := by decide +kernel
theorem dX12_trips_20 : decode cX12_trips 20 = .ok (.aload_n 0, 1) := by decide +kernel
theorem dX12_trips_21 : decode cX12_trips 21 = .ok (.iload_n 1, 1) := by decide +kernel
theorem dX12_trips_22 : decode cX12_trips 22 = .ok (.iconst 4, 1) := by decide +kernel
theorem dX12_trips_23 : decode cX12_trips 23 = .ok (.invokevirtual 338, 3) := by decide +kernel
theorem dX12_trips_26 : decode cX12_trips 26 = .ok (.ifCond .eq 59, 3) := by decide +kernel
theorem dX12_trips_29 : decode cX12_trips 29 = .ok (.aload_n 0, 1) := by decide +kernel
theorem dX12_trips_30 : decode cX12_trips 30 = .ok (.iload_n 1, 1) := by decide +kernel
theorem dX12_trips_31 : decode cX12_trips 31 = .ok (.invokevirtual 429, 3) := by decide +kernel
theorem dX12_trips_34 : decode cX12_trips 34 = .ok (.invokestatic 273, 3) := by decide +kernel
theorem dX12_trips_37 : decode cX12_trips 37 = .ok (.aload_n 0, 1) := by decide +kernel
theorem dX12_trips_38 : decode cX12_trips 38 = .ok (.iload_n 1, 1) := by decide +kernel
theorem dX12_trips_39 : decode cX12_trips 39 = .ok (.iconst 4, 1) := by decide +kernel
theorem dX12_trips_40 : decode cX12_trips 40 = .ok (.invokevirtual 338, 3) := by decide +kernel
theorem dX12_trips_43 : decode cX12_trips 43 = .ok (.if_icmp .ge 6, 3) := by decide +kernel
theorem dX12_trips_46 : decode cX12_trips 46 = .ok (.goto 39, 3) := by decide +kernel
theorem dX12_trips_49 : decode cX12_trips 49 = .ok (.aload_n 0, 1) := by decide +kernel
theorem dX12_trips_50 : decode cX12_trips 50 = .ok (.getfield 7, 3) := by decide +kernel
theorem dX12_trips_53 : decode cX12_trips 53 = .ok (.iconst 1, 1) := by decide +kernel
theorem dX12_trips_54 : decode cX12_trips 54 = .ok (.iconst 0, 1) := by decide +kernel
theorem dX12_trips_55 : decode cX12_trips 55 = .ok (.iastore, 1) := by decide +kernel
theorem dX12_trips_56 : decode cX12_trips 56 = .ok (.aload_n 0, 1) := by decide +kernel
theorem dX12_trips_57 : decode cX12_trips 57 = .ok (.getfield 7, 3) := by decide +kernel
theorem dX12_trips_60 : decode cX12_trips 60 = .ok (.bipush 23, 2) := by decide +kernel
theorem dX12_trips_62 : decode cX12_trips 62 = .ok (.iconst 0, 1) := by decide +kernel
theorem dX12_trips_63 : decode cX12_trips 63 = .ok (.iastore, 1) := by decide +kernel
theorem dX12_trips_64 : decode cX12_trips 64 = .ok (.aload_n 0, 1) := by decide +kernel
theorem dX12_trips_65 : decode cX12_trips 65 = .ok (.getfield 7, 3) := by decide +kernel
theorem dX12_trips_68 : decode cX12_trips 68 = .ok (.bipush 21, 2) := by decide +kernel
theorem dX12_trips_70 : decode cX12_trips 70 = .ok (.aload_n 0, 1) := by decide +kernel
theorem dX12_trips_71 : decode cX12_trips 71 = .ok (.getfield 7, 3) := by decide +kernel
theorem dX12_trips_74 : decode cX12_trips 74 = .ok (.iconst 0, 1) := by decide +kernel
theorem dX12_trips_75 : decode cX12_trips 75 = .ok (.iaload, 1) := by decide +kernel
theorem dX12_trips_76 : decode cX12_trips 76 = .ok (.iastore, 1) := by decide +kernel
theorem dX12_trips_77 : decode cX12_trips 77 = .ok (.aload_n 0, 1) := by decide +kernel
theorem dX12_trips_78 : decode cX12_trips 78 = .ok (.getfield 7, 3) := by decide +kernel
theorem dX12_trips_81 : decode cX12_trips 81 = .ok (.bipush 22, 2) := by decide +kernel
theorem dX12_trips_83 : decode cX12_trips 83 = .ok (.iload_n 1, 1) := by decide +kernel
theorem dX12_trips_84 : decode cX12_trips 84 = .ok (.iastore, 1) := by decide +kernel
theorem dX12_trips_85 : decode cX12_trips 85 = .ok (.iinc 1 1, 3) := by decide +kernel
theorem dX12_trips_88 : decode cX12_trips 88 = .ok (.goto (-86), 3) := by decide +kernel
theorem dX12_trips_91 : decode cX12_trips 91 = .ok (.return_, 1) := by decide +kernel
theorem dX12_tick_0 : decode cX12_tick 0 = .ok (.aload_n 0, 1) := by decide +kernel
theorem dX12_tick_1 : decode cX12_tick 1 = .ok (.invokevirtual 432, 3) := by decide +kernel
theorem dX12_tick_4 : decode cX12_tick 4 = .ok (.aload_n 0, 1) := by decide +kernel
theorem dX12_tick_5 : decode cX12_tick 5 = .ok (.invokevirtual 435, 3) := by decide +kernel
theorem dX12_tick_8 : decode cX12_tick 8 = .ok (.aload_n 0, 1) := by decide +kernel
theorem dX12_tick_9 : decode cX12_tick 9 = .ok (.getfield 7, 3) := by decide +kernel
theorem dX12_tick_12 : decode cX12_tick 12 = .ok (.iconst 0, 1) := by decide +kernel
theorem dX12_tick_13 : decode cX12_tick 13 = .ok (.dup2, 1) := by decide +kernel
theorem dX12_tick_14 : decode cX12_tick 14 = .ok (.iaload, 1) := by decide +kernel
theorem dX12_tick_15 : decode cX12_tick 15 = .ok (.iconst 1, 1) := by decide +kernel
theorem dX12_tick_16 : decode cX12_tick 16 = .ok (.iadd, 1) := by decide +kernel
theorem dX12_tick_17 : decode cX12_tick 17 = .ok (.iastore, 1) := by decide +kernel
theorem dX12_tick_18 : decode cX12_tick 18 = .ok (.iconst 0, 1) := by decide +kernel
theorem dX12_tick_19 : decode cX12_tick 19 = .ok (.istore_n 1, 1) := by decide +kernel
theorem dX12_tick_20 : decode cX12_tick 20 = .ok (.iload_n 1, 1) := by decide +kernel
theorem dX12_tick_21 : decode cX12_tick 21 = .ok (.aload_n 0, 1) := by decide +kernel
theorem dX12_tick_22 : decode cX12_tick 22 = .ok (.getfield 240, 3) := by decide +kernel
theorem dX12_tick_25 : decode cX12_tick 25 = .ok (.if_icmp .ge 88, 3) := by decide +kernel
theorem dX12_tick_28 : decode cX12_tick 28 = .ok (.aload_n 0, 1) := by decide +kernel
theorem dX12_tick_29 : decode cX12_tick 29 = .ok (.iload_n 1, 1) := by decide +kernel
theorem dX12_tick_30 : decode cX12_tick 30 = .ok (.aload_n 0, 1) := by decide +kernel
theorem dX12_tick_31 : decode cX12_tick 31 = .ok (.iload_n 1, 1) := by decide +kernel
theorem dX12_tick_32 : decode cX12_tick 32 = .ok (.invokevirtual 429, 3) := by decide +kernel
theorem dX12_tick_35 : decode cX12_tick 35 = .ok (.aload_n 0, 1) := by decide +kernel
theorem dX12_tick_36 : decode cX12_tick 36 = .ok (.iload_n 1, 1) := by decide +kernel
theorem dX12_tick_37 : decode cX12_tick 37 = .ok (.iconst 2, 1) := by decide +kernel
theorem dX12_tick_38 : decode cX12_tick 38 = .ok (.invokevirtual 338, 3) := by decide +kernel
theorem dX12_tick_41 : decode cX12_tick 41 = .ok (.aload_n 0, 1) := by decide +kernel
theorem dX12_tick_42 : decode cX12_tick 42 = .ok (.iload_n 1, 1) := by decide +kernel
theorem dX12_tick_43 : decode cX12_tick 43 = .ok (.iconst 3, 1) := by decide +kernel
theorem dX12_tick_44 : decode cX12_tick 44 = .ok (.invokevirtual 338, 3) := by decide +kernel
theorem dX12_tick_47 : decode cX12_tick 47 = .ok (.invokevirtual 438, 3) := by decide +kernel
theorem dX12_tick_50 : decode cX12_tick 50 = .ok (.istore_n 2, 1) := by decide +kernel
theorem dX12_tick_51 : decode cX12_tick 51 = .ok (.aload_n 0, 1) := by decide +kernel
theorem dX12_tick_52 : decode cX12_tick 52 = .ok (.iload_n 1, 1) := by decide +kernel
theorem dX12_tick_53 : decode cX12_tick 53 = .ok (.iconst 2, 1) := by decide +kernel
theorem dX12_tick_54 : decode cX12_tick 54 = .ok (.iload_n 2, 1) := by decide +kernel
theorem dX12_tick_55 : decode cX12_tick 55 = .ok (.invokevirtual 411, 3) := by decide +kernel
theorem dX12_tick_58 : decode cX12_tick 58 = .ok (.aload_n 0, 1) := by decide +kernel
theorem dX12_tick_59 : decode cX12_tick 59 = .ok (.iload_n 1, 1) := by decide +kernel
theorem dX12_tick_60 : decode cX12_tick 60 = .ok (.iconst 1, 1) := by decide +kernel
theorem dX12_tick_61 : decode cX12_tick 61 = .ok (.aload_n 0, 1) := by decide +kernel
theorem dX12_tick_62 : decode cX12_tick 62 = .ok (.iload_n 1, 1) := by decide +kernel
theorem dX12_tick_63 : decode cX12_tick 63 = .ok (.iconst 1, 1) := by decide +kernel
theorem dX12_tick_64 : decode cX12_tick 64 = .ok (.invokevirtual 338, 3) := by decide +kernel
theorem dX12_tick_67 : decode cX12_tick 67 = .ok (.iload_n 2, 1) := by decide +kernel
theorem dX12_tick_68 : decode cX12_tick 68 = .ok (.iadd, 1) := by decide +kernel
theorem dX12_tick_69 : decode cX12_tick 69 = .ok (.invokevirtual 411, 3) := by decide +kernel
theorem dX12_tick_72 : decode cX12_tick 72 = .ok (.aload_n 0, 1) := by decide +kernel
theorem dX12_tick_73 : decode cX12_tick 73 = .ok (.iload_n 1, 1) := by decide +kernel
theorem dX12_tick_74 : decode cX12_tick 74 = .ok (.iconst 5, 1) := by decide +kernel
theorem dX12_tick_75 : decode cX12_tick 75 = .ok (.invokevirtual 338, 3) := by decide +kernel
theorem dX12_tick_78 : decode cX12_tick 78 = .ok (.ifCond .ne 29, 3) := by decide +kernel
theorem dX12_tick_81 : decode cX12_tick 81 = .ok (.aload_n 0, 1) := by decide +kernel
theorem dX12_tick_82 : decode cX12_tick 82 = .ok (.iload_n 1, 1) := by decide +kernel
theorem dX12_tick_83 : decode cX12_tick 83 = .ok (.invokevirtual 429, 3) := by decide +kernel
theorem dX12_tick_86 : decode cX12_tick 86 = .ok (.invokestatic 273, 3) := by decide +kernel
theorem dX12_tick_89 : decode cX12_tick 89 = .ok (.sipush 1024, 3) := by decide +kernel
theorem dX12_tick_92 : decode cX12_tick 92 = .ok (.if_icmp .lt 15, 3) := by decide +kernel
theorem dX12_tick_95 : decode cX12_tick 95 = .ok (.aload_n 0, 1) := by decide +kernel
theorem dX12_tick_96 : decode cX12_tick 96 = .ok (.iload_n 1, 1) := by decide +kernel
theorem dX12_tick_97 : decode cX12_tick 97 = .ok (.iconst 5, 1) := by decide +kernel
theorem dX12_tick_98 : decode cX12_tick 98 = .ok (.aload_n 0, 1) := by decide +kernel
theorem dX12_tick_99 : decode cX12_tick 99 = .ok (.getfield 7, 3) := by decide +kernel
theorem dX12_tick_102 : decode cX12_tick 102 = .ok (.iconst 0, 1) := by decide +kernel
theorem dX12_tick_103 : decode cX12_tick 103 = .ok (.iaload, 1) := by decide +kernel
theorem dX12_tick_104 : decode cX12_tick 104 = .ok (.invokevirtual 411, 3) := by decide +kernel
theorem dX12_tick_107 : decode cX12_tick 107 = .ok (.iinc 1 1, 3) := by decide +kernel
theorem dX12_tick_110 : decode cX12_tick 110 = .ok (.goto (-90), 3) := by decide +kernel
theorem dX12_tick_113 : decode cX12_tick 113 = .ok (.aload_n 0, 1) := by decide +kernel
theorem dX12_tick_114 : decode cX12_tick 114 = .ok (.invokevirtual 441, 3) := by decide +kernel
theorem dX12_tick_117 : decode cX12_tick 117 = .ok (.return_, 1) := by decide +kernel
theorem dX12_run_0 : decode cX12_run 0 = .ok (.aload_n 0, 1) := by decide +kernel
theorem dX12_run_1 : decode cX12_run 1 = .ok (.getfield 240, 3) := by decide +kernel
theorem dX12_run_4 : decode cX12_run 4 = .ok (.ifCond .eq 15, 3) := by decide +kernel
theorem dX12_run_7 : decode cX12_run 7 = .ok (.iload_n 1, 1) := by decide +kernel
theorem dX12_run_8 : decode cX12_run 8 = .ok (.i2l, 1) := by decide +kernel
theorem dX12_run_9 : decode cX12_run 9 = .ok (.lconst 1, 1) := by decide +kernel
theorem dX12_run_10 : decode cX12_run 10 = .ok (.ldc2_w 444, 3) := by decide +kernel
theorem dX12_run_13 : decode cX12_run 13 = .ok (.invokestatic 91, 3) := by decide +kernel
theorem dX12_run_16 : decode cX12_run 16 = .ok (.ifCond .ne 5, 3) := by decide +kernel
theorem dX12_run_19 : decode cX12_run 19 = .ok (.iconst (-1), 1) := by decide +kernel
theorem dX12_run_20 : decode cX12_run 20 = .ok (.ireturn, 1) := by decide +kernel
theorem dX12_run_21 : decode cX12_run 21 = .ok (.aload_n 0, 1) := by decide +kernel
theorem dX12_run_22 : decode cX12_run 22 = .ok (.invokevirtual 400, 3) := by decide +kernel
theorem dX12_run_25 : decode cX12_run 25 = .ok (.iconst 0, 1) := by decide +kernel
theorem dX12_run_26 : decode cX12_run 26 = .ok (.istore_n 2, 1) := by decide +kernel
theorem dX12_run_27 : decode cX12_run 27 = .ok (.iload_n 2, 1) := by decide +kernel
theorem dX12_run_28 : decode cX12_run 28 = .ok (.iload_n 1, 1) := by decide +kernel
theorem dX12_run_29 : decode cX12_run 29 = .ok (.if_icmp .ge 13, 3) := by decide +kernel
theorem dX12_run_32 : decode cX12_run 32 = .ok (.aload_n 0, 1) := by decide +kernel
theorem dX12_run_33 : decode cX12_run 33 = .ok (.invokevirtual 446, 3) := by decide +kernel
theorem dX12_run_36 : decode cX12_run 36 = .ok (.iinc 2 1, 3) := by decide +kernel
theorem dX12_run_39 : decode cX12_run 39 = .ok (.goto (-12), 3) := by decide +kernel
theorem dX12_run_42 : decode cX12_run 42 = .ok (.aload_n 0, 1) := by decide +kernel
theorem dX12_run_43 : decode cX12_run 43 = .ok (.invokevirtual 449, 3) := by decide +kernel
theorem dX12_run_46 : decode cX12_run 46 = .ok (.ireturn, 1) := by decide +kernel
theorem dX12_axis_0 : decode cX12_axis 0 = .ok (.aload_n 0, 1) := by decide +kernel
theorem dX12_axis_1 : decode cX12_axis 1 = .ok (.iload_n 1, 1) := by decide +kernel
theorem dX12_axis_2 : decode cX12_axis 2 = .ok (.invokevirtual 312, 3) := by decide +kernel
theorem dX12_axis_5 : decode cX12_axis 5 = .ok (.ifCond .eq 15, 3) := by decide +kernel
theorem dX12_axis_8 : decode cX12_axis 8 = .ok (.iload_n 2, 1) := by decide +kernel
theorem dX12_axis_9 : decode cX12_axis 9 = .ok (.i2l, 1) := by decide +kernel
theorem dX12_axis_10 : decode cX12_axis 10 = .ok (.lconst 0, 1) := by decide +kernel
theorem dX12_axis_11 : decode cX12_axis 11 = .ok (.ldc2_w 452, 3) := by decide +kernel
theorem dX12_axis_14 : decode cX12_axis 14 = .ok (.invokestatic 91, 3) := by decide +kernel
theorem dX12_axis_17 : decode cX12_axis 17 = .ok (.ifCond .ne 6, 3) := by decide +kernel
theorem dX12_axis_20 : decode cX12_axis 20 = .ok (.ldc 254, 2) := by decide +kernel
theorem dX12_axis_22 : decode cX12_axis 22 = .ok (.ireturn, 1) := by decide +kernel
theorem dX12_axis_23 : decode cX12_axis 23 = .ok (.iload_n 2, 1) := by decide +kernel
theorem dX12_axis_24 : decode cX12_axis 24 = .ok (.bipush 6, 2) := by decide +kernel
theorem dX12_axis_26 : decode cX12_axis 26 = .ok (.if_icmp .ge 17, 3) := by decide +kernel
theorem dX12_axis_29 : decode cX12_axis 29 = .ok (.aload_n 0, 1) := by decide +kernel
theorem dX12_axis_30 : decode cX12_axis 30 = .ok (.getfield 27, 3) := by decide +kernel
theorem dX12_axis_33 : decode cX12_axis 33 = .ok (.bipush 6, 2) := by decide +kernel
theorem dX12_axis_35 : decode cX12_axis 35 = .ok (.iload_n 1, 1) := by decide +kernel
theorem dX12_axis_36 : decode cX12_axis 36 = .ok (.imul, 1) := by decide +kernel
theorem dX12_axis_37 : decode cX12_axis 37 = .ok (.iload_n 2, 1) := by decide +kernel
theorem dX12_axis_38 : decode cX12_axis 38 = .ok (.iadd, 1) := by decide +kernel
theorem dX12_axis_39 : decode cX12_axis 39 = .ok (.iaload, 1) := by decide +kernel
theorem dX12_axis_40 : decode cX12_axis 40 = .ok (.goto 19, 3) := by decide +kernel
theorem dX12_axis_43 : decode cX12_axis 43 = .ok (.aload_n 0, 1) := by decide +kernel
theorem dX12_axis_44 : decode cX12_axis 44 = .ok (.iload_n 1, 1) := by decide +kernel
theorem dX12_axis_45 : decode cX12_axis 45 = .ok (.iload_n 2, 1) := by decide +kernel
theorem dX12_axis_46 : decode cX12_axis 46 = .ok (.bipush 6, 2) := by decide +kernel
theorem dX12_axis_48 : decode cX12_axis 48 = .ok (.if_icmp .ne 7, 3) := by decide +kernel
theorem dX12_axis_51 : decode cX12_axis 51 = .ok (.iconst 3, 1) := by decide +kernel
theorem dX12_axis_52 : decode cX12_axis 52 = .ok (.goto 4, 3) := by decide +kernel
theorem dX12_axis_55 : decode cX12_axis 55 = .ok (.iconst 4, 1) := by decide +kernel
theorem dX12_axis_56 : decode cX12_axis 56 = .ok (.invokevirtual 338, 3) := by decide +kernel
theorem dX12_axis_59 : decode cX12_axis 59 = .ok (.ireturn, 1) := by decide +kernel
theorem dX12_now_0 : decode cX12_now 0 = .ok (.aload_n 0, 1) := by decide +kernel
theorem dX12_now_1 : decode cX12_now 1 = .ok (.iload_n 1, 1) := by decide +kernel
theorem dX12_now_2 : decode cX12_now 2 = .ok (.invokevirtual 312, 3) := by decide +kernel
theorem dX12_now_5 : decode cX12_now 5 = .ok (.ifCond .ne 6, 3) := by decide +kernel
theorem dX12_now_8 : decode cX12_now 8 = .ok (.ldc 254, 2) := by decide +kernel
theorem dX12_now_10 : decode cX12_now 10 = .ok (.ireturn, 1) := by decide +kernel
theorem dX12_now_11 : decode cX12_now 11 = .ok (.iload_n 2, 1) := by decide +kernel
theorem dX12_now_12 : decode cX12_now 12 = .ok (.tableswitch 90 0 5 #[40, 47, 54, 61, 67, 74], 40) := by decide +kernel
theorem dX12_now_52 : decode cX12_now 52 = .ok (.aload_n 0, 1) := by decide +kernel
theorem dX12_now_53 : decode cX12_now 53 = .ok (.iload_n 1, 1) := by decide +kernel
theorem dX12_now_54 : decode cX12_now 54 = .ok (.iconst 0, 1) := by decide +kernel
theorem dX12_now_55 : decode cX12_now 55 = .ok (.invokevirtual 338, 3) := by decide +kernel
theorem dX12_now_58 : decode cX12_now 58 = .ok (.ireturn, 1) := by decide +kernel
theorem dX12_now_59 : decode cX12_now 59 = .ok (.aload_n 0, 1) := by decide +kernel
theorem dX12_now_60 : decode cX12_now 60 = .ok (.iload_n 1, 1) := by decide +kernel
theorem dX12_now_61 : decode cX12_now 61 = .ok (.iconst 1, 1) := by decide +kernel
theorem dX12_now_62 : decode cX12_now 62 = .ok (.invokevirtual 338, 3) := by decide +kernel
theorem dX12_now_65 : decode cX12_now 65 = .ok (.ireturn, 1) := by decide +kernel
theorem dX12_now_66 : decode cX12_now 66 = .ok (.aload_n 0, 1) := by decide +kernel
theorem dX12_now_67 : decode cX12_now 67 = .ok (.iload_n 1, 1) := by decide +kernel
theorem dX12_now_68 : decode cX12_now 68 = .ok (.iconst 2, 1) := by decide +kernel
theorem dX12_now_69 : decode cX12_now 69 = .ok (.invokevirtual 338, 3) := by decide +kernel
theorem dX12_now_72 : decode cX12_now 72 = .ok (.ireturn, 1) := by decide +kernel
theorem dX12_now_73 : decode cX12_now 73 = .ok (.aload_n 0, 1) := by decide +kernel
theorem dX12_now_74 : decode cX12_now 74 = .ok (.iload_n 1, 1) := by decide +kernel
theorem dX12_now_75 : decode cX12_now 75 = .ok (.invokevirtual 429, 3) := by decide +kernel
theorem dX12_now_78 : decode cX12_now 78 = .ok (.ireturn, 1) := by decide +kernel
theorem dX12_now_79 : decode cX12_now 79 = .ok (.aload_n 0, 1) := by decide +kernel
theorem dX12_now_80 : decode cX12_now 80 = .ok (.iload_n 1, 1) := by decide +kernel
theorem dX12_now_81 : decode cX12_now 81 = .ok (.iconst 5, 1) := by decide +kernel
theorem dX12_now_82 : decode cX12_now 82 = .ok (.invokevirtual 338, 3) := by decide +kernel
theorem dX12_now_85 : decode cX12_now 85 = .ok (.ireturn, 1) := by decide +kernel
theorem dX12_now_86 : decode cX12_now 86 = .ok (.aload_n 0, 1) := by decide +kernel
theorem dX12_now_87 : decode cX12_now 87 = .ok (.iload_n 1, 1) := by decide +kernel
theorem dX12_now_88 : decode cX12_now 88 = .ok (.invokevirtual 429, 3) := by decide +kernel
theorem dX12_now_91 : decode cX12_now 91 = .ok (.sipush 2048, 3) := by decide +kernel
theorem dX12_now_94 : decode cX12_now 94 = .ok (.iadd, 1) := by decide +kernel
theorem dX12_now_95 : decode cX12_now 95 = .ok (.sipush 4096, 3) := by decide +kernel
theorem dX12_now_98 : decode cX12_now 98 = .ok (.invokestatic 255, 3) := by decide +kernel
theorem dX12_now_101 : decode cX12_now 101 = .ok (.ireturn, 1) := by decide +kernel
theorem dX12_now_102 : decode cX12_now 102 = .ok (.ldc 254, 2) := by decide +kernel
theorem dX12_now_104 : decode cX12_now 104 = .ok (.ireturn, 1) := by decide +kernel
theorem dX12_puts_0 : decode cX12_puts 0 = .ok (.iconst 0, 1) := by decide +kernel
theorem dX12_puts_1 : decode cX12_puts 1 = .ok (.istore_n 1, 1) := by decide +kernel
theorem dX12_puts_2 : decode cX12_puts 2 = .ok (.iload_n 1, 1) := by decide +kernel
theorem dX12_puts_3 : decode cX12_puts 3 = .ok (.sipush 194, 3) := by decide +kernel
theorem dX12_puts_6 : decode cX12_puts 6 = .ok (.if_icmp .ge 21, 3) := by decide +kernel
theorem dX12_puts_9 : decode cX12_puts 9 = .ok (.aload_n 0, 1) := by decide +kernel
theorem dX12_puts_10 : decode cX12_puts 10 = .ok (.getfield 67, 3) := by decide +kernel
theorem dX12_puts_13 : decode cX12_puts 13 = .ok (.iload_n 1, 1) := by decide +kernel
theorem dX12_puts_14 : decode cX12_puts 14 = .ok (.aload_n 0, 1) := by decide +kernel
theorem dX12_puts_15 : decode cX12_puts 15 = .ok (.getfield 7, 3) := by decide +kernel
theorem dX12_puts_18 : decode cX12_puts 18 = .ok (.iload_n 1, 1) := by decide +kernel
theorem dX12_puts_19 : decode cX12_puts 19 = .ok (.iaload, 1) := by decide +kernel
theorem dX12_puts_20 : decode cX12_puts 20 = .ok (.iastore, 1) := by decide +kernel
theorem dX12_puts_21 : decode cX12_puts 21 = .ok (.iinc 1 1, 3) := by decide +kernel
theorem dX12_puts_24 : decode cX12_puts 24 = .ok (.goto (-22), 3) := by decide +kernel
theorem dX12_puts_27 : decode cX12_puts 27 = .ok (.return_, 1) := by decide +kernel
theorem dX12_takesBack_0 : decode cX12_takesBack 0 = .ok (.iconst 0, 1) := by decide +kernel
theorem dX12_takesBack_1 : decode cX12_takesBack 1 = .ok (.istore_n 1, 1) := by decide +kernel
theorem dX12_takesBack_2 : decode cX12_takesBack 2 = .ok (.iload_n 1, 1) := by decide +kernel
theorem dX12_takesBack_3 : decode cX12_takesBack 3 = .ok (.sipush 194, 3) := by decide +kernel
theorem dX12_takesBack_6 : decode cX12_takesBack 6 = .ok (.if_icmp .ge 21, 3) := by decide +kernel
theorem dX12_takesBack_9 : decode cX12_takesBack 9 = .ok (.aload_n 0, 1) := by decide +kernel
theorem dX12_takesBack_10 : decode cX12_takesBack 10 = .ok (.getfield 7, 3) := by decide +kernel
theorem dX12_takesBack_13 : decode cX12_takesBack 13 = .ok (.iload_n 1, 1) := by decide +kernel
theorem dX12_takesBack_14 : decode cX12_takesBack 14 = .ok (.aload_n 0, 1) := by decide +kernel
theorem dX12_takesBack_15 : decode cX12_takesBack 15 = .ok (.getfield 67, 3) := by decide +kernel
theorem dX12_takesBack_18 : decode cX12_takesBack 18 = .ok (.iload_n 1, 1) := by decide +kernel
theorem dX12_takesBack_19 : decode cX12_takesBack 19 = .ok (.iaload, 1) := by decide +kernel
theorem dX12_takesBack_20 : decode cX12_takesBack 20 = .ok (.iastore, 1) := by decide +kernel
theorem dX12_takesBack_21 : decode cX12_takesBack 21 = .ok (.iinc 1 1, 3) := by decide +kernel
theorem dX12_takesBack_24 : decode cX12_takesBack 24 = .ok (.goto (-22), 3) := by decide +kernel
theorem dX12_takesBack_27 : decode cX12_takesBack 27 = .ok (.return_, 1) := by decide +kernel
theorem dX12_stallIn_0 : decode cX12_stallIn 0 = .ok (.aload_n 0, 1) := by decide +kernel
theorem dX12_stallIn_1 : decode cX12_stallIn 1 = .ok (.iload_n 1, 1) := by decide +kernel
theorem dX12_stallIn_2 : decode cX12_stallIn 2 = .ok (.invokevirtual 312, 3) := by decide +kernel
theorem dX12_stallIn_5 : decode cX12_stallIn 5 = .ok (.ifCond .ne 5, 3) := by decide +kernel
theorem dX12_stallIn_8 : decode cX12_stallIn 8 = .ok (.iconst (-1), 1) := by decide +kernel
theorem dX12_stallIn_9 : decode cX12_stallIn 9 = .ok (.ireturn, 1) := by decide +kernel
theorem dX12_stallIn_10 : decode cX12_stallIn 10 = .ok (.aload_n 0, 1) := by decide +kernel
theorem dX12_stallIn_11 : decode cX12_stallIn 11 = .ok (.invokevirtual 454, 3) := by decide +kernel
theorem dX12_stallIn_14 : decode cX12_stallIn 14 = .ok (.iconst 0, 1) := by decide +kernel
theorem dX12_stallIn_15 : decode cX12_stallIn 15 = .ok (.istore_n 2, 1) := by decide +kernel
theorem dX12_stallIn_16 : decode cX12_stallIn 16 = .ok (.iload_n 2, 1) := by decide +kernel
theorem dX12_stallIn_17 : decode cX12_stallIn 17 = .ok (.sipush 2000, 3) := by decide +kernel
theorem dX12_stallIn_20 : decode cX12_stallIn 20 = .ok (.if_icmp .gt 22, 3) := by decide +kernel
theorem dX12_stallIn_23 : decode cX12_stallIn 23 = .ok (.aload_n 0, 1) := by decide +kernel
theorem dX12_stallIn_24 : decode cX12_stallIn 24 = .ok (.iload_n 1, 1) := by decide +kernel
theorem dX12_stallIn_25 : decode cX12_stallIn 25 = .ok (.iconst 5, 1) := by decide +kernel
theorem dX12_stallIn_26 : decode cX12_stallIn 26 = .ok (.invokevirtual 338, 3) := by decide +kernel
theorem dX12_stallIn_29 : decode cX12_stallIn 29 = .ok (.ifCond .ne 13, 3) := by decide +kernel
theorem dX12_stallIn_32 : decode cX12_stallIn 32 = .ok (.aload_n 0, 1) := by decide +kernel
theorem dX12_stallIn_33 : decode cX12_stallIn 33 = .ok (.invokevirtual 446, 3) := by decide +kernel
theorem dX12_stallIn_36 : decode cX12_stallIn 36 = .ok (.iinc 2 1, 3) := by decide +kernel
theorem dX12_stallIn_39 : decode cX12_stallIn 39 = .ok (.goto (-23), 3) := by decide +kernel
theorem dX12_stallIn_42 : decode cX12_stallIn 42 = .ok (.aload_n 0, 1) := by decide +kernel
theorem dX12_stallIn_43 : decode cX12_stallIn 43 = .ok (.invokevirtual 457, 3) := by decide +kernel
theorem dX12_stallIn_46 : decode cX12_stallIn 46 = .ok (.iload_n 2, 1) := by decide +kernel
theorem dX12_stallIn_47 : decode cX12_stallIn 47 = .ok (.sipush 2000, 3) := by decide +kernel
theorem dX12_stallIn_50 : decode cX12_stallIn 50 = .ok (.if_icmp .le 7, 3) := by decide +kernel
theorem dX12_stallIn_53 : decode cX12_stallIn 53 = .ok (.iconst (-1), 1) := by decide +kernel
theorem dX12_stallIn_54 : decode cX12_stallIn 54 = .ok (.goto 4, 3) := by decide +kernel
theorem dX12_stallIn_57 : decode cX12_stallIn 57 = .ok (.iload_n 2, 1) := by decide +kernel
theorem dX12_stallIn_58 : decode cX12_stallIn 58 = .ok (.ireturn, 1) := by decide +kernel
theorem dX12_isSteady_0 : decode cX12_isSteady 0 = .ok (.aload_n 0, 1) := by decide +kernel
theorem dX12_isSteady_1 : decode cX12_isSteady 1 = .ok (.getfield 7, 3) := by decide +kernel
theorem dX12_isSteady_4 : decode cX12_isSteady 4 = .ok (.iconst 1, 1) := by decide +kernel
theorem dX12_isSteady_5 : decode cX12_isSteady 5 = .ok (.iaload, 1) := by decide +kernel
theorem dX12_isSteady_6 : decode cX12_isSteady 6 = .ok (.ifCond .ne 17, 3) := by decide +kernel
theorem dX12_isSteady_9 : decode cX12_isSteady 9 = .ok (.aload_n 0, 1) := by decide +kernel
theorem dX12_isSteady_10 : decode cX12_isSteady 10 = .ok (.getfield 7, 3) := by decide +kernel
theorem dX12_isSteady_13 : decode cX12_isSteady 13 = .ok (.bipush 23, 2) := by decide +kernel
theorem dX12_isSteady_15 : decode cX12_isSteady 15 = .ok (.iaload, 1) := by decide +kernel
theorem dX12_isSteady_16 : decode cX12_isSteady 16 = .ok (.ifCond .ne 7, 3) := by decide +kernel
theorem dX12_isSteady_19 : decode cX12_isSteady 19 = .ok (.iconst 1, 1) := by decide +kernel
theorem dX12_isSteady_20 : decode cX12_isSteady 20 = .ok (.goto 4, 3) := by decide +kernel
theorem dX12_isSteady_23 : decode cX12_isSteady 23 = .ok (.iconst 0, 1) := by decide +kernel
theorem dX12_isSteady_24 : decode cX12_isSteady 24 = .ok (.istore_n 1, 1) := by decide +kernel
theorem dX12_isSteady_25 : decode cX12_isSteady 25 = .ok (.iconst 0, 1) := by decide +kernel
theorem dX12_isSteady_26 : decode cX12_isSteady 26 = .ok (.istore_n 2, 1) := by decide +kernel
theorem dX12_isSteady_27 : decode cX12_isSteady 27 = .ok (.iload_n 2, 1) := by decide +kernel
theorem dX12_isSteady_28 : decode cX12_isSteady 28 = .ok (.aload_n 0, 1) := by decide +kernel
theorem dX12_isSteady_29 : decode cX12_isSteady 29 = .ok (.getfield 240, 3) := by decide +kernel
theorem dX12_isSteady_32 : decode cX12_isSteady 32 = .ok (.if_icmp .ge 47, 3) := by decide +kernel
theorem dX12_isSteady_35 : decode cX12_isSteady 35 = .ok (.iload_n 1, 1) := by decide +kernel
theorem dX12_isSteady_36 : decode cX12_isSteady 36 = .ok (.ifCond .eq 35, 3) := by decide +kernel
theorem dX12_isSteady_39 : decode cX12_isSteady 39 = .ok (.aload_n 0, 1) := by decide +kernel
theorem dX12_isSteady_40 : decode cX12_isSteady 40 = .ok (.iload_n 2, 1) := by decide +kernel
theorem dX12_isSteady_41 : decode cX12_isSteady 41 = .ok (.iconst 2, 1) := by decide +kernel
theorem dX12_isSteady_42 : decode cX12_isSteady 42 = .ok (.invokevirtual 338, 3) := by decide +kernel
theorem dX12_isSteady_45 : decode cX12_isSteady 45 = .ok (.ifCond .ne 26, 3) := by decide +kernel
theorem dX12_isSteady_48 : decode cX12_isSteady 48 = .ok (.aload_n 0, 1) := by decide +kernel
theorem dX12_isSteady_49 : decode cX12_isSteady 49 = .ok (.iload_n 2, 1) := by decide +kernel
theorem dX12_isSteady_50 : decode cX12_isSteady 50 = .ok (.aload_n 0, 1) := by decide +kernel
theorem dX12_isSteady_51 : decode cX12_isSteady 51 = .ok (.iload_n 2, 1) := by decide +kernel
theorem dX12_isSteady_52 : decode cX12_isSteady 52 = .ok (.invokevirtual 429, 3) := by decide +kernel
theorem dX12_isSteady_55 : decode cX12_isSteady 55 = .ok (.aload_n 0, 1) := by decide +kernel
theorem dX12_isSteady_56 : decode cX12_isSteady 56 = .ok (.iload_n 2, 1) := by decide +kernel
theorem dX12_isSteady_57 : decode cX12_isSteady 57 = .ok (.iconst 3, 1) := by decide +kernel
theorem dX12_isSteady_58 : decode cX12_isSteady 58 = .ok (.invokevirtual 338, 3) := by decide +kernel
theorem dX12_isSteady_61 : decode cX12_isSteady 61 = .ok (.invokevirtual 423, 3) := by decide +kernel
theorem dX12_isSteady_64 : decode cX12_isSteady 64 = .ok (.ifCond .ne 7, 3) := by decide +kernel
theorem dX12_isSteady_67 : decode cX12_isSteady 67 = .ok (.iconst 1, 1) := by decide +kernel
theorem dX12_isSteady_68 : decode cX12_isSteady 68 = .ok (.goto 4, 3) := by decide +kernel
theorem dX12_isSteady_71 : decode cX12_isSteady 71 = .ok (.iconst 0, 1) := by decide +kernel
theorem dX12_isSteady_72 : decode cX12_isSteady 72 = .ok (.istore_n 1, 1) := by decide +kernel
theorem dX12_isSteady_73 : decode cX12_isSteady 73 = .ok (.iinc 2 1, 3) := by decide +kernel
theorem dX12_isSteady_76 : decode cX12_isSteady 76 = .ok (.goto (-49), 3) := by decide +kernel
theorem dX12_isSteady_79 : decode cX12_isSteady 79 = .ok (.iload_n 1, 1) := by decide +kernel
theorem dX12_isSteady_80 : decode cX12_isSteady 80 = .ok (.ireturn, 1) := by decide +kernel
theorem dX12_calmIn_0 : decode cX12_calmIn 0 = .ok (.aload_n 0, 1) := by decide +kernel
theorem dX12_calmIn_1 : decode cX12_calmIn 1 = .ok (.getfield 240, 3) := by decide +kernel
theorem dX12_calmIn_4 : decode cX12_calmIn 4 = .ok (.ifCond .ne 5, 3) := by decide +kernel
theorem dX12_calmIn_7 : decode cX12_calmIn 7 = .ok (.iconst (-1), 1) := by decide +kernel
theorem dX12_calmIn_8 : decode cX12_calmIn 8 = .ok (.ireturn, 1) := by decide +kernel
theorem dX12_calmIn_9 : decode cX12_calmIn 9 = .ok (.aload_n 0, 1) := by decide +kernel
theorem dX12_calmIn_10 : decode cX12_calmIn 10 = .ok (.invokevirtual 454, 3) := by decide +kernel
theorem dX12_calmIn_13 : decode cX12_calmIn 13 = .ok (.iconst 0, 1) := by decide +kernel
theorem dX12_calmIn_14 : decode cX12_calmIn 14 = .ok (.istore_n 1, 1) := by decide +kernel
theorem dX12_calmIn_15 : decode cX12_calmIn 15 = .ok (.iload_n 1, 1) := by decide +kernel
theorem dX12_calmIn_16 : decode cX12_calmIn 16 = .ok (.sipush 2000, 3) := by decide +kernel
theorem dX12_calmIn_19 : decode cX12_calmIn 19 = .ok (.if_icmp .gt 20, 3) := by decide +kernel
theorem dX12_calmIn_22 : decode cX12_calmIn 22 = .ok (.aload_n 0, 1) := by decide +kernel
theorem dX12_calmIn_23 : decode cX12_calmIn 23 = .ok (.invokevirtual 460, 3) := by decide +kernel
theorem dX12_calmIn_26 : decode cX12_calmIn 26 = .ok (.ifCond .ne 13, 3) := by decide +kernel
theorem dX12_calmIn_29 : decode cX12_calmIn 29 = .ok (.aload_n 0, 1) := by decide +kernel
theorem dX12_calmIn_30 : decode cX12_calmIn 30 = .ok (.invokevirtual 446, 3) := by decide +kernel
theorem dX12_calmIn_33 : decode cX12_calmIn 33 = .ok (.iinc 1 1, 3) := by decide +kernel
theorem dX12_calmIn_36 : decode cX12_calmIn 36 = .ok (.goto (-21), 3) := by decide +kernel
theorem dX12_calmIn_39 : decode cX12_calmIn 39 = .ok (.aload_n 0, 1) := by decide +kernel
theorem dX12_calmIn_40 : decode cX12_calmIn 40 = .ok (.invokevirtual 457, 3) := by decide +kernel
theorem dX12_calmIn_43 : decode cX12_calmIn 43 = .ok (.iload_n 1, 1) := by decide +kernel
theorem dX12_calmIn_44 : decode cX12_calmIn 44 = .ok (.sipush 2000, 3) := by decide +kernel
theorem dX12_calmIn_47 : decode cX12_calmIn 47 = .ok (.if_icmp .le 7, 3) := by decide +kernel
theorem dX12_calmIn_50 : decode cX12_calmIn 50 = .ok (.iconst (-1), 1) := by decide +kernel
theorem dX12_calmIn_51 : decode cX12_calmIn 51 = .ok (.goto 4, 3) := by decide +kernel
theorem dX12_calmIn_54 : decode cX12_calmIn 54 = .ok (.iload_n 1, 1) := by decide +kernel
theorem dX12_calmIn_55 : decode cX12_calmIn 55 = .ok (.ireturn, 1) := by decide +kernel
theorem dX12_bears_0 : decode cX12_bears 0 = .ok (.aload_n 0, 1) := by decide +kernel
theorem dX12_bears_1 : decode cX12_bears 1 = .ok (.invokevirtual 454, 3) := by decide +kernel
theorem dX12_bears_4 : decode cX12_bears 4 = .ok (.aload_n 0, 1) := by decide +kernel
theorem dX12_bears_5 : decode cX12_bears 5 = .ok (.iload_n 1, 1) := by decide +kernel
theorem dX12_bears_6 : decode cX12_bears 6 = .ok (.iconst 3, 1) := by decide +kernel
theorem dX12_bears_7 : decode cX12_bears 7 = .ok (.iload_n 2, 1) := by decide +kernel
theorem dX12_bears_8 : decode cX12_bears 8 = .ok (.invokevirtual 411, 3) := by decide +kernel
theorem dX12_bears_11 : decode cX12_bears 11 = .ok (.iconst 0, 1) := by decide +kernel
theorem dX12_bears_12 : decode cX12_bears 12 = .ok (.istore 4, 2) := by decide +kernel
theorem dX12_bears_14 : decode cX12_bears 14 = .ok (.iload 4, 2) := by decide +kernel
theorem dX12_bears_16 : decode cX12_bears 16 = .ok (.iload_n 3, 1) := by decide +kernel
theorem dX12_bears_17 : decode cX12_bears 17 = .ok (.if_icmp .ge 22, 3) := by decide +kernel
theorem dX12_bears_20 : decode cX12_bears 20 = .ok (.aload_n 0, 1) := by decide +kernel
theorem dX12_bears_21 : decode cX12_bears 21 = .ok (.iload_n 1, 1) := by decide +kernel
theorem dX12_bears_22 : decode cX12_bears 22 = .ok (.iconst 5, 1) := by decide +kernel
theorem dX12_bears_23 : decode cX12_bears 23 = .ok (.invokevirtual 338, 3) := by decide +kernel
theorem dX12_bears_26 : decode cX12_bears 26 = .ok (.ifCond .ne 13, 3) := by decide +kernel
theorem dX12_bears_29 : decode cX12_bears 29 = .ok (.aload_n 0, 1) := by decide +kernel
theorem dX12_bears_30 : decode cX12_bears 30 = .ok (.invokevirtual 446, 3) := by decide +kernel
theorem dX12_bears_33 : decode cX12_bears 33 = .ok (.iinc 4 1, 3) := by decide +kernel
theorem dX12_bears_36 : decode cX12_bears 36 = .ok (.goto (-22), 3) := by decide +kernel
theorem dX12_bears_39 : decode cX12_bears 39 = .ok (.aload_n 0, 1) := by decide +kernel
theorem dX12_bears_40 : decode cX12_bears 40 = .ok (.iload_n 1, 1) := by decide +kernel
theorem dX12_bears_41 : decode cX12_bears 41 = .ok (.iconst 5, 1) := by decide +kernel
theorem dX12_bears_42 : decode cX12_bears 42 = .ok (.invokevirtual 338, 3) := by decide +kernel
theorem dX12_bears_45 : decode cX12_bears 45 = .ok (.ifCond .ne 7, 3) := by decide +kernel
theorem dX12_bears_48 : decode cX12_bears 48 = .ok (.iconst 1, 1) := by decide +kernel
theorem dX12_bears_49 : decode cX12_bears 49 = .ok (.goto 4, 3) := by decide +kernel
theorem dX12_bears_52 : decode cX12_bears 52 = .ok (.iconst 0, 1) := by decide +kernel
theorem dX12_bears_53 : decode cX12_bears 53 = .ok (.istore 4, 2) := by decide +kernel
theorem dX12_bears_55 : decode cX12_bears 55 = .ok (.aload_n 0, 1) := by decide +kernel
theorem dX12_bears_56 : decode cX12_bears 56 = .ok (.invokevirtual 457, 3) := by decide +kernel
theorem dX12_bears_59 : decode cX12_bears 59 = .ok (.iload 4, 2) := by decide +kernel
theorem dX12_bears_61 : decode cX12_bears 61 = .ok (.ireturn, 1) := by decide +kernel
theorem dX12_carries_0 : decode cX12_carries 0 = .ok (.aload_n 0, 1) := by decide +kernel
theorem dX12_carries_1 : decode cX12_carries 1 = .ok (.iload_n 1, 1) := by decide +kernel
theorem dX12_carries_2 : decode cX12_carries 2 = .ok (.invokevirtual 312, 3) := by decide +kernel
theorem dX12_carries_5 : decode cX12_carries 5 = .ok (.ifCond .eq 15, 3) := by decide +kernel
theorem dX12_carries_8 : decode cX12_carries 8 = .ok (.iload_n 2, 1) := by decide +kernel
theorem dX12_carries_9 : decode cX12_carries 9 = .ok (.i2l, 1) := by decide +kernel
theorem dX12_carries_10 : decode cX12_carries 10 = .ok (.lconst 1, 1) := by decide +kernel
theorem dX12_carries_11 : decode cX12_carries 11 = .ok (.ldc2_w 463, 3) := by decide +kernel
theorem dX12_carries_14 : decode cX12_carries 14 = .ok (.invokestatic 91, 3) := by decide +kernel
theorem dX12_carries_17 : decode cX12_carries 17 = .ok (.ifCond .ne 5, 3) := by decide +kernel
theorem dX12_carries_20 : decode cX12_carries 20 = .ok (.iconst (-1), 1) := by decide +kernel
theorem dX12_carries_21 : decode cX12_carries 21 = .ok (.ireturn, 1) := by decide +kernel
theorem dX12_carries_22 : decode cX12_carries 22 = .ok (.sipush 2000, 3) := by decide +kernel
theorem dX12_carries_25 : decode cX12_carries 25 = .ok (.istore_n 3, 1) := by decide +kernel
theorem dX12_carries_26 : decode cX12_carries 26 = .ok (.iload_n 3, 1) := by decide +kernel
theorem dX12_carries_27 : decode cX12_carries 27 = .ok (.ifCond .lt 21, 3) := by decide +kernel
theorem dX12_carries_30 : decode cX12_carries 30 = .ok (.aload_n 0, 1) := by decide +kernel
theorem dX12_carries_31 : decode cX12_carries 31 = .ok (.iload_n 1, 1) := by decide +kernel
theorem dX12_carries_32 : decode cX12_carries 32 = .ok (.iload_n 3, 1) := by decide +kernel
theorem dX12_carries_33 : decode cX12_carries 33 = .ok (.iload_n 2, 1) := by decide +kernel
theorem dX12_carries_34 : decode cX12_carries 34 = .ok (.invokevirtual 465, 3) := by decide +kernel
theorem dX12_carries_37 : decode cX12_carries 37 = .ok (.ifCond .eq 5, 3) := by decide +kernel
theorem dX12_carries_40 : decode cX12_carries 40 = .ok (.iload_n 3, 1) := by decide +kernel
theorem dX12_carries_41 : decode cX12_carries 41 = .ok (.ireturn, 1) := by decide +kernel
theorem dX12_carries_42 : decode cX12_carries 42 = .ok (.iinc 3 (-1), 3) := by decide +kernel
theorem dX12_carries_45 : decode cX12_carries 45 = .ok (.goto (-19), 3) := by decide +kernel
theorem dX12_carries_48 : decode cX12_carries 48 = .ok (.iconst (-1), 1) := by decide +kernel
theorem dX12_carries_49 : decode cX12_carries 49 = .ok (.ireturn, 1) := by decide +kernel
theorem dX12_strain_0 : decode cX12_strain 0 = .ok (.aload_n 0, 1) := by decide +kernel
theorem dX12_strain_1 : decode cX12_strain 1 = .ok (.iload_n 1, 1) := by decide +kernel
theorem dX12_strain_2 : decode cX12_strain 2 = .ok (.invokevirtual 312, 3) := by decide +kernel
theorem dX12_strain_5 : decode cX12_strain 5 = .ok (.ifCond .eq 15, 3) := by decide +kernel
theorem dX12_strain_8 : decode cX12_strain 8 = .ok (.iload_n 2, 1) := by decide +kernel
theorem dX12_strain_9 : decode cX12_strain 9 = .ok (.i2l, 1) := by decide +kernel
theorem dX12_strain_10 : decode cX12_strain 10 = .ok (.lconst 1, 1) := by decide +kernel
theorem dX12_strain_11 : decode cX12_strain 11 = .ok (.ldc2_w 421, 3) := by decide +kernel
theorem dX12_strain_14 : decode cX12_strain 14 = .ok (.invokestatic 91, 3) := by decide +kernel
theorem dX12_strain_17 : decode cX12_strain 17 = .ok (.ifCond .ne 5, 3) := by decide +kernel
theorem dX12_strain_20 : decode cX12_strain 20 = .ok (.iconst (-1), 1) := by decide +kernel
theorem dX12_strain_21 : decode cX12_strain 21 = .ok (.ireturn, 1) := by decide +kernel
theorem dX12_strain_22 : decode cX12_strain 22 = .ok (.aload_n 0, 1) := by decide +kernel
theorem dX12_strain_23 : decode cX12_strain 23 = .ok (.invokevirtual 454, 3) := by decide +kernel
theorem dX12_strain_26 : decode cX12_strain 26 = .ok (.iconst 0, 1) := by decide +kernel
theorem dX12_strain_27 : decode cX12_strain 27 = .ok (.istore_n 3, 1) := by decide +kernel
theorem dX12_strain_28 : decode cX12_strain 28 = .ok (.iconst 0, 1) := by decide +kernel
theorem dX12_strain_29 : decode cX12_strain 29 = .ok (.istore 4, 2) := by decide +kernel
theorem dX12_strain_31 : decode cX12_strain 31 = .ok (.iload 4, 2) := by decide +kernel
theorem dX12_strain_33 : decode cX12_strain 33 = .ok (.iload_n 2, 1) := by decide +kernel
theorem dX12_strain_34 : decode cX12_strain 34 = .ok (.if_icmp .ge 26, 3) := by decide +kernel
theorem dX12_strain_37 : decode cX12_strain 37 = .ok (.aload_n 0, 1) := by decide +kernel
theorem dX12_strain_38 : decode cX12_strain 38 = .ok (.invokevirtual 446, 3) := by decide +kernel
theorem dX12_strain_41 : decode cX12_strain 41 = .ok (.iload_n 3, 1) := by decide +kernel
theorem dX12_strain_42 : decode cX12_strain 42 = .ok (.aload_n 0, 1) := by decide +kernel
theorem dX12_strain_43 : decode cX12_strain 43 = .ok (.iload_n 1, 1) := by decide +kernel
theorem dX12_strain_44 : decode cX12_strain 44 = .ok (.invokevirtual 429, 3) := by decide +kernel
theorem dX12_strain_47 : decode cX12_strain 47 = .ok (.invokestatic 273, 3) := by decide +kernel
theorem dX12_strain_50 : decode cX12_strain 50 = .ok (.invokestatic 318, 3) := by decide +kernel
theorem dX12_strain_53 : decode cX12_strain 53 = .ok (.istore_n 3, 1) := by decide +kernel
theorem dX12_strain_54 : decode cX12_strain 54 = .ok (.iinc 4 1, 3) := by decide +kernel
theorem dX12_strain_57 : decode cX12_strain 57 = .ok (.goto (-26), 3) := by decide +kernel
theorem dX12_strain_60 : decode cX12_strain 60 = .ok (.aload_n 0, 1) := by decide +kernel
theorem dX12_strain_61 : decode cX12_strain 61 = .ok (.invokevirtual 457, 3) := by decide +kernel
theorem dX12_strain_64 : decode cX12_strain 64 = .ok (.iload_n 3, 1) := by decide +kernel
theorem dX12_strain_65 : decode cX12_strain 65 = .ok (.ireturn, 1) := by decide +kernel
theorem dX12_shakeOf_0 : decode cX12_shakeOf 0 = .ok (.iconst 0, 1) := by decide +kernel
theorem dX12_shakeOf_1 : decode cX12_shakeOf 1 = .ok (.istore 4, 2) := by decide +kernel
theorem dX12_shakeOf_3 : decode cX12_shakeOf 3 = .ok (.iconst 0, 1) := by decide +kernel
theorem dX12_shakeOf_4 : decode cX12_shakeOf 4 = .ok (.istore 5, 2) := by decide +kernel
theorem dX12_shakeOf_6 : decode cX12_shakeOf 6 = .ok (.iconst 0, 1) := by decide +kernel
theorem dX12_shakeOf_7 : decode cX12_shakeOf 7 = .ok (.istore 6, 2) := by decide +kernel
theorem dX12_shakeOf_9 : decode cX12_shakeOf 9 = .ok (.iconst 0, 1) := by decide +kernel
theorem dX12_shakeOf_10 : decode cX12_shakeOf 10 = .ok (.istore 7, 2) := by decide +kernel
theorem dX12_shakeOf_12 : decode cX12_shakeOf 12 = .ok (.iconst 0, 1) := by decide +kernel
theorem dX12_shakeOf_13 : decode cX12_shakeOf 13 = .ok (.istore 8, 2) := by decide +kernel
theorem dX12_shakeOf_15 : decode cX12_shakeOf 15 = .ok (.iload 8, 2) := by decide +kernel
theorem dX12_shakeOf_17 : decode cX12_shakeOf 17 = .ok (.iload_n 3, 1) := by decide +kernel
theorem dX12_shakeOf_18 : decode cX12_shakeOf 18 = .ok (.if_icmp .ge 61, 3) := by decide +kernel
theorem dX12_shakeOf_21 : decode cX12_shakeOf 21 = .ok (.iload 4, 2) := by decide +kernel
theorem dX12_shakeOf_23 : decode cX12_shakeOf 23 = .ok (.iload_n 2, 1) := by decide +kernel
theorem dX12_shakeOf_24 : decode cX12_shakeOf 24 = .ok (.iadd, 1) := by decide +kernel
theorem dX12_shakeOf_25 : decode cX12_shakeOf 25 = .ok (.istore 4, 2) := by decide +kernel
theorem dX12_shakeOf_27 : decode cX12_shakeOf 27 = .ok (.aload_n 0, 1) := by decide +kernel
theorem dX12_shakeOf_28 : decode cX12_shakeOf 28 = .ok (.iload_n 1, 1) := by decide +kernel
theorem dX12_shakeOf_29 : decode cX12_shakeOf 29 = .ok (.iload 4, 2) := by decide +kernel
theorem dX12_shakeOf_31 : decode cX12_shakeOf 31 = .ok (.iload 5, 2) := by decide +kernel
theorem dX12_shakeOf_33 : decode cX12_shakeOf 33 = .ok (.invokestatic 418, 3) := by decide +kernel
theorem dX12_shakeOf_36 : decode cX12_shakeOf 36 = .ok (.iload 6, 2) := by decide +kernel
theorem dX12_shakeOf_38 : decode cX12_shakeOf 38 = .ok (.aload_n 0, 1) := by decide +kernel
theorem dX12_shakeOf_39 : decode cX12_shakeOf 39 = .ok (.iload_n 1, 1) := by decide +kernel
theorem dX12_shakeOf_40 : decode cX12_shakeOf 40 = .ok (.iconst 3, 1) := by decide +kernel
theorem dX12_shakeOf_41 : decode cX12_shakeOf 41 = .ok (.invokevirtual 338, 3) := by decide +kernel
theorem dX12_shakeOf_44 : decode cX12_shakeOf 44 = .ok (.invokevirtual 438, 3) := by decide +kernel
theorem dX12_shakeOf_47 : decode cX12_shakeOf 47 = .ok (.istore 6, 2) := by decide +kernel
theorem dX12_shakeOf_49 : decode cX12_shakeOf 49 = .ok (.iload 5, 2) := by decide +kernel
theorem dX12_shakeOf_51 : decode cX12_shakeOf 51 = .ok (.iload 6, 2) := by decide +kernel
theorem dX12_shakeOf_53 : decode cX12_shakeOf 53 = .ok (.iadd, 1) := by decide +kernel
theorem dX12_shakeOf_54 : decode cX12_shakeOf 54 = .ok (.istore 5, 2) := by decide +kernel
theorem dX12_shakeOf_56 : decode cX12_shakeOf 56 = .ok (.iload 7, 2) := by decide +kernel
theorem dX12_shakeOf_58 : decode cX12_shakeOf 58 = .ok (.iload 4, 2) := by decide +kernel
theorem dX12_shakeOf_60 : decode cX12_shakeOf 60 = .ok (.iload 5, 2) := by decide +kernel
theorem dX12_shakeOf_62 : decode cX12_shakeOf 62 = .ok (.invokestatic 418, 3) := by decide +kernel
theorem dX12_shakeOf_65 : decode cX12_shakeOf 65 = .ok (.invokestatic 273, 3) := by decide +kernel
theorem dX12_shakeOf_68 : decode cX12_shakeOf 68 = .ok (.invokestatic 318, 3) := by decide +kernel
theorem dX12_shakeOf_71 : decode cX12_shakeOf 71 = .ok (.istore 7, 2) := by decide +kernel
theorem dX12_shakeOf_73 : decode cX12_shakeOf 73 = .ok (.iinc 8 1, 3) := by decide +kernel
theorem dX12_shakeOf_76 : decode cX12_shakeOf 76 = .ok (.goto (-61), 3) := by decide +kernel
theorem dX12_shakeOf_79 : decode cX12_shakeOf 79 = .ok (.iload 7, 2) := by decide +kernel
theorem dX12_shakeOf_81 : decode cX12_shakeOf 81 = .ok (.ireturn, 1) := by decide +kernel
theorem dX12_shake_0 : decode cX12_shake 0 = .ok (.aload_n 0, 1) := by decide +kernel
theorem dX12_shake_1 : decode cX12_shake 1 = .ok (.iload_n 1, 1) := by decide +kernel
theorem dX12_shake_2 : decode cX12_shake 2 = .ok (.invokevirtual 312, 3) := by decide +kernel
theorem dX12_shake_5 : decode cX12_shake 5 = .ok (.ifCond .eq 37, 3) := by decide +kernel
theorem dX12_shake_8 : decode cX12_shake 8 = .ok (.iload_n 2, 1) := by decide +kernel
theorem dX12_shake_9 : decode cX12_shake 9 = .ok (.i2l, 1) := by decide +kernel
theorem dX12_shake_10 : decode cX12_shake 10 = .ok (.lconst 0, 1) := by decide +kernel
theorem dX12_shake_11 : decode cX12_shake 11 = .ok (.ldc2_w 292, 3) := by decide +kernel
theorem dX12_shake_14 : decode cX12_shake 14 = .ok (.invokestatic 91, 3) := by decide +kernel
theorem dX12_shake_17 : decode cX12_shake 17 = .ok (.ifCond .eq 25, 3) := by decide +kernel
theorem dX12_shake_20 : decode cX12_shake 20 = .ok (.iload_n 3, 1) := by decide +kernel
theorem dX12_shake_21 : decode cX12_shake 21 = .ok (.i2l, 1) := by decide +kernel
theorem dX12_shake_22 : decode cX12_shake 22 = .ok (.lconst 1, 1) := by decide +kernel
theorem dX12_shake_23 : decode cX12_shake 23 = .ok (.ldc2_w 444, 3) := by decide +kernel
theorem dX12_shake_26 : decode cX12_shake 26 = .ok (.invokestatic 91, 3) := by decide +kernel
theorem dX12_shake_29 : decode cX12_shake 29 = .ok (.ifCond .eq 13, 3) := by decide +kernel
theorem dX12_shake_32 : decode cX12_shake 32 = .ok (.aload_n 0, 1) := by decide +kernel
theorem dX12_shake_33 : decode cX12_shake 33 = .ok (.iload_n 1, 1) := by decide +kernel
theorem dX12_shake_34 : decode cX12_shake 34 = .ok (.iload_n 2, 1) := by decide +kernel
theorem dX12_shake_35 : decode cX12_shake 35 = .ok (.iload_n 3, 1) := by decide +kernel
theorem dX12_shake_36 : decode cX12_shake 36 = .ok (.invokevirtual 468, 3) := by decide +kernel
theorem dX12_shake_39 : decode cX12_shake 39 = .ok (.goto 4, 3) := by decide +kernel
theorem dX12_shake_42 : decode cX12_shake 42 = .ok (.iconst (-1), 1) := by decide +kernel
theorem dX12_shake_43 : decode cX12_shake 43 = .ok (.ireturn, 1) := by decide +kernel
theorem dX12_worst_0 : decode cX12_worst 0 = .ok (.aload_n 0, 1) := by decide +kernel
theorem dX12_worst_1 : decode cX12_worst 1 = .ok (.iload_n 1, 1) := by decide +kernel
theorem dX12_worst_2 : decode cX12_worst 2 = .ok (.invokevirtual 312, 3) := by decide +kernel
theorem dX12_worst_5 : decode cX12_worst 5 = .ok (.ifCond .eq 15, 3) := by decide +kernel
theorem dX12_worst_8 : decode cX12_worst 8 = .ok (.iload_n 2, 1) := by decide +kernel
theorem dX12_worst_9 : decode cX12_worst 9 = .ok (.i2l, 1) := by decide +kernel
theorem dX12_worst_10 : decode cX12_worst 10 = .ok (.lconst 1, 1) := by decide +kernel
theorem dX12_worst_11 : decode cX12_worst 11 = .ok (.ldc2_w 471, 3) := by decide +kernel
theorem dX12_worst_14 : decode cX12_worst 14 = .ok (.invokestatic 91, 3) := by decide +kernel
theorem dX12_worst_17 : decode cX12_worst 17 = .ok (.ifCond .ne 5, 3) := by decide +kernel
theorem dX12_worst_20 : decode cX12_worst 20 = .ok (.iconst (-1), 1) := by decide +kernel
theorem dX12_worst_21 : decode cX12_worst 21 = .ok (.ireturn, 1) := by decide +kernel
theorem dX12_worst_22 : decode cX12_worst 22 = .ok (.iconst 1, 1) := by decide +kernel
theorem dX12_worst_23 : decode cX12_worst 23 = .ok (.istore_n 3, 1) := by decide +kernel
theorem dX12_worst_24 : decode cX12_worst 24 = .ok (.iconst 2, 1) := by decide +kernel
theorem dX12_worst_25 : decode cX12_worst 25 = .ok (.istore 4, 2) := by decide +kernel
theorem dX12_worst_27 : decode cX12_worst 27 = .ok (.iload 4, 2) := by decide +kernel
theorem dX12_worst_29 : decode cX12_worst 29 = .ok (.aload_n 0, 1) := by decide +kernel
theorem dX12_worst_30 : decode cX12_worst 30 = .ok (.getfield 27, 3) := by decide +kernel
theorem dX12_worst_33 : decode cX12_worst 33 = .ok (.bipush 6, 2) := by decide +kernel
theorem dX12_worst_35 : decode cX12_worst 35 = .ok (.iload_n 1, 1) := by decide +kernel
theorem dX12_worst_36 : decode cX12_worst 36 = .ok (.imul, 1) := by decide +kernel
theorem dX12_worst_37 : decode cX12_worst 37 = .ok (.iaload, 1) := by decide +kernel
theorem dX12_worst_38 : decode cX12_worst 38 = .ok (.if_icmp .gt 30, 3) := by decide +kernel
theorem dX12_worst_41 : decode cX12_worst 41 = .ok (.aload_n 0, 1) := by decide +kernel
theorem dX12_worst_42 : decode cX12_worst 42 = .ok (.iload_n 1, 1) := by decide +kernel
theorem dX12_worst_43 : decode cX12_worst 43 = .ok (.iload 4, 2) := by decide +kernel
theorem dX12_worst_45 : decode cX12_worst 45 = .ok (.iload_n 2, 1) := by decide +kernel
theorem dX12_worst_46 : decode cX12_worst 46 = .ok (.invokevirtual 468, 3) := by decide +kernel
theorem dX12_worst_49 : decode cX12_worst 49 = .ok (.aload_n 0, 1) := by decide +kernel
theorem dX12_worst_50 : decode cX12_worst 50 = .ok (.iload_n 1, 1) := by decide +kernel
theorem dX12_worst_51 : decode cX12_worst 51 = .ok (.iload_n 3, 1) := by decide +kernel
theorem dX12_worst_52 : decode cX12_worst 52 = .ok (.iload_n 2, 1) := by decide +kernel
theorem dX12_worst_53 : decode cX12_worst 53 = .ok (.invokevirtual 468, 3) := by decide +kernel
theorem dX12_worst_56 : decode cX12_worst 56 = .ok (.if_icmp .le 6, 3) := by decide +kernel
theorem dX12_worst_59 : decode cX12_worst 59 = .ok (.iload 4, 2) := by decide +kernel
theorem dX12_worst_61 : decode cX12_worst 61 = .ok (.istore_n 3, 1) := by decide +kernel
theorem dX12_worst_62 : decode cX12_worst 62 = .ok (.iinc 4 1, 3) := by decide +kernel
theorem dX12_worst_65 : decode cX12_worst 65 = .ok (.goto (-38), 3) := by decide +kernel
theorem dX12_worst_68 : decode cX12_worst 68 = .ok (.iload_n 3, 1) := by decide +kernel
theorem dX12_worst_69 : decode cX12_worst 69 = .ok (.ireturn, 1) := by decide +kernel
theorem dX12_unsafe_0 : decode cX12_unsafe 0 = .ok (.aload_n 0, 1) := by decide +kernel
theorem dX12_unsafe_1 : decode cX12_unsafe 1 = .ok (.iload_n 1, 1) := by decide +kernel
theorem dX12_unsafe_2 : decode cX12_unsafe 2 = .ok (.invokevirtual 312, 3) := by decide +kernel
theorem dX12_unsafe_5 : decode cX12_unsafe 5 = .ok (.ifCond .eq 15, 3) := by decide +kernel
theorem dX12_unsafe_8 : decode cX12_unsafe 8 = .ok (.iload_n 2, 1) := by decide +kernel
theorem dX12_unsafe_9 : decode cX12_unsafe 9 = .ok (.i2l, 1) := by decide +kernel
theorem dX12_unsafe_10 : decode cX12_unsafe 10 = .ok (.lconst 1, 1) := by decide +kernel
theorem dX12_unsafe_11 : decode cX12_unsafe 11 = .ok (.ldc2_w 471, 3) := by decide +kernel
theorem dX12_unsafe_14 : decode cX12_unsafe 14 = .ok (.invokestatic 91, 3) := by decide +kernel
theorem dX12_unsafe_17 : decode cX12_unsafe 17 = .ok (.ifCond .ne 5, 3) := by decide +kernel
theorem dX12_unsafe_20 : decode cX12_unsafe 20 = .ok (.iconst (-1), 1) := by decide +kernel
theorem dX12_unsafe_21 : decode cX12_unsafe 21 = .ok (.ireturn, 1) := by decide +kernel
theorem dX12_unsafe_22 : decode cX12_unsafe 22 = .ok (.iconst 0, 1) := by decide +kernel
theorem dX12_unsafe_23 : decode cX12_unsafe 23 = .ok (.istore_n 3, 1) := by decide +kernel
theorem dX12_unsafe_24 : decode cX12_unsafe 24 = .ok (.iconst 1, 1) := by decide +kernel
theorem dX12_unsafe_25 : decode cX12_unsafe 25 = .ok (.istore 4, 2) := by decide +kernel
theorem dX12_unsafe_27 : decode cX12_unsafe 27 = .ok (.iload 4, 2) := by decide +kernel
theorem dX12_unsafe_29 : decode cX12_unsafe 29 = .ok (.aload_n 0, 1) := by decide +kernel
theorem dX12_unsafe_30 : decode cX12_unsafe 30 = .ok (.getfield 27, 3) := by decide +kernel
theorem dX12_unsafe_33 : decode cX12_unsafe 33 = .ok (.bipush 6, 2) := by decide +kernel
theorem dX12_unsafe_35 : decode cX12_unsafe 35 = .ok (.iload_n 1, 1) := by decide +kernel
theorem dX12_unsafe_36 : decode cX12_unsafe 36 = .ok (.imul, 1) := by decide +kernel
theorem dX12_unsafe_37 : decode cX12_unsafe 37 = .ok (.iaload, 1) := by decide +kernel
theorem dX12_unsafe_38 : decode cX12_unsafe 38 = .ok (.if_icmp .gt 44, 3) := by decide +kernel
theorem dX12_unsafe_41 : decode cX12_unsafe 41 = .ok (.iload_n 3, 1) := by decide +kernel
theorem dX12_unsafe_42 : decode cX12_unsafe 42 = .ok (.aload_n 0, 1) := by decide +kernel
theorem dX12_unsafe_43 : decode cX12_unsafe 43 = .ok (.iload_n 1, 1) := by decide +kernel
theorem dX12_unsafe_44 : decode cX12_unsafe 44 = .ok (.iload 4, 2) := by decide +kernel
theorem dX12_unsafe_46 : decode cX12_unsafe 46 = .ok (.invokevirtual 315, 3) := by decide +kernel
theorem dX12_unsafe_49 : decode cX12_unsafe 49 = .ok (.ifCond .ne 21, 3) := by decide +kernel
theorem dX12_unsafe_52 : decode cX12_unsafe 52 = .ok (.aload_n 0, 1) := by decide +kernel
theorem dX12_unsafe_53 : decode cX12_unsafe 53 = .ok (.iload_n 1, 1) := by decide +kernel
theorem dX12_unsafe_54 : decode cX12_unsafe 54 = .ok (.iload 4, 2) := by decide +kernel
theorem dX12_unsafe_56 : decode cX12_unsafe 56 = .ok (.iload_n 2, 1) := by decide +kernel
theorem dX12_unsafe_57 : decode cX12_unsafe 57 = .ok (.invokevirtual 468, 3) := by decide +kernel
theorem dX12_unsafe_60 : decode cX12_unsafe 60 = .ok (.sipush 1024, 3) := by decide +kernel
theorem dX12_unsafe_63 : decode cX12_unsafe 63 = .ok (.if_icmp .lt 7, 3) := by decide +kernel
theorem dX12_unsafe_66 : decode cX12_unsafe 66 = .ok (.iconst 1, 1) := by decide +kernel
theorem dX12_unsafe_67 : decode cX12_unsafe 67 = .ok (.goto 4, 3) := by decide +kernel
theorem dX12_unsafe_70 : decode cX12_unsafe 70 = .ok (.iconst 0, 1) := by decide +kernel
theorem dX12_unsafe_71 : decode cX12_unsafe 71 = .ok (.invokestatic 279, 3) := by decide +kernel
theorem dX12_unsafe_74 : decode cX12_unsafe 74 = .ok (.iadd, 1) := by decide +kernel
theorem dX12_unsafe_75 : decode cX12_unsafe 75 = .ok (.istore_n 3, 1) := by decide +kernel
theorem dX12_unsafe_76 : decode cX12_unsafe 76 = .ok (.iinc 4 1, 3) := by decide +kernel
theorem dX12_unsafe_79 : decode cX12_unsafe 79 = .ok (.goto (-52), 3) := by decide +kernel
theorem dX12_unsafe_82 : decode cX12_unsafe 82 = .ok (.iload_n 3, 1) := by decide +kernel
theorem dX12_unsafe_83 : decode cX12_unsafe 83 = .ok (.ireturn, 1) := by decide +kernel
theorem dX12_sign_0 : decode cX12_sign 0 = .ok (.iload_n 0, 1) := by decide +kernel
theorem dX12_sign_1 : decode cX12_sign 1 = .ok (.ifCond .le 7, 3) := by decide +kernel
theorem dX12_sign_4 : decode cX12_sign 4 = .ok (.iconst 1, 1) := by decide +kernel
theorem dX12_sign_5 : decode cX12_sign 5 = .ok (.goto 12, 3) := by decide +kernel
theorem dX12_sign_8 : decode cX12_sign 8 = .ok (.iload_n 0, 1) := by decide +kernel
theorem dX12_sign_9 : decode cX12_sign 9 = .ok (.ifCond .ge 7, 3) := by decide +kernel
theorem dX12_sign_12 : decode cX12_sign 12 = .ok (.iconst (-1), 1) := by decide +kernel
theorem dX12_sign_13 : decode cX12_sign 13 = .ok (.goto 4, 3) := by decide +kernel
theorem dX12_sign_16 : decode cX12_sign 16 = .ok (.iconst 0, 1) := by decide +kernel
theorem dX12_sign_17 : decode cX12_sign 17 = .ok (.ireturn, 1) := by decide +kernel
theorem dX12_isLet_0 : decode cX12_isLet 0 = .ok (.iload_n 0, 1) := by decide +kernel
theorem dX12_isLet_1 : decode cX12_isLet 1 = .ok (.i2l, 1) := by decide +kernel
theorem dX12_isLet_2 : decode cX12_isLet 2 = .ok (.ldc2_w 473, 3) := by decide +kernel
theorem dX12_isLet_5 : decode cX12_isLet 5 = .ok (.ldc2_w 475, 3) := by decide +kernel
theorem dX12_isLet_8 : decode cX12_isLet 8 = .ok (.invokestatic 91, 3) := by decide +kernel
theorem dX12_isLet_11 : decode cX12_isLet 11 = .ok (.ireturn, 1) := by decide +kernel
theorem dX12_swings_0 : decode cX12_swings 0 = .ok (.aload_n 0, 1) := by decide +kernel
theorem dX12_swings_1 : decode cX12_swings 1 = .ok (.iload_n 1, 1) := by decide +kernel
theorem dX12_swings_2 : decode cX12_swings 2 = .ok (.invokevirtual 312, 3) := by decide +kernel
theorem dX12_swings_5 : decode cX12_swings 5 = .ok (.ifCond .eq 22, 3) := by decide +kernel
theorem dX12_swings_8 : decode cX12_swings 8 = .ok (.iload_n 2, 1) := by decide +kernel
theorem dX12_swings_9 : decode cX12_swings 9 = .ok (.invokestatic 477, 3) := by decide +kernel
theorem dX12_swings_12 : decode cX12_swings 12 = .ok (.ifCond .eq 15, 3) := by decide +kernel
theorem dX12_swings_15 : decode cX12_swings 15 = .ok (.iload_n 3, 1) := by decide +kernel
theorem dX12_swings_16 : decode cX12_swings 16 = .ok (.i2l, 1) := by decide +kernel
theorem dX12_swings_17 : decode cX12_swings 17 = .ok (.lconst 1, 1) := by decide +kernel
theorem dX12_swings_18 : decode cX12_swings 18 = .ok (.ldc2_w 444, 3) := by decide +kernel
theorem dX12_swings_21 : decode cX12_swings 21 = .ok (.invokestatic 91, 3) := by decide +kernel
theorem dX12_swings_24 : decode cX12_swings 24 = .ok (.ifCond .ne 5, 3) := by decide +kernel
theorem dX12_swings_27 : decode cX12_swings 27 = .ok (.iconst (-1), 1) := by decide +kernel
theorem dX12_swings_28 : decode cX12_swings 28 = .ok (.ireturn, 1) := by decide +kernel
theorem dX12_swings_29 : decode cX12_swings 29 = .ok (.iload_n 2, 1) := by decide +kernel
theorem dX12_swings_30 : decode cX12_swings 30 = .ok (.ineg, 1) := by decide +kernel
theorem dX12_swings_31 : decode cX12_swings 31 = .ok (.istore 4, 2) := by decide +kernel
theorem dX12_swings_33 : decode cX12_swings 33 = .ok (.iconst 0, 1) := by decide +kernel
theorem dX12_swings_34 : decode cX12_swings 34 = .ok (.istore 5, 2) := by decide +kernel
theorem dX12_swings_36 : decode cX12_swings 36 = .ok (.iconst 0, 1) := by decide +kernel
theorem dX12_swings_37 : decode cX12_swings 37 = .ok (.istore 6, 2) := by decide +kernel
theorem dX12_swings_39 : decode cX12_swings 39 = .ok (.iconst 0, 1) := by decide +kernel
theorem dX12_swings_40 : decode cX12_swings 40 = .ok (.istore 7, 2) := by decide +kernel
theorem dX12_swings_42 : decode cX12_swings 42 = .ok (.iload 7, 2) := by decide +kernel
theorem dX12_swings_44 : decode cX12_swings 44 = .ok (.iload_n 3, 1) := by decide +kernel
theorem dX12_swings_45 : decode cX12_swings 45 = .ok (.if_icmp .ge 64, 3) := by decide +kernel
theorem dX12_swings_48 : decode cX12_swings 48 = .ok (.iload 5, 2) := by decide +kernel
theorem dX12_swings_50 : decode cX12_swings 50 = .ok (.invokestatic 480, 3) := by decide +kernel
theorem dX12_swings_53 : decode cX12_swings 53 = .ok (.istore 8, 2) := by decide +kernel
theorem dX12_swings_55 : decode cX12_swings 55 = .ok (.aload_n 0, 1) := by decide +kernel
theorem dX12_swings_56 : decode cX12_swings 56 = .ok (.iload_n 1, 1) := by decide +kernel
theorem dX12_swings_57 : decode cX12_swings 57 = .ok (.iload 4, 2) := by decide +kernel
theorem dX12_swings_59 : decode cX12_swings 59 = .ok (.ineg, 1) := by decide +kernel
theorem dX12_swings_60 : decode cX12_swings 60 = .ok (.iload 5, 2) := by decide +kernel
theorem dX12_swings_62 : decode cX12_swings 62 = .ok (.aload_n 0, 1) := by decide +kernel
theorem dX12_swings_63 : decode cX12_swings 63 = .ok (.iload_n 1, 1) := by decide +kernel
theorem dX12_swings_64 : decode cX12_swings 64 = .ok (.iconst 3, 1) := by decide +kernel
theorem dX12_swings_65 : decode cX12_swings 65 = .ok (.invokevirtual 338, 3) := by decide +kernel
theorem dX12_swings_68 : decode cX12_swings 68 = .ok (.invokevirtual 438, 3) := by decide +kernel
theorem dX12_swings_71 : decode cX12_swings 71 = .ok (.istore 5, 2) := by decide +kernel
theorem dX12_swings_73 : decode cX12_swings 73 = .ok (.iload 4, 2) := by decide +kernel
theorem dX12_swings_75 : decode cX12_swings 75 = .ok (.iload 5, 2) := by decide +kernel
theorem dX12_swings_77 : decode cX12_swings 77 = .ok (.iadd, 1) := by decide +kernel
theorem dX12_swings_78 : decode cX12_swings 78 = .ok (.istore 4, 2) := by decide +kernel
theorem dX12_swings_80 : decode cX12_swings 80 = .ok (.iload 6, 2) := by decide +kernel
theorem dX12_swings_82 : decode cX12_swings 82 = .ok (.iload 5, 2) := by decide +kernel
theorem dX12_swings_84 : decode cX12_swings 84 = .ok (.invokestatic 480, 3) := by decide +kernel
theorem dX12_swings_87 : decode cX12_swings 87 = .ok (.iload 8, 2) := by decide +kernel
theorem dX12_swings_89 : decode cX12_swings 89 = .ok (.if_icmp .eq 7, 3) := by decide +kernel
theorem dX12_swings_92 : decode cX12_swings 92 = .ok (.iconst 1, 1) := by decide +kernel
theorem dX12_swings_93 : decode cX12_swings 93 = .ok (.goto 4, 3) := by decide +kernel
theorem dX12_swings_96 : decode cX12_swings 96 = .ok (.iconst 0, 1) := by decide +kernel
theorem dX12_swings_97 : decode cX12_swings 97 = .ok (.invokestatic 279, 3) := by decide +kernel
theorem dX12_swings_100 : decode cX12_swings 100 = .ok (.iadd, 1) := by decide +kernel
theorem dX12_swings_101 : decode cX12_swings 101 = .ok (.istore 6, 2) := by decide +kernel
theorem dX12_swings_103 : decode cX12_swings 103 = .ok (.iinc 7 1, 3) := by decide +kernel
theorem dX12_swings_106 : decode cX12_swings 106 = .ok (.goto (-64), 3) := by decide +kernel
theorem dX12_swings_109 : decode cX12_swings 109 = .ok (.iload 6, 2) := by decide +kernel
theorem dX12_swings_111 : decode cX12_swings 111 = .ok (.ireturn, 1) := by decide +kernel
theorem dX12_settles_0 : decode cX12_settles 0 = .ok (.aload_n 0, 1) := by decide +kernel
theorem dX12_settles_1 : decode cX12_settles 1 = .ok (.iload_n 1, 1) := by decide +kernel
theorem dX12_settles_2 : decode cX12_settles 2 = .ok (.invokevirtual 312, 3) := by decide +kernel
theorem dX12_settles_5 : decode cX12_settles 5 = .ok (.ifCond .eq 10, 3) := by decide +kernel
theorem dX12_settles_8 : decode cX12_settles 8 = .ok (.iload_n 2, 1) := by decide +kernel
theorem dX12_settles_9 : decode cX12_settles 9 = .ok (.invokestatic 477, 3) := by decide +kernel
theorem dX12_settles_12 : decode cX12_settles 12 = .ok (.ifCond .ne 5, 3) := by decide +kernel
theorem dX12_settles_15 : decode cX12_settles 15 = .ok (.iconst (-1), 1) := by decide +kernel
theorem dX12_settles_16 : decode cX12_settles 16 = .ok (.ireturn, 1) := by decide +kernel
theorem dX12_settles_17 : decode cX12_settles 17 = .ok (.iload_n 2, 1) := by decide +kernel
theorem dX12_settles_18 : decode cX12_settles 18 = .ok (.ineg, 1) := by decide +kernel
theorem dX12_settles_19 : decode cX12_settles 19 = .ok (.istore_n 3, 1) := by decide +kernel
theorem dX12_settles_20 : decode cX12_settles 20 = .ok (.iconst 0, 1) := by decide +kernel
theorem dX12_settles_21 : decode cX12_settles 21 = .ok (.istore 4, 2) := by decide +kernel
theorem dX12_settles_23 : decode cX12_settles 23 = .ok (.iconst 0, 1) := by decide +kernel
theorem dX12_settles_24 : decode cX12_settles 24 = .ok (.istore 5, 2) := by decide +kernel
theorem dX12_settles_26 : decode cX12_settles 26 = .ok (.iload 5, 2) := by decide +kernel
theorem dX12_settles_28 : decode cX12_settles 28 = .ok (.sipush 2000, 3) := by decide +kernel
theorem dX12_settles_31 : decode cX12_settles 31 = .ok (.if_icmp .gt 55, 3) := by decide +kernel
theorem dX12_settles_34 : decode cX12_settles 34 = .ok (.iload 4, 2) := by decide +kernel
theorem dX12_settles_36 : decode cX12_settles 36 = .ok (.ifCond .ne 22, 3) := by decide +kernel
theorem dX12_settles_39 : decode cX12_settles 39 = .ok (.aload_n 0, 1) := by decide +kernel
theorem dX12_settles_40 : decode cX12_settles 40 = .ok (.iload_n 1, 1) := by decide +kernel
theorem dX12_settles_41 : decode cX12_settles 41 = .ok (.iload_n 3, 1) := by decide +kernel
theorem dX12_settles_42 : decode cX12_settles 42 = .ok (.ineg, 1) := by decide +kernel
theorem dX12_settles_43 : decode cX12_settles 43 = .ok (.aload_n 0, 1) := by decide +kernel
theorem dX12_settles_44 : decode cX12_settles 44 = .ok (.iload_n 1, 1) := by decide +kernel
theorem dX12_settles_45 : decode cX12_settles 45 = .ok (.iconst 3, 1) := by decide +kernel
theorem dX12_settles_46 : decode cX12_settles 46 = .ok (.invokevirtual 338, 3) := by decide +kernel
theorem dX12_settles_49 : decode cX12_settles 49 = .ok (.invokevirtual 423, 3) := by decide +kernel
theorem dX12_settles_52 : decode cX12_settles 52 = .ok (.ifCond .ne 6, 3) := by decide +kernel
theorem dX12_settles_55 : decode cX12_settles 55 = .ok (.iload 5, 2) := by decide +kernel
theorem dX12_settles_57 : decode cX12_settles 57 = .ok (.ireturn, 1) := by decide +kernel
theorem dX12_settles_58 : decode cX12_settles 58 = .ok (.aload_n 0, 1) := by decide +kernel
theorem dX12_settles_59 : decode cX12_settles 59 = .ok (.iload_n 1, 1) := by decide +kernel
theorem dX12_settles_60 : decode cX12_settles 60 = .ok (.iload_n 3, 1) := by decide +kernel
theorem dX12_settles_61 : decode cX12_settles 61 = .ok (.ineg, 1) := by decide +kernel
theorem dX12_settles_62 : decode cX12_settles 62 = .ok (.iload 4, 2) := by decide +kernel
theorem dX12_settles_64 : decode cX12_settles 64 = .ok (.aload_n 0, 1) := by decide +kernel
theorem dX12_settles_65 : decode cX12_settles 65 = .ok (.iload_n 1, 1) := by decide +kernel
theorem dX12_settles_66 : decode cX12_settles 66 = .ok (.iconst 3, 1) := by decide +kernel
theorem dX12_settles_67 : decode cX12_settles 67 = .ok (.invokevirtual 338, 3) := by decide +kernel
theorem dX12_settles_70 : decode cX12_settles 70 = .ok (.invokevirtual 438, 3) := by decide +kernel
theorem dX12_settles_73 : decode cX12_settles 73 = .ok (.istore 4, 2) := by decide +kernel
theorem dX12_settles_75 : decode cX12_settles 75 = .ok (.iload_n 3, 1) := by decide +kernel
theorem dX12_settles_76 : decode cX12_settles 76 = .ok (.iload 4, 2) := by decide +kernel
theorem dX12_settles_78 : decode cX12_settles 78 = .ok (.iadd, 1) := by decide +kernel
theorem dX12_settles_79 : decode cX12_settles 79 = .ok (.istore_n 3, 1) := by decide +kernel
theorem dX12_settles_80 : decode cX12_settles 80 = .ok (.iinc 5 1, 3) := by decide +kernel
theorem dX12_settles_83 : decode cX12_settles 83 = .ok (.goto (-57), 3) := by decide +kernel
theorem dX12_settles_86 : decode cX12_settles 86 = .ok (.iconst (-1), 1) := by decide +kernel
theorem dX12_settles_87 : decode cX12_settles 87 = .ok (.ireturn, 1) := by decide +kernel
def zjX12_trips_91 (sh : zShp) (k0 : Nat)  (M : zMem) : Option (zMem) :=
  some M
def zjX12_trips_85 (sh : zShp) (k0 : Nat) (kk2 : Int32 → zMem → Option (zMem)) (x1 : Int32) (M : zMem) : Option (zMem) :=
  kk2 (x1 + (1 : Int32)) M
def zbX12_trips_2 (sh : zShp) (k0 : Nat)  (kk2 : Int32 → zMem → Option (zMem)) (x1 : Int32) (M : zMem) : Option (zMem) :=
  if (zI M k0 22) ≤ x1 then (
  zjX12_trips_91 sh k0 M)
  else (
  zgd (zin (1 : Int32) (zlen sh (zR M k0 0))) <|
  if (zI M (zR M k0 0) ((1 : Int32).toNatClampNeg)) = (1 : Int32) then (
  zob (zX12_axisAt sh k0 x1 (4 : Int32) M) fun r_6 =>
  if r_6 = 0 then (
  zjX12_trips_85 sh k0 kk2 x1 M)
  else (
  zob (zX12_angle sh k0 x1 M) fun r_9 =>
  zob (zX12_size sh r_9 M) fun r_11 =>
  zob (zX12_axisAt sh k0 x1 (4 : Int32) M) fun r_13 =>
  if r_13 ≤ r_11 then (
  zgd (zin (1 : Int32) (zlen sh (zR M k0 0))) <|
  zbd (zpI M (zR M k0 0) ((1 : Int32).toNatClampNeg) (0 : Int32)) fun M_17 =>
  zgd (zin (23 : Int32) (zlen sh (zR M_17 k0 0))) <|
  zbd (zpI M_17 (zR M_17 k0 0) ((23 : Int32).toNatClampNeg) (0 : Int32)) fun M_20 =>
  zgd (zin (0 : Int32) (zlen sh (zR M_20 k0 0))) <|
  zgd (zin (21 : Int32) (zlen sh (zR M_20 k0 0))) <|
  zbd (zpI M_20 (zR M_20 k0 0) ((21 : Int32).toNatClampNeg) (zI M_20 (zR M_20 k0 0) ((0 : Int32).toNatClampNeg))) fun M_25 =>
  zgd (zin (22 : Int32) (zlen sh (zR M_25 k0 0))) <|
  zbd (zpI M_25 (zR M_25 k0 0) ((22 : Int32).toNatClampNeg) x1) fun M_28 =>
  zjX12_trips_85 sh k0 kk2 x1 M_28)
  else (
  zjX12_trips_85 sh k0 kk2 x1 M)))
  else (
  zjX12_trips_91 sh k0 M))
def zlX12_trips_2 (sh : zShp) (k0 : Nat)  : Nat → Int32 → zMem → Option (zMem)
  | 0 => fun _ _ => none
  | n + 1 => fun x1 M => zbX12_trips_2 sh k0  (zlX12_trips_2 sh k0  n) x1 M
def zX12_trips (sh : zShp) (k0 : Nat) (M : zMem) : Option (zMem) :=
  zlX12_trips_2 sh k0 zF (0 : Int32) M
set_option maxHeartbeats 4000000 in
set_option maxRecDepth 100000 in
theorem ztX12_trips (l : Launch) (D : va_G) (cy : Nat → ClassId) (sh : zShp) (ad : Nat → Nat) {k0 : Nat} (h0 : zT sh k0 12) {M : zMem} {M1 : zMem} (hd : zX12_trips sh k0 M = some M1) : zCV l yX12_trips cX12_trips 2 { frames := 2, cells := 0, slots := 0, locals := 43 } [.ref (ad k0)] D cy sh ad M M1 := by
  refine zcv_of (by decide) (Nat.le_of_ble_eq_true rfl) (fun p e s m below meth c ls F hr hlk hl hw => ?_)
  have hx := F.1.1
  have hb := F.1.2.1
  have hl : lv_has ls 2 [(0, .ref (ad k0))] := hl
  have J91 : ∀ (M : zMem) (H : Heap) (locs : List Loc) (ls : Array Slot), lv_has ls 2 [] → zWd D cy sh ad s M H locs → zjX12_trips_91 sh k0  M = some M1 → W p l e { frames := 2, cells := 0, slots := 0, locals := 43 } s m ([.ref (ad k0)] : List Value).toArray below meth c H locs 0 0 (zQV below D cy sh ad s [.ref (ad k0)] M1) (F0 m 91 ls []) := by
    intro  M H locs ls hl hw hd
    unfold zjX12_trips_91 at hd
    exact z_vret F hr hlk hw (Option.some.inj hd) dX12_trips_91
  have J85 : ∀ (kk2 : Int32 → zMem → Option (zMem)) (hk2 : ∀ (x1 : Int32) (M : zMem) (H : Heap) (locs : List Loc) (ls : Array Slot), lv_has ls 2 [(0, .ref (ad k0)), (1, .int x1)] → zWd D cy sh ad s M H locs → kk2 x1 M = some M1 → W p l e { frames := 2, cells := 0, slots := 0, locals := 43 } s m ([.ref (ad k0)] : List Value).toArray below meth c H locs 0 0 (zQV below D cy sh ad s [.ref (ad k0)] M1) (F0 m 2 ls [])), ∀ (x1 : Int32) (M : zMem) (H : Heap) (locs : List Loc) (ls : Array Slot), lv_has ls 2 [(0, .ref (ad k0)), (1, .int x1)] → zWd D cy sh ad s M H locs → zjX12_trips_85 sh k0 kk2 x1 M = some M1 → W p l e { frames := 2, cells := 0, slots := 0, locals := 43 } s m ([.ref (ad k0)] : List Value).toArray below meth c H locs 0 0 (zQV below D cy sh ad s [.ref (ad k0)] M1) (F0 m 85 ls []) := by
    intro kk2 hk2 x1 M H locs ls hl hw hd
    unfold zjX12_trips_85 at hd
    refine lv_iinc (v := (x1 + (1 : Int32))) (lv' := [(1, .int (x1 + (1 : Int32))), (0, .ref (ad k0))]) hx hb dX12_trips_85 hl (k := 1) rfl (ziinc (by decide)) (by decide) rfl (fun ls hl => ?_)
    refine lv_goto (tgt := 2) hx hb dX12_trips_88 (by decide) ?_
    exact hk2 _ _ _ _ _ (lv_sub hl [1, 0] rfl) hw hd
  have L2 : ∀  (n : Nat), ∀ (x1 : Int32) (M : zMem) (H : Heap) (locs : List Loc) (ls : Array Slot), lv_has ls 2 [(0, .ref (ad k0)), (1, .int x1)] → zWd D cy sh ad s M H locs → zlX12_trips_2 sh k0  n x1 M = some M1 → W p l e { frames := 2, cells := 0, slots := 0, locals := 43 } s m ([.ref (ad k0)] : List Value).toArray below meth c H locs 0 0 (zQV below D cy sh ad s [.ref (ad k0)] M1) (F0 m 2 ls []) := by
    intro  n
    induction n with
    | zero => intro x1 M H locs ls hl hw hd; exact (znone hd).elim
    | succ n hk2 =>
      intro x1 M H locs ls hl hw hd
      have hd : zbX12_trips_2 sh k0  (zlX12_trips_2 sh k0  n) x1 M = some M1 := hd
      unfold zbX12_trips_2 at hd
      refine lv_iload_n hx hb dX12_trips_2 rfl (lv_at hl 1 rfl) ?_
      refine lv_aload_n hx hb dX12_trips_3 rfl (lv_at hl 0 rfl) ?_
      refine z_gI F hw h0 zc12 22 (by decide) rfl zf12_240 dX12_trips_4 ?_
      refine lv_icmp_ge (tgt := 91) hx hb dX12_trips_7 (by decide) (fun c_1 => ?_) (fun c_1 => ?_)
      · have hd := zif_pos c_1 hd
        exact J91 _ _ _ _ (lv_sub hl [] rfl) hw hd
      · have hd := zif_neg c_1 hd
        refine lv_aload_n hx hb dX12_trips_10 rfl (lv_at hl 0 rfl) ?_
        refine z_gR F hw h0 zc12 0 (by decide) rfl zf12_7 dX12_trips_11 ?_
        have t_2 : zT sh (zR M k0 0) 14 := hw.2.2.2.fld h0 0 14
        refine lv_iconst (v := (1 : Int32)) hx hb dX12_trips_14 (by decide) ?_
        obtain ⟨g_3, hd⟩ := zgd_some hd
        refine z_iald F hw t_2 g_3 dX12_trips_15 ?_
        refine lv_iconst (v := (1 : Int32)) hx hb dX12_trips_16 (by decide) ?_
        refine lv_icmp_ne (tgt := 91) hx hb dX12_trips_17 (by decide) (fun c_4 => ?_) (fun c_4 => ?_)
        · have hd := zif_neg c_4 hd
          exact J91 _ _ _ _ (lv_sub hl [] rfl) hw hd
        · have hd := zif_pos c_4 hd
          refine lv_aload_n hx hb dX12_trips_20 rfl (lv_at hl 0 rfl) ?_
          refine lv_iload_n hx hb dX12_trips_21 rfl (lv_at hl 1 rfl) ?_
          refine lv_iconst (v := (4 : Int32)) hx hb dX12_trips_22 (by decide) ?_
          obtain ⟨r_6, hc_5, hd⟩ := zob_some hd
          refine z_cvI F hw hl.1 (As := [.int x1, .int (4 : Int32)]) (rest := []) (ztX12_axisAt l D cy sh ad h0 hc_5) zyX12_axisAt h0 zc12 zk12_338 ⟨rfl, rfl⟩ ⟨by decide, by decide⟩ rfl rfl (Nat.le_of_ble_eq_true rfl) dX12_trips_23 (fun H locs hw => ?_)
          refine lv_if_eq (tgt := 85) hx hb dX12_trips_26 (by decide) (fun c_7 => ?_) (fun c_7 => ?_)
          · have hd := zif_pos c_7 hd
            exact J85 _ hk2 _ _ _ _ _ (lv_sub hl [0, 1] rfl) hw hd
          · have hd := zif_neg c_7 hd
            refine lv_aload_n hx hb dX12_trips_29 rfl (lv_at hl 0 rfl) ?_
            refine lv_iload_n hx hb dX12_trips_30 rfl (lv_at hl 1 rfl) ?_
            obtain ⟨r_9, hc_8, hd⟩ := zob_some hd
            refine z_cvI F hw hl.1 (As := [.int x1]) (rest := []) (ztX12_angle l D cy sh ad h0 hc_8) zyX12_angle h0 zc12 zk12_429 ⟨rfl, rfl⟩ ⟨by decide, by decide⟩ rfl rfl (Nat.le_of_ble_eq_true rfl) dX12_trips_31 (fun H locs hw => ?_)
            obtain ⟨r_11, hc_10, hd⟩ := zob_some hd
            refine z_csI F hw hl.1 (As := [.int r_9]) (rest := []) (ztX12_size l D cy sh ad  hc_10) zyX12_size zk12_273 ⟨rfl, rfl⟩ ⟨by decide, by decide⟩ rfl rfl (Nat.le_of_ble_eq_true rfl) dX12_trips_34 (fun H locs hw => ?_)
            refine lv_aload_n hx hb dX12_trips_37 rfl (lv_at hl 0 rfl) ?_
            refine lv_iload_n hx hb dX12_trips_38 rfl (lv_at hl 1 rfl) ?_
            refine lv_iconst (v := (4 : Int32)) hx hb dX12_trips_39 (by decide) ?_
            obtain ⟨r_13, hc_12, hd⟩ := zob_some hd
            refine z_cvI F hw hl.1 (As := [.int x1, .int (4 : Int32)]) (rest := [.int r_11]) (ztX12_axisAt l D cy sh ad h0 hc_12) zyX12_axisAt h0 zc12 zk12_338 ⟨rfl, rfl⟩ ⟨by decide, by decide⟩ rfl rfl (Nat.le_of_ble_eq_true rfl) dX12_trips_40 (fun H locs hw => ?_)
            refine lv_icmp_ge (tgt := 49) hx hb dX12_trips_43 (by decide) (fun c_14 => ?_) (fun c_14 => ?_)
            · have hd := zif_pos c_14 hd
              refine lv_aload_n hx hb dX12_trips_49 rfl (lv_at hl 0 rfl) ?_
              refine z_gR F hw h0 zc12 0 (by decide) rfl zf12_7 dX12_trips_50 ?_
              have t_15 : zT sh (zR M k0 0) 14 := hw.2.2.2.fld h0 0 14
              refine lv_iconst (v := (1 : Int32)) hx hb dX12_trips_53 (by decide) ?_
              refine lv_iconst (v := (0 : Int32)) hx hb dX12_trips_54 (by decide) ?_
              obtain ⟨g_16, hd⟩ := zgd_some hd
              refine z_iast F hw t_15 g_16 dX12_trips_55 (fun H locs M_17 eM_17 hw => ?_)
              have hd := zbd_eq eM_17 hd
              refine lv_aload_n hx hb dX12_trips_56 rfl (lv_at hl 0 rfl) ?_
              refine z_gR F hw h0 zc12 0 (by decide) rfl zf12_7 dX12_trips_57 ?_
              have t_18 : zT sh (zR M_17 k0 0) 14 := hw.2.2.2.fld h0 0 14
              refine lv_bipush (v := (23 : Int32)) hx hb dX12_trips_60 (by decide) ?_
              refine lv_iconst (v := (0 : Int32)) hx hb dX12_trips_62 (by decide) ?_
              obtain ⟨g_19, hd⟩ := zgd_some hd
              refine z_iast F hw t_18 g_19 dX12_trips_63 (fun H locs M_20 eM_20 hw => ?_)
              have hd := zbd_eq eM_20 hd
              refine lv_aload_n hx hb dX12_trips_64 rfl (lv_at hl 0 rfl) ?_
              refine z_gR F hw h0 zc12 0 (by decide) rfl zf12_7 dX12_trips_65 ?_
              have t_21 : zT sh (zR M_20 k0 0) 14 := hw.2.2.2.fld h0 0 14
              refine lv_bipush (v := (21 : Int32)) hx hb dX12_trips_68 (by decide) ?_
              refine lv_aload_n hx hb dX12_trips_70 rfl (lv_at hl 0 rfl) ?_
              refine z_gR F hw h0 zc12 0 (by decide) rfl zf12_7 dX12_trips_71 ?_
              have t_22 : zT sh (zR M_20 k0 0) 14 := hw.2.2.2.fld h0 0 14
              refine lv_iconst (v := (0 : Int32)) hx hb dX12_trips_74 (by decide) ?_
              obtain ⟨g_23, hd⟩ := zgd_some hd
              refine z_iald F hw t_22 g_23 dX12_trips_75 ?_
              obtain ⟨g_24, hd⟩ := zgd_some hd
              refine z_iast F hw t_21 g_24 dX12_trips_76 (fun H locs M_25 eM_25 hw => ?_)
              have hd := zbd_eq eM_25 hd
              refine lv_aload_n hx hb dX12_trips_77 rfl (lv_at hl 0 rfl) ?_
              refine z_gR F hw h0 zc12 0 (by decide) rfl zf12_7 dX12_trips_78 ?_
              have t_26 : zT sh (zR M_25 k0 0) 14 := hw.2.2.2.fld h0 0 14
              refine lv_bipush (v := (22 : Int32)) hx hb dX12_trips_81 (by decide) ?_
              refine lv_iload_n hx hb dX12_trips_83 rfl (lv_at hl 1 rfl) ?_
              obtain ⟨g_27, hd⟩ := zgd_some hd
              refine z_iast F hw t_26 g_27 dX12_trips_84 (fun H locs M_28 eM_28 hw => ?_)
              have hd := zbd_eq eM_28 hd
              exact J85 _ hk2 _ _ _ _ _ (lv_sub hl [0, 1] rfl) hw hd
            · have hd := zif_neg c_14 hd
              refine lv_goto (tgt := 85) hx hb dX12_trips_46 (by decide) ?_
              exact J85 _ hk2 _ _ _ _ _ (lv_sub hl [0, 1] rfl) hw hd
  unfold zX12_trips at hd
  refine lv_iconst (v := (0 : Int32)) hx hb dX12_trips_0 (by decide) ?_
  refine lv_istore_n (lv' := [(1, .int (0 : Int32)), (0, .ref (ad k0))]) hx hb dX12_trips_1 rfl hl (by decide) rfl (fun ls hl => ?_)
  exact L2 zF _ _ _ _ _ (lv_sub hl [1, 0] rfl) hw hd

def zjX12_tick_107 (sh : zShp) (k0 : Nat) (kk20 : Int32 → zMem → Option (zMem)) (x1 : Int32) (M : zMem) : Option (zMem) :=
  kk20 (x1 + (1 : Int32)) M
def zbX12_tick_20 (sh : zShp) (k0 : Nat)  (kk20 : Int32 → zMem → Option (zMem)) (x1 : Int32) (M : zMem) : Option (zMem) :=
  if (zI M k0 22) ≤ x1 then (
  zob (zX12_trips sh k0 M) fun M_3 =>
  some M_3)
  else (
  zob (zX12_angle sh k0 x1 M) fun r_5 =>
  zob (zX12_axisAt sh k0 x1 (2 : Int32) M) fun r_7 =>
  zob (zX12_axisAt sh k0 x1 (3 : Int32) M) fun r_9 =>
  zob (zX12_swung sh k0 x1 r_5 r_7 r_9 M) fun r_11 =>
  zob (zX12_setsAxis sh k0 x1 (2 : Int32) r_11 M) fun M_13 =>
  zob (zX12_axisAt sh k0 x1 (1 : Int32) M_13) fun r_15 =>
  zob (zX12_setsAxis sh k0 x1 (1 : Int32) (r_15 + r_11) M_13) fun M_17 =>
  zob (zX12_axisAt sh k0 x1 (5 : Int32) M_17) fun r_19 =>
  if r_19 = 0 then (
  zob (zX12_angle sh k0 x1 M_17) fun r_22 =>
  zob (zX12_size sh r_22 M_17) fun r_24 =>
  if r_24 < (1024 : Int32) then (
  zjX12_tick_107 sh k0 kk20 x1 M_17)
  else (
  zgd (zin (0 : Int32) (zlen sh (zR M_17 k0 0))) <|
  zob (zX12_setsAxis sh k0 x1 (5 : Int32) (zI M_17 (zR M_17 k0 0) ((0 : Int32).toNatClampNeg)) M_17) fun M_29 =>
  zjX12_tick_107 sh k0 kk20 x1 M_29))
  else (
  zjX12_tick_107 sh k0 kk20 x1 M_17))
def zlX12_tick_20 (sh : zShp) (k0 : Nat)  : Nat → Int32 → zMem → Option (zMem)
  | 0 => fun _ _ => none
  | n + 1 => fun x1 M => zbX12_tick_20 sh k0  (zlX12_tick_20 sh k0  n) x1 M
def zX12_tick (sh : zShp) (k0 : Nat) (M : zMem) : Option (zMem) :=
  zob (zX12_waitingBegins sh k0 M) fun M_31 =>
  zob (zX12_moves sh k0 M_31) fun M_33 =>
  zgd (zin (0 : Int32) (zlen sh (zR M_33 k0 0))) <|
  zgd (zin (0 : Int32) (zlen sh (zR M_33 k0 0))) <|
  zbd (zpI M_33 (zR M_33 k0 0) ((0 : Int32).toNatClampNeg) ((zI M_33 (zR M_33 k0 0) ((0 : Int32).toNatClampNeg)) + (1 : Int32))) fun M_37 =>
  zlX12_tick_20 sh k0 zF (0 : Int32) M_37
set_option maxHeartbeats 4000000 in
set_option maxRecDepth 100000 in
theorem ztX12_tick (l : Launch) (D : va_G) (cy : Nat → ClassId) (sh : zShp) (ad : Nat → Nat) {k0 : Nat} (h0 : zT sh k0 12) {M : zMem} {M1 : zMem} (hd : zX12_tick sh k0 M = some M1) : zCV l yX12_tick cX12_tick 3 { frames := 5, cells := 0, slots := 0, locals := 123 } [.ref (ad k0)] D cy sh ad M M1 := by
  refine zcv_of (by decide) (Nat.le_of_ble_eq_true rfl) (fun p e s m below meth c ls F hr hlk hl hw => ?_)
  have hx := F.1.1
  have hb := F.1.2.1
  have hl : lv_has ls 3 [(0, .ref (ad k0))] := hl
  have J107 : ∀ (kk20 : Int32 → zMem → Option (zMem)) (hk20 : ∀ (x1 : Int32) (M : zMem) (H : Heap) (locs : List Loc) (ls : Array Slot), lv_has ls 3 [(0, .ref (ad k0)), (1, .int x1)] → zWd D cy sh ad s M H locs → kk20 x1 M = some M1 → W p l e { frames := 5, cells := 0, slots := 0, locals := 123 } s m ([.ref (ad k0)] : List Value).toArray below meth c H locs 0 0 (zQV below D cy sh ad s [.ref (ad k0)] M1) (F0 m 20 ls [])), ∀ (x1 : Int32) (M : zMem) (H : Heap) (locs : List Loc) (ls : Array Slot), lv_has ls 3 [(0, .ref (ad k0)), (1, .int x1)] → zWd D cy sh ad s M H locs → zjX12_tick_107 sh k0 kk20 x1 M = some M1 → W p l e { frames := 5, cells := 0, slots := 0, locals := 123 } s m ([.ref (ad k0)] : List Value).toArray below meth c H locs 0 0 (zQV below D cy sh ad s [.ref (ad k0)] M1) (F0 m 107 ls []) := by
    intro kk20 hk20 x1 M H locs ls hl hw hd
    unfold zjX12_tick_107 at hd
    refine lv_iinc (v := (x1 + (1 : Int32))) (lv' := [(1, .int (x1 + (1 : Int32))), (0, .ref (ad k0))]) hx hb dX12_tick_107 hl (k := 1) rfl (ziinc (by decide)) (by decide) rfl (fun ls hl => ?_)
    refine lv_goto (tgt := 20) hx hb dX12_tick_110 (by decide) ?_
    exact hk20 _ _ _ _ _ (lv_sub hl [1, 0] rfl) hw hd
  have L20 : ∀  (n : Nat), ∀ (x1 : Int32) (M : zMem) (H : Heap) (locs : List Loc) (ls : Array Slot), lv_has ls 3 [(0, .ref (ad k0)), (1, .int x1)] → zWd D cy sh ad s M H locs → zlX12_tick_20 sh k0  n x1 M = some M1 → W p l e { frames := 5, cells := 0, slots := 0, locals := 123 } s m ([.ref (ad k0)] : List Value).toArray below meth c H locs 0 0 (zQV below D cy sh ad s [.ref (ad k0)] M1) (F0 m 20 ls []) := by
    intro  n
    induction n with
    | zero => intro x1 M H locs ls hl hw hd; exact (znone hd).elim
    | succ n hk20 =>
      intro x1 M H locs ls hl hw hd
      have hd : zbX12_tick_20 sh k0  (zlX12_tick_20 sh k0  n) x1 M = some M1 := hd
      unfold zbX12_tick_20 at hd
      refine lv_iload_n hx hb dX12_tick_20 rfl (lv_at hl 1 rfl) ?_
      refine lv_aload_n hx hb dX12_tick_21 rfl (lv_at hl 0 rfl) ?_
      refine z_gI F hw h0 zc12 22 (by decide) rfl zf12_240 dX12_tick_22 ?_
      refine lv_icmp_ge (tgt := 113) hx hb dX12_tick_25 (by decide) (fun c_1 => ?_) (fun c_1 => ?_)
      · have hd := zif_pos c_1 hd
        refine lv_aload_n hx hb dX12_tick_113 rfl (lv_at hl 0 rfl) ?_
        obtain ⟨M_3, hc_2, hd⟩ := zob_some hd
        refine z_cvV F hw hl.1 (As := []) (rest := []) (ztX12_trips l D cy sh ad h0 hc_2) zyX12_trips h0 zc12 zk12_441 ⟨rfl, rfl⟩ ⟨by decide, by decide⟩ rfl rfl (Nat.le_of_ble_eq_true rfl) dX12_tick_114 (fun H locs hw => ?_)
        exact z_vret F hr hlk hw (Option.some.inj hd) dX12_tick_117
      · have hd := zif_neg c_1 hd
        refine lv_aload_n hx hb dX12_tick_28 rfl (lv_at hl 0 rfl) ?_
        refine lv_iload_n hx hb dX12_tick_29 rfl (lv_at hl 1 rfl) ?_
        refine lv_aload_n hx hb dX12_tick_30 rfl (lv_at hl 0 rfl) ?_
        refine lv_iload_n hx hb dX12_tick_31 rfl (lv_at hl 1 rfl) ?_
        obtain ⟨r_5, hc_4, hd⟩ := zob_some hd
        refine z_cvI F hw hl.1 (As := [.int x1]) (rest := [.int x1, .ref (ad k0)]) (ztX12_angle l D cy sh ad h0 hc_4) zyX12_angle h0 zc12 zk12_429 ⟨rfl, rfl⟩ ⟨by decide, by decide⟩ rfl rfl (Nat.le_of_ble_eq_true rfl) dX12_tick_32 (fun H locs hw => ?_)
        refine lv_aload_n hx hb dX12_tick_35 rfl (lv_at hl 0 rfl) ?_
        refine lv_iload_n hx hb dX12_tick_36 rfl (lv_at hl 1 rfl) ?_
        refine lv_iconst (v := (2 : Int32)) hx hb dX12_tick_37 (by decide) ?_
        obtain ⟨r_7, hc_6, hd⟩ := zob_some hd
        refine z_cvI F hw hl.1 (As := [.int x1, .int (2 : Int32)]) (rest := [.int r_5, .int x1, .ref (ad k0)]) (ztX12_axisAt l D cy sh ad h0 hc_6) zyX12_axisAt h0 zc12 zk12_338 ⟨rfl, rfl⟩ ⟨by decide, by decide⟩ rfl rfl (Nat.le_of_ble_eq_true rfl) dX12_tick_38 (fun H locs hw => ?_)
        refine lv_aload_n hx hb dX12_tick_41 rfl (lv_at hl 0 rfl) ?_
        refine lv_iload_n hx hb dX12_tick_42 rfl (lv_at hl 1 rfl) ?_
        refine lv_iconst (v := (3 : Int32)) hx hb dX12_tick_43 (by decide) ?_
        obtain ⟨r_9, hc_8, hd⟩ := zob_some hd
        refine z_cvI F hw hl.1 (As := [.int x1, .int (3 : Int32)]) (rest := [.int r_7, .int r_5, .int x1, .ref (ad k0)]) (ztX12_axisAt l D cy sh ad h0 hc_8) zyX12_axisAt h0 zc12 zk12_338 ⟨rfl, rfl⟩ ⟨by decide, by decide⟩ rfl rfl (Nat.le_of_ble_eq_true rfl) dX12_tick_44 (fun H locs hw => ?_)
        obtain ⟨r_11, hc_10, hd⟩ := zob_some hd
        refine z_cvI F hw hl.1 (As := [.int x1, .int r_5, .int r_7, .int r_9]) (rest := []) (ztX12_swung l D cy sh ad h0 hc_10) zyX12_swung h0 zc12 zk12_438 ⟨rfl, rfl⟩ ⟨by decide, by decide⟩ rfl rfl (Nat.le_of_ble_eq_true rfl) dX12_tick_47 (fun H locs hw => ?_)
        refine lv_istore_n (lv' := [(2, .int r_11), (0, .ref (ad k0)), (1, .int x1)]) hx hb dX12_tick_50 rfl hl (by decide) rfl (fun ls hl => ?_)
        refine lv_aload_n hx hb dX12_tick_51 rfl (lv_at hl 1 rfl) ?_
        refine lv_iload_n hx hb dX12_tick_52 rfl (lv_at hl 2 rfl) ?_
        refine lv_iconst (v := (2 : Int32)) hx hb dX12_tick_53 (by decide) ?_
        refine lv_iload_n hx hb dX12_tick_54 rfl (lv_at hl 0 rfl) ?_
        obtain ⟨M_13, hc_12, hd⟩ := zob_some hd
        refine z_cvV F hw hl.1 (As := [.int x1, .int (2 : Int32), .int r_11]) (rest := []) (ztX12_setsAxis l D cy sh ad h0 hc_12) zyX12_setsAxis h0 zc12 zk12_411 ⟨rfl, rfl⟩ ⟨by decide, by decide⟩ rfl rfl (Nat.le_of_ble_eq_true rfl) dX12_tick_55 (fun H locs hw => ?_)
        refine lv_aload_n hx hb dX12_tick_58 rfl (lv_at hl 1 rfl) ?_
        refine lv_iload_n hx hb dX12_tick_59 rfl (lv_at hl 2 rfl) ?_
        refine lv_iconst (v := (1 : Int32)) hx hb dX12_tick_60 (by decide) ?_
        refine lv_aload_n hx hb dX12_tick_61 rfl (lv_at hl 1 rfl) ?_
        refine lv_iload_n hx hb dX12_tick_62 rfl (lv_at hl 2 rfl) ?_
        refine lv_iconst (v := (1 : Int32)) hx hb dX12_tick_63 (by decide) ?_
        obtain ⟨r_15, hc_14, hd⟩ := zob_some hd
        refine z_cvI F hw hl.1 (As := [.int x1, .int (1 : Int32)]) (rest := [.int (1 : Int32), .int x1, .ref (ad k0)]) (ztX12_axisAt l D cy sh ad h0 hc_14) zyX12_axisAt h0 zc12 zk12_338 ⟨rfl, rfl⟩ ⟨by decide, by decide⟩ rfl rfl (Nat.le_of_ble_eq_true rfl) dX12_tick_64 (fun H locs hw => ?_)
        refine lv_iload_n hx hb dX12_tick_67 rfl (lv_at hl 0 rfl) ?_
        refine lv_iadd hx hb dX12_tick_68 ?_
        obtain ⟨M_17, hc_16, hd⟩ := zob_some hd
        refine z_cvV F hw hl.1 (As := [.int x1, .int (1 : Int32), .int (r_15 + r_11)]) (rest := []) (ztX12_setsAxis l D cy sh ad h0 hc_16) zyX12_setsAxis h0 zc12 zk12_411 ⟨rfl, rfl⟩ ⟨by decide, by decide⟩ rfl rfl (Nat.le_of_ble_eq_true rfl) dX12_tick_69 (fun H locs hw => ?_)
        refine lv_aload_n hx hb dX12_tick_72 rfl (lv_at hl 1 rfl) ?_
        refine lv_iload_n hx hb dX12_tick_73 rfl (lv_at hl 2 rfl) ?_
        refine lv_iconst (v := (5 : Int32)) hx hb dX12_tick_74 (by decide) ?_
        obtain ⟨r_19, hc_18, hd⟩ := zob_some hd
        refine z_cvI F hw hl.1 (As := [.int x1, .int (5 : Int32)]) (rest := []) (ztX12_axisAt l D cy sh ad h0 hc_18) zyX12_axisAt h0 zc12 zk12_338 ⟨rfl, rfl⟩ ⟨by decide, by decide⟩ rfl rfl (Nat.le_of_ble_eq_true rfl) dX12_tick_75 (fun H locs hw => ?_)
        refine lv_if_ne (tgt := 107) hx hb dX12_tick_78 (by decide) (fun c_20 => ?_) (fun c_20 => ?_)
        · have hd := zif_neg c_20 hd
          exact J107 _ hk20 _ _ _ _ _ (lv_sub hl [1, 2] rfl) hw hd
        · have hd := zif_pos c_20 hd
          refine lv_aload_n hx hb dX12_tick_81 rfl (lv_at hl 1 rfl) ?_
          refine lv_iload_n hx hb dX12_tick_82 rfl (lv_at hl 2 rfl) ?_
          obtain ⟨r_22, hc_21, hd⟩ := zob_some hd
          refine z_cvI F hw hl.1 (As := [.int x1]) (rest := []) (ztX12_angle l D cy sh ad h0 hc_21) zyX12_angle h0 zc12 zk12_429 ⟨rfl, rfl⟩ ⟨by decide, by decide⟩ rfl rfl (Nat.le_of_ble_eq_true rfl) dX12_tick_83 (fun H locs hw => ?_)
          obtain ⟨r_24, hc_23, hd⟩ := zob_some hd
          refine z_csI F hw hl.1 (As := [.int r_22]) (rest := []) (ztX12_size l D cy sh ad  hc_23) zyX12_size zk12_273 ⟨rfl, rfl⟩ ⟨by decide, by decide⟩ rfl rfl (Nat.le_of_ble_eq_true rfl) dX12_tick_86 (fun H locs hw => ?_)
          refine lv_sipush (v := (1024 : Int32)) hx hb dX12_tick_89 (by decide) ?_
          refine lv_icmp_lt (tgt := 107) hx hb dX12_tick_92 (by decide) (fun c_25 => ?_) (fun c_25 => ?_)
          · have hd := zif_pos c_25 hd
            exact J107 _ hk20 _ _ _ _ _ (lv_sub hl [1, 2] rfl) hw hd
          · have hd := zif_neg c_25 hd
            refine lv_aload_n hx hb dX12_tick_95 rfl (lv_at hl 1 rfl) ?_
            refine lv_iload_n hx hb dX12_tick_96 rfl (lv_at hl 2 rfl) ?_
            refine lv_iconst (v := (5 : Int32)) hx hb dX12_tick_97 (by decide) ?_
            refine lv_aload_n hx hb dX12_tick_98 rfl (lv_at hl 1 rfl) ?_
            refine z_gR F hw h0 zc12 0 (by decide) rfl zf12_7 dX12_tick_99 ?_
            have t_26 : zT sh (zR M_17 k0 0) 14 := hw.2.2.2.fld h0 0 14
            refine lv_iconst (v := (0 : Int32)) hx hb dX12_tick_102 (by decide) ?_
            obtain ⟨g_27, hd⟩ := zgd_some hd
            refine z_iald F hw t_26 g_27 dX12_tick_103 ?_
            obtain ⟨M_29, hc_28, hd⟩ := zob_some hd
            refine z_cvV F hw hl.1 (As := [.int x1, .int (5 : Int32), .int (zI M_17 (zR M_17 k0 0) ((0 : Int32).toNatClampNeg))]) (rest := []) (ztX12_setsAxis l D cy sh ad h0 hc_28) zyX12_setsAxis h0 zc12 zk12_411 ⟨rfl, rfl⟩ ⟨by decide, by decide⟩ rfl rfl (Nat.le_of_ble_eq_true rfl) dX12_tick_104 (fun H locs hw => ?_)
            exact J107 _ hk20 _ _ _ _ _ (lv_sub hl [1, 2] rfl) hw hd
  unfold zX12_tick at hd
  refine lv_aload_n hx hb dX12_tick_0 rfl (lv_at hl 0 rfl) ?_
  obtain ⟨M_31, hc_30, hd⟩ := zob_some hd
  refine z_cvV F hw hl.1 (As := []) (rest := []) (ztX12_waitingBegins l D cy sh ad h0 hc_30) zyX12_waitingBegins h0 zc12 zk12_432 ⟨rfl, rfl⟩ ⟨by decide, by decide⟩ rfl rfl (Nat.le_of_ble_eq_true rfl) dX12_tick_1 (fun H locs hw => ?_)
  refine lv_aload_n hx hb dX12_tick_4 rfl (lv_at hl 0 rfl) ?_
  obtain ⟨M_33, hc_32, hd⟩ := zob_some hd
  refine z_cvV F hw hl.1 (As := []) (rest := []) (ztX12_moves l D cy sh ad h0 hc_32) zyX12_moves h0 zc12 zk12_435 ⟨rfl, rfl⟩ ⟨by decide, by decide⟩ rfl rfl (Nat.le_of_ble_eq_true rfl) dX12_tick_5 (fun H locs hw => ?_)
  refine lv_aload_n hx hb dX12_tick_8 rfl (lv_at hl 0 rfl) ?_
  refine z_gR F hw h0 zc12 0 (by decide) rfl zf12_7 dX12_tick_9 ?_
  have t_34 : zT sh (zR M_33 k0 0) 14 := hw.2.2.2.fld h0 0 14
  refine lv_iconst (v := (0 : Int32)) hx hb dX12_tick_12 (by decide) ?_
  refine lv_dup2_11 hx hb dX12_tick_13 rfl rfl ?_
  obtain ⟨g_35, hd⟩ := zgd_some hd
  refine z_iald F hw t_34 g_35 dX12_tick_14 ?_
  refine lv_iconst (v := (1 : Int32)) hx hb dX12_tick_15 (by decide) ?_
  refine lv_iadd hx hb dX12_tick_16 ?_
  obtain ⟨g_36, hd⟩ := zgd_some hd
  refine z_iast F hw t_34 g_36 dX12_tick_17 (fun H locs M_37 eM_37 hw => ?_)
  have hd := zbd_eq eM_37 hd
  refine lv_iconst (v := (0 : Int32)) hx hb dX12_tick_18 (by decide) ?_
  refine lv_istore_n (lv' := [(1, .int (0 : Int32)), (0, .ref (ad k0))]) hx hb dX12_tick_19 rfl hl (by decide) rfl (fun ls hl => ?_)
  exact L20 zF _ _ _ _ _ (lv_sub hl [1, 0] rfl) hw hd

def zjX12_run_19 (sh : zShp) (k0 : Nat) (p1 : Int32)  (M : zMem) : Option (Int32 × zMem) :=
  some ((-1 : Int32), M)
def zbX12_run_27 (sh : zShp) (k0 : Nat) (p1 : Int32)  (kk27 : Int32 → zMem → Option (Int32 × zMem)) (x2 : Int32) (M : zMem) : Option (Int32 × zMem) :=
  if p1 ≤ x2 then (
  zob (zX12_left sh k0 M) fun r_3 =>
  some (r_3, M))
  else (
  zob (zX12_tick sh k0 M) fun M_5 =>
  kk27 (x2 + (1 : Int32)) M_5)
def zlX12_run_27 (sh : zShp) (k0 : Nat) (p1 : Int32)  : Nat → Int32 → zMem → Option (Int32 × zMem)
  | 0 => fun _ _ => none
  | n + 1 => fun x2 M => zbX12_run_27 sh k0 p1  (zlX12_run_27 sh k0 p1  n) x2 M
def zX12_run (sh : zShp) (k0 : Nat) (p1 : Int32) (M : zMem) : Option (Int32 × zMem) :=
  if (zI M k0 22) = 0 then (
  zjX12_run_19 sh k0 p1 M)
  else (
  zob (zX12_isIn sh (p1.toInt64) (1 : Int64) (500 : Int64) M) fun r_8 =>
  if r_8 = 0 then (
  zjX12_run_19 sh k0 p1 M)
  else (
  zob (zX12_act sh k0 M) fun M_11 =>
  zlX12_run_27 sh k0 p1 zF (0 : Int32) M_11))
set_option maxHeartbeats 4000000 in
set_option maxRecDepth 100000 in
theorem ztX12_run (l : Launch) (D : va_G) (cy : Nat → ClassId) (sh : zShp) (ad : Nat → Nat) {k0 : Nat} {p1 : Int32} (h0 : zT sh k0 12) {M : zMem} {r : Int32} {M1 : zMem} (hd : zX12_run sh k0 p1 M = some (r, M1)) : zCI l yX12_run cX12_run 3 .int { frames := 6, cells := 0, slots := 0, locals := 145 } [.ref (ad k0), .int p1] D cy sh ad M r M1 := by
  refine zci_of (by decide) (Nat.le_of_ble_eq_true rfl) (fun p e s m below meth c ls F hr hlk hl hw => ?_)
  have hx := F.1.1
  have hb := F.1.2.1
  have hl : lv_has ls 3 [(0, .ref (ad k0)), (1, .int p1)] := hl
  have J19 : ∀ (M : zMem) (H : Heap) (locs : List Loc) (ls : Array Slot), lv_has ls 3 [] → zWd D cy sh ad s M H locs → zjX12_run_19 sh k0 p1  M = some (r, M1) → W p l e { frames := 6, cells := 0, slots := 0, locals := 145 } s m ([.ref (ad k0), .int p1] : List Value).toArray below meth c H locs 0 0 (zQI below D cy sh ad s [.ref (ad k0), .int p1] r M1) (F0 m 19 ls []) := by
    intro  M H locs ls hl hw hd
    unfold zjX12_run_19 at hd
    refine lv_iconst (v := (-1 : Int32)) hx hb dX12_run_19 (by decide) ?_
    exact z_iret F hr hlk hw (zpr1 hd) (zpr2 hd) dX12_run_20
  have L27 : ∀  (n : Nat), ∀ (x2 : Int32) (M : zMem) (H : Heap) (locs : List Loc) (ls : Array Slot), lv_has ls 3 [(0, .ref (ad k0)), (1, .int p1), (2, .int x2)] → zWd D cy sh ad s M H locs → zlX12_run_27 sh k0 p1  n x2 M = some (r, M1) → W p l e { frames := 6, cells := 0, slots := 0, locals := 145 } s m ([.ref (ad k0), .int p1] : List Value).toArray below meth c H locs 0 0 (zQI below D cy sh ad s [.ref (ad k0), .int p1] r M1) (F0 m 27 ls []) := by
    intro  n
    induction n with
    | zero => intro x2 M H locs ls hl hw hd; exact (znone hd).elim
    | succ n hk27 =>
      intro x2 M H locs ls hl hw hd
      have hd : zbX12_run_27 sh k0 p1  (zlX12_run_27 sh k0 p1  n) x2 M = some (r, M1) := hd
      unfold zbX12_run_27 at hd
      refine lv_iload_n hx hb dX12_run_27 rfl (lv_at hl 2 rfl) ?_
      refine lv_iload_n hx hb dX12_run_28 rfl (lv_at hl 1 rfl) ?_
      refine lv_icmp_ge (tgt := 42) hx hb dX12_run_29 (by decide) (fun c_1 => ?_) (fun c_1 => ?_)
      · have hd := zif_pos c_1 hd
        refine lv_aload_n hx hb dX12_run_42 rfl (lv_at hl 0 rfl) ?_
        obtain ⟨r_3, hc_2, hd⟩ := zob_some hd
        refine z_cvI F hw hl.1 (As := []) (rest := []) (ztX12_left l D cy sh ad h0 hc_2) zyX12_left h0 zc12 zk12_449 ⟨rfl, rfl⟩ ⟨by decide, by decide⟩ rfl rfl (Nat.le_of_ble_eq_true rfl) dX12_run_43 (fun H locs hw => ?_)
        exact z_iret F hr hlk hw (zpr1 hd) (zpr2 hd) dX12_run_46
      · have hd := zif_neg c_1 hd
        refine lv_aload_n hx hb dX12_run_32 rfl (lv_at hl 0 rfl) ?_
        obtain ⟨M_5, hc_4, hd⟩ := zob_some hd
        refine z_cvV F hw hl.1 (As := []) (rest := []) (ztX12_tick l D cy sh ad h0 hc_4) zyX12_tick h0 zc12 zk12_446 ⟨rfl, rfl⟩ ⟨by decide, by decide⟩ rfl rfl (Nat.le_of_ble_eq_true rfl) dX12_run_33 (fun H locs hw => ?_)
        refine lv_iinc (v := (x2 + (1 : Int32))) (lv' := [(2, .int (x2 + (1 : Int32))), (0, .ref (ad k0)), (1, .int p1)]) hx hb dX12_run_36 hl (k := 2) rfl (ziinc (by decide)) (by decide) rfl (fun ls hl => ?_)
        refine lv_goto (tgt := 27) hx hb dX12_run_39 (by decide) ?_
        exact hk27 _ _ _ _ _ (lv_sub hl [1, 2, 0] rfl) hw hd
  unfold zX12_run at hd
  refine lv_aload_n hx hb dX12_run_0 rfl (lv_at hl 0 rfl) ?_
  refine z_gI F hw h0 zc12 22 (by decide) rfl zf12_240 dX12_run_1 ?_
  refine lv_if_eq (tgt := 19) hx hb dX12_run_4 (by decide) (fun c_6 => ?_) (fun c_6 => ?_)
  · have hd := zif_pos c_6 hd
    exact J19 _ _ _ _ (lv_sub hl [] rfl) hw hd
  · have hd := zif_neg c_6 hd
    refine lv_iload_n hx hb dX12_run_7 rfl (lv_at hl 1 rfl) ?_
    refine lv_i2l (v := p1.toInt64) hx hb dX12_run_8 rfl ?_
    refine lv_lconst (v := (1 : Int64)) hx hb dX12_run_9 (by decide) ?_
    refine lv_ldc2 (v := (500 : Int64)) hx hb F.1.2.2.2.1 (F.1.2.2.2.2 _ zi12_444) dX12_run_10 ?_
    obtain ⟨r_8, hc_7, hd⟩ := zob_some hd
    refine z_csI F hw hl.1 (As := [.long (p1.toInt64), .long (1 : Int64), .long (500 : Int64)]) (rest := []) (ztX12_isIn l D cy sh ad  hc_7) zyX12_isIn zk12_91 ⟨rfl, rfl⟩ ⟨by decide, by decide⟩ rfl rfl (Nat.le_of_ble_eq_true rfl) dX12_run_13 (fun H locs hw => ?_)
    refine lv_if_ne (tgt := 21) hx hb dX12_run_16 (by decide) (fun c_9 => ?_) (fun c_9 => ?_)
    · have hd := zif_neg c_9 hd
      refine lv_aload_n hx hb dX12_run_21 rfl (lv_at hl 0 rfl) ?_
      obtain ⟨M_11, hc_10, hd⟩ := zob_some hd
      refine z_cvV F hw hl.1 (As := []) (rest := []) (ztX12_act l D cy sh ad h0 hc_10) zyX12_act h0 zc12 zk12_400 ⟨rfl, rfl⟩ ⟨by decide, by decide⟩ rfl rfl (Nat.le_of_ble_eq_true rfl) dX12_run_22 (fun H locs hw => ?_)
      refine lv_iconst (v := (0 : Int32)) hx hb dX12_run_25 (by decide) ?_
      refine lv_istore_n (lv' := [(2, .int (0 : Int32)), (0, .ref (ad k0)), (1, .int p1)]) hx hb dX12_run_26 rfl hl (by decide) rfl (fun ls hl => ?_)
      exact L27 zF _ _ _ _ _ (lv_sub hl [1, 2, 0] rfl) hw hd
    · have hd := zif_pos c_9 hd
      exact J19 _ _ _ _ (lv_sub hl [] rfl) hw hd

def zjX12_axis_20 (sh : zShp) (k0 : Nat) (p1 : Int32) (p2 : Int32) (M : zMem)   : Option (Int32) :=
  some (-2147483648 : Int32)
def zjX12_axis_59 (sh : zShp) (k0 : Nat) (p1 : Int32) (p2 : Int32) (M : zMem)  (s0 : Int32) : Option (Int32) :=
  some s0
def zjX12_axis_56 (sh : zShp) (k0 : Nat) (p1 : Int32) (p2 : Int32) (M : zMem)  (s0 : Nat) (s1 : Int32) (s2 : Int32) : Option (Int32) :=
  zob (zX12_axisAt sh s0 s1 s2 M) fun r_2 =>
  zjX12_axis_59 sh k0 p1 p2 M r_2
def zX12_axis (sh : zShp) (k0 : Nat) (p1 : Int32) (p2 : Int32) (M : zMem) : Option (Int32) :=
  zob (zX12_isAxis sh k0 p1 M) fun r_4 =>
  if r_4 = 0 then (
  zjX12_axis_20 sh k0 p1 p2 M)
  else (
  zob (zX12_isIn sh (p2.toInt64) (0 : Int64) (7 : Int64) M) fun r_7 =>
  if r_7 = 0 then (
  zjX12_axis_20 sh k0 p1 p2 M)
  else (
  if (6 : Int32) ≤ p2 then (
  if p2 = (6 : Int32) then (
  zjX12_axis_56 sh k0 p1 p2 M k0 p1 (3 : Int32))
  else (
  zjX12_axis_56 sh k0 p1 p2 M k0 p1 (4 : Int32)))
  else (
  zgd (zin (((6 : Int32) * p1) + p2) (zlen sh (zR M k0 14))) <|
  zjX12_axis_59 sh k0 p1 p2 M (zI M (zR M k0 14) ((((6 : Int32) * p1) + p2).toNatClampNeg)))))
set_option maxHeartbeats 4000000 in
set_option maxRecDepth 100000 in
theorem ztX12_axis (l : Launch) (D : va_G) (cy : Nat → ClassId) (sh : zShp) (ad : Nat → Nat) {k0 : Nat} {p1 : Int32} {p2 : Int32} (h0 : zT sh k0 12) {M : zMem} {r : Int32} (hd : zX12_axis sh k0 p1 p2 M = some r) : zCI l yX12_axis cX12_axis 3 .int { frames := 2, cells := 0, slots := 0, locals := 46 } [.ref (ad k0), .int p1, .int p2] D cy sh ad M r M := by
  refine zci_of (by decide) (Nat.le_of_ble_eq_true rfl) (fun p e s m below meth c ls F hr hlk hl hw => ?_)
  have hx := F.1.1
  have hb := F.1.2.1
  have hl : lv_has ls 3 [(0, .ref (ad k0)), (1, .int p1), (2, .int p2)] := hl
  have J20 : ∀  (H : Heap) (locs : List Loc) (ls : Array Slot), lv_has ls 3 [] → zWd D cy sh ad s M H locs → zjX12_axis_20 sh k0 p1 p2 M   = some r → W p l e { frames := 2, cells := 0, slots := 0, locals := 46 } s m ([.ref (ad k0), .int p1, .int p2] : List Value).toArray below meth c H locs 0 0 (zQI below D cy sh ad s [.ref (ad k0), .int p1, .int p2] r M) (F0 m 20 ls []) := by
    intro  H locs ls hl hw hd
    unfold zjX12_axis_20 at hd
    refine lv_ldc (v := (-2147483648 : Int32)) hx hb F.1.2.2.2.1 (F.1.2.2.2.2 _ zi12_254) dX12_axis_20 ?_
    exact z_iret F hr hlk hw (Option.some.inj hd) rfl dX12_axis_22
  have J59 : ∀ (s0 : Int32) (H : Heap) (locs : List Loc) (ls : Array Slot), lv_has ls 3 [] → zWd D cy sh ad s M H locs → zjX12_axis_59 sh k0 p1 p2 M  s0 = some r → W p l e { frames := 2, cells := 0, slots := 0, locals := 46 } s m ([.ref (ad k0), .int p1, .int p2] : List Value).toArray below meth c H locs 0 0 (zQI below D cy sh ad s [.ref (ad k0), .int p1, .int p2] r M) (F0 m 59 ls [.int s0]) := by
    intro  s0 H locs ls hl hw hd
    unfold zjX12_axis_59 at hd
    exact z_iret F hr hlk hw (Option.some.inj hd) rfl dX12_axis_59
  have J56 : ∀ (s0 : Nat) (s1 : Int32) (s2 : Int32) (ts0 : zT sh s0 12) (H : Heap) (locs : List Loc) (ls : Array Slot), lv_has ls 3 [] → zWd D cy sh ad s M H locs → zjX12_axis_56 sh k0 p1 p2 M  s0 s1 s2 = some r → W p l e { frames := 2, cells := 0, slots := 0, locals := 46 } s m ([.ref (ad k0), .int p1, .int p2] : List Value).toArray below meth c H locs 0 0 (zQI below D cy sh ad s [.ref (ad k0), .int p1, .int p2] r M) (F0 m 56 ls [.int s2, .int s1, .ref (ad s0)]) := by
    intro  s0 s1 s2 ts0 H locs ls hl hw hd
    unfold zjX12_axis_56 at hd
    obtain ⟨r_2, hc_1, hd⟩ := zob_some hd
    refine z_cvI F hw hl.1 (As := [.int s1, .int s2]) (rest := []) (ztX12_axisAt l D cy sh ad ts0 hc_1) zyX12_axisAt ts0 zc12 zk12_338 ⟨rfl, rfl⟩ ⟨by decide, by decide⟩ rfl rfl (Nat.le_of_ble_eq_true rfl) dX12_axis_56 (fun H locs hw => ?_)
    exact J59 _ _ _ _ (lv_sub hl [] rfl) hw hd
  unfold zX12_axis at hd
  refine lv_aload_n hx hb dX12_axis_0 rfl (lv_at hl 0 rfl) ?_
  refine lv_iload_n hx hb dX12_axis_1 rfl (lv_at hl 1 rfl) ?_
  obtain ⟨r_4, hc_3, hd⟩ := zob_some hd
  refine z_cvI F hw hl.1 (As := [.int p1]) (rest := []) (ztX12_isAxis l D cy sh ad h0 hc_3) zyX12_isAxis h0 zc12 zk12_312 ⟨rfl, rfl⟩ ⟨by decide, by decide⟩ rfl rfl (Nat.le_of_ble_eq_true rfl) dX12_axis_2 (fun H locs hw => ?_)
  refine lv_if_eq (tgt := 20) hx hb dX12_axis_5 (by decide) (fun c_5 => ?_) (fun c_5 => ?_)
  · have hd := zif_pos c_5 hd
    exact J20 _ _ _ (lv_sub hl [] rfl) hw hd
  · have hd := zif_neg c_5 hd
    refine lv_iload_n hx hb dX12_axis_8 rfl (lv_at hl 2 rfl) ?_
    refine lv_i2l (v := p2.toInt64) hx hb dX12_axis_9 rfl ?_
    refine lv_lconst (v := (0 : Int64)) hx hb dX12_axis_10 (by decide) ?_
    refine lv_ldc2 (v := (7 : Int64)) hx hb F.1.2.2.2.1 (F.1.2.2.2.2 _ zi12_452) dX12_axis_11 ?_
    obtain ⟨r_7, hc_6, hd⟩ := zob_some hd
    refine z_csI F hw hl.1 (As := [.long (p2.toInt64), .long (0 : Int64), .long (7 : Int64)]) (rest := []) (ztX12_isIn l D cy sh ad  hc_6) zyX12_isIn zk12_91 ⟨rfl, rfl⟩ ⟨by decide, by decide⟩ rfl rfl (Nat.le_of_ble_eq_true rfl) dX12_axis_14 (fun H locs hw => ?_)
    refine lv_if_ne (tgt := 23) hx hb dX12_axis_17 (by decide) (fun c_8 => ?_) (fun c_8 => ?_)
    · have hd := zif_neg c_8 hd
      refine lv_iload_n hx hb dX12_axis_23 rfl (lv_at hl 2 rfl) ?_
      refine lv_bipush (v := (6 : Int32)) hx hb dX12_axis_24 (by decide) ?_
      refine lv_icmp_ge (tgt := 43) hx hb dX12_axis_26 (by decide) (fun c_9 => ?_) (fun c_9 => ?_)
      · have hd := zif_pos c_9 hd
        refine lv_aload_n hx hb dX12_axis_43 rfl (lv_at hl 0 rfl) ?_
        refine lv_iload_n hx hb dX12_axis_44 rfl (lv_at hl 1 rfl) ?_
        refine lv_iload_n hx hb dX12_axis_45 rfl (lv_at hl 2 rfl) ?_
        refine lv_bipush (v := (6 : Int32)) hx hb dX12_axis_46 (by decide) ?_
        refine lv_icmp_ne (tgt := 55) hx hb dX12_axis_48 (by decide) (fun c_10 => ?_) (fun c_10 => ?_)
        · have hd := zif_neg c_10 hd
          refine lv_iconst (v := (4 : Int32)) hx hb dX12_axis_55 (by decide) ?_
          exact J56 _ _ _ h0 _ _ _ (lv_sub hl [] rfl) hw hd
        · have hd := zif_pos c_10 hd
          refine lv_iconst (v := (3 : Int32)) hx hb dX12_axis_51 (by decide) ?_
          refine lv_goto (tgt := 56) hx hb dX12_axis_52 (by decide) ?_
          exact J56 _ _ _ h0 _ _ _ (lv_sub hl [] rfl) hw hd
      · have hd := zif_neg c_9 hd
        refine lv_aload_n hx hb dX12_axis_29 rfl (lv_at hl 0 rfl) ?_
        refine z_gR F hw h0 zc12 14 (by decide) rfl zf12_27 dX12_axis_30 ?_
        have t_11 : zT sh (zR M k0 14) 14 := hw.2.2.2.fld h0 14 14
        refine lv_bipush (v := (6 : Int32)) hx hb dX12_axis_33 (by decide) ?_
        refine lv_iload_n hx hb dX12_axis_35 rfl (lv_at hl 1 rfl) ?_
        refine lv_imul hx hb dX12_axis_36 ?_
        refine lv_iload_n hx hb dX12_axis_37 rfl (lv_at hl 2 rfl) ?_
        refine lv_iadd hx hb dX12_axis_38 ?_
        obtain ⟨g_12, hd⟩ := zgd_some hd
        refine z_iald F hw t_11 g_12 dX12_axis_39 ?_
        refine lv_goto (tgt := 59) hx hb dX12_axis_40 (by decide) ?_
        exact J59 _ _ _ _ (lv_sub hl [] rfl) hw hd
    · have hd := zif_pos c_8 hd
      exact J20 _ _ _ (lv_sub hl [] rfl) hw hd

def zX12_now (sh : zShp) (k0 : Nat) (p1 : Int32) (p2 : Int32) (M : zMem) : Option (Int32) :=
  zob (zX12_isAxis sh k0 p1 M) fun r_2 =>
  if r_2 = 0 then (
  some (-2147483648 : Int32))
  else (
  if p2 = (0 : Int32) then (
  zob (zX12_axisAt sh k0 p1 (0 : Int32) M) fun r_6 =>
  some r_6)
  else if p2 = (1 : Int32) then (
  zob (zX12_axisAt sh k0 p1 (1 : Int32) M) fun r_9 =>
  some r_9)
  else if p2 = (2 : Int32) then (
  zob (zX12_axisAt sh k0 p1 (2 : Int32) M) fun r_12 =>
  some r_12)
  else if p2 = (3 : Int32) then (
  zob (zX12_angle sh k0 p1 M) fun r_15 =>
  some r_15)
  else if p2 = (4 : Int32) then (
  zob (zX12_axisAt sh k0 p1 (5 : Int32) M) fun r_18 =>
  some r_18)
  else if p2 = (5 : Int32) then (
  zob (zX12_angle sh k0 p1 M) fun r_21 =>
  zob (zX12_floor sh (r_21 + (2048 : Int32)) (4096 : Int32) M) fun r_23 =>
  some r_23)
  else (
  some (-2147483648 : Int32)))
set_option maxHeartbeats 4000000 in
set_option maxRecDepth 100000 in
theorem ztX12_now (l : Launch) (D : va_G) (cy : Nat → ClassId) (sh : zShp) (ad : Nat → Nat) {k0 : Nat} {p1 : Int32} {p2 : Int32} (h0 : zT sh k0 12) {M : zMem} {r : Int32} (hd : zX12_now sh k0 p1 p2 M = some r) : zCI l yX12_now cX12_now 3 .int { frames := 2, cells := 0, slots := 0, locals := 46 } [.ref (ad k0), .int p1, .int p2] D cy sh ad M r M := by
  refine zci_of (by decide) (Nat.le_of_ble_eq_true rfl) (fun p e s m below meth c ls F hr hlk hl hw => ?_)
  have hx := F.1.1
  have hb := F.1.2.1
  have hl : lv_has ls 3 [(0, .ref (ad k0)), (1, .int p1), (2, .int p2)] := hl
  unfold zX12_now at hd
  refine lv_aload_n hx hb dX12_now_0 rfl (lv_at hl 0 rfl) ?_
  refine lv_iload_n hx hb dX12_now_1 rfl (lv_at hl 1 rfl) ?_
  obtain ⟨r_2, hc_1, hd⟩ := zob_some hd
  refine z_cvI F hw hl.1 (As := [.int p1]) (rest := []) (ztX12_isAxis l D cy sh ad h0 hc_1) zyX12_isAxis h0 zc12 zk12_312 ⟨rfl, rfl⟩ ⟨by decide, by decide⟩ rfl rfl (Nat.le_of_ble_eq_true rfl) dX12_now_2 (fun H locs hw => ?_)
  refine lv_if_ne (tgt := 11) hx hb dX12_now_5 (by decide) (fun c_3 => ?_) (fun c_3 => ?_)
  · have hd := zif_neg c_3 hd
    refine lv_iload_n hx hb dX12_now_11 rfl (lv_at hl 2 rfl) ?_
    by_cases c_4 : p2 = (0 : Int32)
    · have hd := zif_pos c_4 hd
      refine lv_tableIn (tgt := 52) (off := 40) hx hb dX12_now_12 (by rw [c_4]; decide) (by rw [c_4]; decide) (by rw [c_4]; decide) (by decide) ?_
      refine lv_aload_n hx hb dX12_now_52 rfl (lv_at hl 0 rfl) ?_
      refine lv_iload_n hx hb dX12_now_53 rfl (lv_at hl 1 rfl) ?_
      refine lv_iconst (v := (0 : Int32)) hx hb dX12_now_54 (by decide) ?_
      obtain ⟨r_6, hc_5, hd⟩ := zob_some hd
      refine z_cvI F hw hl.1 (As := [.int p1, .int (0 : Int32)]) (rest := []) (ztX12_axisAt l D cy sh ad h0 hc_5) zyX12_axisAt h0 zc12 zk12_338 ⟨rfl, rfl⟩ ⟨by decide, by decide⟩ rfl rfl (Nat.le_of_ble_eq_true rfl) dX12_now_55 (fun H locs hw => ?_)
      exact z_iret F hr hlk hw (Option.some.inj hd) rfl dX12_now_58
    have hd := zif_neg c_4 hd
    by_cases c_7 : p2 = (1 : Int32)
    · have hd := zif_pos c_7 hd
      refine lv_tableIn (tgt := 59) (off := 47) hx hb dX12_now_12 (by rw [c_7]; decide) (by rw [c_7]; decide) (by rw [c_7]; decide) (by decide) ?_
      refine lv_aload_n hx hb dX12_now_59 rfl (lv_at hl 0 rfl) ?_
      refine lv_iload_n hx hb dX12_now_60 rfl (lv_at hl 1 rfl) ?_
      refine lv_iconst (v := (1 : Int32)) hx hb dX12_now_61 (by decide) ?_
      obtain ⟨r_9, hc_8, hd⟩ := zob_some hd
      refine z_cvI F hw hl.1 (As := [.int p1, .int (1 : Int32)]) (rest := []) (ztX12_axisAt l D cy sh ad h0 hc_8) zyX12_axisAt h0 zc12 zk12_338 ⟨rfl, rfl⟩ ⟨by decide, by decide⟩ rfl rfl (Nat.le_of_ble_eq_true rfl) dX12_now_62 (fun H locs hw => ?_)
      exact z_iret F hr hlk hw (Option.some.inj hd) rfl dX12_now_65
    have hd := zif_neg c_7 hd
    by_cases c_10 : p2 = (2 : Int32)
    · have hd := zif_pos c_10 hd
      refine lv_tableIn (tgt := 66) (off := 54) hx hb dX12_now_12 (by rw [c_10]; decide) (by rw [c_10]; decide) (by rw [c_10]; decide) (by decide) ?_
      refine lv_aload_n hx hb dX12_now_66 rfl (lv_at hl 0 rfl) ?_
      refine lv_iload_n hx hb dX12_now_67 rfl (lv_at hl 1 rfl) ?_
      refine lv_iconst (v := (2 : Int32)) hx hb dX12_now_68 (by decide) ?_
      obtain ⟨r_12, hc_11, hd⟩ := zob_some hd
      refine z_cvI F hw hl.1 (As := [.int p1, .int (2 : Int32)]) (rest := []) (ztX12_axisAt l D cy sh ad h0 hc_11) zyX12_axisAt h0 zc12 zk12_338 ⟨rfl, rfl⟩ ⟨by decide, by decide⟩ rfl rfl (Nat.le_of_ble_eq_true rfl) dX12_now_69 (fun H locs hw => ?_)
      exact z_iret F hr hlk hw (Option.some.inj hd) rfl dX12_now_72
    have hd := zif_neg c_10 hd
    by_cases c_13 : p2 = (3 : Int32)
    · have hd := zif_pos c_13 hd
      refine lv_tableIn (tgt := 73) (off := 61) hx hb dX12_now_12 (by rw [c_13]; decide) (by rw [c_13]; decide) (by rw [c_13]; decide) (by decide) ?_
      refine lv_aload_n hx hb dX12_now_73 rfl (lv_at hl 0 rfl) ?_
      refine lv_iload_n hx hb dX12_now_74 rfl (lv_at hl 1 rfl) ?_
      obtain ⟨r_15, hc_14, hd⟩ := zob_some hd
      refine z_cvI F hw hl.1 (As := [.int p1]) (rest := []) (ztX12_angle l D cy sh ad h0 hc_14) zyX12_angle h0 zc12 zk12_429 ⟨rfl, rfl⟩ ⟨by decide, by decide⟩ rfl rfl (Nat.le_of_ble_eq_true rfl) dX12_now_75 (fun H locs hw => ?_)
      exact z_iret F hr hlk hw (Option.some.inj hd) rfl dX12_now_78
    have hd := zif_neg c_13 hd
    by_cases c_16 : p2 = (4 : Int32)
    · have hd := zif_pos c_16 hd
      refine lv_tableIn (tgt := 79) (off := 67) hx hb dX12_now_12 (by rw [c_16]; decide) (by rw [c_16]; decide) (by rw [c_16]; decide) (by decide) ?_
      refine lv_aload_n hx hb dX12_now_79 rfl (lv_at hl 0 rfl) ?_
      refine lv_iload_n hx hb dX12_now_80 rfl (lv_at hl 1 rfl) ?_
      refine lv_iconst (v := (5 : Int32)) hx hb dX12_now_81 (by decide) ?_
      obtain ⟨r_18, hc_17, hd⟩ := zob_some hd
      refine z_cvI F hw hl.1 (As := [.int p1, .int (5 : Int32)]) (rest := []) (ztX12_axisAt l D cy sh ad h0 hc_17) zyX12_axisAt h0 zc12 zk12_338 ⟨rfl, rfl⟩ ⟨by decide, by decide⟩ rfl rfl (Nat.le_of_ble_eq_true rfl) dX12_now_82 (fun H locs hw => ?_)
      exact z_iret F hr hlk hw (Option.some.inj hd) rfl dX12_now_85
    have hd := zif_neg c_16 hd
    by_cases c_19 : p2 = (5 : Int32)
    · have hd := zif_pos c_19 hd
      refine lv_tableIn (tgt := 86) (off := 74) hx hb dX12_now_12 (by rw [c_19]; decide) (by rw [c_19]; decide) (by rw [c_19]; decide) (by decide) ?_
      refine lv_aload_n hx hb dX12_now_86 rfl (lv_at hl 0 rfl) ?_
      refine lv_iload_n hx hb dX12_now_87 rfl (lv_at hl 1 rfl) ?_
      obtain ⟨r_21, hc_20, hd⟩ := zob_some hd
      refine z_cvI F hw hl.1 (As := [.int p1]) (rest := []) (ztX12_angle l D cy sh ad h0 hc_20) zyX12_angle h0 zc12 zk12_429 ⟨rfl, rfl⟩ ⟨by decide, by decide⟩ rfl rfl (Nat.le_of_ble_eq_true rfl) dX12_now_88 (fun H locs hw => ?_)
      refine lv_sipush (v := (2048 : Int32)) hx hb dX12_now_91 (by decide) ?_
      refine lv_iadd hx hb dX12_now_94 ?_
      refine lv_sipush (v := (4096 : Int32)) hx hb dX12_now_95 (by decide) ?_
      obtain ⟨r_23, hc_22, hd⟩ := zob_some hd
      refine z_csI F hw hl.1 (As := [.int (r_21 + (2048 : Int32)), .int (4096 : Int32)]) (rest := []) (ztX12_floor l D cy sh ad  hc_22) zyX12_floor zk12_255 ⟨rfl, rfl⟩ ⟨by decide, by decide⟩ rfl rfl (Nat.le_of_ble_eq_true rfl) dX12_now_98 (fun H locs hw => ?_)
      exact z_iret F hr hlk hw (Option.some.inj hd) rfl dX12_now_101
    have hd := zif_neg c_19 hd
    have nc_4 := zne c_4 (a := 0) (by decide)
    have nc_7 := zne c_7 (a := 1) (by decide)
    have nc_10 := zne c_10 (a := 2) (by decide)
    have nc_13 := zne c_13 (a := 3) (by decide)
    have nc_16 := zne c_16 (a := 4) (by decide)
    have nc_19 := zne c_19 (a := 5) (by decide)
    refine lv_tableOut (tgt := 102) hx hb dX12_now_12 (by omega) (by decide) ?_
    refine lv_ldc (v := (-2147483648 : Int32)) hx hb F.1.2.2.2.1 (F.1.2.2.2.2 _ zi12_254) dX12_now_102 ?_
    exact z_iret F hr hlk hw (Option.some.inj hd) rfl dX12_now_104
  · have hd := zif_pos c_3 hd
    refine lv_ldc (v := (-2147483648 : Int32)) hx hb F.1.2.2.2.1 (F.1.2.2.2.2 _ zi12_254) dX12_now_8 ?_
    exact z_iret F hr hlk hw (Option.some.inj hd) rfl dX12_now_10

def zbX12_puts_2 (sh : zShp) (k0 : Nat)  (kk2 : Int32 → zMem → Option (zMem)) (x1 : Int32) (M : zMem) : Option (zMem) :=
  if (194 : Int32) ≤ x1 then (
  some M)
  else (
  zgd (zin x1 (zlen sh (zR M k0 0))) <|
  zgd (zin x1 (zlen sh (zR M k0 47))) <|
  zbd (zpI M (zR M k0 47) (x1.toNatClampNeg) (zI M (zR M k0 0) x1.toNatClampNeg)) fun M_6 =>
  kk2 (x1 + (1 : Int32)) M_6)
def zlX12_puts_2 (sh : zShp) (k0 : Nat)  : Nat → Int32 → zMem → Option (zMem)
  | 0 => fun _ _ => none
  | n + 1 => fun x1 M => zbX12_puts_2 sh k0  (zlX12_puts_2 sh k0  n) x1 M
def zX12_puts (sh : zShp) (k0 : Nat) (M : zMem) : Option (zMem) :=
  zlX12_puts_2 sh k0 zF (0 : Int32) M
set_option maxHeartbeats 4000000 in
set_option maxRecDepth 100000 in
theorem ztX12_puts (l : Launch) (D : va_G) (cy : Nat → ClassId) (sh : zShp) (ad : Nat → Nat) {k0 : Nat} (h0 : zT sh k0 12) {M : zMem} {M1 : zMem} (hd : zX12_puts sh k0 M = some M1) : zCV l yX12_puts cX12_puts 2 { frames := 0, cells := 0, slots := 0, locals := 0 } [.ref (ad k0)] D cy sh ad M M1 := by
  refine zcv_of (by decide) (Nat.le_of_ble_eq_true rfl) (fun p e s m below meth c ls F hr hlk hl hw => ?_)
  have hx := F.1.1
  have hb := F.1.2.1
  have hl : lv_has ls 2 [(0, .ref (ad k0))] := hl
  have L2 : ∀  (n : Nat), ∀ (x1 : Int32) (M : zMem) (H : Heap) (locs : List Loc) (ls : Array Slot), lv_has ls 2 [(0, .ref (ad k0)), (1, .int x1)] → zWd D cy sh ad s M H locs → zlX12_puts_2 sh k0  n x1 M = some M1 → W p l e { frames := 0, cells := 0, slots := 0, locals := 0 } s m ([.ref (ad k0)] : List Value).toArray below meth c H locs 0 0 (zQV below D cy sh ad s [.ref (ad k0)] M1) (F0 m 2 ls []) := by
    intro  n
    induction n with
    | zero => intro x1 M H locs ls hl hw hd; exact (znone hd).elim
    | succ n hk2 =>
      intro x1 M H locs ls hl hw hd
      have hd : zbX12_puts_2 sh k0  (zlX12_puts_2 sh k0  n) x1 M = some M1 := hd
      unfold zbX12_puts_2 at hd
      refine lv_iload_n hx hb dX12_puts_2 rfl (lv_at hl 1 rfl) ?_
      refine lv_sipush (v := (194 : Int32)) hx hb dX12_puts_3 (by decide) ?_
      refine lv_icmp_ge (tgt := 27) hx hb dX12_puts_6 (by decide) (fun c_1 => ?_) (fun c_1 => ?_)
      · have hd := zif_pos c_1 hd
        exact z_vret F hr hlk hw (Option.some.inj hd) dX12_puts_27
      · have hd := zif_neg c_1 hd
        refine lv_aload_n hx hb dX12_puts_9 rfl (lv_at hl 0 rfl) ?_
        refine z_gR F hw h0 zc12 47 (by decide) rfl zf12_67 dX12_puts_10 ?_
        have t_2 : zT sh (zR M k0 47) 14 := hw.2.2.2.fld h0 47 14
        refine lv_iload_n hx hb dX12_puts_13 rfl (lv_at hl 1 rfl) ?_
        refine lv_aload_n hx hb dX12_puts_14 rfl (lv_at hl 0 rfl) ?_
        refine z_gR F hw h0 zc12 0 (by decide) rfl zf12_7 dX12_puts_15 ?_
        have t_3 : zT sh (zR M k0 0) 14 := hw.2.2.2.fld h0 0 14
        refine lv_iload_n hx hb dX12_puts_18 rfl (lv_at hl 1 rfl) ?_
        obtain ⟨g_4, hd⟩ := zgd_some hd
        refine z_iald F hw t_3 g_4 dX12_puts_19 ?_
        obtain ⟨g_5, hd⟩ := zgd_some hd
        refine z_iast F hw t_2 g_5 dX12_puts_20 (fun H locs M_6 eM_6 hw => ?_)
        have hd := zbd_eq eM_6 hd
        refine lv_iinc (v := (x1 + (1 : Int32))) (lv' := [(1, .int (x1 + (1 : Int32))), (0, .ref (ad k0))]) hx hb dX12_puts_21 hl (k := 1) rfl (ziinc (by decide)) (by decide) rfl (fun ls hl => ?_)
        refine lv_goto (tgt := 2) hx hb dX12_puts_24 (by decide) ?_
        exact hk2 _ _ _ _ _ (lv_sub hl [1, 0] rfl) hw hd
  unfold zX12_puts at hd
  refine lv_iconst (v := (0 : Int32)) hx hb dX12_puts_0 (by decide) ?_
  refine lv_istore_n (lv' := [(1, .int (0 : Int32)), (0, .ref (ad k0))]) hx hb dX12_puts_1 rfl hl (by decide) rfl (fun ls hl => ?_)
  exact L2 zF _ _ _ _ _ (lv_sub hl [1, 0] rfl) hw hd

def zbX12_takesBack_2 (sh : zShp) (k0 : Nat)  (kk2 : Int32 → zMem → Option (zMem)) (x1 : Int32) (M : zMem) : Option (zMem) :=
  if (194 : Int32) ≤ x1 then (
  some M)
  else (
  zgd (zin x1 (zlen sh (zR M k0 47))) <|
  zgd (zin x1 (zlen sh (zR M k0 0))) <|
  zbd (zpI M (zR M k0 0) (x1.toNatClampNeg) (zI M (zR M k0 47) x1.toNatClampNeg)) fun M_6 =>
  kk2 (x1 + (1 : Int32)) M_6)
def zlX12_takesBack_2 (sh : zShp) (k0 : Nat)  : Nat → Int32 → zMem → Option (zMem)
  | 0 => fun _ _ => none
  | n + 1 => fun x1 M => zbX12_takesBack_2 sh k0  (zlX12_takesBack_2 sh k0  n) x1 M
def zX12_takesBack (sh : zShp) (k0 : Nat) (M : zMem) : Option (zMem) :=
  zlX12_takesBack_2 sh k0 zF (0 : Int32) M
set_option maxHeartbeats 4000000 in
set_option maxRecDepth 100000 in
theorem ztX12_takesBack (l : Launch) (D : va_G) (cy : Nat → ClassId) (sh : zShp) (ad : Nat → Nat) {k0 : Nat} (h0 : zT sh k0 12) {M : zMem} {M1 : zMem} (hd : zX12_takesBack sh k0 M = some M1) : zCV l yX12_takesBack cX12_takesBack 2 { frames := 0, cells := 0, slots := 0, locals := 0 } [.ref (ad k0)] D cy sh ad M M1 := by
  refine zcv_of (by decide) (Nat.le_of_ble_eq_true rfl) (fun p e s m below meth c ls F hr hlk hl hw => ?_)
  have hx := F.1.1
  have hb := F.1.2.1
  have hl : lv_has ls 2 [(0, .ref (ad k0))] := hl
  have L2 : ∀  (n : Nat), ∀ (x1 : Int32) (M : zMem) (H : Heap) (locs : List Loc) (ls : Array Slot), lv_has ls 2 [(0, .ref (ad k0)), (1, .int x1)] → zWd D cy sh ad s M H locs → zlX12_takesBack_2 sh k0  n x1 M = some M1 → W p l e { frames := 0, cells := 0, slots := 0, locals := 0 } s m ([.ref (ad k0)] : List Value).toArray below meth c H locs 0 0 (zQV below D cy sh ad s [.ref (ad k0)] M1) (F0 m 2 ls []) := by
    intro  n
    induction n with
    | zero => intro x1 M H locs ls hl hw hd; exact (znone hd).elim
    | succ n hk2 =>
      intro x1 M H locs ls hl hw hd
      have hd : zbX12_takesBack_2 sh k0  (zlX12_takesBack_2 sh k0  n) x1 M = some M1 := hd
      unfold zbX12_takesBack_2 at hd
      refine lv_iload_n hx hb dX12_takesBack_2 rfl (lv_at hl 1 rfl) ?_
      refine lv_sipush (v := (194 : Int32)) hx hb dX12_takesBack_3 (by decide) ?_
      refine lv_icmp_ge (tgt := 27) hx hb dX12_takesBack_6 (by decide) (fun c_1 => ?_) (fun c_1 => ?_)
      · have hd := zif_pos c_1 hd
        exact z_vret F hr hlk hw (Option.some.inj hd) dX12_takesBack_27
      · have hd := zif_neg c_1 hd
        refine lv_aload_n hx hb dX12_takesBack_9 rfl (lv_at hl 0 rfl) ?_
        refine z_gR F hw h0 zc12 0 (by decide) rfl zf12_7 dX12_takesBack_10 ?_
        have t_2 : zT sh (zR M k0 0) 14 := hw.2.2.2.fld h0 0 14
        refine lv_iload_n hx hb dX12_takesBack_13 rfl (lv_at hl 1 rfl) ?_
        refine lv_aload_n hx hb dX12_takesBack_14 rfl (lv_at hl 0 rfl) ?_
        refine z_gR F hw h0 zc12 47 (by decide) rfl zf12_67 dX12_takesBack_15 ?_
        have t_3 : zT sh (zR M k0 47) 14 := hw.2.2.2.fld h0 47 14
        refine lv_iload_n hx hb dX12_takesBack_18 rfl (lv_at hl 1 rfl) ?_
        obtain ⟨g_4, hd⟩ := zgd_some hd
        refine z_iald F hw t_3 g_4 dX12_takesBack_19 ?_
        obtain ⟨g_5, hd⟩ := zgd_some hd
        refine z_iast F hw t_2 g_5 dX12_takesBack_20 (fun H locs M_6 eM_6 hw => ?_)
        have hd := zbd_eq eM_6 hd
        refine lv_iinc (v := (x1 + (1 : Int32))) (lv' := [(1, .int (x1 + (1 : Int32))), (0, .ref (ad k0))]) hx hb dX12_takesBack_21 hl (k := 1) rfl (ziinc (by decide)) (by decide) rfl (fun ls hl => ?_)
        refine lv_goto (tgt := 2) hx hb dX12_takesBack_24 (by decide) ?_
        exact hk2 _ _ _ _ _ (lv_sub hl [1, 0] rfl) hw hd
  unfold zX12_takesBack at hd
  refine lv_iconst (v := (0 : Int32)) hx hb dX12_takesBack_0 (by decide) ?_
  refine lv_istore_n (lv' := [(1, .int (0 : Int32)), (0, .ref (ad k0))]) hx hb dX12_takesBack_1 rfl hl (by decide) rfl (fun ls hl => ?_)
  exact L2 zF _ _ _ _ _ (lv_sub hl [1, 0] rfl) hw hd

def zjX12_stallIn_58 (sh : zShp) (k0 : Nat) (p1 : Int32)  (s0 : Int32) (M : zMem) : Option (Int32 × zMem) :=
  some (s0, M)
def zjX12_stallIn_42 (sh : zShp) (k0 : Nat) (p1 : Int32)  (x2 : Int32) (M : zMem) : Option (Int32 × zMem) :=
  zob (zX12_takesBack sh k0 M) fun M_2 =>
  if x2 ≤ (2000 : Int32) then (
  zjX12_stallIn_58 sh k0 p1 x2 M_2)
  else (
  zjX12_stallIn_58 sh k0 p1 (-1 : Int32) M_2)
def zbX12_stallIn_16 (sh : zShp) (k0 : Nat) (p1 : Int32)  (kk16 : Int32 → zMem → Option (Int32 × zMem)) (x2 : Int32) (M : zMem) : Option (Int32 × zMem) :=
  if (2000 : Int32) < x2 then (
  zjX12_stallIn_42 sh k0 p1 x2 M)
  else (
  zob (zX12_axisAt sh k0 p1 (5 : Int32) M) fun r_6 =>
  if r_6 = 0 then (
  zob (zX12_tick sh k0 M) fun M_9 =>
  kk16 (x2 + (1 : Int32)) M_9)
  else (
  zjX12_stallIn_42 sh k0 p1 x2 M))
def zlX12_stallIn_16 (sh : zShp) (k0 : Nat) (p1 : Int32)  : Nat → Int32 → zMem → Option (Int32 × zMem)
  | 0 => fun _ _ => none
  | n + 1 => fun x2 M => zbX12_stallIn_16 sh k0 p1  (zlX12_stallIn_16 sh k0 p1  n) x2 M
def zX12_stallIn (sh : zShp) (k0 : Nat) (p1 : Int32) (M : zMem) : Option (Int32 × zMem) :=
  zob (zX12_isAxis sh k0 p1 M) fun r_11 =>
  if r_11 = 0 then (
  some ((-1 : Int32), M))
  else (
  zob (zX12_puts sh k0 M) fun M_14 =>
  zlX12_stallIn_16 sh k0 p1 zF (0 : Int32) M_14)
set_option maxHeartbeats 4000000 in
set_option maxRecDepth 100000 in
theorem ztX12_stallIn (l : Launch) (D : va_G) (cy : Nat → ClassId) (sh : zShp) (ad : Nat → Nat) {k0 : Nat} {p1 : Int32} (h0 : zT sh k0 12) {M : zMem} {r : Int32} {M1 : zMem} (hd : zX12_stallIn sh k0 p1 M = some (r, M1)) : zCI l yX12_stallIn cX12_stallIn 3 .int { frames := 6, cells := 0, slots := 0, locals := 145 } [.ref (ad k0), .int p1] D cy sh ad M r M1 := by
  refine zci_of (by decide) (Nat.le_of_ble_eq_true rfl) (fun p e s m below meth c ls F hr hlk hl hw => ?_)
  have hx := F.1.1
  have hb := F.1.2.1
  have hl : lv_has ls 3 [(0, .ref (ad k0)), (1, .int p1)] := hl
  have J58 : ∀ (s0 : Int32) (M : zMem) (H : Heap) (locs : List Loc) (ls : Array Slot), lv_has ls 3 [] → zWd D cy sh ad s M H locs → zjX12_stallIn_58 sh k0 p1  s0 M = some (r, M1) → W p l e { frames := 6, cells := 0, slots := 0, locals := 145 } s m ([.ref (ad k0), .int p1] : List Value).toArray below meth c H locs 0 0 (zQI below D cy sh ad s [.ref (ad k0), .int p1] r M1) (F0 m 58 ls [.int s0]) := by
    intro  s0 M H locs ls hl hw hd
    unfold zjX12_stallIn_58 at hd
    exact z_iret F hr hlk hw (zpr1 hd) (zpr2 hd) dX12_stallIn_58
  have J42 : ∀ (x2 : Int32) (M : zMem) (H : Heap) (locs : List Loc) (ls : Array Slot), lv_has ls 3 [(0, .ref (ad k0)), (2, .int x2)] → zWd D cy sh ad s M H locs → zjX12_stallIn_42 sh k0 p1  x2 M = some (r, M1) → W p l e { frames := 6, cells := 0, slots := 0, locals := 145 } s m ([.ref (ad k0), .int p1] : List Value).toArray below meth c H locs 0 0 (zQI below D cy sh ad s [.ref (ad k0), .int p1] r M1) (F0 m 42 ls []) := by
    intro  x2 M H locs ls hl hw hd
    unfold zjX12_stallIn_42 at hd
    refine lv_aload_n hx hb dX12_stallIn_42 rfl (lv_at hl 0 rfl) ?_
    obtain ⟨M_2, hc_1, hd⟩ := zob_some hd
    refine z_cvV F hw hl.1 (As := []) (rest := []) (ztX12_takesBack l D cy sh ad h0 hc_1) zyX12_takesBack h0 zc12 zk12_457 ⟨rfl, rfl⟩ ⟨by decide, by decide⟩ rfl rfl (Nat.le_of_ble_eq_true rfl) dX12_stallIn_43 (fun H locs hw => ?_)
    refine lv_iload_n hx hb dX12_stallIn_46 rfl (lv_at hl 1 rfl) ?_
    refine lv_sipush (v := (2000 : Int32)) hx hb dX12_stallIn_47 (by decide) ?_
    refine lv_icmp_le (tgt := 57) hx hb dX12_stallIn_50 (by decide) (fun c_3 => ?_) (fun c_3 => ?_)
    · have hd := zif_pos c_3 hd
      refine lv_iload_n hx hb dX12_stallIn_57 rfl (lv_at hl 1 rfl) ?_
      exact J58 _ _ _ _ _ (lv_sub hl [] rfl) hw hd
    · have hd := zif_neg c_3 hd
      refine lv_iconst (v := (-1 : Int32)) hx hb dX12_stallIn_53 (by decide) ?_
      refine lv_goto (tgt := 58) hx hb dX12_stallIn_54 (by decide) ?_
      exact J58 _ _ _ _ _ (lv_sub hl [] rfl) hw hd
  have L16 : ∀  (n : Nat), ∀ (x2 : Int32) (M : zMem) (H : Heap) (locs : List Loc) (ls : Array Slot), lv_has ls 3 [(0, .ref (ad k0)), (1, .int p1), (2, .int x2)] → zWd D cy sh ad s M H locs → zlX12_stallIn_16 sh k0 p1  n x2 M = some (r, M1) → W p l e { frames := 6, cells := 0, slots := 0, locals := 145 } s m ([.ref (ad k0), .int p1] : List Value).toArray below meth c H locs 0 0 (zQI below D cy sh ad s [.ref (ad k0), .int p1] r M1) (F0 m 16 ls []) := by
    intro  n
    induction n with
    | zero => intro x2 M H locs ls hl hw hd; exact (znone hd).elim
    | succ n hk16 =>
      intro x2 M H locs ls hl hw hd
      have hd : zbX12_stallIn_16 sh k0 p1  (zlX12_stallIn_16 sh k0 p1  n) x2 M = some (r, M1) := hd
      unfold zbX12_stallIn_16 at hd
      refine lv_iload_n hx hb dX12_stallIn_16 rfl (lv_at hl 2 rfl) ?_
      refine lv_sipush (v := (2000 : Int32)) hx hb dX12_stallIn_17 (by decide) ?_
      refine lv_icmp_gt (tgt := 42) hx hb dX12_stallIn_20 (by decide) (fun c_4 => ?_) (fun c_4 => ?_)
      · have hd := zif_pos c_4 hd
        exact J42 _ _ _ _ _ (lv_sub hl [0, 2] rfl) hw hd
      · have hd := zif_neg c_4 hd
        refine lv_aload_n hx hb dX12_stallIn_23 rfl (lv_at hl 0 rfl) ?_
        refine lv_iload_n hx hb dX12_stallIn_24 rfl (lv_at hl 1 rfl) ?_
        refine lv_iconst (v := (5 : Int32)) hx hb dX12_stallIn_25 (by decide) ?_
        obtain ⟨r_6, hc_5, hd⟩ := zob_some hd
        refine z_cvI F hw hl.1 (As := [.int p1, .int (5 : Int32)]) (rest := []) (ztX12_axisAt l D cy sh ad h0 hc_5) zyX12_axisAt h0 zc12 zk12_338 ⟨rfl, rfl⟩ ⟨by decide, by decide⟩ rfl rfl (Nat.le_of_ble_eq_true rfl) dX12_stallIn_26 (fun H locs hw => ?_)
        refine lv_if_ne (tgt := 42) hx hb dX12_stallIn_29 (by decide) (fun c_7 => ?_) (fun c_7 => ?_)
        · have hd := zif_neg c_7 hd
          exact J42 _ _ _ _ _ (lv_sub hl [0, 2] rfl) hw hd
        · have hd := zif_pos c_7 hd
          refine lv_aload_n hx hb dX12_stallIn_32 rfl (lv_at hl 0 rfl) ?_
          obtain ⟨M_9, hc_8, hd⟩ := zob_some hd
          refine z_cvV F hw hl.1 (As := []) (rest := []) (ztX12_tick l D cy sh ad h0 hc_8) zyX12_tick h0 zc12 zk12_446 ⟨rfl, rfl⟩ ⟨by decide, by decide⟩ rfl rfl (Nat.le_of_ble_eq_true rfl) dX12_stallIn_33 (fun H locs hw => ?_)
          refine lv_iinc (v := (x2 + (1 : Int32))) (lv' := [(2, .int (x2 + (1 : Int32))), (0, .ref (ad k0)), (1, .int p1)]) hx hb dX12_stallIn_36 hl (k := 2) rfl (ziinc (by decide)) (by decide) rfl (fun ls hl => ?_)
          refine lv_goto (tgt := 16) hx hb dX12_stallIn_39 (by decide) ?_
          exact hk16 _ _ _ _ _ (lv_sub hl [1, 2, 0] rfl) hw hd
  unfold zX12_stallIn at hd
  refine lv_aload_n hx hb dX12_stallIn_0 rfl (lv_at hl 0 rfl) ?_
  refine lv_iload_n hx hb dX12_stallIn_1 rfl (lv_at hl 1 rfl) ?_
  obtain ⟨r_11, hc_10, hd⟩ := zob_some hd
  refine z_cvI F hw hl.1 (As := [.int p1]) (rest := []) (ztX12_isAxis l D cy sh ad h0 hc_10) zyX12_isAxis h0 zc12 zk12_312 ⟨rfl, rfl⟩ ⟨by decide, by decide⟩ rfl rfl (Nat.le_of_ble_eq_true rfl) dX12_stallIn_2 (fun H locs hw => ?_)
  refine lv_if_ne (tgt := 10) hx hb dX12_stallIn_5 (by decide) (fun c_12 => ?_) (fun c_12 => ?_)
  · have hd := zif_neg c_12 hd
    refine lv_aload_n hx hb dX12_stallIn_10 rfl (lv_at hl 0 rfl) ?_
    obtain ⟨M_14, hc_13, hd⟩ := zob_some hd
    refine z_cvV F hw hl.1 (As := []) (rest := []) (ztX12_puts l D cy sh ad h0 hc_13) zyX12_puts h0 zc12 zk12_454 ⟨rfl, rfl⟩ ⟨by decide, by decide⟩ rfl rfl (Nat.le_of_ble_eq_true rfl) dX12_stallIn_11 (fun H locs hw => ?_)
    refine lv_iconst (v := (0 : Int32)) hx hb dX12_stallIn_14 (by decide) ?_
    refine lv_istore_n (lv' := [(2, .int (0 : Int32)), (0, .ref (ad k0)), (1, .int p1)]) hx hb dX12_stallIn_15 rfl hl (by decide) rfl (fun ls hl => ?_)
    exact L16 zF _ _ _ _ _ (lv_sub hl [1, 2, 0] rfl) hw hd
  · have hd := zif_pos c_12 hd
    refine lv_iconst (v := (-1 : Int32)) hx hb dX12_stallIn_8 (by decide) ?_
    exact z_iret F hr hlk hw (zpr1 hd) (zpr2 hd) dX12_stallIn_9

def zjX12_isSteady_72 (sh : zShp) (k0 : Nat) (M : zMem) (kk27 : Int32 → Int32 → Option (Int32)) (x2 : Int32) (s0 : Int32) : Option (Int32) :=
  kk27 s0 (x2 + (1 : Int32))
def zjX12_isSteady_71 (sh : zShp) (k0 : Nat) (M : zMem) (kk27 : Int32 → Int32 → Option (Int32)) (x2 : Int32) : Option (Int32) :=
  zjX12_isSteady_72 sh k0 M kk27 x2 (0 : Int32)
def zbX12_isSteady_27 (sh : zShp) (k0 : Nat) (M : zMem)  (kk27 : Int32 → Int32 → Option (Int32)) (x1 : Int32) (x2 : Int32) : Option (Int32) :=
  if (zI M k0 22) ≤ x2 then (
  zgd (zisB x1) <|
  some x1)
  else (
  if x1 = 0 then (
  zjX12_isSteady_71 sh k0 M kk27 x2)
  else (
  zob (zX12_axisAt sh k0 x2 (2 : Int32) M) fun r_5 =>
  if r_5 = 0 then (
  zob (zX12_angle sh k0 x2 M) fun r_8 =>
  zob (zX12_axisAt sh k0 x2 (3 : Int32) M) fun r_10 =>
  zob (zX12_pushed sh k0 x2 r_8 r_10 M) fun r_12 =>
  if r_12 = 0 then (
  zjX12_isSteady_72 sh k0 M kk27 x2 (1 : Int32))
  else (
  zjX12_isSteady_71 sh k0 M kk27 x2))
  else (
  zjX12_isSteady_71 sh k0 M kk27 x2)))
def zlX12_isSteady_27 (sh : zShp) (k0 : Nat) (M : zMem)  : Nat → Int32 → Int32 → Option (Int32)
  | 0 => fun _ _ => none
  | n + 1 => fun x1 x2 => zbX12_isSteady_27 sh k0 M  (zlX12_isSteady_27 sh k0 M  n) x1 x2
def zjX12_isSteady_24 (sh : zShp) (k0 : Nat) (M : zMem)  (s0 : Int32) : Option (Int32) :=
  zlX12_isSteady_27 sh k0 M zF s0 (0 : Int32)
def zjX12_isSteady_23 (sh : zShp) (k0 : Nat) (M : zMem)   : Option (Int32) :=
  zjX12_isSteady_24 sh k0 M (0 : Int32)
def zX12_isSteady (sh : zShp) (k0 : Nat) (M : zMem) : Option (Int32) :=
  zgd (zin (1 : Int32) (zlen sh (zR M k0 0))) <|
  if (zI M (zR M k0 0) ((1 : Int32).toNatClampNeg)) = 0 then (
  zgd (zin (23 : Int32) (zlen sh (zR M k0 0))) <|
  if (zI M (zR M k0 0) ((23 : Int32).toNatClampNeg)) = 0 then (
  zjX12_isSteady_24 sh k0 M (1 : Int32))
  else (
  zjX12_isSteady_23 sh k0 M))
  else (
  zjX12_isSteady_23 sh k0 M)
set_option maxHeartbeats 4000000 in
set_option maxRecDepth 100000 in
theorem ztX12_isSteady (l : Launch) (D : va_G) (cy : Nat → ClassId) (sh : zShp) (ad : Nat → Nat) {k0 : Nat} (h0 : zT sh k0 12) {M : zMem} {r : Int32} (hd : zX12_isSteady sh k0 M = some r) : zCI l yX12_isSteady cX12_isSteady 3 .boolean { frames := 3, cells := 0, slots := 0, locals := 70 } [.ref (ad k0)] D cy sh ad M r M := by
  refine zci_of (by decide) (Nat.le_of_ble_eq_true rfl) (fun p e s m below meth c ls F hr hlk hl hw => ?_)
  have hx := F.1.1
  have hb := F.1.2.1
  have hl : lv_has ls 3 [(0, .ref (ad k0))] := hl
  have J72 : ∀ (kk27 : Int32 → Int32 → Option (Int32)) (hk27 : ∀ (x1 : Int32) (x2 : Int32) (H : Heap) (locs : List Loc) (ls : Array Slot), lv_has ls 3 [(0, .ref (ad k0)), (1, .int x1), (2, .int x2)] → zWd D cy sh ad s M H locs → kk27 x1 x2 = some r → W p l e { frames := 3, cells := 0, slots := 0, locals := 70 } s m ([.ref (ad k0)] : List Value).toArray below meth c H locs 0 0 (zQI below D cy sh ad s [.ref (ad k0)] r M) (F0 m 27 ls [])), ∀ (x2 : Int32) (s0 : Int32) (H : Heap) (locs : List Loc) (ls : Array Slot), lv_has ls 3 [(0, .ref (ad k0)), (2, .int x2)] → zWd D cy sh ad s M H locs → zjX12_isSteady_72 sh k0 M kk27 x2 s0 = some r → W p l e { frames := 3, cells := 0, slots := 0, locals := 70 } s m ([.ref (ad k0)] : List Value).toArray below meth c H locs 0 0 (zQI below D cy sh ad s [.ref (ad k0)] r M) (F0 m 72 ls [.int s0]) := by
    intro kk27 hk27 x2 s0 H locs ls hl hw hd
    unfold zjX12_isSteady_72 at hd
    refine lv_istore_n (lv' := [(1, .int s0), (0, .ref (ad k0)), (2, .int x2)]) hx hb dX12_isSteady_72 rfl hl (by decide) rfl (fun ls hl => ?_)
    refine lv_iinc (v := (x2 + (1 : Int32))) (lv' := [(2, .int (x2 + (1 : Int32))), (1, .int s0), (0, .ref (ad k0))]) hx hb dX12_isSteady_73 hl (k := 2) rfl (ziinc (by decide)) (by decide) rfl (fun ls hl => ?_)
    refine lv_goto (tgt := 27) hx hb dX12_isSteady_76 (by decide) ?_
    exact hk27 _ _ _ _ _ (lv_sub hl [2, 1, 0] rfl) hw hd
  have J71 : ∀ (kk27 : Int32 → Int32 → Option (Int32)) (hk27 : ∀ (x1 : Int32) (x2 : Int32) (H : Heap) (locs : List Loc) (ls : Array Slot), lv_has ls 3 [(0, .ref (ad k0)), (1, .int x1), (2, .int x2)] → zWd D cy sh ad s M H locs → kk27 x1 x2 = some r → W p l e { frames := 3, cells := 0, slots := 0, locals := 70 } s m ([.ref (ad k0)] : List Value).toArray below meth c H locs 0 0 (zQI below D cy sh ad s [.ref (ad k0)] r M) (F0 m 27 ls [])), ∀ (x2 : Int32) (H : Heap) (locs : List Loc) (ls : Array Slot), lv_has ls 3 [(0, .ref (ad k0)), (2, .int x2)] → zWd D cy sh ad s M H locs → zjX12_isSteady_71 sh k0 M kk27 x2 = some r → W p l e { frames := 3, cells := 0, slots := 0, locals := 70 } s m ([.ref (ad k0)] : List Value).toArray below meth c H locs 0 0 (zQI below D cy sh ad s [.ref (ad k0)] r M) (F0 m 71 ls []) := by
    intro kk27 hk27 x2 H locs ls hl hw hd
    unfold zjX12_isSteady_71 at hd
    refine lv_iconst (v := (0 : Int32)) hx hb dX12_isSteady_71 (by decide) ?_
    exact J72 _ hk27 _ _ _ _ _ (lv_sub hl [0, 1] rfl) hw hd
  have L27 : ∀  (n : Nat), ∀ (x1 : Int32) (x2 : Int32) (H : Heap) (locs : List Loc) (ls : Array Slot), lv_has ls 3 [(0, .ref (ad k0)), (1, .int x1), (2, .int x2)] → zWd D cy sh ad s M H locs → zlX12_isSteady_27 sh k0 M  n x1 x2 = some r → W p l e { frames := 3, cells := 0, slots := 0, locals := 70 } s m ([.ref (ad k0)] : List Value).toArray below meth c H locs 0 0 (zQI below D cy sh ad s [.ref (ad k0)] r M) (F0 m 27 ls []) := by
    intro  n
    induction n with
    | zero => intro x1 x2 H locs ls hl hw hd; exact (znone hd).elim
    | succ n hk27 =>
      intro x1 x2 H locs ls hl hw hd
      have hd : zbX12_isSteady_27 sh k0 M  (zlX12_isSteady_27 sh k0 M  n) x1 x2 = some r := hd
      unfold zbX12_isSteady_27 at hd
      refine lv_iload_n hx hb dX12_isSteady_27 rfl (lv_at hl 2 rfl) ?_
      refine lv_aload_n hx hb dX12_isSteady_28 rfl (lv_at hl 0 rfl) ?_
      refine z_gI F hw h0 zc12 22 (by decide) rfl zf12_240 dX12_isSteady_29 ?_
      refine lv_icmp_ge (tgt := 79) hx hb dX12_isSteady_32 (by decide) (fun c_1 => ?_) (fun c_1 => ?_)
      · have hd := zif_pos c_1 hd
        refine lv_iload_n hx hb dX12_isSteady_79 rfl (lv_at hl 1 rfl) ?_
        obtain ⟨g_2, hd⟩ := zgd_some hd
        exact z_zret F hr hlk hw g_2 (Option.some.inj hd) rfl dX12_isSteady_80
      · have hd := zif_neg c_1 hd
        refine lv_iload_n hx hb dX12_isSteady_35 rfl (lv_at hl 1 rfl) ?_
        refine lv_if_eq (tgt := 71) hx hb dX12_isSteady_36 (by decide) (fun c_3 => ?_) (fun c_3 => ?_)
        · have hd := zif_pos c_3 hd
          exact J71 _ hk27 _ _ _ _ (lv_sub hl [0, 2] rfl) hw hd
        · have hd := zif_neg c_3 hd
          refine lv_aload_n hx hb dX12_isSteady_39 rfl (lv_at hl 0 rfl) ?_
          refine lv_iload_n hx hb dX12_isSteady_40 rfl (lv_at hl 2 rfl) ?_
          refine lv_iconst (v := (2 : Int32)) hx hb dX12_isSteady_41 (by decide) ?_
          obtain ⟨r_5, hc_4, hd⟩ := zob_some hd
          refine z_cvI F hw hl.1 (As := [.int x2, .int (2 : Int32)]) (rest := []) (ztX12_axisAt l D cy sh ad h0 hc_4) zyX12_axisAt h0 zc12 zk12_338 ⟨rfl, rfl⟩ ⟨by decide, by decide⟩ rfl rfl (Nat.le_of_ble_eq_true rfl) dX12_isSteady_42 (fun H locs hw => ?_)
          refine lv_if_ne (tgt := 71) hx hb dX12_isSteady_45 (by decide) (fun c_6 => ?_) (fun c_6 => ?_)
          · have hd := zif_neg c_6 hd
            exact J71 _ hk27 _ _ _ _ (lv_sub hl [0, 2] rfl) hw hd
          · have hd := zif_pos c_6 hd
            refine lv_aload_n hx hb dX12_isSteady_48 rfl (lv_at hl 0 rfl) ?_
            refine lv_iload_n hx hb dX12_isSteady_49 rfl (lv_at hl 2 rfl) ?_
            refine lv_aload_n hx hb dX12_isSteady_50 rfl (lv_at hl 0 rfl) ?_
            refine lv_iload_n hx hb dX12_isSteady_51 rfl (lv_at hl 2 rfl) ?_
            obtain ⟨r_8, hc_7, hd⟩ := zob_some hd
            refine z_cvI F hw hl.1 (As := [.int x2]) (rest := [.int x2, .ref (ad k0)]) (ztX12_angle l D cy sh ad h0 hc_7) zyX12_angle h0 zc12 zk12_429 ⟨rfl, rfl⟩ ⟨by decide, by decide⟩ rfl rfl (Nat.le_of_ble_eq_true rfl) dX12_isSteady_52 (fun H locs hw => ?_)
            refine lv_aload_n hx hb dX12_isSteady_55 rfl (lv_at hl 0 rfl) ?_
            refine lv_iload_n hx hb dX12_isSteady_56 rfl (lv_at hl 2 rfl) ?_
            refine lv_iconst (v := (3 : Int32)) hx hb dX12_isSteady_57 (by decide) ?_
            obtain ⟨r_10, hc_9, hd⟩ := zob_some hd
            refine z_cvI F hw hl.1 (As := [.int x2, .int (3 : Int32)]) (rest := [.int r_8, .int x2, .ref (ad k0)]) (ztX12_axisAt l D cy sh ad h0 hc_9) zyX12_axisAt h0 zc12 zk12_338 ⟨rfl, rfl⟩ ⟨by decide, by decide⟩ rfl rfl (Nat.le_of_ble_eq_true rfl) dX12_isSteady_58 (fun H locs hw => ?_)
            obtain ⟨r_12, hc_11, hd⟩ := zob_some hd
            refine z_cvI F hw hl.1 (As := [.int x2, .int r_8, .int r_10]) (rest := []) (ztX12_pushed l D cy sh ad h0 hc_11) zyX12_pushed h0 zc12 zk12_423 ⟨rfl, rfl⟩ ⟨by decide, by decide⟩ rfl rfl (Nat.le_of_ble_eq_true rfl) dX12_isSteady_61 (fun H locs hw => ?_)
            refine lv_if_ne (tgt := 71) hx hb dX12_isSteady_64 (by decide) (fun c_13 => ?_) (fun c_13 => ?_)
            · have hd := zif_neg c_13 hd
              exact J71 _ hk27 _ _ _ _ (lv_sub hl [0, 2] rfl) hw hd
            · have hd := zif_pos c_13 hd
              refine lv_iconst (v := (1 : Int32)) hx hb dX12_isSteady_67 (by decide) ?_
              refine lv_goto (tgt := 72) hx hb dX12_isSteady_68 (by decide) ?_
              exact J72 _ hk27 _ _ _ _ _ (lv_sub hl [0, 2] rfl) hw hd
  have J24 : ∀ (s0 : Int32) (H : Heap) (locs : List Loc) (ls : Array Slot), lv_has ls 3 [(0, .ref (ad k0))] → zWd D cy sh ad s M H locs → zjX12_isSteady_24 sh k0 M  s0 = some r → W p l e { frames := 3, cells := 0, slots := 0, locals := 70 } s m ([.ref (ad k0)] : List Value).toArray below meth c H locs 0 0 (zQI below D cy sh ad s [.ref (ad k0)] r M) (F0 m 24 ls [.int s0]) := by
    intro  s0 H locs ls hl hw hd
    unfold zjX12_isSteady_24 at hd
    refine lv_istore_n (lv' := [(1, .int s0), (0, .ref (ad k0))]) hx hb dX12_isSteady_24 rfl hl (by decide) rfl (fun ls hl => ?_)
    refine lv_iconst (v := (0 : Int32)) hx hb dX12_isSteady_25 (by decide) ?_
    refine lv_istore_n (lv' := [(2, .int (0 : Int32)), (1, .int s0), (0, .ref (ad k0))]) hx hb dX12_isSteady_26 rfl hl (by decide) rfl (fun ls hl => ?_)
    exact L27 zF _ _ _ _ _ (lv_sub hl [2, 1, 0] rfl) hw hd
  have J23 : ∀  (H : Heap) (locs : List Loc) (ls : Array Slot), lv_has ls 3 [(0, .ref (ad k0))] → zWd D cy sh ad s M H locs → zjX12_isSteady_23 sh k0 M   = some r → W p l e { frames := 3, cells := 0, slots := 0, locals := 70 } s m ([.ref (ad k0)] : List Value).toArray below meth c H locs 0 0 (zQI below D cy sh ad s [.ref (ad k0)] r M) (F0 m 23 ls []) := by
    intro  H locs ls hl hw hd
    unfold zjX12_isSteady_23 at hd
    refine lv_iconst (v := (0 : Int32)) hx hb dX12_isSteady_23 (by decide) ?_
    exact J24 _ _ _ _ (lv_sub hl [0] rfl) hw hd
  unfold zX12_isSteady at hd
  refine lv_aload_n hx hb dX12_isSteady_0 rfl (lv_at hl 0 rfl) ?_
  refine z_gR F hw h0 zc12 0 (by decide) rfl zf12_7 dX12_isSteady_1 ?_
  have t_14 : zT sh (zR M k0 0) 14 := hw.2.2.2.fld h0 0 14
  refine lv_iconst (v := (1 : Int32)) hx hb dX12_isSteady_4 (by decide) ?_
  obtain ⟨g_15, hd⟩ := zgd_some hd
  refine z_iald F hw t_14 g_15 dX12_isSteady_5 ?_
  refine lv_if_ne (tgt := 23) hx hb dX12_isSteady_6 (by decide) (fun c_16 => ?_) (fun c_16 => ?_)
  · have hd := zif_neg c_16 hd
    exact J23 _ _ _ (lv_sub hl [0] rfl) hw hd
  · have hd := zif_pos c_16 hd
    refine lv_aload_n hx hb dX12_isSteady_9 rfl (lv_at hl 0 rfl) ?_
    refine z_gR F hw h0 zc12 0 (by decide) rfl zf12_7 dX12_isSteady_10 ?_
    have t_17 : zT sh (zR M k0 0) 14 := hw.2.2.2.fld h0 0 14
    refine lv_bipush (v := (23 : Int32)) hx hb dX12_isSteady_13 (by decide) ?_
    obtain ⟨g_18, hd⟩ := zgd_some hd
    refine z_iald F hw t_17 g_18 dX12_isSteady_15 ?_
    refine lv_if_ne (tgt := 23) hx hb dX12_isSteady_16 (by decide) (fun c_19 => ?_) (fun c_19 => ?_)
    · have hd := zif_neg c_19 hd
      exact J23 _ _ _ (lv_sub hl [0] rfl) hw hd
    · have hd := zif_pos c_19 hd
      refine lv_iconst (v := (1 : Int32)) hx hb dX12_isSteady_19 (by decide) ?_
      refine lv_goto (tgt := 24) hx hb dX12_isSteady_20 (by decide) ?_
      exact J24 _ _ _ _ (lv_sub hl [0] rfl) hw hd

def zjX12_calmIn_55 (sh : zShp) (k0 : Nat)  (s0 : Int32) (M : zMem) : Option (Int32 × zMem) :=
  some (s0, M)
def zjX12_calmIn_39 (sh : zShp) (k0 : Nat)  (x1 : Int32) (M : zMem) : Option (Int32 × zMem) :=
  zob (zX12_takesBack sh k0 M) fun M_2 =>
  if x1 ≤ (2000 : Int32) then (
  zjX12_calmIn_55 sh k0 x1 M_2)
  else (
  zjX12_calmIn_55 sh k0 (-1 : Int32) M_2)
def zbX12_calmIn_15 (sh : zShp) (k0 : Nat)  (kk15 : Int32 → zMem → Option (Int32 × zMem)) (x1 : Int32) (M : zMem) : Option (Int32 × zMem) :=
  if (2000 : Int32) < x1 then (
  zjX12_calmIn_39 sh k0 x1 M)
  else (
  zob (zX12_isSteady sh k0 M) fun r_6 =>
  if r_6 = 0 then (
  zob (zX12_tick sh k0 M) fun M_9 =>
  kk15 (x1 + (1 : Int32)) M_9)
  else (
  zjX12_calmIn_39 sh k0 x1 M))
def zlX12_calmIn_15 (sh : zShp) (k0 : Nat)  : Nat → Int32 → zMem → Option (Int32 × zMem)
  | 0 => fun _ _ => none
  | n + 1 => fun x1 M => zbX12_calmIn_15 sh k0  (zlX12_calmIn_15 sh k0  n) x1 M
def zX12_calmIn (sh : zShp) (k0 : Nat) (M : zMem) : Option (Int32 × zMem) :=
  if (zI M k0 22) = 0 then (
  some ((-1 : Int32), M))
  else (
  zob (zX12_puts sh k0 M) fun M_12 =>
  zlX12_calmIn_15 sh k0 zF (0 : Int32) M_12)
set_option maxHeartbeats 4000000 in
set_option maxRecDepth 100000 in
theorem ztX12_calmIn (l : Launch) (D : va_G) (cy : Nat → ClassId) (sh : zShp) (ad : Nat → Nat) {k0 : Nat} (h0 : zT sh k0 12) {M : zMem} {r : Int32} {M1 : zMem} (hd : zX12_calmIn sh k0 M = some (r, M1)) : zCI l yX12_calmIn cX12_calmIn 2 .int { frames := 6, cells := 0, slots := 0, locals := 145 } [.ref (ad k0)] D cy sh ad M r M1 := by
  refine zci_of (by decide) (Nat.le_of_ble_eq_true rfl) (fun p e s m below meth c ls F hr hlk hl hw => ?_)
  have hx := F.1.1
  have hb := F.1.2.1
  have hl : lv_has ls 2 [(0, .ref (ad k0))] := hl
  have J55 : ∀ (s0 : Int32) (M : zMem) (H : Heap) (locs : List Loc) (ls : Array Slot), lv_has ls 2 [] → zWd D cy sh ad s M H locs → zjX12_calmIn_55 sh k0  s0 M = some (r, M1) → W p l e { frames := 6, cells := 0, slots := 0, locals := 145 } s m ([.ref (ad k0)] : List Value).toArray below meth c H locs 0 0 (zQI below D cy sh ad s [.ref (ad k0)] r M1) (F0 m 55 ls [.int s0]) := by
    intro  s0 M H locs ls hl hw hd
    unfold zjX12_calmIn_55 at hd
    exact z_iret F hr hlk hw (zpr1 hd) (zpr2 hd) dX12_calmIn_55
  have J39 : ∀ (x1 : Int32) (M : zMem) (H : Heap) (locs : List Loc) (ls : Array Slot), lv_has ls 2 [(0, .ref (ad k0)), (1, .int x1)] → zWd D cy sh ad s M H locs → zjX12_calmIn_39 sh k0  x1 M = some (r, M1) → W p l e { frames := 6, cells := 0, slots := 0, locals := 145 } s m ([.ref (ad k0)] : List Value).toArray below meth c H locs 0 0 (zQI below D cy sh ad s [.ref (ad k0)] r M1) (F0 m 39 ls []) := by
    intro  x1 M H locs ls hl hw hd
    unfold zjX12_calmIn_39 at hd
    refine lv_aload_n hx hb dX12_calmIn_39 rfl (lv_at hl 0 rfl) ?_
    obtain ⟨M_2, hc_1, hd⟩ := zob_some hd
    refine z_cvV F hw hl.1 (As := []) (rest := []) (ztX12_takesBack l D cy sh ad h0 hc_1) zyX12_takesBack h0 zc12 zk12_457 ⟨rfl, rfl⟩ ⟨by decide, by decide⟩ rfl rfl (Nat.le_of_ble_eq_true rfl) dX12_calmIn_40 (fun H locs hw => ?_)
    refine lv_iload_n hx hb dX12_calmIn_43 rfl (lv_at hl 1 rfl) ?_
    refine lv_sipush (v := (2000 : Int32)) hx hb dX12_calmIn_44 (by decide) ?_
    refine lv_icmp_le (tgt := 54) hx hb dX12_calmIn_47 (by decide) (fun c_3 => ?_) (fun c_3 => ?_)
    · have hd := zif_pos c_3 hd
      refine lv_iload_n hx hb dX12_calmIn_54 rfl (lv_at hl 1 rfl) ?_
      exact J55 _ _ _ _ _ (lv_sub hl [] rfl) hw hd
    · have hd := zif_neg c_3 hd
      refine lv_iconst (v := (-1 : Int32)) hx hb dX12_calmIn_50 (by decide) ?_
      refine lv_goto (tgt := 55) hx hb dX12_calmIn_51 (by decide) ?_
      exact J55 _ _ _ _ _ (lv_sub hl [] rfl) hw hd
  have L15 : ∀  (n : Nat), ∀ (x1 : Int32) (M : zMem) (H : Heap) (locs : List Loc) (ls : Array Slot), lv_has ls 2 [(0, .ref (ad k0)), (1, .int x1)] → zWd D cy sh ad s M H locs → zlX12_calmIn_15 sh k0  n x1 M = some (r, M1) → W p l e { frames := 6, cells := 0, slots := 0, locals := 145 } s m ([.ref (ad k0)] : List Value).toArray below meth c H locs 0 0 (zQI below D cy sh ad s [.ref (ad k0)] r M1) (F0 m 15 ls []) := by
    intro  n
    induction n with
    | zero => intro x1 M H locs ls hl hw hd; exact (znone hd).elim
    | succ n hk15 =>
      intro x1 M H locs ls hl hw hd
      have hd : zbX12_calmIn_15 sh k0  (zlX12_calmIn_15 sh k0  n) x1 M = some (r, M1) := hd
      unfold zbX12_calmIn_15 at hd
      refine lv_iload_n hx hb dX12_calmIn_15 rfl (lv_at hl 1 rfl) ?_
      refine lv_sipush (v := (2000 : Int32)) hx hb dX12_calmIn_16 (by decide) ?_
      refine lv_icmp_gt (tgt := 39) hx hb dX12_calmIn_19 (by decide) (fun c_4 => ?_) (fun c_4 => ?_)
      · have hd := zif_pos c_4 hd
        exact J39 _ _ _ _ _ (lv_sub hl [0, 1] rfl) hw hd
      · have hd := zif_neg c_4 hd
        refine lv_aload_n hx hb dX12_calmIn_22 rfl (lv_at hl 0 rfl) ?_
        obtain ⟨r_6, hc_5, hd⟩ := zob_some hd
        refine z_cvI F hw hl.1 (As := []) (rest := []) (ztX12_isSteady l D cy sh ad h0 hc_5) zyX12_isSteady h0 zc12 zk12_460 ⟨rfl, rfl⟩ ⟨by decide, by decide⟩ rfl rfl (Nat.le_of_ble_eq_true rfl) dX12_calmIn_23 (fun H locs hw => ?_)
        refine lv_if_ne (tgt := 39) hx hb dX12_calmIn_26 (by decide) (fun c_7 => ?_) (fun c_7 => ?_)
        · have hd := zif_neg c_7 hd
          exact J39 _ _ _ _ _ (lv_sub hl [0, 1] rfl) hw hd
        · have hd := zif_pos c_7 hd
          refine lv_aload_n hx hb dX12_calmIn_29 rfl (lv_at hl 0 rfl) ?_
          obtain ⟨M_9, hc_8, hd⟩ := zob_some hd
          refine z_cvV F hw hl.1 (As := []) (rest := []) (ztX12_tick l D cy sh ad h0 hc_8) zyX12_tick h0 zc12 zk12_446 ⟨rfl, rfl⟩ ⟨by decide, by decide⟩ rfl rfl (Nat.le_of_ble_eq_true rfl) dX12_calmIn_30 (fun H locs hw => ?_)
          refine lv_iinc (v := (x1 + (1 : Int32))) (lv' := [(1, .int (x1 + (1 : Int32))), (0, .ref (ad k0))]) hx hb dX12_calmIn_33 hl (k := 1) rfl (ziinc (by decide)) (by decide) rfl (fun ls hl => ?_)
          refine lv_goto (tgt := 15) hx hb dX12_calmIn_36 (by decide) ?_
          exact hk15 _ _ _ _ _ (lv_sub hl [1, 0] rfl) hw hd
  unfold zX12_calmIn at hd
  refine lv_aload_n hx hb dX12_calmIn_0 rfl (lv_at hl 0 rfl) ?_
  refine z_gI F hw h0 zc12 22 (by decide) rfl zf12_240 dX12_calmIn_1 ?_
  refine lv_if_ne (tgt := 9) hx hb dX12_calmIn_4 (by decide) (fun c_10 => ?_) (fun c_10 => ?_)
  · have hd := zif_neg c_10 hd
    refine lv_aload_n hx hb dX12_calmIn_9 rfl (lv_at hl 0 rfl) ?_
    obtain ⟨M_12, hc_11, hd⟩ := zob_some hd
    refine z_cvV F hw hl.1 (As := []) (rest := []) (ztX12_puts l D cy sh ad h0 hc_11) zyX12_puts h0 zc12 zk12_454 ⟨rfl, rfl⟩ ⟨by decide, by decide⟩ rfl rfl (Nat.le_of_ble_eq_true rfl) dX12_calmIn_10 (fun H locs hw => ?_)
    refine lv_iconst (v := (0 : Int32)) hx hb dX12_calmIn_13 (by decide) ?_
    refine lv_istore_n (lv' := [(1, .int (0 : Int32)), (0, .ref (ad k0))]) hx hb dX12_calmIn_14 rfl hl (by decide) rfl (fun ls hl => ?_)
    exact L15 zF _ _ _ _ _ (lv_sub hl [1, 0] rfl) hw hd
  · have hd := zif_pos c_10 hd
    refine lv_iconst (v := (-1 : Int32)) hx hb dX12_calmIn_7 (by decide) ?_
    exact z_iret F hr hlk hw (zpr1 hd) (zpr2 hd) dX12_calmIn_8

def zjX12_bears_53 (sh : zShp) (k0 : Nat) (p1 : Int32) (p2 : Int32) (p3 : Int32)  (s0 : Int32) (M : zMem) : Option (Int32 × zMem) :=
  zob (zX12_takesBack sh k0 M) fun M_2 =>
  zgd (zisB s0) <|
  some (s0, M_2)
def zjX12_bears_39 (sh : zShp) (k0 : Nat) (p1 : Int32) (p2 : Int32) (p3 : Int32)  (M : zMem) : Option (Int32 × zMem) :=
  zob (zX12_axisAt sh k0 p1 (5 : Int32) M) fun r_5 =>
  if r_5 = 0 then (
  zjX12_bears_53 sh k0 p1 p2 p3 (1 : Int32) M)
  else (
  zjX12_bears_53 sh k0 p1 p2 p3 (0 : Int32) M)
def zbX12_bears_14 (sh : zShp) (k0 : Nat) (p1 : Int32) (p2 : Int32) (p3 : Int32)  (kk14 : Int32 → zMem → Option (Int32 × zMem)) (x4 : Int32) (M : zMem) : Option (Int32 × zMem) :=
  if p3 ≤ x4 then (
  zjX12_bears_39 sh k0 p1 p2 p3 M)
  else (
  zob (zX12_axisAt sh k0 p1 (5 : Int32) M) fun r_9 =>
  if r_9 = 0 then (
  zob (zX12_tick sh k0 M) fun M_12 =>
  kk14 (x4 + (1 : Int32)) M_12)
  else (
  zjX12_bears_39 sh k0 p1 p2 p3 M))
def zlX12_bears_14 (sh : zShp) (k0 : Nat) (p1 : Int32) (p2 : Int32) (p3 : Int32)  : Nat → Int32 → zMem → Option (Int32 × zMem)
  | 0 => fun _ _ => none
  | n + 1 => fun x4 M => zbX12_bears_14 sh k0 p1 p2 p3  (zlX12_bears_14 sh k0 p1 p2 p3  n) x4 M
def zX12_bears (sh : zShp) (k0 : Nat) (p1 : Int32) (p2 : Int32) (p3 : Int32) (M : zMem) : Option (Int32 × zMem) :=
  zob (zX12_puts sh k0 M) fun M_14 =>
  zob (zX12_setsAxis sh k0 p1 (3 : Int32) p2 M_14) fun M_16 =>
  zlX12_bears_14 sh k0 p1 p2 p3 zF (0 : Int32) M_16
set_option maxHeartbeats 4000000 in
set_option maxRecDepth 100000 in
theorem ztX12_bears (l : Launch) (D : va_G) (cy : Nat → ClassId) (sh : zShp) (ad : Nat → Nat) {k0 : Nat} {p1 : Int32} {p2 : Int32} {p3 : Int32} (h0 : zT sh k0 12) {M : zMem} {r : Int32} {M1 : zMem} (hd : zX12_bears sh k0 p1 p2 p3 M = some (r, M1)) : zCI l yX12_bears cX12_bears 5 .boolean { frames := 6, cells := 0, slots := 0, locals := 145 } [.ref (ad k0), .int p1, .int p2, .int p3] D cy sh ad M r M1 := by
  refine zci_of (by decide) (Nat.le_of_ble_eq_true rfl) (fun p e s m below meth c ls F hr hlk hl hw => ?_)
  have hx := F.1.1
  have hb := F.1.2.1
  have hl : lv_has ls 5 [(0, .ref (ad k0)), (1, .int p1), (2, .int p2), (3, .int p3)] := hl
  have J53 : ∀ (s0 : Int32) (M : zMem) (H : Heap) (locs : List Loc) (ls : Array Slot), lv_has ls 5 [(0, .ref (ad k0))] → zWd D cy sh ad s M H locs → zjX12_bears_53 sh k0 p1 p2 p3  s0 M = some (r, M1) → W p l e { frames := 6, cells := 0, slots := 0, locals := 145 } s m ([.ref (ad k0), .int p1, .int p2, .int p3] : List Value).toArray below meth c H locs 0 0 (zQI below D cy sh ad s [.ref (ad k0), .int p1, .int p2, .int p3] r M1) (F0 m 53 ls [.int s0]) := by
    intro  s0 M H locs ls hl hw hd
    unfold zjX12_bears_53 at hd
    refine lv_istore (lv' := [(4, .int s0), (0, .ref (ad k0))]) hx hb dX12_bears_53 hl (by decide) rfl (fun ls hl => ?_)
    refine lv_aload_n hx hb dX12_bears_55 rfl (lv_at hl 1 rfl) ?_
    obtain ⟨M_2, hc_1, hd⟩ := zob_some hd
    refine z_cvV F hw hl.1 (As := []) (rest := []) (ztX12_takesBack l D cy sh ad h0 hc_1) zyX12_takesBack h0 zc12 zk12_457 ⟨rfl, rfl⟩ ⟨by decide, by decide⟩ rfl rfl (Nat.le_of_ble_eq_true rfl) dX12_bears_56 (fun H locs hw => ?_)
    refine lv_iload hx hb dX12_bears_59 (lv_at hl 0 rfl) ?_
    obtain ⟨g_3, hd⟩ := zgd_some hd
    exact z_zret F hr hlk hw g_3 (zpr1 hd) (zpr2 hd) dX12_bears_61
  have J39 : ∀ (M : zMem) (H : Heap) (locs : List Loc) (ls : Array Slot), lv_has ls 5 [(0, .ref (ad k0)), (1, .int p1)] → zWd D cy sh ad s M H locs → zjX12_bears_39 sh k0 p1 p2 p3  M = some (r, M1) → W p l e { frames := 6, cells := 0, slots := 0, locals := 145 } s m ([.ref (ad k0), .int p1, .int p2, .int p3] : List Value).toArray below meth c H locs 0 0 (zQI below D cy sh ad s [.ref (ad k0), .int p1, .int p2, .int p3] r M1) (F0 m 39 ls []) := by
    intro  M H locs ls hl hw hd
    unfold zjX12_bears_39 at hd
    refine lv_aload_n hx hb dX12_bears_39 rfl (lv_at hl 0 rfl) ?_
    refine lv_iload_n hx hb dX12_bears_40 rfl (lv_at hl 1 rfl) ?_
    refine lv_iconst (v := (5 : Int32)) hx hb dX12_bears_41 (by decide) ?_
    obtain ⟨r_5, hc_4, hd⟩ := zob_some hd
    refine z_cvI F hw hl.1 (As := [.int p1, .int (5 : Int32)]) (rest := []) (ztX12_axisAt l D cy sh ad h0 hc_4) zyX12_axisAt h0 zc12 zk12_338 ⟨rfl, rfl⟩ ⟨by decide, by decide⟩ rfl rfl (Nat.le_of_ble_eq_true rfl) dX12_bears_42 (fun H locs hw => ?_)
    refine lv_if_ne (tgt := 52) hx hb dX12_bears_45 (by decide) (fun c_6 => ?_) (fun c_6 => ?_)
    · have hd := zif_neg c_6 hd
      refine lv_iconst (v := (0 : Int32)) hx hb dX12_bears_52 (by decide) ?_
      exact J53 _ _ _ _ _ (lv_sub hl [0] rfl) hw hd
    · have hd := zif_pos c_6 hd
      refine lv_iconst (v := (1 : Int32)) hx hb dX12_bears_48 (by decide) ?_
      refine lv_goto (tgt := 53) hx hb dX12_bears_49 (by decide) ?_
      exact J53 _ _ _ _ _ (lv_sub hl [0] rfl) hw hd
  have L14 : ∀  (n : Nat), ∀ (x4 : Int32) (M : zMem) (H : Heap) (locs : List Loc) (ls : Array Slot), lv_has ls 5 [(0, .ref (ad k0)), (1, .int p1), (3, .int p3), (4, .int x4)] → zWd D cy sh ad s M H locs → zlX12_bears_14 sh k0 p1 p2 p3  n x4 M = some (r, M1) → W p l e { frames := 6, cells := 0, slots := 0, locals := 145 } s m ([.ref (ad k0), .int p1, .int p2, .int p3] : List Value).toArray below meth c H locs 0 0 (zQI below D cy sh ad s [.ref (ad k0), .int p1, .int p2, .int p3] r M1) (F0 m 14 ls []) := by
    intro  n
    induction n with
    | zero => intro x4 M H locs ls hl hw hd; exact (znone hd).elim
    | succ n hk14 =>
      intro x4 M H locs ls hl hw hd
      have hd : zbX12_bears_14 sh k0 p1 p2 p3  (zlX12_bears_14 sh k0 p1 p2 p3  n) x4 M = some (r, M1) := hd
      unfold zbX12_bears_14 at hd
      refine lv_iload hx hb dX12_bears_14 (lv_at hl 3 rfl) ?_
      refine lv_iload_n hx hb dX12_bears_16 rfl (lv_at hl 2 rfl) ?_
      refine lv_icmp_ge (tgt := 39) hx hb dX12_bears_17 (by decide) (fun c_7 => ?_) (fun c_7 => ?_)
      · have hd := zif_pos c_7 hd
        exact J39 _ _ _ _ (lv_sub hl [0, 1] rfl) hw hd
      · have hd := zif_neg c_7 hd
        refine lv_aload_n hx hb dX12_bears_20 rfl (lv_at hl 0 rfl) ?_
        refine lv_iload_n hx hb dX12_bears_21 rfl (lv_at hl 1 rfl) ?_
        refine lv_iconst (v := (5 : Int32)) hx hb dX12_bears_22 (by decide) ?_
        obtain ⟨r_9, hc_8, hd⟩ := zob_some hd
        refine z_cvI F hw hl.1 (As := [.int p1, .int (5 : Int32)]) (rest := []) (ztX12_axisAt l D cy sh ad h0 hc_8) zyX12_axisAt h0 zc12 zk12_338 ⟨rfl, rfl⟩ ⟨by decide, by decide⟩ rfl rfl (Nat.le_of_ble_eq_true rfl) dX12_bears_23 (fun H locs hw => ?_)
        refine lv_if_ne (tgt := 39) hx hb dX12_bears_26 (by decide) (fun c_10 => ?_) (fun c_10 => ?_)
        · have hd := zif_neg c_10 hd
          exact J39 _ _ _ _ (lv_sub hl [0, 1] rfl) hw hd
        · have hd := zif_pos c_10 hd
          refine lv_aload_n hx hb dX12_bears_29 rfl (lv_at hl 0 rfl) ?_
          obtain ⟨M_12, hc_11, hd⟩ := zob_some hd
          refine z_cvV F hw hl.1 (As := []) (rest := []) (ztX12_tick l D cy sh ad h0 hc_11) zyX12_tick h0 zc12 zk12_446 ⟨rfl, rfl⟩ ⟨by decide, by decide⟩ rfl rfl (Nat.le_of_ble_eq_true rfl) dX12_bears_30 (fun H locs hw => ?_)
          refine lv_iinc (v := (x4 + (1 : Int32))) (lv' := [(4, .int (x4 + (1 : Int32))), (0, .ref (ad k0)), (1, .int p1), (3, .int p3)]) hx hb dX12_bears_33 hl (k := 3) rfl (ziinc (by decide)) (by decide) rfl (fun ls hl => ?_)
          refine lv_goto (tgt := 14) hx hb dX12_bears_36 (by decide) ?_
          exact hk14 _ _ _ _ _ (lv_sub hl [1, 2, 3, 0] rfl) hw hd
  unfold zX12_bears at hd
  refine lv_aload_n hx hb dX12_bears_0 rfl (lv_at hl 0 rfl) ?_
  obtain ⟨M_14, hc_13, hd⟩ := zob_some hd
  refine z_cvV F hw hl.1 (As := []) (rest := []) (ztX12_puts l D cy sh ad h0 hc_13) zyX12_puts h0 zc12 zk12_454 ⟨rfl, rfl⟩ ⟨by decide, by decide⟩ rfl rfl (Nat.le_of_ble_eq_true rfl) dX12_bears_1 (fun H locs hw => ?_)
  refine lv_aload_n hx hb dX12_bears_4 rfl (lv_at hl 0 rfl) ?_
  refine lv_iload_n hx hb dX12_bears_5 rfl (lv_at hl 1 rfl) ?_
  refine lv_iconst (v := (3 : Int32)) hx hb dX12_bears_6 (by decide) ?_
  refine lv_iload_n hx hb dX12_bears_7 rfl (lv_at hl 2 rfl) ?_
  obtain ⟨M_16, hc_15, hd⟩ := zob_some hd
  refine z_cvV F hw hl.1 (As := [.int p1, .int (3 : Int32), .int p2]) (rest := []) (ztX12_setsAxis l D cy sh ad h0 hc_15) zyX12_setsAxis h0 zc12 zk12_411 ⟨rfl, rfl⟩ ⟨by decide, by decide⟩ rfl rfl (Nat.le_of_ble_eq_true rfl) dX12_bears_8 (fun H locs hw => ?_)
  refine lv_iconst (v := (0 : Int32)) hx hb dX12_bears_11 (by decide) ?_
  refine lv_istore (lv' := [(4, .int (0 : Int32)), (0, .ref (ad k0)), (1, .int p1), (2, .int p2), (3, .int p3)]) hx hb dX12_bears_12 hl (by decide) rfl (fun ls hl => ?_)
  exact L14 zF _ _ _ _ _ (lv_sub hl [1, 2, 4, 0] rfl) hw hd

def zjX12_carries_20 (sh : zShp) (k0 : Nat) (p1 : Int32) (p2 : Int32)  (M : zMem) : Option (Int32 × zMem) :=
  some ((-1 : Int32), M)
def zbX12_carries_26 (sh : zShp) (k0 : Nat) (p1 : Int32) (p2 : Int32)  (kk26 : Int32 → zMem → Option (Int32 × zMem)) (x3 : Int32) (M : zMem) : Option (Int32 × zMem) :=
  if x3 < 0 then (
  some ((-1 : Int32), M))
  else (
  zob2 (zX12_bears sh k0 p1 x3 p2 M) fun r_3 M_4 =>
  if r_3 = 0 then (
  kk26 (x3 + (-1 : Int32)) M_4)
  else (
  some (x3, M_4)))
def zlX12_carries_26 (sh : zShp) (k0 : Nat) (p1 : Int32) (p2 : Int32)  : Nat → Int32 → zMem → Option (Int32 × zMem)
  | 0 => fun _ _ => none
  | n + 1 => fun x3 M => zbX12_carries_26 sh k0 p1 p2  (zlX12_carries_26 sh k0 p1 p2  n) x3 M
def zX12_carries (sh : zShp) (k0 : Nat) (p1 : Int32) (p2 : Int32) (M : zMem) : Option (Int32 × zMem) :=
  zob (zX12_isAxis sh k0 p1 M) fun r_7 =>
  if r_7 = 0 then (
  zjX12_carries_20 sh k0 p1 p2 M)
  else (
  zob (zX12_isIn sh (p2.toInt64) (1 : Int64) (200 : Int64) M) fun r_10 =>
  if r_10 = 0 then (
  zjX12_carries_20 sh k0 p1 p2 M)
  else (
  zlX12_carries_26 sh k0 p1 p2 zF (2000 : Int32) M))
set_option maxHeartbeats 4000000 in
set_option maxRecDepth 100000 in
theorem ztX12_carries (l : Launch) (D : va_G) (cy : Nat → ClassId) (sh : zShp) (ad : Nat → Nat) {k0 : Nat} {p1 : Int32} {p2 : Int32} (h0 : zT sh k0 12) {M : zMem} {r : Int32} {M1 : zMem} (hd : zX12_carries sh k0 p1 p2 M = some (r, M1)) : zCI l yX12_carries cX12_carries 4 .int { frames := 7, cells := 0, slots := 0, locals := 169 } [.ref (ad k0), .int p1, .int p2] D cy sh ad M r M1 := by
  refine zci_of (by decide) (Nat.le_of_ble_eq_true rfl) (fun p e s m below meth c ls F hr hlk hl hw => ?_)
  have hx := F.1.1
  have hb := F.1.2.1
  have hl : lv_has ls 4 [(0, .ref (ad k0)), (1, .int p1), (2, .int p2)] := hl
  have J20 : ∀ (M : zMem) (H : Heap) (locs : List Loc) (ls : Array Slot), lv_has ls 4 [] → zWd D cy sh ad s M H locs → zjX12_carries_20 sh k0 p1 p2  M = some (r, M1) → W p l e { frames := 7, cells := 0, slots := 0, locals := 169 } s m ([.ref (ad k0), .int p1, .int p2] : List Value).toArray below meth c H locs 0 0 (zQI below D cy sh ad s [.ref (ad k0), .int p1, .int p2] r M1) (F0 m 20 ls []) := by
    intro  M H locs ls hl hw hd
    unfold zjX12_carries_20 at hd
    refine lv_iconst (v := (-1 : Int32)) hx hb dX12_carries_20 (by decide) ?_
    exact z_iret F hr hlk hw (zpr1 hd) (zpr2 hd) dX12_carries_21
  have L26 : ∀  (n : Nat), ∀ (x3 : Int32) (M : zMem) (H : Heap) (locs : List Loc) (ls : Array Slot), lv_has ls 4 [(0, .ref (ad k0)), (1, .int p1), (2, .int p2), (3, .int x3)] → zWd D cy sh ad s M H locs → zlX12_carries_26 sh k0 p1 p2  n x3 M = some (r, M1) → W p l e { frames := 7, cells := 0, slots := 0, locals := 169 } s m ([.ref (ad k0), .int p1, .int p2] : List Value).toArray below meth c H locs 0 0 (zQI below D cy sh ad s [.ref (ad k0), .int p1, .int p2] r M1) (F0 m 26 ls []) := by
    intro  n
    induction n with
    | zero => intro x3 M H locs ls hl hw hd; exact (znone hd).elim
    | succ n hk26 =>
      intro x3 M H locs ls hl hw hd
      have hd : zbX12_carries_26 sh k0 p1 p2  (zlX12_carries_26 sh k0 p1 p2  n) x3 M = some (r, M1) := hd
      unfold zbX12_carries_26 at hd
      refine lv_iload_n hx hb dX12_carries_26 rfl (lv_at hl 3 rfl) ?_
      refine lv_if_lt (tgt := 48) hx hb dX12_carries_27 (by decide) (fun c_1 => ?_) (fun c_1 => ?_)
      · have hd := zif_pos c_1 hd
        refine lv_iconst (v := (-1 : Int32)) hx hb dX12_carries_48 (by decide) ?_
        exact z_iret F hr hlk hw (zpr1 hd) (zpr2 hd) dX12_carries_49
      · have hd := zif_neg c_1 hd
        refine lv_aload_n hx hb dX12_carries_30 rfl (lv_at hl 0 rfl) ?_
        refine lv_iload_n hx hb dX12_carries_31 rfl (lv_at hl 1 rfl) ?_
        refine lv_iload_n hx hb dX12_carries_32 rfl (lv_at hl 3 rfl) ?_
        refine lv_iload_n hx hb dX12_carries_33 rfl (lv_at hl 2 rfl) ?_
        obtain ⟨r_3, M_4, hc_2, hd⟩ := zob2_some hd
        refine z_cvI F hw hl.1 (As := [.int p1, .int x3, .int p2]) (rest := []) (ztX12_bears l D cy sh ad h0 hc_2) zyX12_bears h0 zc12 zk12_465 ⟨rfl, rfl⟩ ⟨by decide, by decide⟩ rfl rfl (Nat.le_of_ble_eq_true rfl) dX12_carries_34 (fun H locs hw => ?_)
        refine lv_if_eq (tgt := 42) hx hb dX12_carries_37 (by decide) (fun c_5 => ?_) (fun c_5 => ?_)
        · have hd := zif_pos c_5 hd
          refine lv_iinc (v := (x3 + (-1 : Int32))) (lv' := [(3, .int (x3 + (-1 : Int32))), (0, .ref (ad k0)), (1, .int p1), (2, .int p2)]) hx hb dX12_carries_42 hl (k := 3) rfl (ziinc (by decide)) (by decide) rfl (fun ls hl => ?_)
          refine lv_goto (tgt := 26) hx hb dX12_carries_45 (by decide) ?_
          exact hk26 _ _ _ _ _ (lv_sub hl [1, 2, 3, 0] rfl) hw hd
        · have hd := zif_neg c_5 hd
          refine lv_iload_n hx hb dX12_carries_40 rfl (lv_at hl 3 rfl) ?_
          exact z_iret F hr hlk hw (zpr1 hd) (zpr2 hd) dX12_carries_41
  unfold zX12_carries at hd
  refine lv_aload_n hx hb dX12_carries_0 rfl (lv_at hl 0 rfl) ?_
  refine lv_iload_n hx hb dX12_carries_1 rfl (lv_at hl 1 rfl) ?_
  obtain ⟨r_7, hc_6, hd⟩ := zob_some hd
  refine z_cvI F hw hl.1 (As := [.int p1]) (rest := []) (ztX12_isAxis l D cy sh ad h0 hc_6) zyX12_isAxis h0 zc12 zk12_312 ⟨rfl, rfl⟩ ⟨by decide, by decide⟩ rfl rfl (Nat.le_of_ble_eq_true rfl) dX12_carries_2 (fun H locs hw => ?_)
  refine lv_if_eq (tgt := 20) hx hb dX12_carries_5 (by decide) (fun c_8 => ?_) (fun c_8 => ?_)
  · have hd := zif_pos c_8 hd
    exact J20 _ _ _ _ (lv_sub hl [] rfl) hw hd
  · have hd := zif_neg c_8 hd
    refine lv_iload_n hx hb dX12_carries_8 rfl (lv_at hl 2 rfl) ?_
    refine lv_i2l (v := p2.toInt64) hx hb dX12_carries_9 rfl ?_
    refine lv_lconst (v := (1 : Int64)) hx hb dX12_carries_10 (by decide) ?_
    refine lv_ldc2 (v := (200 : Int64)) hx hb F.1.2.2.2.1 (F.1.2.2.2.2 _ zi12_463) dX12_carries_11 ?_
    obtain ⟨r_10, hc_9, hd⟩ := zob_some hd
    refine z_csI F hw hl.1 (As := [.long (p2.toInt64), .long (1 : Int64), .long (200 : Int64)]) (rest := []) (ztX12_isIn l D cy sh ad  hc_9) zyX12_isIn zk12_91 ⟨rfl, rfl⟩ ⟨by decide, by decide⟩ rfl rfl (Nat.le_of_ble_eq_true rfl) dX12_carries_14 (fun H locs hw => ?_)
    refine lv_if_ne (tgt := 22) hx hb dX12_carries_17 (by decide) (fun c_11 => ?_) (fun c_11 => ?_)
    · have hd := zif_neg c_11 hd
      refine lv_sipush (v := (2000 : Int32)) hx hb dX12_carries_22 (by decide) ?_
      refine lv_istore_n (lv' := [(3, .int (2000 : Int32)), (0, .ref (ad k0)), (1, .int p1), (2, .int p2)]) hx hb dX12_carries_25 rfl hl (by decide) rfl (fun ls hl => ?_)
      exact L26 zF _ _ _ _ _ (lv_sub hl [1, 2, 3, 0] rfl) hw hd
    · have hd := zif_pos c_11 hd
      exact J20 _ _ _ _ (lv_sub hl [] rfl) hw hd

def zjX12_strain_20 (sh : zShp) (k0 : Nat) (p1 : Int32) (p2 : Int32)  (M : zMem) : Option (Int32 × zMem) :=
  some ((-1 : Int32), M)
def zbX12_strain_31 (sh : zShp) (k0 : Nat) (p1 : Int32) (p2 : Int32)  (kk31 : Int32 → Int32 → zMem → Option (Int32 × zMem)) (x3 : Int32) (x4 : Int32) (M : zMem) : Option (Int32 × zMem) :=
  if p2 ≤ x4 then (
  zob (zX12_takesBack sh k0 M) fun M_3 =>
  some (x3, M_3))
  else (
  zob (zX12_tick sh k0 M) fun M_5 =>
  zob (zX12_angle sh k0 p1 M_5) fun r_7 =>
  zob (zX12_size sh r_7 M_5) fun r_9 =>
  zob (zX12_greater sh x3 r_9 M_5) fun r_11 =>
  kk31 r_11 (x4 + (1 : Int32)) M_5)
def zlX12_strain_31 (sh : zShp) (k0 : Nat) (p1 : Int32) (p2 : Int32)  : Nat → Int32 → Int32 → zMem → Option (Int32 × zMem)
  | 0 => fun _ _ _ => none
  | n + 1 => fun x3 x4 M => zbX12_strain_31 sh k0 p1 p2  (zlX12_strain_31 sh k0 p1 p2  n) x3 x4 M
def zX12_strain (sh : zShp) (k0 : Nat) (p1 : Int32) (p2 : Int32) (M : zMem) : Option (Int32 × zMem) :=
  zob (zX12_isAxis sh k0 p1 M) fun r_13 =>
  if r_13 = 0 then (
  zjX12_strain_20 sh k0 p1 p2 M)
  else (
  zob (zX12_isIn sh (p2.toInt64) (1 : Int64) (1000 : Int64) M) fun r_16 =>
  if r_16 = 0 then (
  zjX12_strain_20 sh k0 p1 p2 M)
  else (
  zob (zX12_puts sh k0 M) fun M_19 =>
  zlX12_strain_31 sh k0 p1 p2 zF (0 : Int32) (0 : Int32) M_19))
set_option maxHeartbeats 4000000 in
set_option maxRecDepth 100000 in
theorem ztX12_strain (l : Launch) (D : va_G) (cy : Nat → ClassId) (sh : zShp) (ad : Nat → Nat) {k0 : Nat} {p1 : Int32} {p2 : Int32} (h0 : zT sh k0 12) {M : zMem} {r : Int32} {M1 : zMem} (hd : zX12_strain sh k0 p1 p2 M = some (r, M1)) : zCI l yX12_strain cX12_strain 5 .int { frames := 6, cells := 0, slots := 0, locals := 145 } [.ref (ad k0), .int p1, .int p2] D cy sh ad M r M1 := by
  refine zci_of (by decide) (Nat.le_of_ble_eq_true rfl) (fun p e s m below meth c ls F hr hlk hl hw => ?_)
  have hx := F.1.1
  have hb := F.1.2.1
  have hl : lv_has ls 5 [(0, .ref (ad k0)), (1, .int p1), (2, .int p2)] := hl
  have J20 : ∀ (M : zMem) (H : Heap) (locs : List Loc) (ls : Array Slot), lv_has ls 5 [] → zWd D cy sh ad s M H locs → zjX12_strain_20 sh k0 p1 p2  M = some (r, M1) → W p l e { frames := 6, cells := 0, slots := 0, locals := 145 } s m ([.ref (ad k0), .int p1, .int p2] : List Value).toArray below meth c H locs 0 0 (zQI below D cy sh ad s [.ref (ad k0), .int p1, .int p2] r M1) (F0 m 20 ls []) := by
    intro  M H locs ls hl hw hd
    unfold zjX12_strain_20 at hd
    refine lv_iconst (v := (-1 : Int32)) hx hb dX12_strain_20 (by decide) ?_
    exact z_iret F hr hlk hw (zpr1 hd) (zpr2 hd) dX12_strain_21
  have L31 : ∀  (n : Nat), ∀ (x3 : Int32) (x4 : Int32) (M : zMem) (H : Heap) (locs : List Loc) (ls : Array Slot), lv_has ls 5 [(0, .ref (ad k0)), (1, .int p1), (2, .int p2), (3, .int x3), (4, .int x4)] → zWd D cy sh ad s M H locs → zlX12_strain_31 sh k0 p1 p2  n x3 x4 M = some (r, M1) → W p l e { frames := 6, cells := 0, slots := 0, locals := 145 } s m ([.ref (ad k0), .int p1, .int p2] : List Value).toArray below meth c H locs 0 0 (zQI below D cy sh ad s [.ref (ad k0), .int p1, .int p2] r M1) (F0 m 31 ls []) := by
    intro  n
    induction n with
    | zero => intro x3 x4 M H locs ls hl hw hd; exact (znone hd).elim
    | succ n hk31 =>
      intro x3 x4 M H locs ls hl hw hd
      have hd : zbX12_strain_31 sh k0 p1 p2  (zlX12_strain_31 sh k0 p1 p2  n) x3 x4 M = some (r, M1) := hd
      unfold zbX12_strain_31 at hd
      refine lv_iload hx hb dX12_strain_31 (lv_at hl 4 rfl) ?_
      refine lv_iload_n hx hb dX12_strain_33 rfl (lv_at hl 2 rfl) ?_
      refine lv_icmp_ge (tgt := 60) hx hb dX12_strain_34 (by decide) (fun c_1 => ?_) (fun c_1 => ?_)
      · have hd := zif_pos c_1 hd
        refine lv_aload_n hx hb dX12_strain_60 rfl (lv_at hl 0 rfl) ?_
        obtain ⟨M_3, hc_2, hd⟩ := zob_some hd
        refine z_cvV F hw hl.1 (As := []) (rest := []) (ztX12_takesBack l D cy sh ad h0 hc_2) zyX12_takesBack h0 zc12 zk12_457 ⟨rfl, rfl⟩ ⟨by decide, by decide⟩ rfl rfl (Nat.le_of_ble_eq_true rfl) dX12_strain_61 (fun H locs hw => ?_)
        refine lv_iload_n hx hb dX12_strain_64 rfl (lv_at hl 3 rfl) ?_
        exact z_iret F hr hlk hw (zpr1 hd) (zpr2 hd) dX12_strain_65
      · have hd := zif_neg c_1 hd
        refine lv_aload_n hx hb dX12_strain_37 rfl (lv_at hl 0 rfl) ?_
        obtain ⟨M_5, hc_4, hd⟩ := zob_some hd
        refine z_cvV F hw hl.1 (As := []) (rest := []) (ztX12_tick l D cy sh ad h0 hc_4) zyX12_tick h0 zc12 zk12_446 ⟨rfl, rfl⟩ ⟨by decide, by decide⟩ rfl rfl (Nat.le_of_ble_eq_true rfl) dX12_strain_38 (fun H locs hw => ?_)
        refine lv_iload_n hx hb dX12_strain_41 rfl (lv_at hl 3 rfl) ?_
        refine lv_aload_n hx hb dX12_strain_42 rfl (lv_at hl 0 rfl) ?_
        refine lv_iload_n hx hb dX12_strain_43 rfl (lv_at hl 1 rfl) ?_
        obtain ⟨r_7, hc_6, hd⟩ := zob_some hd
        refine z_cvI F hw hl.1 (As := [.int p1]) (rest := [.int x3]) (ztX12_angle l D cy sh ad h0 hc_6) zyX12_angle h0 zc12 zk12_429 ⟨rfl, rfl⟩ ⟨by decide, by decide⟩ rfl rfl (Nat.le_of_ble_eq_true rfl) dX12_strain_44 (fun H locs hw => ?_)
        obtain ⟨r_9, hc_8, hd⟩ := zob_some hd
        refine z_csI F hw hl.1 (As := [.int r_7]) (rest := [.int x3]) (ztX12_size l D cy sh ad  hc_8) zyX12_size zk12_273 ⟨rfl, rfl⟩ ⟨by decide, by decide⟩ rfl rfl (Nat.le_of_ble_eq_true rfl) dX12_strain_47 (fun H locs hw => ?_)
        obtain ⟨r_11, hc_10, hd⟩ := zob_some hd
        refine z_csI F hw hl.1 (As := [.int x3, .int r_9]) (rest := []) (ztX12_greater l D cy sh ad  hc_10) zyX12_greater zk12_318 ⟨rfl, rfl⟩ ⟨by decide, by decide⟩ rfl rfl (Nat.le_of_ble_eq_true rfl) dX12_strain_50 (fun H locs hw => ?_)
        refine lv_istore_n (lv' := [(3, .int r_11), (0, .ref (ad k0)), (1, .int p1), (2, .int p2), (4, .int x4)]) hx hb dX12_strain_53 rfl hl (by decide) rfl (fun ls hl => ?_)
        refine lv_iinc (v := (x4 + (1 : Int32))) (lv' := [(4, .int (x4 + (1 : Int32))), (3, .int r_11), (0, .ref (ad k0)), (1, .int p1), (2, .int p2)]) hx hb dX12_strain_54 hl (k := 4) rfl (ziinc (by decide)) (by decide) rfl (fun ls hl => ?_)
        refine lv_goto (tgt := 31) hx hb dX12_strain_57 (by decide) ?_
        exact hk31 _ _ _ _ _ _ (lv_sub hl [2, 3, 4, 1, 0] rfl) hw hd
  unfold zX12_strain at hd
  refine lv_aload_n hx hb dX12_strain_0 rfl (lv_at hl 0 rfl) ?_
  refine lv_iload_n hx hb dX12_strain_1 rfl (lv_at hl 1 rfl) ?_
  obtain ⟨r_13, hc_12, hd⟩ := zob_some hd
  refine z_cvI F hw hl.1 (As := [.int p1]) (rest := []) (ztX12_isAxis l D cy sh ad h0 hc_12) zyX12_isAxis h0 zc12 zk12_312 ⟨rfl, rfl⟩ ⟨by decide, by decide⟩ rfl rfl (Nat.le_of_ble_eq_true rfl) dX12_strain_2 (fun H locs hw => ?_)
  refine lv_if_eq (tgt := 20) hx hb dX12_strain_5 (by decide) (fun c_14 => ?_) (fun c_14 => ?_)
  · have hd := zif_pos c_14 hd
    exact J20 _ _ _ _ (lv_sub hl [] rfl) hw hd
  · have hd := zif_neg c_14 hd
    refine lv_iload_n hx hb dX12_strain_8 rfl (lv_at hl 2 rfl) ?_
    refine lv_i2l (v := p2.toInt64) hx hb dX12_strain_9 rfl ?_
    refine lv_lconst (v := (1 : Int64)) hx hb dX12_strain_10 (by decide) ?_
    refine lv_ldc2 (v := (1000 : Int64)) hx hb F.1.2.2.2.1 (F.1.2.2.2.2 _ zi12_421) dX12_strain_11 ?_
    obtain ⟨r_16, hc_15, hd⟩ := zob_some hd
    refine z_csI F hw hl.1 (As := [.long (p2.toInt64), .long (1 : Int64), .long (1000 : Int64)]) (rest := []) (ztX12_isIn l D cy sh ad  hc_15) zyX12_isIn zk12_91 ⟨rfl, rfl⟩ ⟨by decide, by decide⟩ rfl rfl (Nat.le_of_ble_eq_true rfl) dX12_strain_14 (fun H locs hw => ?_)
    refine lv_if_ne (tgt := 22) hx hb dX12_strain_17 (by decide) (fun c_17 => ?_) (fun c_17 => ?_)
    · have hd := zif_neg c_17 hd
      refine lv_aload_n hx hb dX12_strain_22 rfl (lv_at hl 0 rfl) ?_
      obtain ⟨M_19, hc_18, hd⟩ := zob_some hd
      refine z_cvV F hw hl.1 (As := []) (rest := []) (ztX12_puts l D cy sh ad h0 hc_18) zyX12_puts h0 zc12 zk12_454 ⟨rfl, rfl⟩ ⟨by decide, by decide⟩ rfl rfl (Nat.le_of_ble_eq_true rfl) dX12_strain_23 (fun H locs hw => ?_)
      refine lv_iconst (v := (0 : Int32)) hx hb dX12_strain_26 (by decide) ?_
      refine lv_istore_n (lv' := [(3, .int (0 : Int32)), (0, .ref (ad k0)), (1, .int p1), (2, .int p2)]) hx hb dX12_strain_27 rfl hl (by decide) rfl (fun ls hl => ?_)
      refine lv_iconst (v := (0 : Int32)) hx hb dX12_strain_28 (by decide) ?_
      refine lv_istore (lv' := [(4, .int (0 : Int32)), (3, .int (0 : Int32)), (0, .ref (ad k0)), (1, .int p1), (2, .int p2)]) hx hb dX12_strain_29 hl (by decide) rfl (fun ls hl => ?_)
      exact L31 zF _ _ _ _ _ _ (lv_sub hl [2, 3, 4, 1, 0] rfl) hw hd
    · have hd := zif_pos c_17 hd
      exact J20 _ _ _ _ (lv_sub hl [] rfl) hw hd

def zbX12_shakeOf_15 (sh : zShp) (k0 : Nat) (p1 : Int32) (p2 : Int32) (p3 : Int32) (M : zMem)  (kk15 : Int32 → Int32 → Int32 → Int32 → Int32 → Option (Int32)) (x4 : Int32) (x5 : Int32) (x6 : Int32) (x7 : Int32) (x8 : Int32) : Option (Int32) :=
  if p3 ≤ x8 then (
  some x7)
  else (
  zob (zX12_angleBy sh (x4 + p2) x5 M) fun r_3 =>
  zob (zX12_axisAt sh k0 p1 (3 : Int32) M) fun r_5 =>
  zob (zX12_swung sh k0 p1 r_3 x6 r_5 M) fun r_7 =>
  zob (zX12_angleBy sh (x4 + p2) (x5 + r_7) M) fun r_9 =>
  zob (zX12_size sh r_9 M) fun r_11 =>
  zob (zX12_greater sh x7 r_11 M) fun r_13 =>
  kk15 (x4 + p2) (x5 + r_7) r_7 r_13 (x8 + (1 : Int32)))
def zlX12_shakeOf_15 (sh : zShp) (k0 : Nat) (p1 : Int32) (p2 : Int32) (p3 : Int32) (M : zMem)  : Nat → Int32 → Int32 → Int32 → Int32 → Int32 → Option (Int32)
  | 0 => fun _ _ _ _ _ => none
  | n + 1 => fun x4 x5 x6 x7 x8 => zbX12_shakeOf_15 sh k0 p1 p2 p3 M  (zlX12_shakeOf_15 sh k0 p1 p2 p3 M  n) x4 x5 x6 x7 x8
def zX12_shakeOf (sh : zShp) (k0 : Nat) (p1 : Int32) (p2 : Int32) (p3 : Int32) (M : zMem) : Option (Int32) :=
  zlX12_shakeOf_15 sh k0 p1 p2 p3 M zF (0 : Int32) (0 : Int32) (0 : Int32) (0 : Int32) (0 : Int32)
set_option maxHeartbeats 4000000 in
set_option maxRecDepth 100000 in
theorem ztX12_shakeOf (l : Launch) (D : va_G) (cy : Nat → ClassId) (sh : zShp) (ad : Nat → Nat) {k0 : Nat} {p1 : Int32} {p2 : Int32} {p3 : Int32} (h0 : zT sh k0 12) {M : zMem} {r : Int32} (hd : zX12_shakeOf sh k0 p1 p2 p3 M = some r) : zCI l yX12_shakeOf cX12_shakeOf 9 .int { frames := 4, cells := 0, slots := 0, locals := 95 } [.ref (ad k0), .int p1, .int p2, .int p3] D cy sh ad M r M := by
  refine zci_of (by decide) (Nat.le_of_ble_eq_true rfl) (fun p e s m below meth c ls F hr hlk hl hw => ?_)
  have hx := F.1.1
  have hb := F.1.2.1
  have hl : lv_has ls 9 [(0, .ref (ad k0)), (1, .int p1), (2, .int p2), (3, .int p3)] := hl
  have L15 : ∀  (n : Nat), ∀ (x4 : Int32) (x5 : Int32) (x6 : Int32) (x7 : Int32) (x8 : Int32) (H : Heap) (locs : List Loc) (ls : Array Slot), lv_has ls 9 [(0, .ref (ad k0)), (1, .int p1), (2, .int p2), (3, .int p3), (4, .int x4), (5, .int x5), (6, .int x6), (7, .int x7), (8, .int x8)] → zWd D cy sh ad s M H locs → zlX12_shakeOf_15 sh k0 p1 p2 p3 M  n x4 x5 x6 x7 x8 = some r → W p l e { frames := 4, cells := 0, slots := 0, locals := 95 } s m ([.ref (ad k0), .int p1, .int p2, .int p3] : List Value).toArray below meth c H locs 0 0 (zQI below D cy sh ad s [.ref (ad k0), .int p1, .int p2, .int p3] r M) (F0 m 15 ls []) := by
    intro  n
    induction n with
    | zero => intro x4 x5 x6 x7 x8 H locs ls hl hw hd; exact (znone hd).elim
    | succ n hk15 =>
      intro x4 x5 x6 x7 x8 H locs ls hl hw hd
      have hd : zbX12_shakeOf_15 sh k0 p1 p2 p3 M  (zlX12_shakeOf_15 sh k0 p1 p2 p3 M  n) x4 x5 x6 x7 x8 = some r := hd
      unfold zbX12_shakeOf_15 at hd
      refine lv_iload hx hb dX12_shakeOf_15 (lv_at hl 8 rfl) ?_
      refine lv_iload_n hx hb dX12_shakeOf_17 rfl (lv_at hl 3 rfl) ?_
      refine lv_icmp_ge (tgt := 79) hx hb dX12_shakeOf_18 (by decide) (fun c_1 => ?_) (fun c_1 => ?_)
      · have hd := zif_pos c_1 hd
        refine lv_iload hx hb dX12_shakeOf_79 (lv_at hl 7 rfl) ?_
        exact z_iret F hr hlk hw (Option.some.inj hd) rfl dX12_shakeOf_81
      · have hd := zif_neg c_1 hd
        refine lv_iload hx hb dX12_shakeOf_21 (lv_at hl 4 rfl) ?_
        refine lv_iload_n hx hb dX12_shakeOf_23 rfl (lv_at hl 2 rfl) ?_
        refine lv_iadd hx hb dX12_shakeOf_24 ?_
        refine lv_istore (lv' := [(4, .int (x4 + p2)), (0, .ref (ad k0)), (1, .int p1), (2, .int p2), (3, .int p3), (5, .int x5), (6, .int x6), (7, .int x7), (8, .int x8)]) hx hb dX12_shakeOf_25 hl (by decide) rfl (fun ls hl => ?_)
        refine lv_aload_n hx hb dX12_shakeOf_27 rfl (lv_at hl 1 rfl) ?_
        refine lv_iload_n hx hb dX12_shakeOf_28 rfl (lv_at hl 2 rfl) ?_
        refine lv_iload hx hb dX12_shakeOf_29 (lv_at hl 0 rfl) ?_
        refine lv_iload hx hb dX12_shakeOf_31 (lv_at hl 5 rfl) ?_
        obtain ⟨r_3, hc_2, hd⟩ := zob_some hd
        refine z_csI F hw hl.1 (As := [.int (x4 + p2), .int x5]) (rest := [.int p1, .ref (ad k0)]) (ztX12_angleBy l D cy sh ad  hc_2) zyX12_angleBy zk12_418 ⟨rfl, rfl⟩ ⟨by decide, by decide⟩ rfl rfl (Nat.le_of_ble_eq_true rfl) dX12_shakeOf_33 (fun H locs hw => ?_)
        refine lv_iload hx hb dX12_shakeOf_36 (lv_at hl 6 rfl) ?_
        refine lv_aload_n hx hb dX12_shakeOf_38 rfl (lv_at hl 1 rfl) ?_
        refine lv_iload_n hx hb dX12_shakeOf_39 rfl (lv_at hl 2 rfl) ?_
        refine lv_iconst (v := (3 : Int32)) hx hb dX12_shakeOf_40 (by decide) ?_
        obtain ⟨r_5, hc_4, hd⟩ := zob_some hd
        refine z_cvI F hw hl.1 (As := [.int p1, .int (3 : Int32)]) (rest := [.int x6, .int r_3, .int p1, .ref (ad k0)]) (ztX12_axisAt l D cy sh ad h0 hc_4) zyX12_axisAt h0 zc12 zk12_338 ⟨rfl, rfl⟩ ⟨by decide, by decide⟩ rfl rfl (Nat.le_of_ble_eq_true rfl) dX12_shakeOf_41 (fun H locs hw => ?_)
        obtain ⟨r_7, hc_6, hd⟩ := zob_some hd
        refine z_cvI F hw hl.1 (As := [.int p1, .int r_3, .int x6, .int r_5]) (rest := []) (ztX12_swung l D cy sh ad h0 hc_6) zyX12_swung h0 zc12 zk12_438 ⟨rfl, rfl⟩ ⟨by decide, by decide⟩ rfl rfl (Nat.le_of_ble_eq_true rfl) dX12_shakeOf_44 (fun H locs hw => ?_)
        refine lv_istore (lv' := [(6, .int r_7), (4, .int (x4 + p2)), (0, .ref (ad k0)), (1, .int p1), (2, .int p2), (3, .int p3), (5, .int x5), (7, .int x7), (8, .int x8)]) hx hb dX12_shakeOf_47 hl (by decide) rfl (fun ls hl => ?_)
        refine lv_iload hx hb dX12_shakeOf_49 (lv_at hl 6 rfl) ?_
        refine lv_iload hx hb dX12_shakeOf_51 (lv_at hl 0 rfl) ?_
        refine lv_iadd hx hb dX12_shakeOf_53 ?_
        refine lv_istore (lv' := [(5, .int (x5 + r_7)), (6, .int r_7), (4, .int (x4 + p2)), (0, .ref (ad k0)), (1, .int p1), (2, .int p2), (3, .int p3), (7, .int x7), (8, .int x8)]) hx hb dX12_shakeOf_54 hl (by decide) rfl (fun ls hl => ?_)
        refine lv_iload hx hb dX12_shakeOf_56 (lv_at hl 7 rfl) ?_
        refine lv_iload hx hb dX12_shakeOf_58 (lv_at hl 2 rfl) ?_
        refine lv_iload hx hb dX12_shakeOf_60 (lv_at hl 0 rfl) ?_
        obtain ⟨r_9, hc_8, hd⟩ := zob_some hd
        refine z_csI F hw hl.1 (As := [.int (x4 + p2), .int (x5 + r_7)]) (rest := [.int x7]) (ztX12_angleBy l D cy sh ad  hc_8) zyX12_angleBy zk12_418 ⟨rfl, rfl⟩ ⟨by decide, by decide⟩ rfl rfl (Nat.le_of_ble_eq_true rfl) dX12_shakeOf_62 (fun H locs hw => ?_)
        obtain ⟨r_11, hc_10, hd⟩ := zob_some hd
        refine z_csI F hw hl.1 (As := [.int r_9]) (rest := [.int x7]) (ztX12_size l D cy sh ad  hc_10) zyX12_size zk12_273 ⟨rfl, rfl⟩ ⟨by decide, by decide⟩ rfl rfl (Nat.le_of_ble_eq_true rfl) dX12_shakeOf_65 (fun H locs hw => ?_)
        obtain ⟨r_13, hc_12, hd⟩ := zob_some hd
        refine z_csI F hw hl.1 (As := [.int x7, .int r_11]) (rest := []) (ztX12_greater l D cy sh ad  hc_12) zyX12_greater zk12_318 ⟨rfl, rfl⟩ ⟨by decide, by decide⟩ rfl rfl (Nat.le_of_ble_eq_true rfl) dX12_shakeOf_68 (fun H locs hw => ?_)
        refine lv_istore (lv' := [(7, .int r_13), (5, .int (x5 + r_7)), (6, .int r_7), (4, .int (x4 + p2)), (0, .ref (ad k0)), (1, .int p1), (2, .int p2), (3, .int p3), (8, .int x8)]) hx hb dX12_shakeOf_71 hl (by decide) rfl (fun ls hl => ?_)
        refine lv_iinc (v := (x8 + (1 : Int32))) (lv' := [(8, .int (x8 + (1 : Int32))), (7, .int r_13), (5, .int (x5 + r_7)), (6, .int r_7), (4, .int (x4 + p2)), (0, .ref (ad k0)), (1, .int p1), (2, .int p2), (3, .int p3)]) hx hb dX12_shakeOf_73 hl (k := 8) rfl (ziinc (by decide)) (by decide) rfl (fun ls hl => ?_)
        refine lv_goto (tgt := 15) hx hb dX12_shakeOf_76 (by decide) ?_
        exact hk15 _ _ _ _ _ _ _ _ (lv_sub hl [5, 6, 7, 8, 4, 2, 3, 1, 0] rfl) hw hd
  unfold zX12_shakeOf at hd
  refine lv_iconst (v := (0 : Int32)) hx hb dX12_shakeOf_0 (by decide) ?_
  refine lv_istore (lv' := [(4, .int (0 : Int32)), (0, .ref (ad k0)), (1, .int p1), (2, .int p2), (3, .int p3)]) hx hb dX12_shakeOf_1 hl (by decide) rfl (fun ls hl => ?_)
  refine lv_iconst (v := (0 : Int32)) hx hb dX12_shakeOf_3 (by decide) ?_
  refine lv_istore (lv' := [(5, .int (0 : Int32)), (4, .int (0 : Int32)), (0, .ref (ad k0)), (1, .int p1), (2, .int p2), (3, .int p3)]) hx hb dX12_shakeOf_4 hl (by decide) rfl (fun ls hl => ?_)
  refine lv_iconst (v := (0 : Int32)) hx hb dX12_shakeOf_6 (by decide) ?_
  refine lv_istore (lv' := [(6, .int (0 : Int32)), (5, .int (0 : Int32)), (4, .int (0 : Int32)), (0, .ref (ad k0)), (1, .int p1), (2, .int p2), (3, .int p3)]) hx hb dX12_shakeOf_7 hl (by decide) rfl (fun ls hl => ?_)
  refine lv_iconst (v := (0 : Int32)) hx hb dX12_shakeOf_9 (by decide) ?_
  refine lv_istore (lv' := [(7, .int (0 : Int32)), (6, .int (0 : Int32)), (5, .int (0 : Int32)), (4, .int (0 : Int32)), (0, .ref (ad k0)), (1, .int p1), (2, .int p2), (3, .int p3)]) hx hb dX12_shakeOf_10 hl (by decide) rfl (fun ls hl => ?_)
  refine lv_iconst (v := (0 : Int32)) hx hb dX12_shakeOf_12 (by decide) ?_
  refine lv_istore (lv' := [(8, .int (0 : Int32)), (7, .int (0 : Int32)), (6, .int (0 : Int32)), (5, .int (0 : Int32)), (4, .int (0 : Int32)), (0, .ref (ad k0)), (1, .int p1), (2, .int p2), (3, .int p3)]) hx hb dX12_shakeOf_13 hl (by decide) rfl (fun ls hl => ?_)
  exact L15 zF _ _ _ _ _ _ _ _ (lv_sub hl [5, 6, 7, 8, 4, 3, 2, 1, 0] rfl) hw hd

def zjX12_shake_43 (sh : zShp) (k0 : Nat) (p1 : Int32) (p2 : Int32) (p3 : Int32) (M : zMem)  (s0 : Int32) : Option (Int32) :=
  some s0
def zjX12_shake_42 (sh : zShp) (k0 : Nat) (p1 : Int32) (p2 : Int32) (p3 : Int32) (M : zMem)   : Option (Int32) :=
  zjX12_shake_43 sh k0 p1 p2 p3 M (-1 : Int32)
def zX12_shake (sh : zShp) (k0 : Nat) (p1 : Int32) (p2 : Int32) (p3 : Int32) (M : zMem) : Option (Int32) :=
  zob (zX12_isAxis sh k0 p1 M) fun r_2 =>
  if r_2 = 0 then (
  zjX12_shake_42 sh k0 p1 p2 p3 M)
  else (
  zob (zX12_isIn sh (p2.toInt64) (0 : Int64) (60 : Int64) M) fun r_5 =>
  if r_5 = 0 then (
  zjX12_shake_42 sh k0 p1 p2 p3 M)
  else (
  zob (zX12_isIn sh (p3.toInt64) (1 : Int64) (500 : Int64) M) fun r_8 =>
  if r_8 = 0 then (
  zjX12_shake_42 sh k0 p1 p2 p3 M)
  else (
  zob (zX12_shakeOf sh k0 p1 p2 p3 M) fun r_11 =>
  zjX12_shake_43 sh k0 p1 p2 p3 M r_11)))
set_option maxHeartbeats 4000000 in
set_option maxRecDepth 100000 in
theorem ztX12_shake (l : Launch) (D : va_G) (cy : Nat → ClassId) (sh : zShp) (ad : Nat → Nat) {k0 : Nat} {p1 : Int32} {p2 : Int32} {p3 : Int32} (h0 : zT sh k0 12) {M : zMem} {r : Int32} (hd : zX12_shake sh k0 p1 p2 p3 M = some r) : zCI l yX12_shake cX12_shake 4 .int { frames := 5, cells := 0, slots := 0, locals := 123 } [.ref (ad k0), .int p1, .int p2, .int p3] D cy sh ad M r M := by
  refine zci_of (by decide) (Nat.le_of_ble_eq_true rfl) (fun p e s m below meth c ls F hr hlk hl hw => ?_)
  have hx := F.1.1
  have hb := F.1.2.1
  have hl : lv_has ls 4 [(0, .ref (ad k0)), (1, .int p1), (2, .int p2), (3, .int p3)] := hl
  have J43 : ∀ (s0 : Int32) (H : Heap) (locs : List Loc) (ls : Array Slot), lv_has ls 4 [] → zWd D cy sh ad s M H locs → zjX12_shake_43 sh k0 p1 p2 p3 M  s0 = some r → W p l e { frames := 5, cells := 0, slots := 0, locals := 123 } s m ([.ref (ad k0), .int p1, .int p2, .int p3] : List Value).toArray below meth c H locs 0 0 (zQI below D cy sh ad s [.ref (ad k0), .int p1, .int p2, .int p3] r M) (F0 m 43 ls [.int s0]) := by
    intro  s0 H locs ls hl hw hd
    unfold zjX12_shake_43 at hd
    exact z_iret F hr hlk hw (Option.some.inj hd) rfl dX12_shake_43
  have J42 : ∀  (H : Heap) (locs : List Loc) (ls : Array Slot), lv_has ls 4 [] → zWd D cy sh ad s M H locs → zjX12_shake_42 sh k0 p1 p2 p3 M   = some r → W p l e { frames := 5, cells := 0, slots := 0, locals := 123 } s m ([.ref (ad k0), .int p1, .int p2, .int p3] : List Value).toArray below meth c H locs 0 0 (zQI below D cy sh ad s [.ref (ad k0), .int p1, .int p2, .int p3] r M) (F0 m 42 ls []) := by
    intro  H locs ls hl hw hd
    unfold zjX12_shake_42 at hd
    refine lv_iconst (v := (-1 : Int32)) hx hb dX12_shake_42 (by decide) ?_
    exact J43 _ _ _ _ (lv_sub hl [] rfl) hw hd
  unfold zX12_shake at hd
  refine lv_aload_n hx hb dX12_shake_0 rfl (lv_at hl 0 rfl) ?_
  refine lv_iload_n hx hb dX12_shake_1 rfl (lv_at hl 1 rfl) ?_
  obtain ⟨r_2, hc_1, hd⟩ := zob_some hd
  refine z_cvI F hw hl.1 (As := [.int p1]) (rest := []) (ztX12_isAxis l D cy sh ad h0 hc_1) zyX12_isAxis h0 zc12 zk12_312 ⟨rfl, rfl⟩ ⟨by decide, by decide⟩ rfl rfl (Nat.le_of_ble_eq_true rfl) dX12_shake_2 (fun H locs hw => ?_)
  refine lv_if_eq (tgt := 42) hx hb dX12_shake_5 (by decide) (fun c_3 => ?_) (fun c_3 => ?_)
  · have hd := zif_pos c_3 hd
    exact J42 _ _ _ (lv_sub hl [] rfl) hw hd
  · have hd := zif_neg c_3 hd
    refine lv_iload_n hx hb dX12_shake_8 rfl (lv_at hl 2 rfl) ?_
    refine lv_i2l (v := p2.toInt64) hx hb dX12_shake_9 rfl ?_
    refine lv_lconst (v := (0 : Int64)) hx hb dX12_shake_10 (by decide) ?_
    refine lv_ldc2 (v := (60 : Int64)) hx hb F.1.2.2.2.1 (F.1.2.2.2.2 _ zi12_292) dX12_shake_11 ?_
    obtain ⟨r_5, hc_4, hd⟩ := zob_some hd
    refine z_csI F hw hl.1 (As := [.long (p2.toInt64), .long (0 : Int64), .long (60 : Int64)]) (rest := []) (ztX12_isIn l D cy sh ad  hc_4) zyX12_isIn zk12_91 ⟨rfl, rfl⟩ ⟨by decide, by decide⟩ rfl rfl (Nat.le_of_ble_eq_true rfl) dX12_shake_14 (fun H locs hw => ?_)
    refine lv_if_eq (tgt := 42) hx hb dX12_shake_17 (by decide) (fun c_6 => ?_) (fun c_6 => ?_)
    · have hd := zif_pos c_6 hd
      exact J42 _ _ _ (lv_sub hl [] rfl) hw hd
    · have hd := zif_neg c_6 hd
      refine lv_iload_n hx hb dX12_shake_20 rfl (lv_at hl 3 rfl) ?_
      refine lv_i2l (v := p3.toInt64) hx hb dX12_shake_21 rfl ?_
      refine lv_lconst (v := (1 : Int64)) hx hb dX12_shake_22 (by decide) ?_
      refine lv_ldc2 (v := (500 : Int64)) hx hb F.1.2.2.2.1 (F.1.2.2.2.2 _ zi12_444) dX12_shake_23 ?_
      obtain ⟨r_8, hc_7, hd⟩ := zob_some hd
      refine z_csI F hw hl.1 (As := [.long (p3.toInt64), .long (1 : Int64), .long (500 : Int64)]) (rest := []) (ztX12_isIn l D cy sh ad  hc_7) zyX12_isIn zk12_91 ⟨rfl, rfl⟩ ⟨by decide, by decide⟩ rfl rfl (Nat.le_of_ble_eq_true rfl) dX12_shake_26 (fun H locs hw => ?_)
      refine lv_if_eq (tgt := 42) hx hb dX12_shake_29 (by decide) (fun c_9 => ?_) (fun c_9 => ?_)
      · have hd := zif_pos c_9 hd
        exact J42 _ _ _ (lv_sub hl [] rfl) hw hd
      · have hd := zif_neg c_9 hd
        refine lv_aload_n hx hb dX12_shake_32 rfl (lv_at hl 0 rfl) ?_
        refine lv_iload_n hx hb dX12_shake_33 rfl (lv_at hl 1 rfl) ?_
        refine lv_iload_n hx hb dX12_shake_34 rfl (lv_at hl 2 rfl) ?_
        refine lv_iload_n hx hb dX12_shake_35 rfl (lv_at hl 3 rfl) ?_
        obtain ⟨r_11, hc_10, hd⟩ := zob_some hd
        refine z_cvI F hw hl.1 (As := [.int p1, .int p2, .int p3]) (rest := []) (ztX12_shakeOf l D cy sh ad h0 hc_10) zyX12_shakeOf h0 zc12 zk12_468 ⟨rfl, rfl⟩ ⟨by decide, by decide⟩ rfl rfl (Nat.le_of_ble_eq_true rfl) dX12_shake_36 (fun H locs hw => ?_)
        refine lv_goto (tgt := 43) hx hb dX12_shake_39 (by decide) ?_
        exact J43 _ _ _ _ (lv_sub hl [] rfl) hw hd

def zjX12_worst_20 (sh : zShp) (k0 : Nat) (p1 : Int32) (p2 : Int32) (M : zMem)   : Option (Int32) :=
  some (-1 : Int32)
def zjX12_worst_62 (sh : zShp) (k0 : Nat) (p1 : Int32) (p2 : Int32) (M : zMem) (kk27 : Int32 → Int32 → Option (Int32)) (x3 : Int32) (x4 : Int32) : Option (Int32) :=
  kk27 x3 (x4 + (1 : Int32))
def zbX12_worst_27 (sh : zShp) (k0 : Nat) (p1 : Int32) (p2 : Int32) (M : zMem)  (kk27 : Int32 → Int32 → Option (Int32)) (x3 : Int32) (x4 : Int32) : Option (Int32) :=
  zgd (zin ((6 : Int32) * p1) (zlen sh (zR M k0 14))) <|
  if (zI M (zR M k0 14) (((6 : Int32) * p1).toNatClampNeg)) < x4 then (
  some x3)
  else (
  zob (zX12_shakeOf sh k0 p1 x4 p2 M) fun r_5 =>
  zob (zX12_shakeOf sh k0 p1 x3 p2 M) fun r_7 =>
  if r_5 ≤ r_7 then (
  zjX12_worst_62 sh k0 p1 p2 M kk27 x3 x4)
  else (
  zjX12_worst_62 sh k0 p1 p2 M kk27 x4 x4))
def zlX12_worst_27 (sh : zShp) (k0 : Nat) (p1 : Int32) (p2 : Int32) (M : zMem)  : Nat → Int32 → Int32 → Option (Int32)
  | 0 => fun _ _ => none
  | n + 1 => fun x3 x4 => zbX12_worst_27 sh k0 p1 p2 M  (zlX12_worst_27 sh k0 p1 p2 M  n) x3 x4
def zX12_worst (sh : zShp) (k0 : Nat) (p1 : Int32) (p2 : Int32) (M : zMem) : Option (Int32) :=
  zob (zX12_isAxis sh k0 p1 M) fun r_10 =>
  if r_10 = 0 then (
  zjX12_worst_20 sh k0 p1 p2 M)
  else (
  zob (zX12_isIn sh (p2.toInt64) (1 : Int64) (100 : Int64) M) fun r_13 =>
  if r_13 = 0 then (
  zjX12_worst_20 sh k0 p1 p2 M)
  else (
  zlX12_worst_27 sh k0 p1 p2 M zF (1 : Int32) (2 : Int32)))
set_option maxHeartbeats 4000000 in
set_option maxRecDepth 100000 in
theorem ztX12_worst (l : Launch) (D : va_G) (cy : Nat → ClassId) (sh : zShp) (ad : Nat → Nat) {k0 : Nat} {p1 : Int32} {p2 : Int32} (h0 : zT sh k0 12) {M : zMem} {r : Int32} (hd : zX12_worst sh k0 p1 p2 M = some r) : zCI l yX12_worst cX12_worst 5 .int { frames := 5, cells := 0, slots := 0, locals := 123 } [.ref (ad k0), .int p1, .int p2] D cy sh ad M r M := by
  refine zci_of (by decide) (Nat.le_of_ble_eq_true rfl) (fun p e s m below meth c ls F hr hlk hl hw => ?_)
  have hx := F.1.1
  have hb := F.1.2.1
  have hl : lv_has ls 5 [(0, .ref (ad k0)), (1, .int p1), (2, .int p2)] := hl
  have J20 : ∀  (H : Heap) (locs : List Loc) (ls : Array Slot), lv_has ls 5 [] → zWd D cy sh ad s M H locs → zjX12_worst_20 sh k0 p1 p2 M   = some r → W p l e { frames := 5, cells := 0, slots := 0, locals := 123 } s m ([.ref (ad k0), .int p1, .int p2] : List Value).toArray below meth c H locs 0 0 (zQI below D cy sh ad s [.ref (ad k0), .int p1, .int p2] r M) (F0 m 20 ls []) := by
    intro  H locs ls hl hw hd
    unfold zjX12_worst_20 at hd
    refine lv_iconst (v := (-1 : Int32)) hx hb dX12_worst_20 (by decide) ?_
    exact z_iret F hr hlk hw (Option.some.inj hd) rfl dX12_worst_21
  have J62 : ∀ (kk27 : Int32 → Int32 → Option (Int32)) (hk27 : ∀ (x3 : Int32) (x4 : Int32) (H : Heap) (locs : List Loc) (ls : Array Slot), lv_has ls 5 [(0, .ref (ad k0)), (1, .int p1), (2, .int p2), (3, .int x3), (4, .int x4)] → zWd D cy sh ad s M H locs → kk27 x3 x4 = some r → W p l e { frames := 5, cells := 0, slots := 0, locals := 123 } s m ([.ref (ad k0), .int p1, .int p2] : List Value).toArray below meth c H locs 0 0 (zQI below D cy sh ad s [.ref (ad k0), .int p1, .int p2] r M) (F0 m 27 ls [])), ∀ (x3 : Int32) (x4 : Int32) (H : Heap) (locs : List Loc) (ls : Array Slot), lv_has ls 5 [(0, .ref (ad k0)), (1, .int p1), (2, .int p2), (3, .int x3), (4, .int x4)] → zWd D cy sh ad s M H locs → zjX12_worst_62 sh k0 p1 p2 M kk27 x3 x4 = some r → W p l e { frames := 5, cells := 0, slots := 0, locals := 123 } s m ([.ref (ad k0), .int p1, .int p2] : List Value).toArray below meth c H locs 0 0 (zQI below D cy sh ad s [.ref (ad k0), .int p1, .int p2] r M) (F0 m 62 ls []) := by
    intro kk27 hk27 x3 x4 H locs ls hl hw hd
    unfold zjX12_worst_62 at hd
    refine lv_iinc (v := (x4 + (1 : Int32))) (lv' := [(4, .int (x4 + (1 : Int32))), (0, .ref (ad k0)), (1, .int p1), (2, .int p2), (3, .int x3)]) hx hb dX12_worst_62 hl (k := 4) rfl (ziinc (by decide)) (by decide) rfl (fun ls hl => ?_)
    refine lv_goto (tgt := 27) hx hb dX12_worst_65 (by decide) ?_
    exact hk27 _ _ _ _ _ (lv_sub hl [1, 2, 3, 4, 0] rfl) hw hd
  have L27 : ∀  (n : Nat), ∀ (x3 : Int32) (x4 : Int32) (H : Heap) (locs : List Loc) (ls : Array Slot), lv_has ls 5 [(0, .ref (ad k0)), (1, .int p1), (2, .int p2), (3, .int x3), (4, .int x4)] → zWd D cy sh ad s M H locs → zlX12_worst_27 sh k0 p1 p2 M  n x3 x4 = some r → W p l e { frames := 5, cells := 0, slots := 0, locals := 123 } s m ([.ref (ad k0), .int p1, .int p2] : List Value).toArray below meth c H locs 0 0 (zQI below D cy sh ad s [.ref (ad k0), .int p1, .int p2] r M) (F0 m 27 ls []) := by
    intro  n
    induction n with
    | zero => intro x3 x4 H locs ls hl hw hd; exact (znone hd).elim
    | succ n hk27 =>
      intro x3 x4 H locs ls hl hw hd
      have hd : zbX12_worst_27 sh k0 p1 p2 M  (zlX12_worst_27 sh k0 p1 p2 M  n) x3 x4 = some r := hd
      unfold zbX12_worst_27 at hd
      refine lv_iload hx hb dX12_worst_27 (lv_at hl 4 rfl) ?_
      refine lv_aload_n hx hb dX12_worst_29 rfl (lv_at hl 0 rfl) ?_
      refine z_gR F hw h0 zc12 14 (by decide) rfl zf12_27 dX12_worst_30 ?_
      have t_1 : zT sh (zR M k0 14) 14 := hw.2.2.2.fld h0 14 14
      refine lv_bipush (v := (6 : Int32)) hx hb dX12_worst_33 (by decide) ?_
      refine lv_iload_n hx hb dX12_worst_35 rfl (lv_at hl 1 rfl) ?_
      refine lv_imul hx hb dX12_worst_36 ?_
      obtain ⟨g_2, hd⟩ := zgd_some hd
      refine z_iald F hw t_1 g_2 dX12_worst_37 ?_
      refine lv_icmp_gt (tgt := 68) hx hb dX12_worst_38 (by decide) (fun c_3 => ?_) (fun c_3 => ?_)
      · have hd := zif_pos c_3 hd
        refine lv_iload_n hx hb dX12_worst_68 rfl (lv_at hl 3 rfl) ?_
        exact z_iret F hr hlk hw (Option.some.inj hd) rfl dX12_worst_69
      · have hd := zif_neg c_3 hd
        refine lv_aload_n hx hb dX12_worst_41 rfl (lv_at hl 0 rfl) ?_
        refine lv_iload_n hx hb dX12_worst_42 rfl (lv_at hl 1 rfl) ?_
        refine lv_iload hx hb dX12_worst_43 (lv_at hl 4 rfl) ?_
        refine lv_iload_n hx hb dX12_worst_45 rfl (lv_at hl 2 rfl) ?_
        obtain ⟨r_5, hc_4, hd⟩ := zob_some hd
        refine z_cvI F hw hl.1 (As := [.int p1, .int x4, .int p2]) (rest := []) (ztX12_shakeOf l D cy sh ad h0 hc_4) zyX12_shakeOf h0 zc12 zk12_468 ⟨rfl, rfl⟩ ⟨by decide, by decide⟩ rfl rfl (Nat.le_of_ble_eq_true rfl) dX12_worst_46 (fun H locs hw => ?_)
        refine lv_aload_n hx hb dX12_worst_49 rfl (lv_at hl 0 rfl) ?_
        refine lv_iload_n hx hb dX12_worst_50 rfl (lv_at hl 1 rfl) ?_
        refine lv_iload_n hx hb dX12_worst_51 rfl (lv_at hl 3 rfl) ?_
        refine lv_iload_n hx hb dX12_worst_52 rfl (lv_at hl 2 rfl) ?_
        obtain ⟨r_7, hc_6, hd⟩ := zob_some hd
        refine z_cvI F hw hl.1 (As := [.int p1, .int x3, .int p2]) (rest := [.int r_5]) (ztX12_shakeOf l D cy sh ad h0 hc_6) zyX12_shakeOf h0 zc12 zk12_468 ⟨rfl, rfl⟩ ⟨by decide, by decide⟩ rfl rfl (Nat.le_of_ble_eq_true rfl) dX12_worst_53 (fun H locs hw => ?_)
        refine lv_icmp_le (tgt := 62) hx hb dX12_worst_56 (by decide) (fun c_8 => ?_) (fun c_8 => ?_)
        · have hd := zif_pos c_8 hd
          exact J62 _ hk27 _ _ _ _ _ (lv_sub hl [0, 1, 2, 3, 4] rfl) hw hd
        · have hd := zif_neg c_8 hd
          refine lv_iload hx hb dX12_worst_59 (lv_at hl 4 rfl) ?_
          refine lv_istore_n (lv' := [(3, .int x4), (0, .ref (ad k0)), (1, .int p1), (2, .int p2), (4, .int x4)]) hx hb dX12_worst_61 rfl hl (by decide) rfl (fun ls hl => ?_)
          exact J62 _ hk27 _ _ _ _ _ (lv_sub hl [1, 2, 3, 0, 4] rfl) hw hd
  unfold zX12_worst at hd
  refine lv_aload_n hx hb dX12_worst_0 rfl (lv_at hl 0 rfl) ?_
  refine lv_iload_n hx hb dX12_worst_1 rfl (lv_at hl 1 rfl) ?_
  obtain ⟨r_10, hc_9, hd⟩ := zob_some hd
  refine z_cvI F hw hl.1 (As := [.int p1]) (rest := []) (ztX12_isAxis l D cy sh ad h0 hc_9) zyX12_isAxis h0 zc12 zk12_312 ⟨rfl, rfl⟩ ⟨by decide, by decide⟩ rfl rfl (Nat.le_of_ble_eq_true rfl) dX12_worst_2 (fun H locs hw => ?_)
  refine lv_if_eq (tgt := 20) hx hb dX12_worst_5 (by decide) (fun c_11 => ?_) (fun c_11 => ?_)
  · have hd := zif_pos c_11 hd
    exact J20 _ _ _ (lv_sub hl [] rfl) hw hd
  · have hd := zif_neg c_11 hd
    refine lv_iload_n hx hb dX12_worst_8 rfl (lv_at hl 2 rfl) ?_
    refine lv_i2l (v := p2.toInt64) hx hb dX12_worst_9 rfl ?_
    refine lv_lconst (v := (1 : Int64)) hx hb dX12_worst_10 (by decide) ?_
    refine lv_ldc2 (v := (100 : Int64)) hx hb F.1.2.2.2.1 (F.1.2.2.2.2 _ zi12_471) dX12_worst_11 ?_
    obtain ⟨r_13, hc_12, hd⟩ := zob_some hd
    refine z_csI F hw hl.1 (As := [.long (p2.toInt64), .long (1 : Int64), .long (100 : Int64)]) (rest := []) (ztX12_isIn l D cy sh ad  hc_12) zyX12_isIn zk12_91 ⟨rfl, rfl⟩ ⟨by decide, by decide⟩ rfl rfl (Nat.le_of_ble_eq_true rfl) dX12_worst_14 (fun H locs hw => ?_)
    refine lv_if_ne (tgt := 22) hx hb dX12_worst_17 (by decide) (fun c_14 => ?_) (fun c_14 => ?_)
    · have hd := zif_neg c_14 hd
      refine lv_iconst (v := (1 : Int32)) hx hb dX12_worst_22 (by decide) ?_
      refine lv_istore_n (lv' := [(3, .int (1 : Int32)), (0, .ref (ad k0)), (1, .int p1), (2, .int p2)]) hx hb dX12_worst_23 rfl hl (by decide) rfl (fun ls hl => ?_)
      refine lv_iconst (v := (2 : Int32)) hx hb dX12_worst_24 (by decide) ?_
      refine lv_istore (lv' := [(4, .int (2 : Int32)), (3, .int (1 : Int32)), (0, .ref (ad k0)), (1, .int p1), (2, .int p2)]) hx hb dX12_worst_25 hl (by decide) rfl (fun ls hl => ?_)
      exact L27 zF _ _ _ _ _ (lv_sub hl [2, 3, 4, 1, 0] rfl) hw hd
    · have hd := zif_pos c_14 hd
      exact J20 _ _ _ (lv_sub hl [] rfl) hw hd

def zjX12_unsafe_20 (sh : zShp) (k0 : Nat) (p1 : Int32) (p2 : Int32) (M : zMem)   : Option (Int32) :=
  some (-1 : Int32)
def zjX12_unsafe_71 (sh : zShp) (k0 : Nat) (p1 : Int32) (p2 : Int32) (M : zMem) (kk27 : Int32 → Int32 → Option (Int32)) (x4 : Int32) (s0 : Int32) (s1 : Int32) : Option (Int32) :=
  zob (zX12_truth sh s1 M) fun r_2 =>
  kk27 (s0 + r_2) (x4 + (1 : Int32))
def zjX12_unsafe_70 (sh : zShp) (k0 : Nat) (p1 : Int32) (p2 : Int32) (M : zMem) (kk27 : Int32 → Int32 → Option (Int32)) (x4 : Int32) (s0 : Int32) : Option (Int32) :=
  zjX12_unsafe_71 sh k0 p1 p2 M kk27 x4 s0 (0 : Int32)
def zbX12_unsafe_27 (sh : zShp) (k0 : Nat) (p1 : Int32) (p2 : Int32) (M : zMem)  (kk27 : Int32 → Int32 → Option (Int32)) (x3 : Int32) (x4 : Int32) : Option (Int32) :=
  zgd (zin ((6 : Int32) * p1) (zlen sh (zR M k0 14))) <|
  if (zI M (zR M k0 14) (((6 : Int32) * p1).toNatClampNeg)) < x4 then (
  some x3)
  else (
  zob (zX12_bandsAt sh k0 p1 x4 M) fun r_7 =>
  if r_7 = 0 then (
  zob (zX12_shakeOf sh k0 p1 x4 p2 M) fun r_10 =>
  if r_10 < (1024 : Int32) then (
  zjX12_unsafe_70 sh k0 p1 p2 M kk27 x4 x3)
  else (
  zjX12_unsafe_71 sh k0 p1 p2 M kk27 x4 x3 (1 : Int32)))
  else (
  zjX12_unsafe_70 sh k0 p1 p2 M kk27 x4 x3))
def zlX12_unsafe_27 (sh : zShp) (k0 : Nat) (p1 : Int32) (p2 : Int32) (M : zMem)  : Nat → Int32 → Int32 → Option (Int32)
  | 0 => fun _ _ => none
  | n + 1 => fun x3 x4 => zbX12_unsafe_27 sh k0 p1 p2 M  (zlX12_unsafe_27 sh k0 p1 p2 M  n) x3 x4
def zX12_unsafe (sh : zShp) (k0 : Nat) (p1 : Int32) (p2 : Int32) (M : zMem) : Option (Int32) :=
  zob (zX12_isAxis sh k0 p1 M) fun r_13 =>
  if r_13 = 0 then (
  zjX12_unsafe_20 sh k0 p1 p2 M)
  else (
  zob (zX12_isIn sh (p2.toInt64) (1 : Int64) (100 : Int64) M) fun r_16 =>
  if r_16 = 0 then (
  zjX12_unsafe_20 sh k0 p1 p2 M)
  else (
  zlX12_unsafe_27 sh k0 p1 p2 M zF (0 : Int32) (1 : Int32)))
set_option maxHeartbeats 4000000 in
set_option maxRecDepth 100000 in
theorem ztX12_unsafe (l : Launch) (D : va_G) (cy : Nat → ClassId) (sh : zShp) (ad : Nat → Nat) {k0 : Nat} {p1 : Int32} {p2 : Int32} (h0 : zT sh k0 12) {M : zMem} {r : Int32} (hd : zX12_unsafe sh k0 p1 p2 M = some r) : zCI l yX12_unsafe cX12_unsafe 5 .int { frames := 5, cells := 0, slots := 0, locals := 123 } [.ref (ad k0), .int p1, .int p2] D cy sh ad M r M := by
  refine zci_of (by decide) (Nat.le_of_ble_eq_true rfl) (fun p e s m below meth c ls F hr hlk hl hw => ?_)
  have hx := F.1.1
  have hb := F.1.2.1
  have hl : lv_has ls 5 [(0, .ref (ad k0)), (1, .int p1), (2, .int p2)] := hl
  have J20 : ∀  (H : Heap) (locs : List Loc) (ls : Array Slot), lv_has ls 5 [] → zWd D cy sh ad s M H locs → zjX12_unsafe_20 sh k0 p1 p2 M   = some r → W p l e { frames := 5, cells := 0, slots := 0, locals := 123 } s m ([.ref (ad k0), .int p1, .int p2] : List Value).toArray below meth c H locs 0 0 (zQI below D cy sh ad s [.ref (ad k0), .int p1, .int p2] r M) (F0 m 20 ls []) := by
    intro  H locs ls hl hw hd
    unfold zjX12_unsafe_20 at hd
    refine lv_iconst (v := (-1 : Int32)) hx hb dX12_unsafe_20 (by decide) ?_
    exact z_iret F hr hlk hw (Option.some.inj hd) rfl dX12_unsafe_21
  have J71 : ∀ (kk27 : Int32 → Int32 → Option (Int32)) (hk27 : ∀ (x3 : Int32) (x4 : Int32) (H : Heap) (locs : List Loc) (ls : Array Slot), lv_has ls 5 [(0, .ref (ad k0)), (1, .int p1), (2, .int p2), (3, .int x3), (4, .int x4)] → zWd D cy sh ad s M H locs → kk27 x3 x4 = some r → W p l e { frames := 5, cells := 0, slots := 0, locals := 123 } s m ([.ref (ad k0), .int p1, .int p2] : List Value).toArray below meth c H locs 0 0 (zQI below D cy sh ad s [.ref (ad k0), .int p1, .int p2] r M) (F0 m 27 ls [])), ∀ (x4 : Int32) (s0 : Int32) (s1 : Int32) (H : Heap) (locs : List Loc) (ls : Array Slot), lv_has ls 5 [(0, .ref (ad k0)), (1, .int p1), (2, .int p2), (4, .int x4)] → zWd D cy sh ad s M H locs → zjX12_unsafe_71 sh k0 p1 p2 M kk27 x4 s0 s1 = some r → W p l e { frames := 5, cells := 0, slots := 0, locals := 123 } s m ([.ref (ad k0), .int p1, .int p2] : List Value).toArray below meth c H locs 0 0 (zQI below D cy sh ad s [.ref (ad k0), .int p1, .int p2] r M) (F0 m 71 ls [.int s1, .int s0]) := by
    intro kk27 hk27 x4 s0 s1 H locs ls hl hw hd
    unfold zjX12_unsafe_71 at hd
    obtain ⟨r_2, hc_1, hd⟩ := zob_some hd
    refine z_csI F hw hl.1 (As := [.int s1]) (rest := [.int s0]) (ztX12_truth l D cy sh ad  hc_1) zyX12_truth zk12_279 ⟨rfl, rfl⟩ ⟨by decide, by decide⟩ rfl rfl (Nat.le_of_ble_eq_true rfl) dX12_unsafe_71 (fun H locs hw => ?_)
    refine lv_iadd hx hb dX12_unsafe_74 ?_
    refine lv_istore_n (lv' := [(3, .int (s0 + r_2)), (0, .ref (ad k0)), (1, .int p1), (2, .int p2), (4, .int x4)]) hx hb dX12_unsafe_75 rfl hl (by decide) rfl (fun ls hl => ?_)
    refine lv_iinc (v := (x4 + (1 : Int32))) (lv' := [(4, .int (x4 + (1 : Int32))), (3, .int (s0 + r_2)), (0, .ref (ad k0)), (1, .int p1), (2, .int p2)]) hx hb dX12_unsafe_76 hl (k := 4) rfl (ziinc (by decide)) (by decide) rfl (fun ls hl => ?_)
    refine lv_goto (tgt := 27) hx hb dX12_unsafe_79 (by decide) ?_
    exact hk27 _ _ _ _ _ (lv_sub hl [2, 3, 4, 1, 0] rfl) hw hd
  have J70 : ∀ (kk27 : Int32 → Int32 → Option (Int32)) (hk27 : ∀ (x3 : Int32) (x4 : Int32) (H : Heap) (locs : List Loc) (ls : Array Slot), lv_has ls 5 [(0, .ref (ad k0)), (1, .int p1), (2, .int p2), (3, .int x3), (4, .int x4)] → zWd D cy sh ad s M H locs → kk27 x3 x4 = some r → W p l e { frames := 5, cells := 0, slots := 0, locals := 123 } s m ([.ref (ad k0), .int p1, .int p2] : List Value).toArray below meth c H locs 0 0 (zQI below D cy sh ad s [.ref (ad k0), .int p1, .int p2] r M) (F0 m 27 ls [])), ∀ (x4 : Int32) (s0 : Int32) (H : Heap) (locs : List Loc) (ls : Array Slot), lv_has ls 5 [(0, .ref (ad k0)), (1, .int p1), (2, .int p2), (4, .int x4)] → zWd D cy sh ad s M H locs → zjX12_unsafe_70 sh k0 p1 p2 M kk27 x4 s0 = some r → W p l e { frames := 5, cells := 0, slots := 0, locals := 123 } s m ([.ref (ad k0), .int p1, .int p2] : List Value).toArray below meth c H locs 0 0 (zQI below D cy sh ad s [.ref (ad k0), .int p1, .int p2] r M) (F0 m 70 ls [.int s0]) := by
    intro kk27 hk27 x4 s0 H locs ls hl hw hd
    unfold zjX12_unsafe_70 at hd
    refine lv_iconst (v := (0 : Int32)) hx hb dX12_unsafe_70 (by decide) ?_
    exact J71 _ hk27 _ _ _ _ _ _ (lv_sub hl [0, 1, 2, 3] rfl) hw hd
  have L27 : ∀  (n : Nat), ∀ (x3 : Int32) (x4 : Int32) (H : Heap) (locs : List Loc) (ls : Array Slot), lv_has ls 5 [(0, .ref (ad k0)), (1, .int p1), (2, .int p2), (3, .int x3), (4, .int x4)] → zWd D cy sh ad s M H locs → zlX12_unsafe_27 sh k0 p1 p2 M  n x3 x4 = some r → W p l e { frames := 5, cells := 0, slots := 0, locals := 123 } s m ([.ref (ad k0), .int p1, .int p2] : List Value).toArray below meth c H locs 0 0 (zQI below D cy sh ad s [.ref (ad k0), .int p1, .int p2] r M) (F0 m 27 ls []) := by
    intro  n
    induction n with
    | zero => intro x3 x4 H locs ls hl hw hd; exact (znone hd).elim
    | succ n hk27 =>
      intro x3 x4 H locs ls hl hw hd
      have hd : zbX12_unsafe_27 sh k0 p1 p2 M  (zlX12_unsafe_27 sh k0 p1 p2 M  n) x3 x4 = some r := hd
      unfold zbX12_unsafe_27 at hd
      refine lv_iload hx hb dX12_unsafe_27 (lv_at hl 4 rfl) ?_
      refine lv_aload_n hx hb dX12_unsafe_29 rfl (lv_at hl 0 rfl) ?_
      refine z_gR F hw h0 zc12 14 (by decide) rfl zf12_27 dX12_unsafe_30 ?_
      have t_3 : zT sh (zR M k0 14) 14 := hw.2.2.2.fld h0 14 14
      refine lv_bipush (v := (6 : Int32)) hx hb dX12_unsafe_33 (by decide) ?_
      refine lv_iload_n hx hb dX12_unsafe_35 rfl (lv_at hl 1 rfl) ?_
      refine lv_imul hx hb dX12_unsafe_36 ?_
      obtain ⟨g_4, hd⟩ := zgd_some hd
      refine z_iald F hw t_3 g_4 dX12_unsafe_37 ?_
      refine lv_icmp_gt (tgt := 82) hx hb dX12_unsafe_38 (by decide) (fun c_5 => ?_) (fun c_5 => ?_)
      · have hd := zif_pos c_5 hd
        refine lv_iload_n hx hb dX12_unsafe_82 rfl (lv_at hl 3 rfl) ?_
        exact z_iret F hr hlk hw (Option.some.inj hd) rfl dX12_unsafe_83
      · have hd := zif_neg c_5 hd
        refine lv_iload_n hx hb dX12_unsafe_41 rfl (lv_at hl 3 rfl) ?_
        refine lv_aload_n hx hb dX12_unsafe_42 rfl (lv_at hl 0 rfl) ?_
        refine lv_iload_n hx hb dX12_unsafe_43 rfl (lv_at hl 1 rfl) ?_
        refine lv_iload hx hb dX12_unsafe_44 (lv_at hl 4 rfl) ?_
        obtain ⟨r_7, hc_6, hd⟩ := zob_some hd
        refine z_cvI F hw hl.1 (As := [.int p1, .int x4]) (rest := [.int x3]) (ztX12_bandsAt l D cy sh ad h0 hc_6) zyX12_bandsAt h0 zc12 zk12_315 ⟨rfl, rfl⟩ ⟨by decide, by decide⟩ rfl rfl (Nat.le_of_ble_eq_true rfl) dX12_unsafe_46 (fun H locs hw => ?_)
        refine lv_if_ne (tgt := 70) hx hb dX12_unsafe_49 (by decide) (fun c_8 => ?_) (fun c_8 => ?_)
        · have hd := zif_neg c_8 hd
          exact J70 _ hk27 _ _ _ _ _ (lv_sub hl [0, 1, 2, 4] rfl) hw hd
        · have hd := zif_pos c_8 hd
          refine lv_aload_n hx hb dX12_unsafe_52 rfl (lv_at hl 0 rfl) ?_
          refine lv_iload_n hx hb dX12_unsafe_53 rfl (lv_at hl 1 rfl) ?_
          refine lv_iload hx hb dX12_unsafe_54 (lv_at hl 4 rfl) ?_
          refine lv_iload_n hx hb dX12_unsafe_56 rfl (lv_at hl 2 rfl) ?_
          obtain ⟨r_10, hc_9, hd⟩ := zob_some hd
          refine z_cvI F hw hl.1 (As := [.int p1, .int x4, .int p2]) (rest := [.int x3]) (ztX12_shakeOf l D cy sh ad h0 hc_9) zyX12_shakeOf h0 zc12 zk12_468 ⟨rfl, rfl⟩ ⟨by decide, by decide⟩ rfl rfl (Nat.le_of_ble_eq_true rfl) dX12_unsafe_57 (fun H locs hw => ?_)
          refine lv_sipush (v := (1024 : Int32)) hx hb dX12_unsafe_60 (by decide) ?_
          refine lv_icmp_lt (tgt := 70) hx hb dX12_unsafe_63 (by decide) (fun c_11 => ?_) (fun c_11 => ?_)
          · have hd := zif_pos c_11 hd
            exact J70 _ hk27 _ _ _ _ _ (lv_sub hl [0, 1, 2, 4] rfl) hw hd
          · have hd := zif_neg c_11 hd
            refine lv_iconst (v := (1 : Int32)) hx hb dX12_unsafe_66 (by decide) ?_
            refine lv_goto (tgt := 71) hx hb dX12_unsafe_67 (by decide) ?_
            exact J71 _ hk27 _ _ _ _ _ _ (lv_sub hl [0, 1, 2, 4] rfl) hw hd
  unfold zX12_unsafe at hd
  refine lv_aload_n hx hb dX12_unsafe_0 rfl (lv_at hl 0 rfl) ?_
  refine lv_iload_n hx hb dX12_unsafe_1 rfl (lv_at hl 1 rfl) ?_
  obtain ⟨r_13, hc_12, hd⟩ := zob_some hd
  refine z_cvI F hw hl.1 (As := [.int p1]) (rest := []) (ztX12_isAxis l D cy sh ad h0 hc_12) zyX12_isAxis h0 zc12 zk12_312 ⟨rfl, rfl⟩ ⟨by decide, by decide⟩ rfl rfl (Nat.le_of_ble_eq_true rfl) dX12_unsafe_2 (fun H locs hw => ?_)
  refine lv_if_eq (tgt := 20) hx hb dX12_unsafe_5 (by decide) (fun c_14 => ?_) (fun c_14 => ?_)
  · have hd := zif_pos c_14 hd
    exact J20 _ _ _ (lv_sub hl [] rfl) hw hd
  · have hd := zif_neg c_14 hd
    refine lv_iload_n hx hb dX12_unsafe_8 rfl (lv_at hl 2 rfl) ?_
    refine lv_i2l (v := p2.toInt64) hx hb dX12_unsafe_9 rfl ?_
    refine lv_lconst (v := (1 : Int64)) hx hb dX12_unsafe_10 (by decide) ?_
    refine lv_ldc2 (v := (100 : Int64)) hx hb F.1.2.2.2.1 (F.1.2.2.2.2 _ zi12_471) dX12_unsafe_11 ?_
    obtain ⟨r_16, hc_15, hd⟩ := zob_some hd
    refine z_csI F hw hl.1 (As := [.long (p2.toInt64), .long (1 : Int64), .long (100 : Int64)]) (rest := []) (ztX12_isIn l D cy sh ad  hc_15) zyX12_isIn zk12_91 ⟨rfl, rfl⟩ ⟨by decide, by decide⟩ rfl rfl (Nat.le_of_ble_eq_true rfl) dX12_unsafe_14 (fun H locs hw => ?_)
    refine lv_if_ne (tgt := 22) hx hb dX12_unsafe_17 (by decide) (fun c_17 => ?_) (fun c_17 => ?_)
    · have hd := zif_neg c_17 hd
      refine lv_iconst (v := (0 : Int32)) hx hb dX12_unsafe_22 (by decide) ?_
      refine lv_istore_n (lv' := [(3, .int (0 : Int32)), (0, .ref (ad k0)), (1, .int p1), (2, .int p2)]) hx hb dX12_unsafe_23 rfl hl (by decide) rfl (fun ls hl => ?_)
      refine lv_iconst (v := (1 : Int32)) hx hb dX12_unsafe_24 (by decide) ?_
      refine lv_istore (lv' := [(4, .int (1 : Int32)), (3, .int (0 : Int32)), (0, .ref (ad k0)), (1, .int p1), (2, .int p2)]) hx hb dX12_unsafe_25 hl (by decide) rfl (fun ls hl => ?_)
      exact L27 zF _ _ _ _ _ (lv_sub hl [2, 3, 4, 1, 0] rfl) hw hd
    · have hd := zif_pos c_17 hd
      exact J20 _ _ _ (lv_sub hl [] rfl) hw hd

def zjX12_sign_17 (sh : zShp) (p0 : Int32) (M : zMem)  (s0 : Int32) : Option (Int32) :=
  some s0
def zX12_sign (sh : zShp) (p0 : Int32) (M : zMem) : Option (Int32) :=
  if p0 ≤ 0 then (
  if 0 ≤ p0 then (
  zjX12_sign_17 sh p0 M (0 : Int32))
  else (
  zjX12_sign_17 sh p0 M (-1 : Int32)))
  else (
  zjX12_sign_17 sh p0 M (1 : Int32))
set_option maxHeartbeats 4000000 in
set_option maxRecDepth 100000 in
theorem ztX12_sign (l : Launch) (D : va_G) (cy : Nat → ClassId) (sh : zShp) (ad : Nat → Nat) {p0 : Int32}  {M : zMem} {r : Int32} (hd : zX12_sign sh p0 M = some r) : zCI l yX12_sign cX12_sign 1 .int { frames := 0, cells := 0, slots := 0, locals := 0 } [.int p0] D cy sh ad M r M := by
  refine zci_of (by decide) (Nat.le_of_ble_eq_true rfl) (fun p e s m below meth c ls F hr hlk hl hw => ?_)
  have hx := F.1.1
  have hb := F.1.2.1
  have hl : lv_has ls 1 [(0, .int p0)] := hl
  have J17 : ∀ (s0 : Int32) (H : Heap) (locs : List Loc) (ls : Array Slot), lv_has ls 1 [] → zWd D cy sh ad s M H locs → zjX12_sign_17 sh p0 M  s0 = some r → W p l e { frames := 0, cells := 0, slots := 0, locals := 0 } s m ([.int p0] : List Value).toArray below meth c H locs 0 0 (zQI below D cy sh ad s [.int p0] r M) (F0 m 17 ls [.int s0]) := by
    intro  s0 H locs ls hl hw hd
    unfold zjX12_sign_17 at hd
    exact z_iret F hr hlk hw (Option.some.inj hd) rfl dX12_sign_17
  unfold zX12_sign at hd
  refine lv_iload_n hx hb dX12_sign_0 rfl (lv_at hl 0 rfl) ?_
  refine lv_if_le (tgt := 8) hx hb dX12_sign_1 (by decide) (fun c_1 => ?_) (fun c_1 => ?_)
  · have hd := zif_pos c_1 hd
    refine lv_iload_n hx hb dX12_sign_8 rfl (lv_at hl 0 rfl) ?_
    refine lv_if_ge (tgt := 16) hx hb dX12_sign_9 (by decide) (fun c_2 => ?_) (fun c_2 => ?_)
    · have hd := zif_pos c_2 hd
      refine lv_iconst (v := (0 : Int32)) hx hb dX12_sign_16 (by decide) ?_
      exact J17 _ _ _ _ (lv_sub hl [] rfl) hw hd
    · have hd := zif_neg c_2 hd
      refine lv_iconst (v := (-1 : Int32)) hx hb dX12_sign_12 (by decide) ?_
      refine lv_goto (tgt := 17) hx hb dX12_sign_13 (by decide) ?_
      exact J17 _ _ _ _ (lv_sub hl [] rfl) hw hd
  · have hd := zif_neg c_1 hd
    refine lv_iconst (v := (1 : Int32)) hx hb dX12_sign_4 (by decide) ?_
    refine lv_goto (tgt := 17) hx hb dX12_sign_5 (by decide) ?_
    exact J17 _ _ _ _ (lv_sub hl [] rfl) hw hd

def zX12_isLet (sh : zShp) (p0 : Int32) (M : zMem) : Option (Int32) :=
  zob (zX12_isIn sh (p0.toInt64) (-1023 : Int64) (1023 : Int64) M) fun r_2 =>
  zgd (zisB r_2) <|
  some r_2
set_option maxHeartbeats 4000000 in
set_option maxRecDepth 100000 in
theorem ztX12_isLet (l : Launch) (D : va_G) (cy : Nat → ClassId) (sh : zShp) (ad : Nat → Nat) {p0 : Int32}  {M : zMem} {r : Int32} (hd : zX12_isLet sh p0 M = some r) : zCI l yX12_isLet cX12_isLet 1 .boolean { frames := 1, cells := 0, slots := 0, locals := 25 } [.int p0] D cy sh ad M r M := by
  refine zci_of (by decide) (Nat.le_of_ble_eq_true rfl) (fun p e s m below meth c ls F hr hlk hl hw => ?_)
  have hx := F.1.1
  have hb := F.1.2.1
  have hl : lv_has ls 1 [(0, .int p0)] := hl
  unfold zX12_isLet at hd
  refine lv_iload_n hx hb dX12_isLet_0 rfl (lv_at hl 0 rfl) ?_
  refine lv_i2l (v := p0.toInt64) hx hb dX12_isLet_1 rfl ?_
  refine lv_ldc2 (v := (-1023 : Int64)) hx hb F.1.2.2.2.1 (F.1.2.2.2.2 _ zi12_473) dX12_isLet_2 ?_
  refine lv_ldc2 (v := (1023 : Int64)) hx hb F.1.2.2.2.1 (F.1.2.2.2.2 _ zi12_475) dX12_isLet_5 ?_
  obtain ⟨r_2, hc_1, hd⟩ := zob_some hd
  refine z_csI F hw hl.1 (As := [.long (p0.toInt64), .long (-1023 : Int64), .long (1023 : Int64)]) (rest := []) (ztX12_isIn l D cy sh ad  hc_1) zyX12_isIn zk12_91 ⟨rfl, rfl⟩ ⟨by decide, by decide⟩ rfl rfl (Nat.le_of_ble_eq_true rfl) dX12_isLet_8 (fun H locs hw => ?_)
  obtain ⟨g_3, hd⟩ := zgd_some hd
  exact z_zret F hr hlk hw g_3 (Option.some.inj hd) rfl dX12_isLet_11

def zjX12_swings_27 (sh : zShp) (k0 : Nat) (p1 : Int32) (p2 : Int32) (p3 : Int32) (M : zMem)   : Option (Int32) :=
  some (-1 : Int32)
def zjX12_swings_97 (sh : zShp) (k0 : Nat) (p1 : Int32) (p2 : Int32) (p3 : Int32) (M : zMem) (kk42 : Int32 → Int32 → Int32 → Int32 → Option (Int32)) (x4 : Int32) (x5 : Int32) (x7 : Int32) (s0 : Int32) (s1 : Int32) : Option (Int32) :=
  zob (zX12_truth sh s1 M) fun r_2 =>
  kk42 x4 x5 (s0 + r_2) (x7 + (1 : Int32))
def zbX12_swings_42 (sh : zShp) (k0 : Nat) (p1 : Int32) (p2 : Int32) (p3 : Int32) (M : zMem)  (kk42 : Int32 → Int32 → Int32 → Int32 → Option (Int32)) (x4 : Int32) (x5 : Int32) (x6 : Int32) (x7 : Int32) : Option (Int32) :=
  if p3 ≤ x7 then (
  some x6)
  else (
  zob (zX12_sign sh x5 M) fun r_5 =>
  zob (zX12_axisAt sh k0 p1 (3 : Int32) M) fun r_7 =>
  zob (zX12_swung sh k0 p1 (-x4) x5 r_7 M) fun r_9 =>
  zob (zX12_sign sh r_9 M) fun r_11 =>
  if r_11 = r_5 then (
  zjX12_swings_97 sh k0 p1 p2 p3 M kk42 (x4 + r_9) r_9 x7 x6 (0 : Int32))
  else (
  zjX12_swings_97 sh k0 p1 p2 p3 M kk42 (x4 + r_9) r_9 x7 x6 (1 : Int32)))
def zlX12_swings_42 (sh : zShp) (k0 : Nat) (p1 : Int32) (p2 : Int32) (p3 : Int32) (M : zMem)  : Nat → Int32 → Int32 → Int32 → Int32 → Option (Int32)
  | 0 => fun _ _ _ _ => none
  | n + 1 => fun x4 x5 x6 x7 => zbX12_swings_42 sh k0 p1 p2 p3 M  (zlX12_swings_42 sh k0 p1 p2 p3 M  n) x4 x5 x6 x7
def zX12_swings (sh : zShp) (k0 : Nat) (p1 : Int32) (p2 : Int32) (p3 : Int32) (M : zMem) : Option (Int32) :=
  zob (zX12_isAxis sh k0 p1 M) fun r_14 =>
  if r_14 = 0 then (
  zjX12_swings_27 sh k0 p1 p2 p3 M)
  else (
  zob (zX12_isLet sh p2 M) fun r_17 =>
  if r_17 = 0 then (
  zjX12_swings_27 sh k0 p1 p2 p3 M)
  else (
  zob (zX12_isIn sh (p3.toInt64) (1 : Int64) (500 : Int64) M) fun r_20 =>
  if r_20 = 0 then (
  zjX12_swings_27 sh k0 p1 p2 p3 M)
  else (
  zlX12_swings_42 sh k0 p1 p2 p3 M zF (-p2) (0 : Int32) (0 : Int32) (0 : Int32))))
set_option maxHeartbeats 4000000 in
set_option maxRecDepth 100000 in
theorem ztX12_swings (l : Launch) (D : va_G) (cy : Nat → ClassId) (sh : zShp) (ad : Nat → Nat) {k0 : Nat} {p1 : Int32} {p2 : Int32} {p3 : Int32} (h0 : zT sh k0 12) {M : zMem} {r : Int32} (hd : zX12_swings sh k0 p1 p2 p3 M = some r) : zCI l yX12_swings cX12_swings 9 .int { frames := 4, cells := 0, slots := 0, locals := 95 } [.ref (ad k0), .int p1, .int p2, .int p3] D cy sh ad M r M := by
  refine zci_of (by decide) (Nat.le_of_ble_eq_true rfl) (fun p e s m below meth c ls F hr hlk hl hw => ?_)
  have hx := F.1.1
  have hb := F.1.2.1
  have hl : lv_has ls 9 [(0, .ref (ad k0)), (1, .int p1), (2, .int p2), (3, .int p3)] := hl
  have J27 : ∀  (H : Heap) (locs : List Loc) (ls : Array Slot), lv_has ls 9 [] → zWd D cy sh ad s M H locs → zjX12_swings_27 sh k0 p1 p2 p3 M   = some r → W p l e { frames := 4, cells := 0, slots := 0, locals := 95 } s m ([.ref (ad k0), .int p1, .int p2, .int p3] : List Value).toArray below meth c H locs 0 0 (zQI below D cy sh ad s [.ref (ad k0), .int p1, .int p2, .int p3] r M) (F0 m 27 ls []) := by
    intro  H locs ls hl hw hd
    unfold zjX12_swings_27 at hd
    refine lv_iconst (v := (-1 : Int32)) hx hb dX12_swings_27 (by decide) ?_
    exact z_iret F hr hlk hw (Option.some.inj hd) rfl dX12_swings_28
  have J97 : ∀ (kk42 : Int32 → Int32 → Int32 → Int32 → Option (Int32)) (hk42 : ∀ (x4 : Int32) (x5 : Int32) (x6 : Int32) (x7 : Int32) (H : Heap) (locs : List Loc) (ls : Array Slot), lv_has ls 9 [(0, .ref (ad k0)), (1, .int p1), (3, .int p3), (4, .int x4), (5, .int x5), (6, .int x6), (7, .int x7)] → zWd D cy sh ad s M H locs → kk42 x4 x5 x6 x7 = some r → W p l e { frames := 4, cells := 0, slots := 0, locals := 95 } s m ([.ref (ad k0), .int p1, .int p2, .int p3] : List Value).toArray below meth c H locs 0 0 (zQI below D cy sh ad s [.ref (ad k0), .int p1, .int p2, .int p3] r M) (F0 m 42 ls [])), ∀ (x4 : Int32) (x5 : Int32) (x7 : Int32) (s0 : Int32) (s1 : Int32) (H : Heap) (locs : List Loc) (ls : Array Slot), lv_has ls 9 [(0, .ref (ad k0)), (1, .int p1), (3, .int p3), (4, .int x4), (5, .int x5), (7, .int x7)] → zWd D cy sh ad s M H locs → zjX12_swings_97 sh k0 p1 p2 p3 M kk42 x4 x5 x7 s0 s1 = some r → W p l e { frames := 4, cells := 0, slots := 0, locals := 95 } s m ([.ref (ad k0), .int p1, .int p2, .int p3] : List Value).toArray below meth c H locs 0 0 (zQI below D cy sh ad s [.ref (ad k0), .int p1, .int p2, .int p3] r M) (F0 m 97 ls [.int s1, .int s0]) := by
    intro kk42 hk42 x4 x5 x7 s0 s1 H locs ls hl hw hd
    unfold zjX12_swings_97 at hd
    obtain ⟨r_2, hc_1, hd⟩ := zob_some hd
    refine z_csI F hw hl.1 (As := [.int s1]) (rest := [.int s0]) (ztX12_truth l D cy sh ad  hc_1) zyX12_truth zk12_279 ⟨rfl, rfl⟩ ⟨by decide, by decide⟩ rfl rfl (Nat.le_of_ble_eq_true rfl) dX12_swings_97 (fun H locs hw => ?_)
    refine lv_iadd hx hb dX12_swings_100 ?_
    refine lv_istore (lv' := [(6, .int (s0 + r_2)), (0, .ref (ad k0)), (1, .int p1), (3, .int p3), (4, .int x4), (5, .int x5), (7, .int x7)]) hx hb dX12_swings_101 hl (by decide) rfl (fun ls hl => ?_)
    refine lv_iinc (v := (x7 + (1 : Int32))) (lv' := [(7, .int (x7 + (1 : Int32))), (6, .int (s0 + r_2)), (0, .ref (ad k0)), (1, .int p1), (3, .int p3), (4, .int x4), (5, .int x5)]) hx hb dX12_swings_103 hl (k := 6) rfl (ziinc (by decide)) (by decide) rfl (fun ls hl => ?_)
    refine lv_goto (tgt := 42) hx hb dX12_swings_106 (by decide) ?_
    exact hk42 _ _ _ _ _ _ _ (lv_sub hl [2, 3, 4, 5, 6, 1, 0] rfl) hw hd
  have L42 : ∀  (n : Nat), ∀ (x4 : Int32) (x5 : Int32) (x6 : Int32) (x7 : Int32) (H : Heap) (locs : List Loc) (ls : Array Slot), lv_has ls 9 [(0, .ref (ad k0)), (1, .int p1), (3, .int p3), (4, .int x4), (5, .int x5), (6, .int x6), (7, .int x7)] → zWd D cy sh ad s M H locs → zlX12_swings_42 sh k0 p1 p2 p3 M  n x4 x5 x6 x7 = some r → W p l e { frames := 4, cells := 0, slots := 0, locals := 95 } s m ([.ref (ad k0), .int p1, .int p2, .int p3] : List Value).toArray below meth c H locs 0 0 (zQI below D cy sh ad s [.ref (ad k0), .int p1, .int p2, .int p3] r M) (F0 m 42 ls []) := by
    intro  n
    induction n with
    | zero => intro x4 x5 x6 x7 H locs ls hl hw hd; exact (znone hd).elim
    | succ n hk42 =>
      intro x4 x5 x6 x7 H locs ls hl hw hd
      have hd : zbX12_swings_42 sh k0 p1 p2 p3 M  (zlX12_swings_42 sh k0 p1 p2 p3 M  n) x4 x5 x6 x7 = some r := hd
      unfold zbX12_swings_42 at hd
      refine lv_iload hx hb dX12_swings_42 (lv_at hl 6 rfl) ?_
      refine lv_iload_n hx hb dX12_swings_44 rfl (lv_at hl 2 rfl) ?_
      refine lv_icmp_ge (tgt := 109) hx hb dX12_swings_45 (by decide) (fun c_3 => ?_) (fun c_3 => ?_)
      · have hd := zif_pos c_3 hd
        refine lv_iload hx hb dX12_swings_109 (lv_at hl 5 rfl) ?_
        exact z_iret F hr hlk hw (Option.some.inj hd) rfl dX12_swings_111
      · have hd := zif_neg c_3 hd
        refine lv_iload hx hb dX12_swings_48 (lv_at hl 4 rfl) ?_
        obtain ⟨r_5, hc_4, hd⟩ := zob_some hd
        refine z_csI F hw hl.1 (As := [.int x5]) (rest := []) (ztX12_sign l D cy sh ad  hc_4) zyX12_sign zk12_480 ⟨rfl, rfl⟩ ⟨by decide, by decide⟩ rfl rfl (Nat.le_of_ble_eq_true rfl) dX12_swings_50 (fun H locs hw => ?_)
        refine lv_istore (lv' := [(8, .int r_5), (0, .ref (ad k0)), (1, .int p1), (3, .int p3), (4, .int x4), (5, .int x5), (6, .int x6), (7, .int x7)]) hx hb dX12_swings_53 hl (by decide) rfl (fun ls hl => ?_)
        refine lv_aload_n hx hb dX12_swings_55 rfl (lv_at hl 1 rfl) ?_
        refine lv_iload_n hx hb dX12_swings_56 rfl (lv_at hl 2 rfl) ?_
        refine lv_iload hx hb dX12_swings_57 (lv_at hl 4 rfl) ?_
        refine lv_ineg hx hb dX12_swings_59 ?_
        refine lv_iload hx hb dX12_swings_60 (lv_at hl 5 rfl) ?_
        refine lv_aload_n hx hb dX12_swings_62 rfl (lv_at hl 1 rfl) ?_
        refine lv_iload_n hx hb dX12_swings_63 rfl (lv_at hl 2 rfl) ?_
        refine lv_iconst (v := (3 : Int32)) hx hb dX12_swings_64 (by decide) ?_
        obtain ⟨r_7, hc_6, hd⟩ := zob_some hd
        refine z_cvI F hw hl.1 (As := [.int p1, .int (3 : Int32)]) (rest := [.int x5, .int (-x4), .int p1, .ref (ad k0)]) (ztX12_axisAt l D cy sh ad h0 hc_6) zyX12_axisAt h0 zc12 zk12_338 ⟨rfl, rfl⟩ ⟨by decide, by decide⟩ rfl rfl (Nat.le_of_ble_eq_true rfl) dX12_swings_65 (fun H locs hw => ?_)
        obtain ⟨r_9, hc_8, hd⟩ := zob_some hd
        refine z_cvI F hw hl.1 (As := [.int p1, .int (-x4), .int x5, .int r_7]) (rest := []) (ztX12_swung l D cy sh ad h0 hc_8) zyX12_swung h0 zc12 zk12_438 ⟨rfl, rfl⟩ ⟨by decide, by decide⟩ rfl rfl (Nat.le_of_ble_eq_true rfl) dX12_swings_68 (fun H locs hw => ?_)
        refine lv_istore (lv' := [(5, .int r_9), (8, .int r_5), (0, .ref (ad k0)), (1, .int p1), (3, .int p3), (4, .int x4), (6, .int x6), (7, .int x7)]) hx hb dX12_swings_71 hl (by decide) rfl (fun ls hl => ?_)
        refine lv_iload hx hb dX12_swings_73 (lv_at hl 5 rfl) ?_
        refine lv_iload hx hb dX12_swings_75 (lv_at hl 0 rfl) ?_
        refine lv_iadd hx hb dX12_swings_77 ?_
        refine lv_istore (lv' := [(4, .int (x4 + r_9)), (5, .int r_9), (8, .int r_5), (0, .ref (ad k0)), (1, .int p1), (3, .int p3), (6, .int x6), (7, .int x7)]) hx hb dX12_swings_78 hl (by decide) rfl (fun ls hl => ?_)
        refine lv_iload hx hb dX12_swings_80 (lv_at hl 6 rfl) ?_
        refine lv_iload hx hb dX12_swings_82 (lv_at hl 1 rfl) ?_
        obtain ⟨r_11, hc_10, hd⟩ := zob_some hd
        refine z_csI F hw hl.1 (As := [.int r_9]) (rest := [.int x6]) (ztX12_sign l D cy sh ad  hc_10) zyX12_sign zk12_480 ⟨rfl, rfl⟩ ⟨by decide, by decide⟩ rfl rfl (Nat.le_of_ble_eq_true rfl) dX12_swings_84 (fun H locs hw => ?_)
        refine lv_iload hx hb dX12_swings_87 (lv_at hl 2 rfl) ?_
        refine lv_icmp_eq (tgt := 96) hx hb dX12_swings_89 (by decide) (fun c_12 => ?_) (fun c_12 => ?_)
        · have hd := zif_pos c_12 hd
          refine lv_iconst (v := (0 : Int32)) hx hb dX12_swings_96 (by decide) ?_
          exact J97 _ hk42 _ _ _ _ _ _ _ _ (lv_sub hl [3, 4, 5, 0, 1, 7] rfl) hw hd
        · have hd := zif_neg c_12 hd
          refine lv_iconst (v := (1 : Int32)) hx hb dX12_swings_92 (by decide) ?_
          refine lv_goto (tgt := 97) hx hb dX12_swings_93 (by decide) ?_
          exact J97 _ hk42 _ _ _ _ _ _ _ _ (lv_sub hl [3, 4, 5, 0, 1, 7] rfl) hw hd
  unfold zX12_swings at hd
  refine lv_aload_n hx hb dX12_swings_0 rfl (lv_at hl 0 rfl) ?_
  refine lv_iload_n hx hb dX12_swings_1 rfl (lv_at hl 1 rfl) ?_
  obtain ⟨r_14, hc_13, hd⟩ := zob_some hd
  refine z_cvI F hw hl.1 (As := [.int p1]) (rest := []) (ztX12_isAxis l D cy sh ad h0 hc_13) zyX12_isAxis h0 zc12 zk12_312 ⟨rfl, rfl⟩ ⟨by decide, by decide⟩ rfl rfl (Nat.le_of_ble_eq_true rfl) dX12_swings_2 (fun H locs hw => ?_)
  refine lv_if_eq (tgt := 27) hx hb dX12_swings_5 (by decide) (fun c_15 => ?_) (fun c_15 => ?_)
  · have hd := zif_pos c_15 hd
    exact J27 _ _ _ (lv_sub hl [] rfl) hw hd
  · have hd := zif_neg c_15 hd
    refine lv_iload_n hx hb dX12_swings_8 rfl (lv_at hl 2 rfl) ?_
    obtain ⟨r_17, hc_16, hd⟩ := zob_some hd
    refine z_csI F hw hl.1 (As := [.int p2]) (rest := []) (ztX12_isLet l D cy sh ad  hc_16) zyX12_isLet zk12_477 ⟨rfl, rfl⟩ ⟨by decide, by decide⟩ rfl rfl (Nat.le_of_ble_eq_true rfl) dX12_swings_9 (fun H locs hw => ?_)
    refine lv_if_eq (tgt := 27) hx hb dX12_swings_12 (by decide) (fun c_18 => ?_) (fun c_18 => ?_)
    · have hd := zif_pos c_18 hd
      exact J27 _ _ _ (lv_sub hl [] rfl) hw hd
    · have hd := zif_neg c_18 hd
      refine lv_iload_n hx hb dX12_swings_15 rfl (lv_at hl 3 rfl) ?_
      refine lv_i2l (v := p3.toInt64) hx hb dX12_swings_16 rfl ?_
      refine lv_lconst (v := (1 : Int64)) hx hb dX12_swings_17 (by decide) ?_
      refine lv_ldc2 (v := (500 : Int64)) hx hb F.1.2.2.2.1 (F.1.2.2.2.2 _ zi12_444) dX12_swings_18 ?_
      obtain ⟨r_20, hc_19, hd⟩ := zob_some hd
      refine z_csI F hw hl.1 (As := [.long (p3.toInt64), .long (1 : Int64), .long (500 : Int64)]) (rest := []) (ztX12_isIn l D cy sh ad  hc_19) zyX12_isIn zk12_91 ⟨rfl, rfl⟩ ⟨by decide, by decide⟩ rfl rfl (Nat.le_of_ble_eq_true rfl) dX12_swings_21 (fun H locs hw => ?_)
      refine lv_if_ne (tgt := 29) hx hb dX12_swings_24 (by decide) (fun c_21 => ?_) (fun c_21 => ?_)
      · have hd := zif_neg c_21 hd
        refine lv_iload_n hx hb dX12_swings_29 rfl (lv_at hl 2 rfl) ?_
        refine lv_ineg hx hb dX12_swings_30 ?_
        refine lv_istore (lv' := [(4, .int (-p2)), (0, .ref (ad k0)), (1, .int p1), (2, .int p2), (3, .int p3)]) hx hb dX12_swings_31 hl (by decide) rfl (fun ls hl => ?_)
        refine lv_iconst (v := (0 : Int32)) hx hb dX12_swings_33 (by decide) ?_
        refine lv_istore (lv' := [(5, .int (0 : Int32)), (4, .int (-p2)), (0, .ref (ad k0)), (1, .int p1), (2, .int p2), (3, .int p3)]) hx hb dX12_swings_34 hl (by decide) rfl (fun ls hl => ?_)
        refine lv_iconst (v := (0 : Int32)) hx hb dX12_swings_36 (by decide) ?_
        refine lv_istore (lv' := [(6, .int (0 : Int32)), (5, .int (0 : Int32)), (4, .int (-p2)), (0, .ref (ad k0)), (1, .int p1), (2, .int p2), (3, .int p3)]) hx hb dX12_swings_37 hl (by decide) rfl (fun ls hl => ?_)
        refine lv_iconst (v := (0 : Int32)) hx hb dX12_swings_39 (by decide) ?_
        refine lv_istore (lv' := [(7, .int (0 : Int32)), (6, .int (0 : Int32)), (5, .int (0 : Int32)), (4, .int (-p2)), (0, .ref (ad k0)), (1, .int p1), (2, .int p2), (3, .int p3)]) hx hb dX12_swings_40 hl (by decide) rfl (fun ls hl => ?_)
        exact L42 zF _ _ _ _ _ _ _ (lv_sub hl [4, 5, 7, 3, 2, 1, 0] rfl) hw hd
      · have hd := zif_pos c_21 hd
        exact J27 _ _ _ (lv_sub hl [] rfl) hw hd

def zjX12_settles_15 (sh : zShp) (k0 : Nat) (p1 : Int32) (p2 : Int32) (M : zMem)   : Option (Int32) :=
  some (-1 : Int32)
def zjX12_settles_58 (sh : zShp) (k0 : Nat) (p1 : Int32) (p2 : Int32) (M : zMem) (kk26 : Int32 → Int32 → Int32 → Option (Int32)) (x3 : Int32) (x4 : Int32) (x5 : Int32) : Option (Int32) :=
  zob (zX12_axisAt sh k0 p1 (3 : Int32) M) fun r_2 =>
  zob (zX12_swung sh k0 p1 (-x3) x4 r_2 M) fun r_4 =>
  kk26 (x3 + r_4) r_4 (x5 + (1 : Int32))
def zbX12_settles_26 (sh : zShp) (k0 : Nat) (p1 : Int32) (p2 : Int32) (M : zMem)  (kk26 : Int32 → Int32 → Int32 → Option (Int32)) (x3 : Int32) (x4 : Int32) (x5 : Int32) : Option (Int32) :=
  if (2000 : Int32) < x5 then (
  some (-1 : Int32))
  else (
  if x4 = 0 then (
  zob (zX12_axisAt sh k0 p1 (3 : Int32) M) fun r_8 =>
  zob (zX12_pushed sh k0 p1 (-x3) r_8 M) fun r_10 =>
  if r_10 = 0 then (
  some x5)
  else (
  zjX12_settles_58 sh k0 p1 p2 M kk26 x3 x4 x5))
  else (
  zjX12_settles_58 sh k0 p1 p2 M kk26 x3 x4 x5))
def zlX12_settles_26 (sh : zShp) (k0 : Nat) (p1 : Int32) (p2 : Int32) (M : zMem)  : Nat → Int32 → Int32 → Int32 → Option (Int32)
  | 0 => fun _ _ _ => none
  | n + 1 => fun x3 x4 x5 => zbX12_settles_26 sh k0 p1 p2 M  (zlX12_settles_26 sh k0 p1 p2 M  n) x3 x4 x5
def zX12_settles (sh : zShp) (k0 : Nat) (p1 : Int32) (p2 : Int32) (M : zMem) : Option (Int32) :=
  zob (zX12_isAxis sh k0 p1 M) fun r_13 =>
  if r_13 = 0 then (
  zjX12_settles_15 sh k0 p1 p2 M)
  else (
  zob (zX12_isLet sh p2 M) fun r_16 =>
  if r_16 = 0 then (
  zjX12_settles_15 sh k0 p1 p2 M)
  else (
  zlX12_settles_26 sh k0 p1 p2 M zF (-p2) (0 : Int32) (0 : Int32)))
set_option maxHeartbeats 4000000 in
set_option maxRecDepth 100000 in
theorem ztX12_settles (l : Launch) (D : va_G) (cy : Nat → ClassId) (sh : zShp) (ad : Nat → Nat) {k0 : Nat} {p1 : Int32} {p2 : Int32} (h0 : zT sh k0 12) {M : zMem} {r : Int32} (hd : zX12_settles sh k0 p1 p2 M = some r) : zCI l yX12_settles cX12_settles 6 .int { frames := 4, cells := 0, slots := 0, locals := 95 } [.ref (ad k0), .int p1, .int p2] D cy sh ad M r M := by
  refine zci_of (by decide) (Nat.le_of_ble_eq_true rfl) (fun p e s m below meth c ls F hr hlk hl hw => ?_)
  have hx := F.1.1
  have hb := F.1.2.1
  have hl : lv_has ls 6 [(0, .ref (ad k0)), (1, .int p1), (2, .int p2)] := hl
  have J15 : ∀  (H : Heap) (locs : List Loc) (ls : Array Slot), lv_has ls 6 [] → zWd D cy sh ad s M H locs → zjX12_settles_15 sh k0 p1 p2 M   = some r → W p l e { frames := 4, cells := 0, slots := 0, locals := 95 } s m ([.ref (ad k0), .int p1, .int p2] : List Value).toArray below meth c H locs 0 0 (zQI below D cy sh ad s [.ref (ad k0), .int p1, .int p2] r M) (F0 m 15 ls []) := by
    intro  H locs ls hl hw hd
    unfold zjX12_settles_15 at hd
    refine lv_iconst (v := (-1 : Int32)) hx hb dX12_settles_15 (by decide) ?_
    exact z_iret F hr hlk hw (Option.some.inj hd) rfl dX12_settles_16
  have J58 : ∀ (kk26 : Int32 → Int32 → Int32 → Option (Int32)) (hk26 : ∀ (x3 : Int32) (x4 : Int32) (x5 : Int32) (H : Heap) (locs : List Loc) (ls : Array Slot), lv_has ls 6 [(0, .ref (ad k0)), (1, .int p1), (3, .int x3), (4, .int x4), (5, .int x5)] → zWd D cy sh ad s M H locs → kk26 x3 x4 x5 = some r → W p l e { frames := 4, cells := 0, slots := 0, locals := 95 } s m ([.ref (ad k0), .int p1, .int p2] : List Value).toArray below meth c H locs 0 0 (zQI below D cy sh ad s [.ref (ad k0), .int p1, .int p2] r M) (F0 m 26 ls [])), ∀ (x3 : Int32) (x4 : Int32) (x5 : Int32) (H : Heap) (locs : List Loc) (ls : Array Slot), lv_has ls 6 [(0, .ref (ad k0)), (1, .int p1), (3, .int x3), (4, .int x4), (5, .int x5)] → zWd D cy sh ad s M H locs → zjX12_settles_58 sh k0 p1 p2 M kk26 x3 x4 x5 = some r → W p l e { frames := 4, cells := 0, slots := 0, locals := 95 } s m ([.ref (ad k0), .int p1, .int p2] : List Value).toArray below meth c H locs 0 0 (zQI below D cy sh ad s [.ref (ad k0), .int p1, .int p2] r M) (F0 m 58 ls []) := by
    intro kk26 hk26 x3 x4 x5 H locs ls hl hw hd
    unfold zjX12_settles_58 at hd
    refine lv_aload_n hx hb dX12_settles_58 rfl (lv_at hl 0 rfl) ?_
    refine lv_iload_n hx hb dX12_settles_59 rfl (lv_at hl 1 rfl) ?_
    refine lv_iload_n hx hb dX12_settles_60 rfl (lv_at hl 2 rfl) ?_
    refine lv_ineg hx hb dX12_settles_61 ?_
    refine lv_iload hx hb dX12_settles_62 (lv_at hl 3 rfl) ?_
    refine lv_aload_n hx hb dX12_settles_64 rfl (lv_at hl 0 rfl) ?_
    refine lv_iload_n hx hb dX12_settles_65 rfl (lv_at hl 1 rfl) ?_
    refine lv_iconst (v := (3 : Int32)) hx hb dX12_settles_66 (by decide) ?_
    obtain ⟨r_2, hc_1, hd⟩ := zob_some hd
    refine z_cvI F hw hl.1 (As := [.int p1, .int (3 : Int32)]) (rest := [.int x4, .int (-x3), .int p1, .ref (ad k0)]) (ztX12_axisAt l D cy sh ad h0 hc_1) zyX12_axisAt h0 zc12 zk12_338 ⟨rfl, rfl⟩ ⟨by decide, by decide⟩ rfl rfl (Nat.le_of_ble_eq_true rfl) dX12_settles_67 (fun H locs hw => ?_)
    obtain ⟨r_4, hc_3, hd⟩ := zob_some hd
    refine z_cvI F hw hl.1 (As := [.int p1, .int (-x3), .int x4, .int r_2]) (rest := []) (ztX12_swung l D cy sh ad h0 hc_3) zyX12_swung h0 zc12 zk12_438 ⟨rfl, rfl⟩ ⟨by decide, by decide⟩ rfl rfl (Nat.le_of_ble_eq_true rfl) dX12_settles_70 (fun H locs hw => ?_)
    refine lv_istore (lv' := [(4, .int r_4), (0, .ref (ad k0)), (1, .int p1), (3, .int x3), (5, .int x5)]) hx hb dX12_settles_73 hl (by decide) rfl (fun ls hl => ?_)
    refine lv_iload_n hx hb dX12_settles_75 rfl (lv_at hl 3 rfl) ?_
    refine lv_iload hx hb dX12_settles_76 (lv_at hl 0 rfl) ?_
    refine lv_iadd hx hb dX12_settles_78 ?_
    refine lv_istore_n (lv' := [(3, .int (x3 + r_4)), (4, .int r_4), (0, .ref (ad k0)), (1, .int p1), (5, .int x5)]) hx hb dX12_settles_79 rfl hl (by decide) rfl (fun ls hl => ?_)
    refine lv_iinc (v := (x5 + (1 : Int32))) (lv' := [(5, .int (x5 + (1 : Int32))), (3, .int (x3 + r_4)), (4, .int r_4), (0, .ref (ad k0)), (1, .int p1)]) hx hb dX12_settles_80 hl (k := 4) rfl (ziinc (by decide)) (by decide) rfl (fun ls hl => ?_)
    refine lv_goto (tgt := 26) hx hb dX12_settles_83 (by decide) ?_
    exact hk26 _ _ _ _ _ _ (lv_sub hl [3, 4, 1, 2, 0] rfl) hw hd
  have L26 : ∀  (n : Nat), ∀ (x3 : Int32) (x4 : Int32) (x5 : Int32) (H : Heap) (locs : List Loc) (ls : Array Slot), lv_has ls 6 [(0, .ref (ad k0)), (1, .int p1), (3, .int x3), (4, .int x4), (5, .int x5)] → zWd D cy sh ad s M H locs → zlX12_settles_26 sh k0 p1 p2 M  n x3 x4 x5 = some r → W p l e { frames := 4, cells := 0, slots := 0, locals := 95 } s m ([.ref (ad k0), .int p1, .int p2] : List Value).toArray below meth c H locs 0 0 (zQI below D cy sh ad s [.ref (ad k0), .int p1, .int p2] r M) (F0 m 26 ls []) := by
    intro  n
    induction n with
    | zero => intro x3 x4 x5 H locs ls hl hw hd; exact (znone hd).elim
    | succ n hk26 =>
      intro x3 x4 x5 H locs ls hl hw hd
      have hd : zbX12_settles_26 sh k0 p1 p2 M  (zlX12_settles_26 sh k0 p1 p2 M  n) x3 x4 x5 = some r := hd
      unfold zbX12_settles_26 at hd
      refine lv_iload hx hb dX12_settles_26 (lv_at hl 4 rfl) ?_
      refine lv_sipush (v := (2000 : Int32)) hx hb dX12_settles_28 (by decide) ?_
      refine lv_icmp_gt (tgt := 86) hx hb dX12_settles_31 (by decide) (fun c_5 => ?_) (fun c_5 => ?_)
      · have hd := zif_pos c_5 hd
        refine lv_iconst (v := (-1 : Int32)) hx hb dX12_settles_86 (by decide) ?_
        exact z_iret F hr hlk hw (Option.some.inj hd) rfl dX12_settles_87
      · have hd := zif_neg c_5 hd
        refine lv_iload hx hb dX12_settles_34 (lv_at hl 3 rfl) ?_
        refine lv_if_ne (tgt := 58) hx hb dX12_settles_36 (by decide) (fun c_6 => ?_) (fun c_6 => ?_)
        · have hd := zif_neg c_6 hd
          exact J58 _ hk26 _ _ _ _ _ _ (lv_sub hl [0, 1, 2, 3, 4] rfl) hw hd
        · have hd := zif_pos c_6 hd
          refine lv_aload_n hx hb dX12_settles_39 rfl (lv_at hl 0 rfl) ?_
          refine lv_iload_n hx hb dX12_settles_40 rfl (lv_at hl 1 rfl) ?_
          refine lv_iload_n hx hb dX12_settles_41 rfl (lv_at hl 2 rfl) ?_
          refine lv_ineg hx hb dX12_settles_42 ?_
          refine lv_aload_n hx hb dX12_settles_43 rfl (lv_at hl 0 rfl) ?_
          refine lv_iload_n hx hb dX12_settles_44 rfl (lv_at hl 1 rfl) ?_
          refine lv_iconst (v := (3 : Int32)) hx hb dX12_settles_45 (by decide) ?_
          obtain ⟨r_8, hc_7, hd⟩ := zob_some hd
          refine z_cvI F hw hl.1 (As := [.int p1, .int (3 : Int32)]) (rest := [.int (-x3), .int p1, .ref (ad k0)]) (ztX12_axisAt l D cy sh ad h0 hc_7) zyX12_axisAt h0 zc12 zk12_338 ⟨rfl, rfl⟩ ⟨by decide, by decide⟩ rfl rfl (Nat.le_of_ble_eq_true rfl) dX12_settles_46 (fun H locs hw => ?_)
          obtain ⟨r_10, hc_9, hd⟩ := zob_some hd
          refine z_cvI F hw hl.1 (As := [.int p1, .int (-x3), .int r_8]) (rest := []) (ztX12_pushed l D cy sh ad h0 hc_9) zyX12_pushed h0 zc12 zk12_423 ⟨rfl, rfl⟩ ⟨by decide, by decide⟩ rfl rfl (Nat.le_of_ble_eq_true rfl) dX12_settles_49 (fun H locs hw => ?_)
          refine lv_if_ne (tgt := 58) hx hb dX12_settles_52 (by decide) (fun c_11 => ?_) (fun c_11 => ?_)
          · have hd := zif_neg c_11 hd
            exact J58 _ hk26 _ _ _ _ _ _ (lv_sub hl [0, 1, 2, 3, 4] rfl) hw hd
          · have hd := zif_pos c_11 hd
            refine lv_iload hx hb dX12_settles_55 (lv_at hl 4 rfl) ?_
            exact z_iret F hr hlk hw (Option.some.inj hd) rfl dX12_settles_57
  unfold zX12_settles at hd
  refine lv_aload_n hx hb dX12_settles_0 rfl (lv_at hl 0 rfl) ?_
  refine lv_iload_n hx hb dX12_settles_1 rfl (lv_at hl 1 rfl) ?_
  obtain ⟨r_13, hc_12, hd⟩ := zob_some hd
  refine z_cvI F hw hl.1 (As := [.int p1]) (rest := []) (ztX12_isAxis l D cy sh ad h0 hc_12) zyX12_isAxis h0 zc12 zk12_312 ⟨rfl, rfl⟩ ⟨by decide, by decide⟩ rfl rfl (Nat.le_of_ble_eq_true rfl) dX12_settles_2 (fun H locs hw => ?_)
  refine lv_if_eq (tgt := 15) hx hb dX12_settles_5 (by decide) (fun c_14 => ?_) (fun c_14 => ?_)
  · have hd := zif_pos c_14 hd
    exact J15 _ _ _ (lv_sub hl [] rfl) hw hd
  · have hd := zif_neg c_14 hd
    refine lv_iload_n hx hb dX12_settles_8 rfl (lv_at hl 2 rfl) ?_
    obtain ⟨r_16, hc_15, hd⟩ := zob_some hd
    refine z_csI F hw hl.1 (As := [.int p2]) (rest := []) (ztX12_isLet l D cy sh ad  hc_15) zyX12_isLet zk12_477 ⟨rfl, rfl⟩ ⟨by decide, by decide⟩ rfl rfl (Nat.le_of_ble_eq_true rfl) dX12_settles_9 (fun H locs hw => ?_)
    refine lv_if_ne (tgt := 17) hx hb dX12_settles_12 (by decide) (fun c_17 => ?_) (fun c_17 => ?_)
    · have hd := zif_neg c_17 hd
      refine lv_iload_n hx hb dX12_settles_17 rfl (lv_at hl 2 rfl) ?_
      refine lv_ineg hx hb dX12_settles_18 ?_
      refine lv_istore_n (lv' := [(3, .int (-p2)), (0, .ref (ad k0)), (1, .int p1), (2, .int p2)]) hx hb dX12_settles_19 rfl hl (by decide) rfl (fun ls hl => ?_)
      refine lv_iconst (v := (0 : Int32)) hx hb dX12_settles_20 (by decide) ?_
      refine lv_istore (lv' := [(4, .int (0 : Int32)), (3, .int (-p2)), (0, .ref (ad k0)), (1, .int p1), (2, .int p2)]) hx hb dX12_settles_21 hl (by decide) rfl (fun ls hl => ?_)
      refine lv_iconst (v := (0 : Int32)) hx hb dX12_settles_23 (by decide) ?_
      refine lv_istore (lv' := [(5, .int (0 : Int32)), (4, .int (0 : Int32)), (3, .int (-p2)), (0, .ref (ad k0)), (1, .int p1), (2, .int p2)]) hx hb dX12_settles_24 hl (by decide) rfl (fun ls hl => ?_)
      exact L26 zF _ _ _ _ _ _ (lv_sub hl [3, 4, 2, 1, 0] rfl) hw hd
    · have hd := zif_pos c_17 hd
      exact J15 _ _ _ (lv_sub hl [] rfl) hw hd
