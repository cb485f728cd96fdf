theorem dX11_go_0 : decode cX11_go 0 = .ok (.aload_n 0, 1) := by decide +kernel
theorem dX11_go_1 : decode cX11_go 1 = .ok (.getfield 40, 3) := by decide +kernel
theorem dX11_go_4 : decode cX11_go 4 = .ok (.getfield 251, 3) := by decide +kernel
theorem dX11_go_7 : decode cX11_go 7 = .ok (.ifCond .ne 13, 3) := by decide +kernel
theorem dX11_go_10 : decode cX11_go 10 = .ok (.aload_n 0, 1) := by decide +kernel
theorem dX11_go_11 : decode cX11_go 11 = .ok (.iload_n 1, 1) := by decide +kernel
theorem dX11_go_12 : decode cX11_go 12 = .ok (.iload_n 2, 1) := by decide +kernel
theorem dX11_go_13 : decode cX11_go 13 = .ok (.iload_n 3, 1) := by decide +kernel
theorem dX11_go_14 : decode cX11_go 14 = .ok (.invokevirtual 173, 3) := by decide +kernel
theorem dX11_go_17 : decode cX11_go 17 = .ok (.ifCond .ne 5, 3) := by decide +kernel
theorem dX11_go_20 : decode cX11_go 20 = .ok (.iconst (-1), 1) := by decide +kernel
theorem dX11_go_21 : decode cX11_go 21 = .ok (.ireturn, 1) := by decide +kernel
theorem dX11_go_22 : decode cX11_go 22 = .ok (.aload_n 0, 1) := by decide +kernel
theorem dX11_go_23 : decode cX11_go 23 = .ok (.getfield 50, 3) := by decide +kernel
theorem dX11_go_26 : decode cX11_go 26 = .ok (.aload_n 0, 1) := by decide +kernel
theorem dX11_go_27 : decode cX11_go 27 = .ok (.getfield 40, 3) := by decide +kernel
theorem dX11_go_30 : decode cX11_go 30 = .ok (.invokevirtual 255, 3) := by decide +kernel
theorem dX11_go_33 : decode cX11_go 33 = .ok (.aload_n 0, 1) := by decide +kernel
theorem dX11_go_34 : decode cX11_go 34 = .ok (.getfield 40, 3) := by decide +kernel
theorem dX11_go_37 : decode cX11_go 37 = .ok (.aload_n 0, 1) := by decide +kernel
theorem dX11_go_38 : decode cX11_go 38 = .ok (.getfield 82, 3) := by decide +kernel
theorem dX11_go_41 : decode cX11_go 41 = .ok (.aload_n 0, 1) := by decide +kernel
theorem dX11_go_42 : decode cX11_go 42 = .ok (.getfield 12, 3) := by decide +kernel
theorem dX11_go_45 : decode cX11_go 45 = .ok (.invokevirtual 259, 3) := by decide +kernel
theorem dX11_go_48 : decode cX11_go 48 = .ok (.aload_n 0, 1) := by decide +kernel
theorem dX11_go_49 : decode cX11_go 49 = .ok (.getfield 40, 3) := by decide +kernel
theorem dX11_go_52 : decode cX11_go 52 = .ok (.getfield 263, 3) := by decide +kernel
theorem dX11_go_55 : decode cX11_go 55 = .ok (.ireturn, 1) := by decide +kernel
theorem dX11_halt_0 : decode cX11_halt 0 = .ok (.aload_n 0, 1) := by decide +kernel
theorem dX11_halt_1 : decode cX11_halt 1 = .ok (.getfield 40, 3) := by decide +kernel
theorem dX11_halt_4 : decode cX11_halt 4 = .ok (.getfield 251, 3) := by decide +kernel
theorem dX11_halt_7 : decode cX11_halt 7 = .ok (.ifCond .eq 13, 3) := by decide +kernel
theorem dX11_halt_10 : decode cX11_halt 10 = .ok (.aload_n 0, 1) := by decide +kernel
theorem dX11_halt_11 : decode cX11_halt 11 = .ok (.getfield 40, 3) := by decide +kernel
theorem dX11_halt_14 : decode cX11_halt 14 = .ok (.getfield 266, 3) := by decide +kernel
theorem dX11_halt_17 : decode cX11_halt 17 = .ok (.ifCond .eq 5, 3) := by decide +kernel
theorem dX11_halt_20 : decode cX11_halt 20 = .ok (.iconst (-1), 1) := by decide +kernel
theorem dX11_halt_21 : decode cX11_halt 21 = .ok (.ireturn, 1) := by decide +kernel
theorem dX11_halt_22 : decode cX11_halt 22 = .ok (.aload_n 0, 1) := by decide +kernel
theorem dX11_halt_23 : decode cX11_halt 23 = .ok (.getfield 40, 3) := by decide +kernel
theorem dX11_halt_26 : decode cX11_halt 26 = .ok (.getfield 269, 3) := by decide +kernel
theorem dX11_halt_29 : decode cX11_halt 29 = .ok (.astore_n 1, 1) := by decide +kernel
theorem dX11_halt_30 : decode cX11_halt 30 = .ok (.aload_n 0, 1) := by decide +kernel
theorem dX11_halt_31 : decode cX11_halt 31 = .ok (.getfield 64, 3) := by decide +kernel
theorem dX11_halt_34 : decode cX11_halt 34 = .ok (.aload_n 0, 1) := by decide +kernel
theorem dX11_halt_35 : decode cX11_halt 35 = .ok (.getfield 40, 3) := by decide +kernel
theorem dX11_halt_38 : decode cX11_halt 38 = .ok (.getfield 272, 3) := by decide +kernel
theorem dX11_halt_41 : decode cX11_halt 41 = .ok (.aload_n 1, 1) := by decide +kernel
theorem dX11_halt_42 : decode cX11_halt 42 = .ok (.getfield 275, 3) := by decide +kernel
theorem dX11_halt_45 : decode cX11_halt 45 = .ok (.aload_n 1, 1) := by decide +kernel
theorem dX11_halt_46 : decode cX11_halt 46 = .ok (.getfield 278, 3) := by decide +kernel
theorem dX11_halt_49 : decode cX11_halt 49 = .ok (.invokevirtual 281, 3) := by decide +kernel
theorem dX11_halt_52 : decode cX11_halt 52 = .ok (.aload_n 0, 1) := by decide +kernel
theorem dX11_halt_53 : decode cX11_halt 53 = .ok (.getfield 64, 3) := by decide +kernel
theorem dX11_halt_56 : decode cX11_halt 56 = .ok (.invokevirtual 166, 3) := by decide +kernel
theorem dX11_halt_59 : decode cX11_halt 59 = .ok (.aload_n 1, 1) := by decide +kernel
theorem dX11_halt_60 : decode cX11_halt 60 = .ok (.getfield 181, 3) := by decide +kernel
theorem dX11_halt_63 : decode cX11_halt 63 = .ok (.aload_n 0, 1) := by decide +kernel
theorem dX11_halt_64 : decode cX11_halt 64 = .ok (.getfield 40, 3) := by decide +kernel
theorem dX11_halt_67 : decode cX11_halt 67 = .ok (.getfield 285, 3) := by decide +kernel
theorem dX11_halt_70 : decode cX11_halt 70 = .ok (.isub, 1) := by decide +kernel
theorem dX11_halt_71 : decode cX11_halt 71 = .ok (.if_icmp .le 5, 3) := by decide +kernel
theorem dX11_halt_74 : decode cX11_halt 74 = .ok (.iconst (-1), 1) := by decide +kernel
theorem dX11_halt_75 : decode cX11_halt 75 = .ok (.ireturn, 1) := by decide +kernel
theorem dX11_halt_76 : decode cX11_halt 76 = .ok (.aload_n 0, 1) := by decide +kernel
theorem dX11_halt_77 : decode cX11_halt 77 = .ok (.getfield 50, 3) := by decide +kernel
theorem dX11_halt_80 : decode cX11_halt 80 = .ok (.aload_n 0, 1) := by decide +kernel
theorem dX11_halt_81 : decode cX11_halt 81 = .ok (.getfield 40, 3) := by decide +kernel
theorem dX11_halt_84 : decode cX11_halt 84 = .ok (.invokevirtual 255, 3) := by decide +kernel
theorem dX11_halt_87 : decode cX11_halt 87 = .ok (.aload_n 0, 1) := by decide +kernel
theorem dX11_halt_88 : decode cX11_halt 88 = .ok (.getfield 40, 3) := by decide +kernel
theorem dX11_halt_91 : decode cX11_halt 91 = .ok (.aload_n 0, 1) := by decide +kernel
theorem dX11_halt_92 : decode cX11_halt 92 = .ok (.getfield 64, 3) := by decide +kernel
theorem dX11_halt_95 : decode cX11_halt 95 = .ok (.invokevirtual 288, 3) := by decide +kernel
theorem dX11_halt_98 : decode cX11_halt 98 = .ok (.aload_n 0, 1) := by decide +kernel
theorem dX11_halt_99 : decode cX11_halt 99 = .ok (.getfield 64, 3) := by decide +kernel
theorem dX11_halt_102 : decode cX11_halt 102 = .ok (.getfield 159, 3) := by decide +kernel
theorem dX11_halt_105 : decode cX11_halt 105 = .ok (.ireturn, 1) := by decide +kernel
theorem dX11_run_0 : decode cX11_run 0 = .ok (.iload_n 1, 1) := by decide +kernel
theorem dX11_run_1 : decode cX11_run 1 = .ok (.iconst 1, 1) := by decide +kernel
theorem dX11_run_2 : decode cX11_run 2 = .ok (.sipush 500, 3) := by decide +kernel
theorem dX11_run_5 : decode cX11_run 5 = .ok (.invokestatic 123, 3) := by decide +kernel
theorem dX11_run_8 : decode cX11_run 8 = .ok (.ifCond .eq 13, 3) := by decide +kernel
theorem dX11_run_11 : decode cX11_run 11 = .ok (.aload_n 0, 1) := by decide +kernel
theorem dX11_run_12 : decode cX11_run 12 = .ok (.getfield 12, 3) := by decide +kernel
theorem dX11_run_15 : decode cX11_run 15 = .ok (.getfield 114, 3) := by decide +kernel
theorem dX11_run_18 : decode cX11_run 18 = .ok (.ifCond .ne 5, 3) := by decide +kernel
theorem dX11_run_21 : decode cX11_run 21 = .ok (.iconst (-1), 1) := by decide +kernel
theorem dX11_run_22 : decode cX11_run 22 = .ok (.ireturn, 1) := by decide +kernel
theorem dX11_run_23 : decode cX11_run 23 = .ok (.aload_n 0, 1) := by decide +kernel
theorem dX11_run_24 : decode cX11_run 24 = .ok (.getfield 50, 3) := by decide +kernel
theorem dX11_run_27 : decode cX11_run 27 = .ok (.aload_n 0, 1) := by decide +kernel
theorem dX11_run_28 : decode cX11_run 28 = .ok (.getfield 40, 3) := by decide +kernel
theorem dX11_run_31 : decode cX11_run 31 = .ok (.invokevirtual 255, 3) := by decide +kernel
theorem dX11_run_34 : decode cX11_run 34 = .ok (.iconst 0, 1) := by decide +kernel
theorem dX11_run_35 : decode cX11_run 35 = .ok (.istore_n 2, 1) := by decide +kernel
theorem dX11_run_36 : decode cX11_run 36 = .ok (.iload_n 2, 1) := by decide +kernel
theorem dX11_run_37 : decode cX11_run 37 = .ok (.iload_n 1, 1) := by decide +kernel
theorem dX11_run_38 : decode cX11_run 38 = .ok (.if_icmp .ge 20, 3) := by decide +kernel
theorem dX11_run_41 : decode cX11_run 41 = .ok (.aload_n 0, 1) := by decide +kernel
theorem dX11_run_42 : decode cX11_run 42 = .ok (.getfield 40, 3) := by decide +kernel
theorem dX11_run_45 : decode cX11_run 45 = .ok (.aload_n 0, 1) := by decide +kernel
theorem dX11_run_46 : decode cX11_run 46 = .ok (.getfield 12, 3) := by decide +kernel
theorem dX11_run_49 : decode cX11_run 49 = .ok (.invokevirtual 292, 3) := by decide +kernel
theorem dX11_run_52 : decode cX11_run 52 = .ok (.iinc 2 1, 3) := by decide +kernel
theorem dX11_run_55 : decode cX11_run 55 = .ok (.goto (-19), 3) := by decide +kernel
theorem dX11_run_58 : decode cX11_run 58 = .ok (.aload_n 0, 1) := by decide +kernel
theorem dX11_run_59 : decode cX11_run 59 = .ok (.getfield 40, 3) := by decide +kernel
theorem dX11_run_62 : decode cX11_run 62 = .ok (.invokevirtual 295, 3) := by decide +kernel
theorem dX11_run_65 : decode cX11_run 65 = .ok (.ireturn, 1) := by decide +kernel
theorem dX11_queue_0 : decode cX11_queue 0 = .ok (.aload_n 0, 1) := by decide +kernel
theorem dX11_queue_1 : decode cX11_queue 1 = .ok (.getfield 40, 3) := by decide +kernel
theorem dX11_queue_4 : decode cX11_queue 4 = .ok (.getfield 251, 3) := by decide +kernel
theorem dX11_queue_7 : decode cX11_queue 7 = .ok (.ifCond .eq 25, 3) := by decide +kernel
theorem dX11_queue_10 : decode cX11_queue 10 = .ok (.aload_n 0, 1) := by decide +kernel
theorem dX11_queue_11 : decode cX11_queue 11 = .ok (.getfield 40, 3) := by decide +kernel
theorem dX11_queue_14 : decode cX11_queue 14 = .ok (.getfield 298, 3) := by decide +kernel
theorem dX11_queue_17 : decode cX11_queue 17 = .ok (.bipush 8, 2) := by decide +kernel
theorem dX11_queue_19 : decode cX11_queue 19 = .ok (.if_icmp .ge 13, 3) := by decide +kernel
theorem dX11_queue_22 : decode cX11_queue 22 = .ok (.aload_n 0, 1) := by decide +kernel
theorem dX11_queue_23 : decode cX11_queue 23 = .ok (.iload_n 1, 1) := by decide +kernel
theorem dX11_queue_24 : decode cX11_queue 24 = .ok (.iload_n 2, 1) := by decide +kernel
theorem dX11_queue_25 : decode cX11_queue 25 = .ok (.iload_n 3, 1) := by decide +kernel
theorem dX11_queue_26 : decode cX11_queue 26 = .ok (.invokevirtual 301, 3) := by decide +kernel
theorem dX11_queue_29 : decode cX11_queue 29 = .ok (.ifCond .ne 5, 3) := by decide +kernel
theorem dX11_queue_32 : decode cX11_queue 32 = .ok (.iconst (-1), 1) := by decide +kernel
theorem dX11_queue_33 : decode cX11_queue 33 = .ok (.ireturn, 1) := by decide +kernel
theorem dX11_queue_34 : decode cX11_queue 34 = .ok (.aload_n 0, 1) := by decide +kernel
theorem dX11_queue_35 : decode cX11_queue 35 = .ok (.getfield 50, 3) := by decide +kernel
theorem dX11_queue_38 : decode cX11_queue 38 = .ok (.aload_n 0, 1) := by decide +kernel
theorem dX11_queue_39 : decode cX11_queue 39 = .ok (.getfield 40, 3) := by decide +kernel
theorem dX11_queue_42 : decode cX11_queue 42 = .ok (.invokevirtual 255, 3) := by decide +kernel
theorem dX11_queue_45 : decode cX11_queue 45 = .ok (.aload_n 0, 1) := by decide +kernel
theorem dX11_queue_46 : decode cX11_queue 46 = .ok (.getfield 40, 3) := by decide +kernel
theorem dX11_queue_49 : decode cX11_queue 49 = .ok (.aload_n 0, 1) := by decide +kernel
theorem dX11_queue_50 : decode cX11_queue 50 = .ok (.getfield 82, 3) := by decide +kernel
theorem dX11_queue_53 : decode cX11_queue 53 = .ok (.invokevirtual 304, 3) := by decide +kernel
theorem dX11_queue_56 : decode cX11_queue 56 = .ok (.aload_n 0, 1) := by decide +kernel
theorem dX11_queue_57 : decode cX11_queue 57 = .ok (.getfield 40, 3) := by decide +kernel
theorem dX11_queue_60 : decode cX11_queue 60 = .ok (.getfield 298, 3) := by decide +kernel
theorem dX11_queue_63 : decode cX11_queue 63 = .ok (.ireturn, 1) := by decide +kernel
theorem dX11_watch_0 : decode cX11_watch 0 = .ok (.aload_n 0, 1) := by decide +kernel
theorem dX11_watch_1 : decode cX11_watch 1 = .ok (.iload_n 1, 1) := by decide +kernel
theorem dX11_watch_2 : decode cX11_watch 2 = .ok (.invokevirtual 194, 3) := by decide +kernel
theorem dX11_watch_5 : decode cX11_watch 5 = .ok (.ifCond .eq 14, 3) := by decide +kernel
theorem dX11_watch_8 : decode cX11_watch 8 = .ok (.iload_n 2, 1) := by decide +kernel
theorem dX11_watch_9 : decode cX11_watch 9 = .ok (.iconst 0, 1) := by decide +kernel
theorem dX11_watch_10 : decode cX11_watch 10 = .ok (.sipush 2048, 3) := by decide +kernel
theorem dX11_watch_13 : decode cX11_watch 13 = .ok (.invokestatic 123, 3) := by decide +kernel
theorem dX11_watch_16 : decode cX11_watch 16 = .ok (.ifCond .ne 5, 3) := by decide +kernel
theorem dX11_watch_19 : decode cX11_watch 19 = .ok (.iconst (-1), 1) := by decide +kernel
theorem dX11_watch_20 : decode cX11_watch 20 = .ok (.ireturn, 1) := by decide +kernel
theorem dX11_watch_21 : decode cX11_watch 21 = .ok (.aload_n 0, 1) := by decide +kernel
theorem dX11_watch_22 : decode cX11_watch 22 = .ok (.getfield 40, 3) := by decide +kernel
theorem dX11_watch_25 : decode cX11_watch 25 = .ok (.getfield 308, 3) := by decide +kernel
theorem dX11_watch_28 : decode cX11_watch 28 = .ok (.iload_n 1, 1) := by decide +kernel
theorem dX11_watch_29 : decode cX11_watch 29 = .ok (.aaload, 1) := by decide +kernel
theorem dX11_watch_30 : decode cX11_watch 30 = .ok (.getfield 312, 3) := by decide +kernel
theorem dX11_watch_33 : decode cX11_watch 33 = .ok (.istore_n 3, 1) := by decide +kernel
theorem dX11_watch_34 : decode cX11_watch 34 = .ok (.iload_n 3, 1) := by decide +kernel
theorem dX11_watch_35 : decode cX11_watch 35 = .ok (.iload_n 2, 1) := by decide +kernel
theorem dX11_watch_36 : decode cX11_watch 36 = .ok (.if_icmp .ne 5, 3) := by decide +kernel
theorem dX11_watch_39 : decode cX11_watch 39 = .ok (.iconst (-1), 1) := by decide +kernel
theorem dX11_watch_40 : decode cX11_watch 40 = .ok (.ireturn, 1) := by decide +kernel
theorem dX11_watch_41 : decode cX11_watch 41 = .ok (.aload_n 0, 1) := by decide +kernel
theorem dX11_watch_42 : decode cX11_watch 42 = .ok (.getfield 50, 3) := by decide +kernel
theorem dX11_watch_45 : decode cX11_watch 45 = .ok (.aload_n 0, 1) := by decide +kernel
theorem dX11_watch_46 : decode cX11_watch 46 = .ok (.getfield 40, 3) := by decide +kernel
theorem dX11_watch_49 : decode cX11_watch 49 = .ok (.invokevirtual 255, 3) := by decide +kernel
theorem dX11_watch_52 : decode cX11_watch 52 = .ok (.aload_n 0, 1) := by decide +kernel
theorem dX11_watch_53 : decode cX11_watch 53 = .ok (.getfield 40, 3) := by decide +kernel
theorem dX11_watch_56 : decode cX11_watch 56 = .ok (.getfield 308, 3) := by decide +kernel
theorem dX11_watch_59 : decode cX11_watch 59 = .ok (.iload_n 1, 1) := by decide +kernel
theorem dX11_watch_60 : decode cX11_watch 60 = .ok (.aaload, 1) := by decide +kernel
theorem dX11_watch_61 : decode cX11_watch 61 = .ok (.iload_n 2, 1) := by decide +kernel
theorem dX11_watch_62 : decode cX11_watch 62 = .ok (.putfield 312, 3) := by decide +kernel
theorem dX11_watch_65 : decode cX11_watch 65 = .ok (.iload_n 3, 1) := by decide +kernel
theorem dX11_watch_66 : decode cX11_watch 66 = .ok (.ireturn, 1) := by decide +kernel
theorem dX11_load_0 : decode cX11_load 0 = .ok (.aload_n 0, 1) := by decide +kernel
theorem dX11_load_1 : decode cX11_load 1 = .ok (.iload_n 1, 1) := by decide +kernel
theorem dX11_load_2 : decode cX11_load 2 = .ok (.invokevirtual 194, 3) := by decide +kernel
theorem dX11_load_5 : decode cX11_load 5 = .ok (.ifCond .eq 16, 3) := by decide +kernel
theorem dX11_load_8 : decode cX11_load 8 = .ok (.iload_n 2, 1) := by decide +kernel
theorem dX11_load_9 : decode cX11_load 9 = .ok (.sipush (-2000), 3) := by decide +kernel
theorem dX11_load_12 : decode cX11_load 12 = .ok (.sipush 2000, 3) := by decide +kernel
theorem dX11_load_15 : decode cX11_load 15 = .ok (.invokestatic 123, 3) := by decide +kernel
theorem dX11_load_18 : decode cX11_load 18 = .ok (.ifCond .ne 6, 3) := by decide +kernel
theorem dX11_load_21 : decode cX11_load 21 = .ok (.ldc 127, 2) := by decide +kernel
theorem dX11_load_23 : decode cX11_load 23 = .ok (.ireturn, 1) := by decide +kernel
theorem dX11_load_24 : decode cX11_load 24 = .ok (.aload_n 0, 1) := by decide +kernel
theorem dX11_load_25 : decode cX11_load 25 = .ok (.getfield 40, 3) := by decide +kernel
theorem dX11_load_28 : decode cX11_load 28 = .ok (.getfield 308, 3) := by decide +kernel
theorem dX11_load_31 : decode cX11_load 31 = .ok (.iload_n 1, 1) := by decide +kernel
theorem dX11_load_32 : decode cX11_load 32 = .ok (.aaload, 1) := by decide +kernel
theorem dX11_load_33 : decode cX11_load 33 = .ok (.getfield 315, 3) := by decide +kernel
theorem dX11_load_36 : decode cX11_load 36 = .ok (.istore_n 3, 1) := by decide +kernel
theorem dX11_load_37 : decode cX11_load 37 = .ok (.iload_n 3, 1) := by decide +kernel
theorem dX11_load_38 : decode cX11_load 38 = .ok (.iload_n 2, 1) := by decide +kernel
theorem dX11_load_39 : decode cX11_load 39 = .ok (.if_icmp .ne 6, 3) := by decide +kernel
theorem dX11_load_42 : decode cX11_load 42 = .ok (.ldc 127, 2) := by decide +kernel
theorem dX11_load_44 : decode cX11_load 44 = .ok (.ireturn, 1) := by decide +kernel
theorem dX11_load_45 : decode cX11_load 45 = .ok (.aload_n 0, 1) := by decide +kernel
theorem dX11_load_46 : decode cX11_load 46 = .ok (.getfield 50, 3) := by decide +kernel
theorem dX11_load_49 : decode cX11_load 49 = .ok (.aload_n 0, 1) := by decide +kernel
theorem dX11_load_50 : decode cX11_load 50 = .ok (.getfield 40, 3) := by decide +kernel
theorem dX11_load_53 : decode cX11_load 53 = .ok (.invokevirtual 255, 3) := by decide +kernel
theorem dX11_load_56 : decode cX11_load 56 = .ok (.aload_n 0, 1) := by decide +kernel
theorem dX11_load_57 : decode cX11_load 57 = .ok (.getfield 40, 3) := by decide +kernel
theorem dX11_load_60 : decode cX11_load 60 = .ok (.getfield 308, 3) := by decide +kernel
theorem dX11_load_63 : decode cX11_load 63 = .ok (.iload_n 1, 1) := by decide +kernel
theorem dX11_load_64 : decode cX11_load 64 = .ok (.aaload, 1) := by decide +kernel
theorem dX11_load_65 : decode cX11_load 65 = .ok (.iload_n 2, 1) := by decide +kernel
theorem dX11_load_66 : decode cX11_load 66 = .ok (.putfield 315, 3) := by decide +kernel
theorem dX11_load_69 : decode cX11_load 69 = .ok (.iload_n 3, 1) := by decide +kernel
theorem dX11_load_70 : decode cX11_load 70 = .ok (.ireturn, 1) := by decide +kernel
theorem dX11_trueUp_0 : decode cX11_trueUp 0 = .ok (.aload_n 0, 1) := by decide +kernel
theorem dX11_trueUp_1 : decode cX11_trueUp 1 = .ok (.getfield 40, 3) := by decide +kernel
theorem dX11_trueUp_4 : decode cX11_trueUp 4 = .ok (.getfield 251, 3) := by decide +kernel
theorem dX11_trueUp_7 : decode cX11_trueUp 7 = .ok (.ifCond .eq 5, 3) := by decide +kernel
theorem dX11_trueUp_10 : decode cX11_trueUp 10 = .ok (.iconst (-1), 1) := by decide +kernel
theorem dX11_trueUp_11 : decode cX11_trueUp 11 = .ok (.ireturn, 1) := by decide +kernel
theorem dX11_trueUp_12 : decode cX11_trueUp 12 = .ok (.iconst 0, 1) := by decide +kernel
theorem dX11_trueUp_13 : decode cX11_trueUp 13 = .ok (.istore_n 1, 1) := by decide +kernel
theorem dX11_trueUp_14 : decode cX11_trueUp 14 = .ok (.iconst 0, 1) := by decide +kernel
theorem dX11_trueUp_15 : decode cX11_trueUp 15 = .ok (.istore_n 2, 1) := by decide +kernel
theorem dX11_trueUp_16 : decode cX11_trueUp 16 = .ok (.iconst 0, 1) := by decide +kernel
theorem dX11_trueUp_17 : decode cX11_trueUp 17 = .ok (.istore_n 3, 1) := by decide +kernel
theorem dX11_trueUp_18 : decode cX11_trueUp 18 = .ok (.iload_n 3, 1) := by decide +kernel
theorem dX11_trueUp_19 : decode cX11_trueUp 19 = .ok (.aload_n 0, 1) := by decide +kernel
theorem dX11_trueUp_20 : decode cX11_trueUp 20 = .ok (.getfield 12, 3) := by decide +kernel
theorem dX11_trueUp_23 : decode cX11_trueUp 23 = .ok (.getfield 114, 3) := by decide +kernel
theorem dX11_trueUp_26 : decode cX11_trueUp 26 = .ok (.if_icmp .ge 73, 3) := by decide +kernel
theorem dX11_trueUp_29 : decode cX11_trueUp 29 = .ok (.aload_n 0, 1) := by decide +kernel
theorem dX11_trueUp_30 : decode cX11_trueUp 30 = .ok (.getfield 40, 3) := by decide +kernel
theorem dX11_trueUp_33 : decode cX11_trueUp 33 = .ok (.getfield 308, 3) := by decide +kernel
theorem dX11_trueUp_36 : decode cX11_trueUp 36 = .ok (.iload_n 3, 1) := by decide +kernel
theorem dX11_trueUp_37 : decode cX11_trueUp 37 = .ok (.aaload, 1) := by decide +kernel
theorem dX11_trueUp_38 : decode cX11_trueUp 38 = .ok (.astore 4, 2) := by decide +kernel
theorem dX11_trueUp_40 : decode cX11_trueUp 40 = .ok (.aload 4, 2) := by decide +kernel
theorem dX11_trueUp_42 : decode cX11_trueUp 42 = .ok (.invokevirtual 318, 3) := by decide +kernel
theorem dX11_trueUp_45 : decode cX11_trueUp 45 = .ok (.sipush (-30000), 3) := by decide +kernel
theorem dX11_trueUp_48 : decode cX11_trueUp 48 = .ok (.sipush 30000, 3) := by decide +kernel
theorem dX11_trueUp_51 : decode cX11_trueUp 51 = .ok (.invokestatic 123, 3) := by decide +kernel
theorem dX11_trueUp_54 : decode cX11_trueUp 54 = .ok (.ifCond .ne 5, 3) := by decide +kernel
theorem dX11_trueUp_57 : decode cX11_trueUp 57 = .ok (.iconst (-1), 1) := by decide +kernel
theorem dX11_trueUp_58 : decode cX11_trueUp 58 = .ok (.ireturn, 1) := by decide +kernel
theorem dX11_trueUp_59 : decode cX11_trueUp 59 = .ok (.aload 4, 2) := by decide +kernel
theorem dX11_trueUp_61 : decode cX11_trueUp 61 = .ok (.invokevirtual 318, 3) := by decide +kernel
theorem dX11_trueUp_64 : decode cX11_trueUp 64 = .ok (.aload 4, 2) := by decide +kernel
theorem dX11_trueUp_66 : decode cX11_trueUp 66 = .ok (.getfield 321, 3) := by decide +kernel
theorem dX11_trueUp_69 : decode cX11_trueUp 69 = .ok (.if_icmp .eq 6, 3) := by decide +kernel
theorem dX11_trueUp_72 : decode cX11_trueUp 72 = .ok (.iinc 1 1, 3) := by decide +kernel
theorem dX11_trueUp_75 : decode cX11_trueUp 75 = .ok (.iload_n 2, 1) := by decide +kernel
theorem dX11_trueUp_76 : decode cX11_trueUp 76 = .ok (.ifCond .ne 11, 3) := by decide +kernel
theorem dX11_trueUp_79 : decode cX11_trueUp 79 = .ok (.aload 4, 2) := by decide +kernel
theorem dX11_trueUp_81 : decode cX11_trueUp 81 = .ok (.getfield 324, 3) := by decide +kernel
theorem dX11_trueUp_84 : decode cX11_trueUp 84 = .ok (.ifCond .le 7, 3) := by decide +kernel
theorem dX11_trueUp_87 : decode cX11_trueUp 87 = .ok (.iconst 1, 1) := by decide +kernel
theorem dX11_trueUp_88 : decode cX11_trueUp 88 = .ok (.goto 4, 3) := by decide +kernel
theorem dX11_trueUp_91 : decode cX11_trueUp 91 = .ok (.iconst 0, 1) := by decide +kernel
theorem dX11_trueUp_92 : decode cX11_trueUp 92 = .ok (.istore_n 2, 1) := by decide +kernel
theorem dX11_trueUp_93 : decode cX11_trueUp 93 = .ok (.iinc 3 1, 3) := by decide +kernel
theorem dX11_trueUp_96 : decode cX11_trueUp 96 = .ok (.goto (-78), 3) := by decide +kernel
theorem dX11_trueUp_99 : decode cX11_trueUp 99 = .ok (.iload_n 1, 1) := by decide +kernel
theorem dX11_trueUp_100 : decode cX11_trueUp 100 = .ok (.ifCond .ne 9, 3) := by decide +kernel
theorem dX11_trueUp_103 : decode cX11_trueUp 103 = .ok (.iload_n 2, 1) := by decide +kernel
theorem dX11_trueUp_104 : decode cX11_trueUp 104 = .ok (.ifCond .ne 5, 3) := by decide +kernel
theorem dX11_trueUp_107 : decode cX11_trueUp 107 = .ok (.iconst (-1), 1) := by decide +kernel
theorem dX11_trueUp_108 : decode cX11_trueUp 108 = .ok (.ireturn, 1) := by decide +kernel
theorem dX11_trueUp_109 : decode cX11_trueUp 109 = .ok (.aload_n 0, 1) := by decide +kernel
theorem dX11_trueUp_110 : decode cX11_trueUp 110 = .ok (.getfield 50, 3) := by decide +kernel
theorem dX11_trueUp_113 : decode cX11_trueUp 113 = .ok (.aload_n 0, 1) := by decide +kernel
theorem dX11_trueUp_114 : decode cX11_trueUp 114 = .ok (.getfield 40, 3) := by decide +kernel
theorem dX11_trueUp_117 : decode cX11_trueUp 117 = .ok (.invokevirtual 255, 3) := by decide +kernel
theorem dX11_trueUp_120 : decode cX11_trueUp 120 = .ok (.iconst 0, 1) := by decide +kernel
theorem dX11_trueUp_121 : decode cX11_trueUp 121 = .ok (.istore_n 3, 1) := by decide +kernel
theorem dX11_trueUp_122 : decode cX11_trueUp 122 = .ok (.iload_n 3, 1) := by decide +kernel
theorem dX11_trueUp_123 : decode cX11_trueUp 123 = .ok (.aload_n 0, 1) := by decide +kernel
theorem dX11_trueUp_124 : decode cX11_trueUp 124 = .ok (.getfield 12, 3) := by decide +kernel
theorem dX11_trueUp_127 : decode cX11_trueUp 127 = .ok (.getfield 114, 3) := by decide +kernel
theorem dX11_trueUp_130 : decode cX11_trueUp 130 = .ok (.if_icmp .ge 46, 3) := by decide +kernel
theorem dX11_trueUp_133 : decode cX11_trueUp 133 = .ok (.aload_n 0, 1) := by decide +kernel
theorem dX11_trueUp_134 : decode cX11_trueUp 134 = .ok (.getfield 40, 3) := by decide +kernel
theorem dX11_trueUp_137 : decode cX11_trueUp 137 = .ok (.getfield 308, 3) := by decide +kernel
theorem dX11_trueUp_140 : decode cX11_trueUp 140 = .ok (.iload_n 3, 1) := by decide +kernel
theorem dX11_trueUp_141 : decode cX11_trueUp 141 = .ok (.aaload, 1) := by decide +kernel
theorem dX11_trueUp_142 : decode cX11_trueUp 142 = .ok (.aload_n 0, 1) := by decide +kernel
theorem dX11_trueUp_143 : decode cX11_trueUp 143 = .ok (.getfield 40, 3) := by decide +kernel
theorem dX11_trueUp_146 : decode cX11_trueUp 146 = .ok (.getfield 308, 3) := by decide +kernel
theorem dX11_trueUp_149 : decode cX11_trueUp 149 = .ok (.iload_n 3, 1) := by decide +kernel
theorem dX11_trueUp_150 : decode cX11_trueUp 150 = .ok (.aaload, 1) := by decide +kernel
theorem dX11_trueUp_151 : decode cX11_trueUp 151 = .ok (.invokevirtual 318, 3) := by decide +kernel
theorem dX11_trueUp_154 : decode cX11_trueUp 154 = .ok (.putfield 321, 3) := by decide +kernel
theorem dX11_trueUp_157 : decode cX11_trueUp 157 = .ok (.aload_n 0, 1) := by decide +kernel
theorem dX11_trueUp_158 : decode cX11_trueUp 158 = .ok (.getfield 40, 3) := by decide +kernel
theorem dX11_trueUp_161 : decode cX11_trueUp 161 = .ok (.getfield 308, 3) := by decide +kernel
theorem dX11_trueUp_164 : decode cX11_trueUp 164 = .ok (.iload_n 3, 1) := by decide +kernel
theorem dX11_trueUp_165 : decode cX11_trueUp 165 = .ok (.aaload, 1) := by decide +kernel
theorem dX11_trueUp_166 : decode cX11_trueUp 166 = .ok (.iconst 0, 1) := by decide +kernel
theorem dX11_trueUp_167 : decode cX11_trueUp 167 = .ok (.putfield 324, 3) := by decide +kernel
theorem dX11_trueUp_170 : decode cX11_trueUp 170 = .ok (.iinc 3 1, 3) := by decide +kernel
theorem dX11_trueUp_173 : decode cX11_trueUp 173 = .ok (.goto (-51), 3) := by decide +kernel
theorem dX11_trueUp_176 : decode cX11_trueUp 176 = .ok (.iload_n 1, 1) := by decide +kernel
theorem dX11_trueUp_177 : decode cX11_trueUp 177 = .ok (.ireturn, 1) := by decide +kernel
theorem dX11_undo_0 : decode cX11_undo 0 = .ok (.aload_n 0, 1) := by decide +kernel
theorem dX11_undo_1 : decode cX11_undo 1 = .ok (.getfield 50, 3) := by decide +kernel
theorem dX11_undo_4 : decode cX11_undo 4 = .ok (.getfield 111, 3) := by decide +kernel
theorem dX11_undo_7 : decode cX11_undo 7 = .ok (.ifCond .ne 5, 3) := by decide +kernel
theorem dX11_undo_10 : decode cX11_undo 10 = .ok (.iconst (-1), 1) := by decide +kernel
theorem dX11_undo_11 : decode cX11_undo 11 = .ok (.ireturn, 1) := by decide +kernel
theorem dX11_undo_12 : decode cX11_undo 12 = .ok (.aload_n 0, 1) := by decide +kernel
theorem dX11_undo_13 : decode cX11_undo 13 = .ok (.getfield 50, 3) := by decide +kernel
theorem dX11_undo_16 : decode cX11_undo 16 = .ok (.aload_n 0, 1) := by decide +kernel
theorem dX11_undo_17 : decode cX11_undo 17 = .ok (.getfield 40, 3) := by decide +kernel
theorem dX11_undo_20 : decode cX11_undo 20 = .ok (.invokevirtual 327, 3) := by decide +kernel
theorem dX11_undo_23 : decode cX11_undo 23 = .ok (.aload_n 0, 1) := by decide +kernel
theorem dX11_undo_24 : decode cX11_undo 24 = .ok (.getfield 50, 3) := by decide +kernel
theorem dX11_undo_27 : decode cX11_undo 27 = .ok (.getfield 111, 3) := by decide +kernel
theorem dX11_undo_30 : decode cX11_undo 30 = .ok (.ireturn, 1) := by decide +kernel
theorem dX11_axis_0 : decode cX11_axis 0 = .ok (.aload_n 0, 1) := by decide +kernel
theorem dX11_axis_1 : decode cX11_axis 1 = .ok (.iload_n 1, 1) := by decide +kernel
theorem dX11_axis_2 : decode cX11_axis 2 = .ok (.invokevirtual 194, 3) := by decide +kernel
theorem dX11_axis_5 : decode cX11_axis 5 = .ok (.ifCond .ne 6, 3) := by decide +kernel
theorem dX11_axis_8 : decode cX11_axis 8 = .ok (.ldc 127, 2) := by decide +kernel
theorem dX11_axis_10 : decode cX11_axis 10 = .ok (.ireturn, 1) := by decide +kernel
theorem dX11_axis_11 : decode cX11_axis 11 = .ok (.aload_n 0, 1) := by decide +kernel
theorem dX11_axis_12 : decode cX11_axis 12 = .ok (.getfield 12, 3) := by decide +kernel
theorem dX11_axis_15 : decode cX11_axis 15 = .ok (.getfield 330, 3) := by decide +kernel
theorem dX11_axis_18 : decode cX11_axis 18 = .ok (.iload_n 1, 1) := by decide +kernel
theorem dX11_axis_19 : decode cX11_axis 19 = .ok (.aaload, 1) := by decide +kernel
theorem dX11_axis_20 : decode cX11_axis 20 = .ok (.astore_n 3, 1) := by decide +kernel
theorem dX11_axis_21 : decode cX11_axis 21 = .ok (.iload_n 2, 1) := by decide +kernel
theorem dX11_axis_22 : decode cX11_axis 22 = .ok (.tableswitch 102 0 7 #[46, 51, 56, 61, 66, 71, 76, 89], 46) := by decide +kernel
theorem dX11_axis_68 : decode cX11_axis 68 = .ok (.aload_n 3, 1) := by decide +kernel
theorem dX11_axis_69 : decode cX11_axis 69 = .ok (.getfield 334, 3) := by decide +kernel
theorem dX11_axis_72 : decode cX11_axis 72 = .ok (.ireturn, 1) := by decide +kernel
theorem dX11_axis_73 : decode cX11_axis 73 = .ok (.aload_n 3, 1) := by decide +kernel
theorem dX11_axis_74 : decode cX11_axis 74 = .ok (.getfield 337, 3) := by decide +kernel
theorem dX11_axis_77 : decode cX11_axis 77 = .ok (.ireturn, 1) := by decide +kernel
theorem dX11_axis_78 : decode cX11_axis 78 = .ok (.aload_n 3, 1) := by decide +kernel
theorem dX11_axis_79 : decode cX11_axis 79 = .ok (.getfield 338, 3) := by decide +kernel
theorem dX11_axis_82 : decode cX11_axis 82 = .ok (.ireturn, 1) := by decide +kernel
theorem dX11_axis_83 : decode cX11_axis 83 = .ok (.aload_n 3, 1) := by decide +kernel
theorem dX11_axis_84 : decode cX11_axis 84 = .ok (.getfield 339, 3) := by decide +kernel
theorem dX11_axis_87 : decode cX11_axis 87 = .ok (.ireturn, 1) := by decide +kernel
theorem dX11_axis_88 : decode cX11_axis 88 = .ok (.aload_n 3, 1) := by decide +kernel
theorem dX11_axis_89 : decode cX11_axis 89 = .ok (.getfield 342, 3) := by decide +kernel
theorem dX11_axis_92 : decode cX11_axis 92 = .ok (.ireturn, 1) := by decide +kernel
theorem dX11_axis_93 : decode cX11_axis 93 = .ok (.aload_n 3, 1) := by decide +kernel
theorem dX11_axis_94 : decode cX11_axis 94 = .ok (.getfield 345, 3) := by decide +kernel
theorem dX11_axis_97 : decode cX11_axis 97 = .ok (.ireturn, 1) := by decide +kernel
theorem dX11_axis_98 : decode cX11_axis 98 = .ok (.aload_n 0, 1) := by decide +kernel
theorem dX11_axis_99 : decode cX11_axis 99 = .ok (.getfield 40, 3) := by decide +kernel
theorem dX11_axis_102 : decode cX11_axis 102 = .ok (.getfield 308, 3) := by decide +kernel
theorem dX11_axis_105 : decode cX11_axis 105 = .ok (.iload_n 1, 1) := by decide +kernel
theorem dX11_axis_106 : decode cX11_axis 106 = .ok (.aaload, 1) := by decide +kernel
theorem dX11_axis_107 : decode cX11_axis 107 = .ok (.getfield 315, 3) := by decide +kernel
theorem dX11_axis_110 : decode cX11_axis 110 = .ok (.ireturn, 1) := by decide +kernel
theorem dX11_axis_111 : decode cX11_axis 111 = .ok (.aload_n 0, 1) := by decide +kernel
theorem dX11_axis_112 : decode cX11_axis 112 = .ok (.getfield 40, 3) := by decide +kernel
theorem dX11_axis_115 : decode cX11_axis 115 = .ok (.getfield 308, 3) := by decide +kernel
theorem dX11_axis_118 : decode cX11_axis 118 = .ok (.iload_n 1, 1) := by decide +kernel
theorem dX11_axis_119 : decode cX11_axis 119 = .ok (.aaload, 1) := by decide +kernel
theorem dX11_axis_120 : decode cX11_axis 120 = .ok (.getfield 312, 3) := by decide +kernel
theorem dX11_axis_123 : decode cX11_axis 123 = .ok (.ireturn, 1) := by decide +kernel
theorem dX11_axis_124 : decode cX11_axis 124 = .ok (.ldc 127, 2) := by decide +kernel
theorem dX11_axis_126 : decode cX11_axis 126 = .ok (.ireturn, 1) := by decide +kernel
theorem dX11_now_0 : decode cX11_now 0 = .ok (.aload_n 0, 1) := by decide +kernel
theorem dX11_now_1 : decode cX11_now 1 = .ok (.iload_n 1, 1) := by decide +kernel
theorem dX11_now_2 : decode cX11_now 2 = .ok (.invokevirtual 194, 3) := by decide +kernel
theorem dX11_now_5 : decode cX11_now 5 = .ok (.ifCond .ne 6, 3) := by decide +kernel
theorem dX11_now_8 : decode cX11_now 8 = .ok (.ldc 127, 2) := by decide +kernel
theorem dX11_now_10 : decode cX11_now 10 = .ok (.ireturn, 1) := by decide +kernel
theorem dX11_now_11 : decode cX11_now 11 = .ok (.aload_n 0, 1) := by decide +kernel
theorem dX11_now_12 : decode cX11_now 12 = .ok (.getfield 40, 3) := by decide +kernel
theorem dX11_now_15 : decode cX11_now 15 = .ok (.getfield 308, 3) := by decide +kernel
theorem dX11_now_18 : decode cX11_now 18 = .ok (.iload_n 1, 1) := by decide +kernel
theorem dX11_now_19 : decode cX11_now 19 = .ok (.aaload, 1) := by decide +kernel
theorem dX11_now_20 : decode cX11_now 20 = .ok (.astore_n 3, 1) := by decide +kernel
theorem dX11_now_21 : decode cX11_now 21 = .ok (.iload_n 2, 1) := by decide +kernel
theorem dX11_now_22 : decode cX11_now 22 = .ok (.tableswitch 78 0 5 #[38, 43, 48, 53, 58, 63], 38) := by decide +kernel
theorem dX11_now_60 : decode cX11_now 60 = .ok (.aload_n 3, 1) := by decide +kernel
theorem dX11_now_61 : decode cX11_now 61 = .ok (.getfield 321, 3) := by decide +kernel
theorem dX11_now_64 : decode cX11_now 64 = .ok (.ireturn, 1) := by decide +kernel
theorem dX11_now_65 : decode cX11_now 65 = .ok (.aload_n 3, 1) := by decide +kernel
theorem dX11_now_66 : decode cX11_now 66 = .ok (.getfield 348, 3) := by decide +kernel
theorem dX11_now_69 : decode cX11_now 69 = .ok (.ireturn, 1) := by decide +kernel
theorem dX11_now_70 : decode cX11_now 70 = .ok (.aload_n 3, 1) := by decide +kernel
theorem dX11_now_71 : decode cX11_now 71 = .ok (.getfield 349, 3) := by decide +kernel
theorem dX11_now_74 : decode cX11_now 74 = .ok (.ireturn, 1) := by decide +kernel
theorem dX11_now_75 : decode cX11_now 75 = .ok (.aload_n 3, 1) := by decide +kernel
theorem dX11_now_76 : decode cX11_now 76 = .ok (.invokevirtual 352, 3) := by decide +kernel
theorem dX11_now_79 : decode cX11_now 79 = .ok (.ireturn, 1) := by decide +kernel
theorem dX11_now_80 : decode cX11_now 80 = .ok (.aload_n 3, 1) := by decide +kernel
theorem dX11_now_81 : decode cX11_now 81 = .ok (.getfield 324, 3) := by decide +kernel
theorem dX11_now_84 : decode cX11_now 84 = .ok (.ireturn, 1) := by decide +kernel
theorem dX11_now_85 : decode cX11_now 85 = .ok (.aload_n 3, 1) := by decide +kernel
theorem dX11_now_86 : decode cX11_now 86 = .ok (.invokevirtual 352, 3) := by decide +kernel
theorem dX11_now_89 : decode cX11_now 89 = .ok (.sipush 2048, 3) := by decide +kernel
theorem dX11_now_92 : decode cX11_now 92 = .ok (.iadd, 1) := by decide +kernel
theorem dX11_now_93 : decode cX11_now 93 = .ok (.sipush 4096, 3) := by decide +kernel
theorem dX11_now_96 : decode cX11_now 96 = .ok (.invokestatic 355, 3) := by decide +kernel
theorem dX11_now_99 : decode cX11_now 99 = .ok (.ireturn, 1) := by decide +kernel
theorem dX11_now_100 : decode cX11_now 100 = .ok (.ldc 127, 2) := by decide +kernel
theorem dX11_now_102 : decode cX11_now 102 = .ok (.ireturn, 1) := by decide +kernel
theorem dX11_bands_0 : decode cX11_bands 0 = .ok (.aload_n 0, 1) := by decide +kernel
theorem dX11_bands_1 : decode cX11_bands 1 = .ok (.iload_n 1, 1) := by decide +kernel
theorem dX11_bands_2 : decode cX11_bands 2 = .ok (.invokevirtual 194, 3) := by decide +kernel
theorem dX11_bands_5 : decode cX11_bands 5 = .ok (.ifCond .eq 13, 3) := by decide +kernel
theorem dX11_bands_8 : decode cX11_bands 8 = .ok (.iload_n 2, 1) := by decide +kernel
theorem dX11_bands_9 : decode cX11_bands 9 = .ok (.iconst 1, 1) := by decide +kernel
theorem dX11_bands_10 : decode cX11_bands 10 = .ok (.bipush 60, 2) := by decide +kernel
theorem dX11_bands_12 : decode cX11_bands 12 = .ok (.invokestatic 123, 3) := by decide +kernel
theorem dX11_bands_15 : decode cX11_bands 15 = .ok (.ifCond .ne 5, 3) := by decide +kernel
theorem dX11_bands_18 : decode cX11_bands 18 = .ok (.iconst (-1), 1) := by decide +kernel
theorem dX11_bands_19 : decode cX11_bands 19 = .ok (.ireturn, 1) := by decide +kernel
theorem dX11_bands_20 : decode cX11_bands 20 = .ok (.aload_n 0, 1) := by decide +kernel
theorem dX11_bands_21 : decode cX11_bands 21 = .ok (.getfield 12, 3) := by decide +kernel
theorem dX11_bands_24 : decode cX11_bands 24 = .ok (.iload_n 1, 1) := by decide +kernel
theorem dX11_bands_25 : decode cX11_bands 25 = .ok (.iload_n 2, 1) := by decide +kernel
theorem dX11_bands_26 : decode cX11_bands 26 = .ok (.invokevirtual 358, 3) := by decide +kernel
theorem dX11_bands_29 : decode cX11_bands 29 = .ok (.ireturn, 1) := by decide +kernel
theorem dX11_stallIn_0 : decode cX11_stallIn 0 = .ok (.aload_n 0, 1) := by decide +kernel
theorem dX11_stallIn_1 : decode cX11_stallIn 1 = .ok (.iload_n 1, 1) := by decide +kernel
theorem dX11_stallIn_2 : decode cX11_stallIn 2 = .ok (.invokevirtual 194, 3) := by decide +kernel
theorem dX11_stallIn_5 : decode cX11_stallIn 5 = .ok (.ifCond .ne 5, 3) := by decide +kernel
theorem dX11_stallIn_8 : decode cX11_stallIn 8 = .ok (.iconst (-1), 1) := by decide +kernel
theorem dX11_stallIn_9 : decode cX11_stallIn 9 = .ok (.ireturn, 1) := by decide +kernel
theorem dX11_stallIn_10 : decode cX11_stallIn 10 = .ok (.aload_n 0, 1) := by decide +kernel
theorem dX11_stallIn_11 : decode cX11_stallIn 11 = .ok (.getfield 40, 3) := by decide +kernel
theorem dX11_stallIn_14 : decode cX11_stallIn 14 = .ok (.getfield 308, 3) := by decide +kernel
theorem dX11_stallIn_17 : decode cX11_stallIn 17 = .ok (.iload_n 1, 1) := by decide +kernel
theorem dX11_stallIn_18 : decode cX11_stallIn 18 = .ok (.aaload, 1) := by decide +kernel
theorem dX11_stallIn_19 : decode cX11_stallIn 19 = .ok (.getfield 324, 3) := by decide +kernel
theorem dX11_stallIn_22 : decode cX11_stallIn 22 = .ok (.ifCond .le 5, 3) := by decide +kernel
theorem dX11_stallIn_25 : decode cX11_stallIn 25 = .ok (.iconst 0, 1) := by decide +kernel
theorem dX11_stallIn_26 : decode cX11_stallIn 26 = .ok (.ireturn, 1) := by decide +kernel
theorem dX11_stallIn_27 : decode cX11_stallIn 27 = .ok (.aload_n 0, 1) := by decide +kernel
theorem dX11_stallIn_28 : decode cX11_stallIn 28 = .ok (.getfield 44, 3) := by decide +kernel
theorem dX11_stallIn_31 : decode cX11_stallIn 31 = .ok (.aload_n 0, 1) := by decide +kernel
theorem dX11_stallIn_32 : decode cX11_stallIn 32 = .ok (.getfield 40, 3) := by decide +kernel
theorem dX11_stallIn_35 : decode cX11_stallIn 35 = .ok (.invokevirtual 361, 3) := by decide +kernel
theorem dX11_stallIn_38 : decode cX11_stallIn 38 = .ok (.iconst 1, 1) := by decide +kernel
theorem dX11_stallIn_39 : decode cX11_stallIn 39 = .ok (.istore_n 2, 1) := by decide +kernel
theorem dX11_stallIn_40 : decode cX11_stallIn 40 = .ok (.iload_n 2, 1) := by decide +kernel
theorem dX11_stallIn_41 : decode cX11_stallIn 41 = .ok (.sipush 2000, 3) := by decide +kernel
theorem dX11_stallIn_44 : decode cX11_stallIn 44 = .ok (.if_icmp .gt 37, 3) := by decide +kernel
theorem dX11_stallIn_47 : decode cX11_stallIn 47 = .ok (.aload_n 0, 1) := by decide +kernel
theorem dX11_stallIn_48 : decode cX11_stallIn 48 = .ok (.getfield 44, 3) := by decide +kernel
theorem dX11_stallIn_51 : decode cX11_stallIn 51 = .ok (.aload_n 0, 1) := by decide +kernel
theorem dX11_stallIn_52 : decode cX11_stallIn 52 = .ok (.getfield 12, 3) := by decide +kernel
theorem dX11_stallIn_55 : decode cX11_stallIn 55 = .ok (.invokevirtual 292, 3) := by decide +kernel
theorem dX11_stallIn_58 : decode cX11_stallIn 58 = .ok (.aload_n 0, 1) := by decide +kernel
theorem dX11_stallIn_59 : decode cX11_stallIn 59 = .ok (.getfield 44, 3) := by decide +kernel
theorem dX11_stallIn_62 : decode cX11_stallIn 62 = .ok (.getfield 308, 3) := by decide +kernel
theorem dX11_stallIn_65 : decode cX11_stallIn 65 = .ok (.iload_n 1, 1) := by decide +kernel
theorem dX11_stallIn_66 : decode cX11_stallIn 66 = .ok (.aaload, 1) := by decide +kernel
theorem dX11_stallIn_67 : decode cX11_stallIn 67 = .ok (.getfield 324, 3) := by decide +kernel
theorem dX11_stallIn_70 : decode cX11_stallIn 70 = .ok (.ifCond .le 5, 3) := by decide +kernel
theorem dX11_stallIn_73 : decode cX11_stallIn 73 = .ok (.iload_n 2, 1) := by decide +kernel
theorem dX11_stallIn_74 : decode cX11_stallIn 74 = .ok (.ireturn, 1) := by decide +kernel
theorem dX11_stallIn_75 : decode cX11_stallIn 75 = .ok (.iinc 2 1, 3) := by decide +kernel
theorem dX11_stallIn_78 : decode cX11_stallIn 78 = .ok (.goto (-38), 3) := by decide +kernel
theorem dX11_stallIn_81 : decode cX11_stallIn 81 = .ok (.iconst (-1), 1) := by decide +kernel
theorem dX11_stallIn_82 : decode cX11_stallIn 82 = .ok (.ireturn, 1) := by decide +kernel
theorem dX11_calmIn_0 : decode cX11_calmIn 0 = .ok (.aload_n 0, 1) := by decide +kernel
theorem dX11_calmIn_1 : decode cX11_calmIn 1 = .ok (.getfield 12, 3) := by decide +kernel
theorem dX11_calmIn_4 : decode cX11_calmIn 4 = .ok (.getfield 114, 3) := by decide +kernel
theorem dX11_calmIn_7 : decode cX11_calmIn 7 = .ok (.ifCond .ne 5, 3) := by decide +kernel
theorem dX11_calmIn_10 : decode cX11_calmIn 10 = .ok (.iconst (-1), 1) := by decide +kernel
theorem dX11_calmIn_11 : decode cX11_calmIn 11 = .ok (.ireturn, 1) := by decide +kernel
theorem dX11_calmIn_12 : decode cX11_calmIn 12 = .ok (.aload_n 0, 1) := by decide +kernel
theorem dX11_calmIn_13 : decode cX11_calmIn 13 = .ok (.getfield 44, 3) := by decide +kernel
theorem dX11_calmIn_16 : decode cX11_calmIn 16 = .ok (.aload_n 0, 1) := by decide +kernel
theorem dX11_calmIn_17 : decode cX11_calmIn 17 = .ok (.getfield 40, 3) := by decide +kernel
theorem dX11_calmIn_20 : decode cX11_calmIn 20 = .ok (.invokevirtual 361, 3) := by decide +kernel
theorem dX11_calmIn_23 : decode cX11_calmIn 23 = .ok (.iconst 0, 1) := by decide +kernel
theorem dX11_calmIn_24 : decode cX11_calmIn 24 = .ok (.istore_n 1, 1) := by decide +kernel
theorem dX11_calmIn_25 : decode cX11_calmIn 25 = .ok (.iload_n 1, 1) := by decide +kernel
theorem dX11_calmIn_26 : decode cX11_calmIn 26 = .ok (.sipush 2000, 3) := by decide +kernel
theorem dX11_calmIn_29 : decode cX11_calmIn 29 = .ok (.if_icmp .gt 36, 3) := by decide +kernel
theorem dX11_calmIn_32 : decode cX11_calmIn 32 = .ok (.aload_n 0, 1) := by decide +kernel
theorem dX11_calmIn_33 : decode cX11_calmIn 33 = .ok (.getfield 44, 3) := by decide +kernel
theorem dX11_calmIn_36 : decode cX11_calmIn 36 = .ok (.aload_n 0, 1) := by decide +kernel
theorem dX11_calmIn_37 : decode cX11_calmIn 37 = .ok (.getfield 12, 3) := by decide +kernel
theorem dX11_calmIn_40 : decode cX11_calmIn 40 = .ok (.invokevirtual 364, 3) := by decide +kernel
theorem dX11_calmIn_43 : decode cX11_calmIn 43 = .ok (.ifCond .eq 5, 3) := by decide +kernel
theorem dX11_calmIn_46 : decode cX11_calmIn 46 = .ok (.iload_n 1, 1) := by decide +kernel
theorem dX11_calmIn_47 : decode cX11_calmIn 47 = .ok (.ireturn, 1) := by decide +kernel
theorem dX11_calmIn_48 : decode cX11_calmIn 48 = .ok (.aload_n 0, 1) := by decide +kernel
theorem dX11_calmIn_49 : decode cX11_calmIn 49 = .ok (.getfield 44, 3) := by decide +kernel
theorem dX11_calmIn_52 : decode cX11_calmIn 52 = .ok (.aload_n 0, 1) := by decide +kernel
theorem dX11_calmIn_53 : decode cX11_calmIn 53 = .ok (.getfield 12, 3) := by decide +kernel
theorem dX11_calmIn_56 : decode cX11_calmIn 56 = .ok (.invokevirtual 292, 3) := by decide +kernel
theorem dX11_calmIn_59 : decode cX11_calmIn 59 = .ok (.iinc 1 1, 3) := by decide +kernel
theorem dX11_calmIn_62 : decode cX11_calmIn 62 = .ok (.goto (-37), 3) := by decide +kernel
theorem dX11_calmIn_65 : decode cX11_calmIn 65 = .ok (.iconst (-1), 1) := by decide +kernel
theorem dX11_calmIn_66 : decode cX11_calmIn 66 = .ok (.ireturn, 1) := by decide +kernel
theorem dX11_carries_0 : decode cX11_carries 0 = .ok (.aload_n 0, 1) := by decide +kernel
theorem dX11_carries_1 : decode cX11_carries 1 = .ok (.iload_n 1, 1) := by decide +kernel
theorem dX11_carries_2 : decode cX11_carries 2 = .ok (.invokevirtual 194, 3) := by decide +kernel
theorem dX11_carries_5 : decode cX11_carries 5 = .ok (.ifCond .eq 29, 3) := by decide +kernel
theorem dX11_carries_8 : decode cX11_carries 8 = .ok (.iload_n 2, 1) := by decide +kernel
theorem dX11_carries_9 : decode cX11_carries 9 = .ok (.iconst 1, 1) := by decide +kernel
theorem dX11_carries_10 : decode cX11_carries 10 = .ok (.sipush 200, 3) := by decide +kernel
theorem dX11_carries_13 : decode cX11_carries 13 = .ok (.invokestatic 123, 3) := by decide +kernel
theorem dX11_carries_16 : decode cX11_carries 16 = .ok (.ifCond .eq 18, 3) := by decide +kernel
theorem dX11_carries_19 : decode cX11_carries 19 = .ok (.aload_n 0, 1) := by decide +kernel
theorem dX11_carries_20 : decode cX11_carries 20 = .ok (.getfield 40, 3) := by decide +kernel
theorem dX11_carries_23 : decode cX11_carries 23 = .ok (.getfield 308, 3) := by decide +kernel
theorem dX11_carries_26 : decode cX11_carries 26 = .ok (.iload_n 1, 1) := by decide +kernel
theorem dX11_carries_27 : decode cX11_carries 27 = .ok (.aaload, 1) := by decide +kernel
theorem dX11_carries_28 : decode cX11_carries 28 = .ok (.getfield 324, 3) := by decide +kernel
theorem dX11_carries_31 : decode cX11_carries 31 = .ok (.ifCond .le 5, 3) := by decide +kernel
theorem dX11_carries_34 : decode cX11_carries 34 = .ok (.iconst (-1), 1) := by decide +kernel
theorem dX11_carries_35 : decode cX11_carries 35 = .ok (.ireturn, 1) := by decide +kernel
theorem dX11_carries_36 : decode cX11_carries 36 = .ok (.aload_n 0, 1) := by decide +kernel
theorem dX11_carries_37 : decode cX11_carries 37 = .ok (.getfield 44, 3) := by decide +kernel
theorem dX11_carries_40 : decode cX11_carries 40 = .ok (.getfield 308, 3) := by decide +kernel
theorem dX11_carries_43 : decode cX11_carries 43 = .ok (.iload_n 1, 1) := by decide +kernel
theorem dX11_carries_44 : decode cX11_carries 44 = .ok (.aaload, 1) := by decide +kernel
theorem dX11_carries_45 : decode cX11_carries 45 = .ok (.astore_n 3, 1) := by decide +kernel
theorem dX11_carries_46 : decode cX11_carries 46 = .ok (.sipush 2000, 3) := by decide +kernel
theorem dX11_carries_49 : decode cX11_carries 49 = .ok (.istore 4, 2) := by decide +kernel
theorem dX11_carries_51 : decode cX11_carries 51 = .ok (.iload 4, 2) := by decide +kernel
theorem dX11_carries_53 : decode cX11_carries 53 = .ok (.ifCond .lt 69, 3) := by decide +kernel
theorem dX11_carries_56 : decode cX11_carries 56 = .ok (.aload_n 0, 1) := by decide +kernel
theorem dX11_carries_57 : decode cX11_carries 57 = .ok (.getfield 44, 3) := by decide +kernel
theorem dX11_carries_60 : decode cX11_carries 60 = .ok (.aload_n 0, 1) := by decide +kernel
theorem dX11_carries_61 : decode cX11_carries 61 = .ok (.getfield 40, 3) := by decide +kernel
theorem dX11_carries_64 : decode cX11_carries 64 = .ok (.invokevirtual 361, 3) := by decide +kernel
theorem dX11_carries_67 : decode cX11_carries 67 = .ok (.aload_n 3, 1) := by decide +kernel
theorem dX11_carries_68 : decode cX11_carries 68 = .ok (.iload 4, 2) := by decide +kernel
theorem dX11_carries_70 : decode cX11_carries 70 = .ok (.putfield 315, 3) := by decide +kernel
theorem dX11_carries_73 : decode cX11_carries 73 = .ok (.iconst 0, 1) := by decide +kernel
theorem dX11_carries_74 : decode cX11_carries 74 = .ok (.istore 5, 2) := by decide +kernel
theorem dX11_carries_76 : decode cX11_carries 76 = .ok (.iload 5, 2) := by decide +kernel
theorem dX11_carries_78 : decode cX11_carries 78 = .ok (.iload_n 2, 1) := by decide +kernel
theorem dX11_carries_79 : decode cX11_carries 79 = .ok (.if_icmp .ge 27, 3) := by decide +kernel
theorem dX11_carries_82 : decode cX11_carries 82 = .ok (.aload_n 3, 1) := by decide +kernel
theorem dX11_carries_83 : decode cX11_carries 83 = .ok (.getfield 324, 3) := by decide +kernel
theorem dX11_carries_86 : decode cX11_carries 86 = .ok (.ifCond .ne 20, 3) := by decide +kernel
theorem dX11_carries_89 : decode cX11_carries 89 = .ok (.aload_n 0, 1) := by decide +kernel
theorem dX11_carries_90 : decode cX11_carries 90 = .ok (.getfield 44, 3) := by decide +kernel
theorem dX11_carries_93 : decode cX11_carries 93 = .ok (.aload_n 0, 1) := by decide +kernel
theorem dX11_carries_94 : decode cX11_carries 94 = .ok (.getfield 12, 3) := by decide +kernel
theorem dX11_carries_97 : decode cX11_carries 97 = .ok (.invokevirtual 292, 3) := by decide +kernel
theorem dX11_carries_100 : decode cX11_carries 100 = .ok (.iinc 5 1, 3) := by decide +kernel
theorem dX11_carries_103 : decode cX11_carries 103 = .ok (.goto (-27), 3) := by decide +kernel
theorem dX11_carries_106 : decode cX11_carries 106 = .ok (.aload_n 3, 1) := by decide +kernel
theorem dX11_carries_107 : decode cX11_carries 107 = .ok (.getfield 324, 3) := by decide +kernel
theorem dX11_carries_110 : decode cX11_carries 110 = .ok (.ifCond .ne 6, 3) := by decide +kernel
theorem dX11_carries_113 : decode cX11_carries 113 = .ok (.iload 4, 2) := by decide +kernel
theorem dX11_carries_115 : decode cX11_carries 115 = .ok (.ireturn, 1) := by decide +kernel
theorem dX11_carries_116 : decode cX11_carries 116 = .ok (.iinc 4 (-1), 3) := by decide +kernel
theorem dX11_carries_119 : decode cX11_carries 119 = .ok (.goto (-68), 3) := by decide +kernel
theorem dX11_carries_122 : decode cX11_carries 122 = .ok (.iconst (-1), 1) := by decide +kernel
theorem dX11_carries_123 : decode cX11_carries 123 = .ok (.ireturn, 1) := by decide +kernel
theorem dX11_strain_0 : decode cX11_strain 0 = .ok (.aload_n 0, 1) := by decide +kernel
theorem dX11_strain_1 : decode cX11_strain 1 = .ok (.iload_n 1, 1) := by decide +kernel
theorem dX11_strain_2 : decode cX11_strain 2 = .ok (.invokevirtual 194, 3) := by decide +kernel
theorem dX11_strain_5 : decode cX11_strain 5 = .ok (.ifCond .eq 14, 3) := by decide +kernel
theorem dX11_strain_8 : decode cX11_strain 8 = .ok (.iload_n 2, 1) := by decide +kernel
theorem dX11_strain_9 : decode cX11_strain 9 = .ok (.iconst 1, 1) := by decide +kernel
theorem dX11_strain_10 : decode cX11_strain 10 = .ok (.sipush 1000, 3) := by decide +kernel
theorem dX11_strain_13 : decode cX11_strain 13 = .ok (.invokestatic 123, 3) := by decide +kernel
theorem dX11_strain_16 : decode cX11_strain 16 = .ok (.ifCond .ne 5, 3) := by decide +kernel
theorem dX11_strain_19 : decode cX11_strain 19 = .ok (.iconst (-1), 1) := by decide +kernel
theorem dX11_strain_20 : decode cX11_strain 20 = .ok (.ireturn, 1) := by decide +kernel
theorem dX11_strain_21 : decode cX11_strain 21 = .ok (.iconst 0, 1) := by decide +kernel
theorem dX11_strain_22 : decode cX11_strain 22 = .ok (.istore_n 3, 1) := by decide +kernel
theorem dX11_strain_23 : decode cX11_strain 23 = .ok (.aload_n 0, 1) := by decide +kernel
theorem dX11_strain_24 : decode cX11_strain 24 = .ok (.getfield 44, 3) := by decide +kernel
theorem dX11_strain_27 : decode cX11_strain 27 = .ok (.aload_n 0, 1) := by decide +kernel
theorem dX11_strain_28 : decode cX11_strain 28 = .ok (.getfield 40, 3) := by decide +kernel
theorem dX11_strain_31 : decode cX11_strain 31 = .ok (.invokevirtual 361, 3) := by decide +kernel
theorem dX11_strain_34 : decode cX11_strain 34 = .ok (.iconst 0, 1) := by decide +kernel
theorem dX11_strain_35 : decode cX11_strain 35 = .ok (.istore 4, 2) := by decide +kernel
theorem dX11_strain_37 : decode cX11_strain 37 = .ok (.iload 4, 2) := by decide +kernel
theorem dX11_strain_39 : decode cX11_strain 39 = .ok (.iload_n 2, 1) := by decide +kernel
theorem dX11_strain_40 : decode cX11_strain 40 = .ok (.if_icmp .ge 40, 3) := by decide +kernel
theorem dX11_strain_43 : decode cX11_strain 43 = .ok (.aload_n 0, 1) := by decide +kernel
theorem dX11_strain_44 : decode cX11_strain 44 = .ok (.getfield 44, 3) := by decide +kernel
theorem dX11_strain_47 : decode cX11_strain 47 = .ok (.aload_n 0, 1) := by decide +kernel
theorem dX11_strain_48 : decode cX11_strain 48 = .ok (.getfield 12, 3) := by decide +kernel
theorem dX11_strain_51 : decode cX11_strain 51 = .ok (.invokevirtual 292, 3) := by decide +kernel
theorem dX11_strain_54 : decode cX11_strain 54 = .ok (.iload_n 3, 1) := by decide +kernel
theorem dX11_strain_55 : decode cX11_strain 55 = .ok (.aload_n 0, 1) := by decide +kernel
theorem dX11_strain_56 : decode cX11_strain 56 = .ok (.getfield 44, 3) := by decide +kernel
theorem dX11_strain_59 : decode cX11_strain 59 = .ok (.getfield 308, 3) := by decide +kernel
theorem dX11_strain_62 : decode cX11_strain 62 = .ok (.iload_n 1, 1) := by decide +kernel
theorem dX11_strain_63 : decode cX11_strain 63 = .ok (.aaload, 1) := by decide +kernel
theorem dX11_strain_64 : decode cX11_strain 64 = .ok (.invokevirtual 352, 3) := by decide +kernel
theorem dX11_strain_67 : decode cX11_strain 67 = .ok (.invokestatic 230, 3) := by decide +kernel
theorem dX11_strain_70 : decode cX11_strain 70 = .ok (.invokestatic 235, 3) := by decide +kernel
theorem dX11_strain_73 : decode cX11_strain 73 = .ok (.istore_n 3, 1) := by decide +kernel
theorem dX11_strain_74 : decode cX11_strain 74 = .ok (.iinc 4 1, 3) := by decide +kernel
theorem dX11_strain_77 : decode cX11_strain 77 = .ok (.goto (-40), 3) := by decide +kernel
theorem dX11_strain_80 : decode cX11_strain 80 = .ok (.iload_n 3, 1) := by decide +kernel
theorem dX11_strain_81 : decode cX11_strain 81 = .ok (.ireturn, 1) := by decide +kernel
theorem dX11_isLetGo_0 : decode cX11_isLetGo 0 = .ok (.iload_n 0, 1) := by decide +kernel
theorem dX11_isLetGo_1 : decode cX11_isLetGo 1 = .ok (.sipush (-1023), 3) := by decide +kernel
theorem dX11_isLetGo_4 : decode cX11_isLetGo 4 = .ok (.sipush 1023, 3) := by decide +kernel
theorem dX11_isLetGo_7 : decode cX11_isLetGo 7 = .ok (.invokestatic 123, 3) := by decide +kernel
theorem dX11_isLetGo_10 : decode cX11_isLetGo 10 = .ok (.ireturn, 1) := by decide +kernel
theorem dJ6_signum_0f7a4_0 : decode cJ6_signum_0f7a4 0 = .ok (.iload_n 0, 1) := by decide +kernel
theorem dJ6_signum_0f7a4_1 : decode cJ6_signum_0f7a4 1 = .ok (.bipush 31, 2) := by decide +kernel
theorem dJ6_signum_0f7a4_3 : decode cJ6_signum_0f7a4 3 = .ok (.ishr, 1) := by decide +kernel
theorem dJ6_signum_0f7a4_4 : decode cJ6_signum_0f7a4 4 = .ok (.iload_n 0, 1) := by decide +kernel
theorem dJ6_signum_0f7a4_5 : decode cJ6_signum_0f7a4 5 = .ok (.ineg, 1) := by decide +kernel
theorem dJ6_signum_0f7a4_6 : decode cJ6_signum_0f7a4 6 = .ok (.bipush 31, 2) := by decide +kernel
theorem dJ6_signum_0f7a4_8 : decode cJ6_signum_0f7a4 8 = .ok (.iushr, 1) := by decide +kernel
theorem dJ6_signum_0f7a4_9 : decode cJ6_signum_0f7a4 9 = .ok (.ior, 1) := by decide +kernel
theorem dJ6_signum_0f7a4_10 : decode cJ6_signum_0f7a4 10 = .ok (.ireturn, 1) := by decide +kernel
theorem dX11_swings_0 : decode cX11_swings 0 = .ok (.aload_n 0, 1) := by decide +kernel
theorem dX11_swings_1 : decode cX11_swings 1 = .ok (.iload_n 1, 1) := by decide +kernel
theorem dX11_swings_2 : decode cX11_swings 2 = .ok (.invokevirtual 194, 3) := by decide +kernel
theorem dX11_swings_5 : decode cX11_swings 5 = .ok (.ifCond .eq 21, 3) := by decide +kernel
theorem dX11_swings_8 : decode cX11_swings 8 = .ok (.iload_n 2, 1) := by decide +kernel
theorem dX11_swings_9 : decode cX11_swings 9 = .ok (.invokestatic 368, 3) := by decide +kernel
theorem dX11_swings_12 : decode cX11_swings 12 = .ok (.ifCond .eq 14, 3) := by decide +kernel
theorem dX11_swings_15 : decode cX11_swings 15 = .ok (.iload_n 3, 1) := by decide +kernel
theorem dX11_swings_16 : decode cX11_swings 16 = .ok (.iconst 1, 1) := by decide +kernel
theorem dX11_swings_17 : decode cX11_swings 17 = .ok (.sipush 500, 3) := by decide +kernel
theorem dX11_swings_20 : decode cX11_swings 20 = .ok (.invokestatic 123, 3) := by decide +kernel
theorem dX11_swings_23 : decode cX11_swings 23 = .ok (.ifCond .ne 5, 3) := by decide +kernel
theorem dX11_swings_26 : decode cX11_swings 26 = .ok (.iconst (-1), 1) := by decide +kernel
theorem dX11_swings_27 : decode cX11_swings 27 = .ok (.ireturn, 1) := by decide +kernel
theorem dX11_swings_28 : decode cX11_swings 28 = .ok (.iconst 0, 1) := by decide +kernel
theorem dX11_swings_29 : decode cX11_swings 29 = .ok (.istore 4, 2) := by decide +kernel
theorem dX11_swings_31 : decode cX11_swings 31 = .ok (.iconst 0, 1) := by decide +kernel
theorem dX11_swings_32 : decode cX11_swings 32 = .ok (.istore 5, 2) := by decide +kernel
theorem dX11_swings_34 : decode cX11_swings 34 = .ok (.aload_n 0, 1) := by decide +kernel
theorem dX11_swings_35 : decode cX11_swings 35 = .ok (.getfield 71, 3) := by decide +kernel
theorem dX11_swings_38 : decode cX11_swings 38 = .ok (.aload_n 0, 1) := by decide +kernel
theorem dX11_swings_39 : decode cX11_swings 39 = .ok (.getfield 40, 3) := by decide +kernel
theorem dX11_swings_42 : decode cX11_swings 42 = .ok (.getfield 308, 3) := by decide +kernel
theorem dX11_swings_45 : decode cX11_swings 45 = .ok (.iload_n 1, 1) := by decide +kernel
theorem dX11_swings_46 : decode cX11_swings 46 = .ok (.aaload, 1) := by decide +kernel
theorem dX11_swings_47 : decode cX11_swings 47 = .ok (.getfield 315, 3) := by decide +kernel
theorem dX11_swings_50 : decode cX11_swings 50 = .ok (.iload_n 2, 1) := by decide +kernel
theorem dX11_swings_51 : decode cX11_swings 51 = .ok (.invokevirtual 371, 3) := by decide +kernel
theorem dX11_swings_54 : decode cX11_swings 54 = .ok (.iconst 0, 1) := by decide +kernel
theorem dX11_swings_55 : decode cX11_swings 55 = .ok (.istore 6, 2) := by decide +kernel
theorem dX11_swings_57 : decode cX11_swings 57 = .ok (.iload 6, 2) := by decide +kernel
theorem dX11_swings_59 : decode cX11_swings 59 = .ok (.iload_n 3, 1) := by decide +kernel
theorem dX11_swings_60 : decode cX11_swings 60 = .ok (.if_icmp .ge 58, 3) := by decide +kernel
theorem dX11_swings_63 : decode cX11_swings 63 = .ok (.aload_n 0, 1) := by decide +kernel
theorem dX11_swings_64 : decode cX11_swings 64 = .ok (.getfield 71, 3) := by decide +kernel
theorem dX11_swings_67 : decode cX11_swings 67 = .ok (.aload_n 0, 1) := by decide +kernel
theorem dX11_swings_68 : decode cX11_swings 68 = .ok (.getfield 12, 3) := by decide +kernel
theorem dX11_swings_71 : decode cX11_swings 71 = .ok (.getfield 330, 3) := by decide +kernel
theorem dX11_swings_74 : decode cX11_swings 74 = .ok (.iload_n 1, 1) := by decide +kernel
theorem dX11_swings_75 : decode cX11_swings 75 = .ok (.aaload, 1) := by decide +kernel
theorem dX11_swings_76 : decode cX11_swings 76 = .ok (.aload_n 0, 1) := by decide +kernel
theorem dX11_swings_77 : decode cX11_swings 77 = .ok (.getfield 12, 3) := by decide +kernel
theorem dX11_swings_80 : decode cX11_swings 80 = .ok (.getfield 128, 3) := by decide +kernel
theorem dX11_swings_83 : decode cX11_swings 83 = .ok (.invokevirtual 375, 3) := by decide +kernel
theorem dX11_swings_86 : decode cX11_swings 86 = .ok (.aload_n 0, 1) := by decide +kernel
theorem dX11_swings_87 : decode cX11_swings 87 = .ok (.getfield 71, 3) := by decide +kernel
theorem dX11_swings_90 : decode cX11_swings 90 = .ok (.getfield 349, 3) := by decide +kernel
theorem dX11_swings_93 : decode cX11_swings 93 = .ok (.invokestatic 379, 3) := by decide +kernel
theorem dX11_swings_96 : decode cX11_swings 96 = .ok (.istore 7, 2) := by decide +kernel
theorem dX11_swings_98 : decode cX11_swings 98 = .ok (.iload 7, 2) := by decide +kernel
theorem dX11_swings_100 : decode cX11_swings 100 = .ok (.iload 5, 2) := by decide +kernel
theorem dX11_swings_102 : decode cX11_swings 102 = .ok (.if_icmp .eq 6, 3) := by decide +kernel
theorem dX11_swings_105 : decode cX11_swings 105 = .ok (.iinc 4 1, 3) := by decide +kernel
theorem dX11_swings_108 : decode cX11_swings 108 = .ok (.iload 7, 2) := by decide +kernel
theorem dX11_swings_110 : decode cX11_swings 110 = .ok (.istore 5, 2) := by decide +kernel
theorem dX11_swings_112 : decode cX11_swings 112 = .ok (.iinc 6 1, 3) := by decide +kernel
theorem dX11_swings_115 : decode cX11_swings 115 = .ok (.goto (-58), 3) := by decide +kernel
theorem dX11_swings_118 : decode cX11_swings 118 = .ok (.iload 4, 2) := by decide +kernel
theorem dX11_swings_120 : decode cX11_swings 120 = .ok (.ireturn, 1) := by decide +kernel
theorem dX11_settles_0 : decode cX11_settles 0 = .ok (.aload_n 0, 1) := by decide +kernel
theorem dX11_settles_1 : decode cX11_settles 1 = .ok (.iload_n 1, 1) := by decide +kernel
theorem dX11_settles_2 : decode cX11_settles 2 = .ok (.invokevirtual 194, 3) := by decide +kernel
theorem dX11_settles_5 : decode cX11_settles 5 = .ok (.ifCond .eq 10, 3) := by decide +kernel
theorem dX11_settles_8 : decode cX11_settles 8 = .ok (.iload_n 2, 1) := by decide +kernel
theorem dX11_settles_9 : decode cX11_settles 9 = .ok (.invokestatic 368, 3) := by decide +kernel
theorem dX11_settles_12 : decode cX11_settles 12 = .ok (.ifCond .ne 5, 3) := by decide +kernel
theorem dX11_settles_15 : decode cX11_settles 15 = .ok (.iconst (-1), 1) := by decide +kernel
theorem dX11_settles_16 : decode cX11_settles 16 = .ok (.ireturn, 1) := by decide +kernel
theorem dX11_settles_17 : decode cX11_settles 17 = .ok (.aload_n 0, 1) := by decide +kernel
theorem dX11_settles_18 : decode cX11_settles 18 = .ok (.getfield 71, 3) := by decide +kernel
theorem dX11_settles_21 : decode cX11_settles 21 = .ok (.aload_n 0, 1) := by decide +kernel
theorem dX11_settles_22 : decode cX11_settles 22 = .ok (.getfield 40, 3) := by decide +kernel
theorem dX11_settles_25 : decode cX11_settles 25 = .ok (.getfield 308, 3) := by decide +kernel
theorem dX11_settles_28 : decode cX11_settles 28 = .ok (.iload_n 1, 1) := by decide +kernel
theorem dX11_settles_29 : decode cX11_settles 29 = .ok (.aaload, 1) := by decide +kernel
theorem dX11_settles_30 : decode cX11_settles 30 = .ok (.getfield 315, 3) := by decide +kernel
theorem dX11_settles_33 : decode cX11_settles 33 = .ok (.iload_n 2, 1) := by decide +kernel
theorem dX11_settles_34 : decode cX11_settles 34 = .ok (.invokevirtual 371, 3) := by decide +kernel
theorem dX11_settles_37 : decode cX11_settles 37 = .ok (.iconst 0, 1) := by decide +kernel
theorem dX11_settles_38 : decode cX11_settles 38 = .ok (.istore_n 3, 1) := by decide +kernel
theorem dX11_settles_39 : decode cX11_settles 39 = .ok (.iload_n 3, 1) := by decide +kernel
theorem dX11_settles_40 : decode cX11_settles 40 = .ok (.sipush 2000, 3) := by decide +kernel
theorem dX11_settles_43 : decode cX11_settles 43 = .ok (.if_icmp .gt 60, 3) := by decide +kernel
theorem dX11_settles_46 : decode cX11_settles 46 = .ok (.aload_n 0, 1) := by decide +kernel
theorem dX11_settles_47 : decode cX11_settles 47 = .ok (.getfield 71, 3) := by decide +kernel
theorem dX11_settles_50 : decode cX11_settles 50 = .ok (.aload_n 0, 1) := by decide +kernel
theorem dX11_settles_51 : decode cX11_settles 51 = .ok (.getfield 12, 3) := by decide +kernel
theorem dX11_settles_54 : decode cX11_settles 54 = .ok (.getfield 330, 3) := by decide +kernel
theorem dX11_settles_57 : decode cX11_settles 57 = .ok (.iload_n 1, 1) := by decide +kernel
theorem dX11_settles_58 : decode cX11_settles 58 = .ok (.aaload, 1) := by decide +kernel
theorem dX11_settles_59 : decode cX11_settles 59 = .ok (.aload_n 0, 1) := by decide +kernel
theorem dX11_settles_60 : decode cX11_settles 60 = .ok (.getfield 12, 3) := by decide +kernel
theorem dX11_settles_63 : decode cX11_settles 63 = .ok (.getfield 128, 3) := by decide +kernel
theorem dX11_settles_66 : decode cX11_settles 66 = .ok (.invokevirtual 382, 3) := by decide +kernel
theorem dX11_settles_69 : decode cX11_settles 69 = .ok (.ifCond .eq 5, 3) := by decide +kernel
theorem dX11_settles_72 : decode cX11_settles 72 = .ok (.iload_n 3, 1) := by decide +kernel
theorem dX11_settles_73 : decode cX11_settles 73 = .ok (.ireturn, 1) := by decide +kernel
theorem dX11_settles_74 : decode cX11_settles 74 = .ok (.aload_n 0, 1) := by decide +kernel
theorem dX11_settles_75 : decode cX11_settles 75 = .ok (.getfield 71, 3) := by decide +kernel
theorem dX11_settles_78 : decode cX11_settles 78 = .ok (.aload_n 0, 1) := by decide +kernel
theorem dX11_settles_79 : decode cX11_settles 79 = .ok (.getfield 12, 3) := by decide +kernel
theorem dX11_settles_82 : decode cX11_settles 82 = .ok (.getfield 330, 3) := by decide +kernel
theorem dX11_settles_85 : decode cX11_settles 85 = .ok (.iload_n 1, 1) := by decide +kernel
theorem dX11_settles_86 : decode cX11_settles 86 = .ok (.aaload, 1) := by decide +kernel
theorem dX11_settles_87 : decode cX11_settles 87 = .ok (.aload_n 0, 1) := by decide +kernel
theorem dX11_settles_88 : decode cX11_settles 88 = .ok (.getfield 12, 3) := by decide +kernel
theorem dX11_settles_91 : decode cX11_settles 91 = .ok (.getfield 128, 3) := by decide +kernel
theorem dX11_settles_94 : decode cX11_settles 94 = .ok (.invokevirtual 375, 3) := by decide +kernel
theorem dX11_settles_97 : decode cX11_settles 97 = .ok (.iinc 3 1, 3) := by decide +kernel
theorem dX11_settles_100 : decode cX11_settles 100 = .ok (.goto (-61), 3) := by decide +kernel
theorem dX11_settles_103 : decode cX11_settles 103 = .ok (.iconst (-1), 1) := by decide +kernel
theorem dX11_settles_104 : decode cX11_settles 104 = .ok (.ireturn, 1) := by decide +kernel
def zjX11_go_20 (sh : zShp) (k0 : Nat) (p1 : Int32) (p2 : Int32) (p3 : Int32)  (M : zMem) : Option (Int32 × zMem) :=
  some ((-1 : Int32), M)
def zX11_go (sh : zShp) (k0 : Nat) (p1 : Int32) (p2 : Int32) (p3 : Int32) (M : zMem) : Option (Int32 × zMem) :=
  if (zI M (zR M k0 2) 8) = 0 then (
  zob2 (zX11_askMove sh k0 p1 p2 p3 M) fun r_4 M_5 =>
  if r_4 = 0 then (
  zjX11_go_20 sh k0 p1 p2 p3 M_5)
  else (
  zob (zX3_keep sh (zR M_5 k0 4) (zR M_5 k0 2) M_5) fun M_10 =>
  zob (zX8_begin sh (zR M_10 k0 2) (zR M_10 k0 9) (zR M_10 k0 11) M_10) fun M_15 =>
  some ((zI M_15 (zR M_15 k0 2) 10), M_15)))
  else (
  zjX11_go_20 sh k0 p1 p2 p3 M)
set_option maxHeartbeats 4000000 in
set_option maxRecDepth 100000 in
theorem ztX11_go (l : Launch) (D : va_G) (cy : Nat → ClassId) (sh : zShp) (ad : Nat → Nat) {k0 : Nat} {p1 : Int32} {p2 : Int32} {p3 : Int32} (h0 : zT sh k0 11) {M : zMem} {r : Int32} {M1 : zMem} (hd : zX11_go sh k0 p1 p2 p3 M = some (r, M1)) : zCI l yX11_go cX11_go 4 .int { frames := 5, cells := 0, slots := 0, locals := 123 } [.ref (ad k0), .int p1, .int p2, .int p3] D cy sh ad M r M1 := by
  refine zci_of (by decide) (Nat.le_of_ble_eq_true rfl) (fun p e s m below meth c ls F hr hlk hl hw => ?_)
  have hx := F.1.1
  have hb := F.1.2.1
  have hl : lv_has ls 4 [(0, .ref (ad k0)), (1, .int p1), (2, .int p2), (3, .int p3)] := hl
  have J20 : ∀ (M : zMem) (H : Heap) (locs : List Loc) (ls : Array Slot), lv_has ls 4 [] → zWd D cy sh ad s M H locs → zjX11_go_20 sh k0 p1 p2 p3  M = some (r, M1) → W p l e { frames := 5, cells := 0, slots := 0, locals := 123 } s m ([.ref (ad k0), .int p1, .int p2, .int p3] : List Value).toArray below meth c H locs 0 0 (zQI below D cy sh ad s [.ref (ad k0), .int p1, .int p2, .int p3] r M1) (F0 m 20 ls []) := by
    intro  M H locs ls hl hw hd
    unfold zjX11_go_20 at hd
    refine lv_iconst (v := (-1 : Int32)) hx hb dX11_go_20 (by decide) ?_
    exact z_iret F hr hlk hw (zpr1 hd) (zpr2 hd) dX11_go_21
  unfold zX11_go at hd
  refine lv_aload_n hx hb dX11_go_0 rfl (lv_at hl 0 rfl) ?_
  refine z_gR F hw h0 zc11 2 (by decide) rfl zf11_40 dX11_go_1 ?_
  have t_1 : zT sh (zR M k0 2) 8 := hw.2.2.2.fld h0 2 8
  refine z_gI F hw t_1 zc8 8 (by decide) rfl zf11_251 dX11_go_4 ?_
  refine lv_if_ne (tgt := 20) hx hb dX11_go_7 (by decide) (fun c_2 => ?_) (fun c_2 => ?_)
  · have hd := zif_neg c_2 hd
    exact J20 _ _ _ _ (lv_sub hl [] rfl) hw hd
  · have hd := zif_pos c_2 hd
    refine lv_aload_n hx hb dX11_go_10 rfl (lv_at hl 0 rfl) ?_
    refine lv_iload_n hx hb dX11_go_11 rfl (lv_at hl 1 rfl) ?_
    refine lv_iload_n hx hb dX11_go_12 rfl (lv_at hl 2 rfl) ?_
    refine lv_iload_n hx hb dX11_go_13 rfl (lv_at hl 3 rfl) ?_
    obtain ⟨r_4, M_5, hc_3, hd⟩ := zob2_some hd
    refine z_cvI F hw hl.1 (As := [.int p1, .int p2, .int p3]) (rest := []) (ztX11_askMove l D cy sh ad h0 hc_3) zyX11_askMove h0 zc11 zk11_173 ⟨rfl, rfl⟩ ⟨by decide, by decide⟩ rfl rfl (Nat.le_of_ble_eq_true rfl) dX11_go_14 (fun H locs hw => ?_)
    refine lv_if_ne (tgt := 22) hx hb dX11_go_17 (by decide) (fun c_6 => ?_) (fun c_6 => ?_)
    · have hd := zif_neg c_6 hd
      refine lv_aload_n hx hb dX11_go_22 rfl (lv_at hl 0 rfl) ?_
      refine z_gR F hw h0 zc11 4 (by decide) rfl zf11_50 dX11_go_23 ?_
      have t_7 : zT sh (zR M_5 k0 4) 3 := hw.2.2.2.fld h0 4 3
      refine lv_aload_n hx hb dX11_go_26 rfl (lv_at hl 0 rfl) ?_
      refine z_gR F hw h0 zc11 2 (by decide) rfl zf11_40 dX11_go_27 ?_
      have t_8 : zT sh (zR M_5 k0 2) 8 := hw.2.2.2.fld h0 2 8
      obtain ⟨M_10, hc_9, hd⟩ := zob_some hd
      refine z_cvV F hw hl.1 (As := [.ref (ad (zR M_5 k0 2))]) (rest := []) (ztX3_keep l D cy sh ad t_7 t_8 hc_9) zyX3_keep t_7 zc3 zk11_255 ⟨rfl, rfl⟩ ⟨by decide, by decide⟩ rfl rfl (Nat.le_of_ble_eq_true rfl) dX11_go_30 (fun H locs hw => ?_)
      refine lv_aload_n hx hb dX11_go_33 rfl (lv_at hl 0 rfl) ?_
      refine z_gR F hw h0 zc11 2 (by decide) rfl zf11_40 dX11_go_34 ?_
      have t_11 : zT sh (zR M_10 k0 2) 8 := hw.2.2.2.fld h0 2 8
      refine lv_aload_n hx hb dX11_go_37 rfl (lv_at hl 0 rfl) ?_
      refine z_gR F hw h0 zc11 9 (by decide) rfl zf11_82 dX11_go_38 ?_
      have t_12 : zT sh (zR M_10 k0 9) 14 := hw.2.2.2.fld h0 9 14
      refine lv_aload_n hx hb dX11_go_41 rfl (lv_at hl 0 rfl) ?_
      refine z_gR F hw h0 zc11 11 (by decide) rfl zf11_12 dX11_go_42 ?_
      have t_13 : zT sh (zR M_10 k0 11) 1 := hw.2.2.2.fld h0 11 1
      obtain ⟨M_15, hc_14, hd⟩ := zob_some hd
      refine z_cvV F hw hl.1 (As := [.ref (ad (zR M_10 k0 9)), .ref (ad (zR M_10 k0 11))]) (rest := []) (ztX8_begin l D cy sh ad t_11 t_12 t_13 hc_14) zyX8_begin t_11 zc8 zk11_259 ⟨rfl, rfl⟩ ⟨by decide, by decide⟩ rfl rfl (Nat.le_of_ble_eq_true rfl) dX11_go_45 (fun H locs hw => ?_)
      refine lv_aload_n hx hb dX11_go_48 rfl (lv_at hl 0 rfl) ?_
      refine z_gR F hw h0 zc11 2 (by decide) rfl zf11_40 dX11_go_49 ?_
      have t_16 : zT sh (zR M_15 k0 2) 8 := hw.2.2.2.fld h0 2 8
      refine z_gI F hw t_16 zc8 10 (by decide) rfl zf11_263 dX11_go_52 ?_
      exact z_iret F hr hlk hw (zpr1 hd) (zpr2 hd) dX11_go_55
    · have hd := zif_pos c_6 hd
      exact J20 _ _ _ _ (lv_sub hl [] rfl) hw hd

def zjX11_halt_20 (sh : zShp) (k0 : Nat)  (M : zMem) : Option (Int32 × zMem) :=
  some ((-1 : Int32), M)
def zX11_halt (sh : zShp) (k0 : Nat) (M : zMem) : Option (Int32 × zMem) :=
  if (zI M (zR M k0 2) 8) = 0 then (
  zjX11_halt_20 sh k0 M)
  else (
  if (zI M (zR M k0 2) 9) = 0 then (
  zob (zX5_build sh (zR M k0 6) (zI M (zR M k0 2) 12) (zI M (zR M (zR M k0 2) 1) 6) (zI M (zR M (zR M k0 2) 1) 7) M) fun M_10 =>
  zob (zX5_micros sh (zR M_10 k0 6) M_10) fun r_13 =>
  if r_13 ≤ ((zI M_10 (zR M (zR M k0 2) 1) 4) - (zI M_10 (zR M_10 k0 2) 11)) then (
  zob (zX3_keep sh (zR M_10 k0 4) (zR M_10 k0 2) M_10) fun M_19 =>
  zob (zX8_haltBy sh (zR M_19 k0 2) (zR M_19 k0 6) M_19) fun M_23 =>
  some ((zI M_23 (zR M_23 k0 6) 1), M_23))
  else (
  some ((-1 : Int32), M_10)))
  else (
  zjX11_halt_20 sh k0 M))
set_option maxHeartbeats 4000000 in
set_option maxRecDepth 100000 in
theorem ztX11_halt (l : Launch) (D : va_G) (cy : Nat → ClassId) (sh : zShp) (ad : Nat → Nat) {k0 : Nat} (h0 : zT sh k0 11) {M : zMem} {r : Int32} {M1 : zMem} (hd : zX11_halt sh k0 M = some (r, M1)) : zCI l yX11_halt cX11_halt 2 .int { frames := 5, cells := 0, slots := 0, locals := 111 } [.ref (ad k0)] D cy sh ad M r M1 := by
  refine zci_of (by decide) (Nat.le_of_ble_eq_true rfl) (fun p e s m below meth c ls F hr hlk hl hw => ?_)
  have hx := F.1.1
  have hb := F.1.2.1
  have hl : lv_has ls 2 [(0, .ref (ad k0))] := hl
  have J20 : ∀ (M : zMem) (H : Heap) (locs : List Loc) (ls : Array Slot), lv_has ls 2 [] → zWd D cy sh ad s M H locs → zjX11_halt_20 sh k0  M = some (r, M1) → W p l e { frames := 5, cells := 0, slots := 0, locals := 111 } s m ([.ref (ad k0)] : List Value).toArray below meth c H locs 0 0 (zQI below D cy sh ad s [.ref (ad k0)] r M1) (F0 m 20 ls []) := by
    intro  M H locs ls hl hw hd
    unfold zjX11_halt_20 at hd
    refine lv_iconst (v := (-1 : Int32)) hx hb dX11_halt_20 (by decide) ?_
    exact z_iret F hr hlk hw (zpr1 hd) (zpr2 hd) dX11_halt_21
  unfold zX11_halt at hd
  refine lv_aload_n hx hb dX11_halt_0 rfl (lv_at hl 0 rfl) ?_
  refine z_gR F hw h0 zc11 2 (by decide) rfl zf11_40 dX11_halt_1 ?_
  have t_1 : zT sh (zR M k0 2) 8 := hw.2.2.2.fld h0 2 8
  refine z_gI F hw t_1 zc8 8 (by decide) rfl zf11_251 dX11_halt_4 ?_
  refine lv_if_eq (tgt := 20) hx hb dX11_halt_7 (by decide) (fun c_2 => ?_) (fun c_2 => ?_)
  · have hd := zif_pos c_2 hd
    exact J20 _ _ _ _ (lv_sub hl [] rfl) hw hd
  · have hd := zif_neg c_2 hd
    refine lv_aload_n hx hb dX11_halt_10 rfl (lv_at hl 0 rfl) ?_
    refine z_gR F hw h0 zc11 2 (by decide) rfl zf11_40 dX11_halt_11 ?_
    have t_3 : zT sh (zR M k0 2) 8 := hw.2.2.2.fld h0 2 8
    refine z_gI F hw t_3 zc8 9 (by decide) rfl zf11_266 dX11_halt_14 ?_
    refine lv_if_eq (tgt := 22) hx hb dX11_halt_17 (by decide) (fun c_4 => ?_) (fun c_4 => ?_)
    · have hd := zif_pos c_4 hd
      refine lv_aload_n hx hb dX11_halt_22 rfl (lv_at hl 0 rfl) ?_
      refine z_gR F hw h0 zc11 2 (by decide) rfl zf11_40 dX11_halt_23 ?_
      have t_5 : zT sh (zR M k0 2) 8 := hw.2.2.2.fld h0 2 8
      refine z_gR F hw t_5 zc8 1 (by decide) rfl zf11_269 dX11_halt_26 ?_
      have t_6 : zT sh (zR M (zR M k0 2) 1) 4 := hw.2.2.2.fld t_5 1 4
      refine lv_astore_n (lv' := [(1, .ref (ad (zR M (zR M k0 2) 1))), (0, .ref (ad k0))]) hx hb dX11_halt_29 rfl hl (by decide) rfl (fun ls hl => ?_)
      refine lv_aload_n hx hb dX11_halt_30 rfl (lv_at hl 1 rfl) ?_
      refine z_gR F hw h0 zc11 6 (by decide) rfl zf11_64 dX11_halt_31 ?_
      have t_7 : zT sh (zR M k0 6) 5 := hw.2.2.2.fld h0 6 5
      refine lv_aload_n hx hb dX11_halt_34 rfl (lv_at hl 1 rfl) ?_
      refine z_gR F hw h0 zc11 2 (by decide) rfl zf11_40 dX11_halt_35 ?_
      have t_8 : zT sh (zR M k0 2) 8 := hw.2.2.2.fld h0 2 8
      refine z_gI F hw t_8 zc8 12 (by decide) rfl zf11_272 dX11_halt_38 ?_
      refine lv_aload_n hx hb dX11_halt_41 rfl (lv_at hl 0 rfl) ?_
      refine z_gI F hw t_6 zc4 6 (by decide) rfl zf11_275 dX11_halt_42 ?_
      refine lv_aload_n hx hb dX11_halt_45 rfl (lv_at hl 0 rfl) ?_
      refine z_gI F hw t_6 zc4 7 (by decide) rfl zf11_278 dX11_halt_46 ?_
      obtain ⟨M_10, hc_9, hd⟩ := zob_some hd
      refine z_cvV F hw hl.1 (As := [.int (zI M (zR M k0 2) 12), .int (zI M (zR M (zR M k0 2) 1) 6), .int (zI M (zR M (zR M k0 2) 1) 7)]) (rest := []) (ztX5_build l D cy sh ad t_7 hc_9) zyX5_build t_7 zc5 zk11_281 ⟨rfl, rfl⟩ ⟨by decide, by decide⟩ rfl rfl (Nat.le_of_ble_eq_true rfl) dX11_halt_49 (fun H locs hw => ?_)
      refine lv_aload_n hx hb dX11_halt_52 rfl (lv_at hl 1 rfl) ?_
      refine z_gR F hw h0 zc11 6 (by decide) rfl zf11_64 dX11_halt_53 ?_
      have t_11 : zT sh (zR M_10 k0 6) 5 := hw.2.2.2.fld h0 6 5
      obtain ⟨r_13, hc_12, hd⟩ := zob_some hd
      refine z_cvI F hw hl.1 (As := []) (rest := []) (ztX5_micros l D cy sh ad t_11 hc_12) zyX5_micros t_11 zc5 zk11_166 ⟨rfl, rfl⟩ ⟨by decide, by decide⟩ rfl rfl (Nat.le_of_ble_eq_true rfl) dX11_halt_56 (fun H locs hw => ?_)
      refine lv_aload_n hx hb dX11_halt_59 rfl (lv_at hl 0 rfl) ?_
      refine z_gI F hw t_6 zc4 4 (by decide) rfl zf11_181 dX11_halt_60 ?_
      refine lv_aload_n hx hb dX11_halt_63 rfl (lv_at hl 1 rfl) ?_
      refine z_gR F hw h0 zc11 2 (by decide) rfl zf11_40 dX11_halt_64 ?_
      have t_14 : zT sh (zR M_10 k0 2) 8 := hw.2.2.2.fld h0 2 8
      refine z_gI F hw t_14 zc8 11 (by decide) rfl zf11_285 dX11_halt_67 ?_
      refine lv_isub hx hb dX11_halt_70 ?_
      refine lv_icmp_le (tgt := 76) hx hb dX11_halt_71 (by decide) (fun c_15 => ?_) (fun c_15 => ?_)
      · have hd := zif_pos c_15 hd
        refine lv_aload_n hx hb dX11_halt_76 rfl (lv_at hl 1 rfl) ?_
        refine z_gR F hw h0 zc11 4 (by decide) rfl zf11_50 dX11_halt_77 ?_
        have t_16 : zT sh (zR M_10 k0 4) 3 := hw.2.2.2.fld h0 4 3
        refine lv_aload_n hx hb dX11_halt_80 rfl (lv_at hl 1 rfl) ?_
        refine z_gR F hw h0 zc11 2 (by decide) rfl zf11_40 dX11_halt_81 ?_
        have t_17 : zT sh (zR M_10 k0 2) 8 := hw.2.2.2.fld h0 2 8
        obtain ⟨M_19, hc_18, hd⟩ := zob_some hd
        refine z_cvV F hw hl.1 (As := [.ref (ad (zR M_10 k0 2))]) (rest := []) (ztX3_keep l D cy sh ad t_16 t_17 hc_18) zyX3_keep t_16 zc3 zk11_255 ⟨rfl, rfl⟩ ⟨by decide, by decide⟩ rfl rfl (Nat.le_of_ble_eq_true rfl) dX11_halt_84 (fun H locs hw => ?_)
        refine lv_aload_n hx hb dX11_halt_87 rfl (lv_at hl 1 rfl) ?_
        refine z_gR F hw h0 zc11 2 (by decide) rfl zf11_40 dX11_halt_88 ?_
        have t_20 : zT sh (zR M_19 k0 2) 8 := hw.2.2.2.fld h0 2 8
        refine lv_aload_n hx hb dX11_halt_91 rfl (lv_at hl 1 rfl) ?_
        refine z_gR F hw h0 zc11 6 (by decide) rfl zf11_64 dX11_halt_92 ?_
        have t_21 : zT sh (zR M_19 k0 6) 5 := hw.2.2.2.fld h0 6 5
        obtain ⟨M_23, hc_22, hd⟩ := zob_some hd
        refine z_cvV F hw hl.1 (As := [.ref (ad (zR M_19 k0 6))]) (rest := []) (ztX8_haltBy l D cy sh ad t_20 t_21 hc_22) zyX8_haltBy t_20 zc8 zk11_288 ⟨rfl, rfl⟩ ⟨by decide, by decide⟩ rfl rfl (Nat.le_of_ble_eq_true rfl) dX11_halt_95 (fun H locs hw => ?_)
        refine lv_aload_n hx hb dX11_halt_98 rfl (lv_at hl 1 rfl) ?_
        refine z_gR F hw h0 zc11 6 (by decide) rfl zf11_64 dX11_halt_99 ?_
        have t_24 : zT sh (zR M_23 k0 6) 5 := hw.2.2.2.fld h0 6 5
        refine z_gI F hw t_24 zc5 1 (by decide) rfl zf11_159 dX11_halt_102 ?_
        exact z_iret F hr hlk hw (zpr1 hd) (zpr2 hd) dX11_halt_105
      · have hd := zif_neg c_15 hd
        refine lv_iconst (v := (-1 : Int32)) hx hb dX11_halt_74 (by decide) ?_
        exact z_iret F hr hlk hw (zpr1 hd) (zpr2 hd) dX11_halt_75
    · have hd := zif_neg c_4 hd
      exact J20 _ _ _ _ (lv_sub hl [] rfl) hw hd

def zjX11_run_21 (sh : zShp) (k0 : Nat) (p1 : Int32)  (M : zMem) : Option (Int32 × zMem) :=
  some ((-1 : Int32), M)
def zbX11_run_36 (sh : zShp) (k0 : Nat) (p1 : Int32)  (kk36 : Int32 → zMem → Option (Int32 × zMem)) (x2 : Int32) (M : zMem) : Option (Int32 × zMem) :=
  if p1 ≤ x2 then (
  zob (zX8_microsLeft sh (zR M k0 2) M) fun r_4 =>
  some (r_4, M))
  else (
  zob (zX8_tick sh (zR M k0 2) (zR M k0 11) M) fun M_8 =>
  kk36 (x2 + (1 : Int32)) M_8)
def zlX11_run_36 (sh : zShp) (k0 : Nat) (p1 : Int32)  : Nat → Int32 → zMem → Option (Int32 × zMem)
  | 0 => fun _ _ => none
  | n + 1 => fun x2 M => zbX11_run_36 sh k0 p1  (zlX11_run_36 sh k0 p1  n) x2 M
def zX11_run (sh : zShp) (k0 : Nat) (p1 : Int32) (M : zMem) : Option (Int32 × zMem) :=
  zob (zX11_isWithin sh p1 (1 : Int32) (500 : Int32) M) fun r_10 =>
  if r_10 = 0 then (
  zjX11_run_21 sh k0 p1 M)
  else (
  if (zI M (zR M k0 11) 6) = 0 then (
  zjX11_run_21 sh k0 p1 M)
  else (
  zob (zX3_keep sh (zR M k0 4) (zR M k0 2) M) fun M_17 =>
  zlX11_run_36 sh k0 p1 zF (0 : Int32) M_17))
set_option maxHeartbeats 4000000 in
set_option maxRecDepth 100000 in
theorem ztX11_run (l : Launch) (D : va_G) (cy : Nat → ClassId) (sh : zShp) (ad : Nat → Nat) {k0 : Nat} {p1 : Int32} (h0 : zT sh k0 11) {M : zMem} {r : Int32} {M1 : zMem} (hd : zX11_run sh k0 p1 M = some (r, M1)) : zCI l yX11_run cX11_run 3 .int { frames := 6, cells := 0, slots := 0, locals := 144 } [.ref (ad k0), .int p1] D cy sh ad M r M1 := by
  refine zci_of (by decide) (Nat.le_of_ble_eq_true rfl) (fun p e s m below meth c ls F hr hlk hl hw => ?_)
  have hx := F.1.1
  have hb := F.1.2.1
  have hl : lv_has ls 3 [(0, .ref (ad k0)), (1, .int p1)] := hl
  have J21 : ∀ (M : zMem) (H : Heap) (locs : List Loc) (ls : Array Slot), lv_has ls 3 [] → zWd D cy sh ad s M H locs → zjX11_run_21 sh k0 p1  M = some (r, M1) → W p l e { frames := 6, cells := 0, slots := 0, locals := 144 } s m ([.ref (ad k0), .int p1] : List Value).toArray below meth c H locs 0 0 (zQI below D cy sh ad s [.ref (ad k0), .int p1] r M1) (F0 m 21 ls []) := by
    intro  M H locs ls hl hw hd
    unfold zjX11_run_21 at hd
    refine lv_iconst (v := (-1 : Int32)) hx hb dX11_run_21 (by decide) ?_
    exact z_iret F hr hlk hw (zpr1 hd) (zpr2 hd) dX11_run_22
  have L36 : ∀  (n : Nat), ∀ (x2 : Int32) (M : zMem) (H : Heap) (locs : List Loc) (ls : Array Slot), lv_has ls 3 [(0, .ref (ad k0)), (1, .int p1), (2, .int x2)] → zWd D cy sh ad s M H locs → zlX11_run_36 sh k0 p1  n x2 M = some (r, M1) → W p l e { frames := 6, cells := 0, slots := 0, locals := 144 } s m ([.ref (ad k0), .int p1] : List Value).toArray below meth c H locs 0 0 (zQI below D cy sh ad s [.ref (ad k0), .int p1] r M1) (F0 m 36 ls []) := by
    intro  n
    induction n with
    | zero => intro x2 M H locs ls hl hw hd; exact (znone hd).elim
    | succ n hk36 =>
      intro x2 M H locs ls hl hw hd
      have hd : zbX11_run_36 sh k0 p1  (zlX11_run_36 sh k0 p1  n) x2 M = some (r, M1) := hd
      unfold zbX11_run_36 at hd
      refine lv_iload_n hx hb dX11_run_36 rfl (lv_at hl 2 rfl) ?_
      refine lv_iload_n hx hb dX11_run_37 rfl (lv_at hl 1 rfl) ?_
      refine lv_icmp_ge (tgt := 58) hx hb dX11_run_38 (by decide) (fun c_1 => ?_) (fun c_1 => ?_)
      · have hd := zif_pos c_1 hd
        refine lv_aload_n hx hb dX11_run_58 rfl (lv_at hl 0 rfl) ?_
        refine z_gR F hw h0 zc11 2 (by decide) rfl zf11_40 dX11_run_59 ?_
        have t_2 : zT sh (zR M k0 2) 8 := hw.2.2.2.fld h0 2 8
        obtain ⟨r_4, hc_3, hd⟩ := zob_some hd
        refine z_cvI F hw hl.1 (As := []) (rest := []) (ztX8_microsLeft l D cy sh ad t_2 hc_3) zyX8_microsLeft t_2 zc8 zk11_295 ⟨rfl, rfl⟩ ⟨by decide, by decide⟩ rfl rfl (Nat.le_of_ble_eq_true rfl) dX11_run_62 (fun H locs hw => ?_)
        exact z_iret F hr hlk hw (zpr1 hd) (zpr2 hd) dX11_run_65
      · have hd := zif_neg c_1 hd
        refine lv_aload_n hx hb dX11_run_41 rfl (lv_at hl 0 rfl) ?_
        refine z_gR F hw h0 zc11 2 (by decide) rfl zf11_40 dX11_run_42 ?_
        have t_5 : zT sh (zR M k0 2) 8 := hw.2.2.2.fld h0 2 8
        refine lv_aload_n hx hb dX11_run_45 rfl (lv_at hl 0 rfl) ?_
        refine z_gR F hw h0 zc11 11 (by decide) rfl zf11_12 dX11_run_46 ?_
        have t_6 : zT sh (zR M k0 11) 1 := hw.2.2.2.fld h0 11 1
        obtain ⟨M_8, hc_7, hd⟩ := zob_some hd
        refine z_cvV F hw hl.1 (As := [.ref (ad (zR M k0 11))]) (rest := []) (ztX8_tick l D cy sh ad t_5 t_6 hc_7) zyX8_tick t_5 zc8 zk11_292 ⟨rfl, rfl⟩ ⟨by decide, by decide⟩ rfl rfl (Nat.le_of_ble_eq_true rfl) dX11_run_49 (fun H locs hw => ?_)
        refine lv_iinc (v := (x2 + (1 : Int32))) (lv' := [(2, .int (x2 + (1 : Int32))), (0, .ref (ad k0)), (1, .int p1)]) hx hb dX11_run_52 hl (k := 2) rfl (ziinc (by decide)) (by decide) rfl (fun ls hl => ?_)
        refine lv_goto (tgt := 36) hx hb dX11_run_55 (by decide) ?_
        exact hk36 _ _ _ _ _ (lv_sub hl [1, 2, 0] rfl) hw hd
  unfold zX11_run at hd
  refine lv_iload_n hx hb dX11_run_0 rfl (lv_at hl 1 rfl) ?_
  refine lv_iconst (v := (1 : Int32)) hx hb dX11_run_1 (by decide) ?_
  refine lv_sipush (v := (500 : Int32)) hx hb dX11_run_2 (by decide) ?_
  obtain ⟨r_10, hc_9, hd⟩ := zob_some hd
  refine z_csI F hw hl.1 (As := [.int p1, .int (1 : Int32), .int (500 : Int32)]) (rest := []) (ztX11_isWithin l D cy sh ad  hc_9) zyX11_isWithin zk11_123 ⟨rfl, rfl⟩ ⟨by decide, by decide⟩ rfl rfl (Nat.le_of_ble_eq_true rfl) dX11_run_5 (fun H locs hw => ?_)
  refine lv_if_eq (tgt := 21) hx hb dX11_run_8 (by decide) (fun c_11 => ?_) (fun c_11 => ?_)
  · have hd := zif_pos c_11 hd
    exact J21 _ _ _ _ (lv_sub hl [] rfl) hw hd
  · have hd := zif_neg c_11 hd
    refine lv_aload_n hx hb dX11_run_11 rfl (lv_at hl 0 rfl) ?_
    refine z_gR F hw h0 zc11 11 (by decide) rfl zf11_12 dX11_run_12 ?_
    have t_12 : zT sh (zR M k0 11) 1 := hw.2.2.2.fld h0 11 1
    refine z_gI F hw t_12 zc1 6 (by decide) rfl zf11_114 dX11_run_15 ?_
    refine lv_if_ne (tgt := 23) hx hb dX11_run_18 (by decide) (fun c_13 => ?_) (fun c_13 => ?_)
    · have hd := zif_neg c_13 hd
      refine lv_aload_n hx hb dX11_run_23 rfl (lv_at hl 0 rfl) ?_
      refine z_gR F hw h0 zc11 4 (by decide) rfl zf11_50 dX11_run_24 ?_
      have t_14 : zT sh (zR M k0 4) 3 := hw.2.2.2.fld h0 4 3
      refine lv_aload_n hx hb dX11_run_27 rfl (lv_at hl 0 rfl) ?_
      refine z_gR F hw h0 zc11 2 (by decide) rfl zf11_40 dX11_run_28 ?_
      have t_15 : zT sh (zR M k0 2) 8 := hw.2.2.2.fld h0 2 8
      obtain ⟨M_17, hc_16, hd⟩ := zob_some hd
      refine z_cvV F hw hl.1 (As := [.ref (ad (zR M k0 2))]) (rest := []) (ztX3_keep l D cy sh ad t_14 t_15 hc_16) zyX3_keep t_14 zc3 zk11_255 ⟨rfl, rfl⟩ ⟨by decide, by decide⟩ rfl rfl (Nat.le_of_ble_eq_true rfl) dX11_run_31 (fun H locs hw => ?_)
      refine lv_iconst (v := (0 : Int32)) hx hb dX11_run_34 (by decide) ?_
      refine lv_istore_n (lv' := [(2, .int (0 : Int32)), (0, .ref (ad k0)), (1, .int p1)]) hx hb dX11_run_35 rfl hl (by decide) rfl (fun ls hl => ?_)
      exact L36 zF _ _ _ _ _ (lv_sub hl [1, 2, 0] rfl) hw hd
    · have hd := zif_pos c_13 hd
      exact J21 _ _ _ _ (lv_sub hl [] rfl) hw hd

def zjX11_queue_32 (sh : zShp) (k0 : Nat) (p1 : Int32) (p2 : Int32) (p3 : Int32)  (M : zMem) : Option (Int32 × zMem) :=
  some ((-1 : Int32), M)
def zX11_queue (sh : zShp) (k0 : Nat) (p1 : Int32) (p2 : Int32) (p3 : Int32) (M : zMem) : Option (Int32 × zMem) :=
  if (zI M (zR M k0 2) 8) = 0 then (
  zjX11_queue_32 sh k0 p1 p2 p3 M)
  else (
  if (8 : Int32) ≤ (zI M (zR M k0 2) 4) then (
  zjX11_queue_32 sh k0 p1 p2 p3 M)
  else (
  zob2 (zX11_takeGoal sh k0 p1 p2 p3 M) fun r_6 M_7 =>
  if r_6 = 0 then (
  zjX11_queue_32 sh k0 p1 p2 p3 M_7)
  else (
  zob (zX3_keep sh (zR M_7 k0 4) (zR M_7 k0 2) M_7) fun M_12 =>
  zob (zX8_addWaiting sh (zR M_12 k0 2) (zR M_12 k0 9) M_12) fun M_16 =>
  some ((zI M_16 (zR M_16 k0 2) 4), M_16))))
set_option maxHeartbeats 4000000 in
set_option maxRecDepth 100000 in
theorem ztX11_queue (l : Launch) (D : va_G) (cy : Nat → ClassId) (sh : zShp) (ad : Nat → Nat) {k0 : Nat} {p1 : Int32} {p2 : Int32} {p3 : Int32} (h0 : zT sh k0 11) {M : zMem} {r : Int32} {M1 : zMem} (hd : zX11_queue sh k0 p1 p2 p3 M = some (r, M1)) : zCI l yX11_queue cX11_queue 4 .int { frames := 5, cells := 0, slots := 0, locals := 111 } [.ref (ad k0), .int p1, .int p2, .int p3] D cy sh ad M r M1 := by
  refine zci_of (by decide) (Nat.le_of_ble_eq_true rfl) (fun p e s m below meth c ls F hr hlk hl hw => ?_)
  have hx := F.1.1
  have hb := F.1.2.1
  have hl : lv_has ls 4 [(0, .ref (ad k0)), (1, .int p1), (2, .int p2), (3, .int p3)] := hl
  have J32 : ∀ (M : zMem) (H : Heap) (locs : List Loc) (ls : Array Slot), lv_has ls 4 [] → zWd D cy sh ad s M H locs → zjX11_queue_32 sh k0 p1 p2 p3  M = some (r, M1) → W p l e { frames := 5, cells := 0, slots := 0, locals := 111 } s m ([.ref (ad k0), .int p1, .int p2, .int p3] : List Value).toArray below meth c H locs 0 0 (zQI below D cy sh ad s [.ref (ad k0), .int p1, .int p2, .int p3] r M1) (F0 m 32 ls []) := by
    intro  M H locs ls hl hw hd
    unfold zjX11_queue_32 at hd
    refine lv_iconst (v := (-1 : Int32)) hx hb dX11_queue_32 (by decide) ?_
    exact z_iret F hr hlk hw (zpr1 hd) (zpr2 hd) dX11_queue_33
  unfold zX11_queue at hd
  refine lv_aload_n hx hb dX11_queue_0 rfl (lv_at hl 0 rfl) ?_
  refine z_gR F hw h0 zc11 2 (by decide) rfl zf11_40 dX11_queue_1 ?_
  have t_1 : zT sh (zR M k0 2) 8 := hw.2.2.2.fld h0 2 8
  refine z_gI F hw t_1 zc8 8 (by decide) rfl zf11_251 dX11_queue_4 ?_
  refine lv_if_eq (tgt := 32) hx hb dX11_queue_7 (by decide) (fun c_2 => ?_) (fun c_2 => ?_)
  · have hd := zif_pos c_2 hd
    exact J32 _ _ _ _ (lv_sub hl [] rfl) hw hd
  · have hd := zif_neg c_2 hd
    refine lv_aload_n hx hb dX11_queue_10 rfl (lv_at hl 0 rfl) ?_
    refine z_gR F hw h0 zc11 2 (by decide) rfl zf11_40 dX11_queue_11 ?_
    have t_3 : zT sh (zR M k0 2) 8 := hw.2.2.2.fld h0 2 8
    refine z_gI F hw t_3 zc8 4 (by decide) rfl zf11_298 dX11_queue_14 ?_
    refine lv_bipush (v := (8 : Int32)) hx hb dX11_queue_17 (by decide) ?_
    refine lv_icmp_ge (tgt := 32) hx hb dX11_queue_19 (by decide) (fun c_4 => ?_) (fun c_4 => ?_)
    · have hd := zif_pos c_4 hd
      exact J32 _ _ _ _ (lv_sub hl [] rfl) hw hd
    · have hd := zif_neg c_4 hd
      refine lv_aload_n hx hb dX11_queue_22 rfl (lv_at hl 0 rfl) ?_
      refine lv_iload_n hx hb dX11_queue_23 rfl (lv_at hl 1 rfl) ?_
      refine lv_iload_n hx hb dX11_queue_24 rfl (lv_at hl 2 rfl) ?_
      refine lv_iload_n hx hb dX11_queue_25 rfl (lv_at hl 3 rfl) ?_
      obtain ⟨r_6, M_7, hc_5, hd⟩ := zob2_some hd
      refine z_cvI F hw hl.1 (As := [.int p1, .int p2, .int p3]) (rest := []) (ztX11_takeGoal l D cy sh ad h0 hc_5) zyX11_takeGoal h0 zc11 zk11_301 ⟨rfl, rfl⟩ ⟨by decide, by decide⟩ rfl rfl (Nat.le_of_ble_eq_true rfl) dX11_queue_26 (fun H locs hw => ?_)
      refine lv_if_ne (tgt := 34) hx hb dX11_queue_29 (by decide) (fun c_8 => ?_) (fun c_8 => ?_)
      · have hd := zif_neg c_8 hd
        refine lv_aload_n hx hb dX11_queue_34 rfl (lv_at hl 0 rfl) ?_
        refine z_gR F hw h0 zc11 4 (by decide) rfl zf11_50 dX11_queue_35 ?_
        have t_9 : zT sh (zR M_7 k0 4) 3 := hw.2.2.2.fld h0 4 3
        refine lv_aload_n hx hb dX11_queue_38 rfl (lv_at hl 0 rfl) ?_
        refine z_gR F hw h0 zc11 2 (by decide) rfl zf11_40 dX11_queue_39 ?_
        have t_10 : zT sh (zR M_7 k0 2) 8 := hw.2.2.2.fld h0 2 8
        obtain ⟨M_12, hc_11, hd⟩ := zob_some hd
        refine z_cvV F hw hl.1 (As := [.ref (ad (zR M_7 k0 2))]) (rest := []) (ztX3_keep l D cy sh ad t_9 t_10 hc_11) zyX3_keep t_9 zc3 zk11_255 ⟨rfl, rfl⟩ ⟨by decide, by decide⟩ rfl rfl (Nat.le_of_ble_eq_true rfl) dX11_queue_42 (fun H locs hw => ?_)
        refine lv_aload_n hx hb dX11_queue_45 rfl (lv_at hl 0 rfl) ?_
        refine z_gR F hw h0 zc11 2 (by decide) rfl zf11_40 dX11_queue_46 ?_
        have t_13 : zT sh (zR M_12 k0 2) 8 := hw.2.2.2.fld h0 2 8
        refine lv_aload_n hx hb dX11_queue_49 rfl (lv_at hl 0 rfl) ?_
        refine z_gR F hw h0 zc11 9 (by decide) rfl zf11_82 dX11_queue_50 ?_
        have t_14 : zT sh (zR M_12 k0 9) 14 := hw.2.2.2.fld h0 9 14
        obtain ⟨M_16, hc_15, hd⟩ := zob_some hd
        refine z_cvV F hw hl.1 (As := [.ref (ad (zR M_12 k0 9))]) (rest := []) (ztX8_addWaiting l D cy sh ad t_13 t_14 hc_15) zyX8_addWaiting t_13 zc8 zk11_304 ⟨rfl, rfl⟩ ⟨by decide, by decide⟩ rfl rfl (Nat.le_of_ble_eq_true rfl) dX11_queue_53 (fun H locs hw => ?_)
        refine lv_aload_n hx hb dX11_queue_56 rfl (lv_at hl 0 rfl) ?_
        refine z_gR F hw h0 zc11 2 (by decide) rfl zf11_40 dX11_queue_57 ?_
        have t_17 : zT sh (zR M_16 k0 2) 8 := hw.2.2.2.fld h0 2 8
        refine z_gI F hw t_17 zc8 4 (by decide) rfl zf11_298 dX11_queue_60 ?_
        exact z_iret F hr hlk hw (zpr1 hd) (zpr2 hd) dX11_queue_63
      · have hd := zif_pos c_8 hd
        exact J32 _ _ _ _ (lv_sub hl [] rfl) hw hd

def zjX11_watch_19 (sh : zShp) (k0 : Nat) (p1 : Int32) (p2 : Int32)  (M : zMem) : Option (Int32 × zMem) :=
  some ((-1 : Int32), M)
def zX11_watch (sh : zShp) (k0 : Nat) (p1 : Int32) (p2 : Int32) (M : zMem) : Option (Int32 × zMem) :=
  zob (zX11_isAxis sh k0 p1 M) fun r_2 =>
  if r_2 = 0 then (
  zjX11_watch_19 sh k0 p1 p2 M)
  else (
  zob (zX11_isWithin sh p2 (0 : Int32) (2048 : Int32) M) fun r_5 =>
  if r_5 = 0 then (
  zjX11_watch_19 sh k0 p1 p2 M)
  else (
  zgd (zin p1 (zlen sh (zR M (zR M k0 2) 0))) <|
  zbd ((zI M (zR M (zR M (zR M k0 2) 0) p1.toNatClampNeg) 4)) fun v_11 =>
  if v_11 = p2 then (
  some ((-1 : Int32), M))
  else (
  zob (zX3_keep sh (zR M k0 4) (zR M k0 2) M) fun M_16 =>
  zgd (zin p1 (zlen sh (zR M_16 (zR M_16 k0 2) 0))) <|
  zbd (zpI M_16 (zR M_16 (zR M_16 (zR M_16 k0 2) 0) p1.toNatClampNeg) 4 p2) fun M_21 =>
  some (v_11, M_21))))
set_option maxHeartbeats 4000000 in
set_option maxRecDepth 100000 in
theorem ztX11_watch (l : Launch) (D : va_G) (cy : Nat → ClassId) (sh : zShp) (ad : Nat → Nat) {k0 : Nat} {p1 : Int32} {p2 : Int32} (h0 : zT sh k0 11) {M : zMem} {r : Int32} {M1 : zMem} (hd : zX11_watch sh k0 p1 p2 M = some (r, M1)) : zCI l yX11_watch cX11_watch 4 .int { frames := 5, cells := 0, slots := 0, locals := 111 } [.ref (ad k0), .int p1, .int p2] D cy sh ad M r M1 := by
  refine zci_of (by decide) (Nat.le_of_ble_eq_true rfl) (fun p e s m below meth c ls F hr hlk hl hw => ?_)
  have hx := F.1.1
  have hb := F.1.2.1
  have hl : lv_has ls 4 [(0, .ref (ad k0)), (1, .int p1), (2, .int p2)] := hl
  have J19 : ∀ (M : zMem) (H : Heap) (locs : List Loc) (ls : Array Slot), lv_has ls 4 [] → zWd D cy sh ad s M H locs → zjX11_watch_19 sh k0 p1 p2  M = some (r, M1) → W p l e { frames := 5, cells := 0, slots := 0, locals := 111 } s m ([.ref (ad k0), .int p1, .int p2] : List Value).toArray below meth c H locs 0 0 (zQI below D cy sh ad s [.ref (ad k0), .int p1, .int p2] r M1) (F0 m 19 ls []) := by
    intro  M H locs ls hl hw hd
    unfold zjX11_watch_19 at hd
    refine lv_iconst (v := (-1 : Int32)) hx hb dX11_watch_19 (by decide) ?_
    exact z_iret F hr hlk hw (zpr1 hd) (zpr2 hd) dX11_watch_20
  unfold zX11_watch at hd
  refine lv_aload_n hx hb dX11_watch_0 rfl (lv_at hl 0 rfl) ?_
  refine lv_iload_n hx hb dX11_watch_1 rfl (lv_at hl 1 rfl) ?_
  obtain ⟨r_2, hc_1, hd⟩ := zob_some hd
  refine z_cvI F hw hl.1 (As := [.int p1]) (rest := []) (ztX11_isAxis l D cy sh ad h0 hc_1) zyX11_isAxis h0 zc11 zk11_194 ⟨rfl, rfl⟩ ⟨by decide, by decide⟩ rfl rfl (Nat.le_of_ble_eq_true rfl) dX11_watch_2 (fun H locs hw => ?_)
  refine lv_if_eq (tgt := 19) hx hb dX11_watch_5 (by decide) (fun c_3 => ?_) (fun c_3 => ?_)
  · have hd := zif_pos c_3 hd
    exact J19 _ _ _ _ (lv_sub hl [] rfl) hw hd
  · have hd := zif_neg c_3 hd
    refine lv_iload_n hx hb dX11_watch_8 rfl (lv_at hl 2 rfl) ?_
    refine lv_iconst (v := (0 : Int32)) hx hb dX11_watch_9 (by decide) ?_
    refine lv_sipush (v := (2048 : Int32)) hx hb dX11_watch_10 (by decide) ?_
    obtain ⟨r_5, hc_4, hd⟩ := zob_some hd
    refine z_csI F hw hl.1 (As := [.int p2, .int (0 : Int32), .int (2048 : Int32)]) (rest := []) (ztX11_isWithin l D cy sh ad  hc_4) zyX11_isWithin zk11_123 ⟨rfl, rfl⟩ ⟨by decide, by decide⟩ rfl rfl (Nat.le_of_ble_eq_true rfl) dX11_watch_13 (fun H locs hw => ?_)
    refine lv_if_ne (tgt := 21) hx hb dX11_watch_16 (by decide) (fun c_6 => ?_) (fun c_6 => ?_)
    · have hd := zif_neg c_6 hd
      refine lv_aload_n hx hb dX11_watch_21 rfl (lv_at hl 0 rfl) ?_
      refine z_gR F hw h0 zc11 2 (by decide) rfl zf11_40 dX11_watch_22 ?_
      have t_7 : zT sh (zR M k0 2) 8 := hw.2.2.2.fld h0 2 8
      refine z_gR F hw t_7 zc8 0 (by decide) rfl zf11_308 dX11_watch_25 ?_
      have t_8 : zT sh (zR M (zR M k0 2) 0) 18 := hw.2.2.2.fld t_7 0 18
      refine lv_iload_n hx hb dX11_watch_28 rfl (lv_at hl 1 rfl) ?_
      obtain ⟨g_9, hd⟩ := zgd_some hd
      refine z_aald F hw t_8 (by decide) 5 rfl g_9 dX11_watch_29 ?_
      have t_10 : zT sh (zR M (zR M (zR M k0 2) 0) p1.toNatClampNeg) 7 := hw.2.2.2.arr t_8 _ 7 (zin_lt g_9)
      refine z_gI F hw t_10 zc7 4 (by decide) rfl zf11_312 dX11_watch_30 ?_
      refine lv_topi (fun v_11 ev_11 => ?_)
      have hd := zbd_eq ev_11 hd
      refine lv_istore_n (lv' := [(3, .int v_11), (0, .ref (ad k0)), (1, .int p1), (2, .int p2)]) hx hb dX11_watch_33 rfl hl (by decide) rfl (fun ls hl => ?_)
      refine lv_iload_n hx hb dX11_watch_34 rfl (lv_at hl 0 rfl) ?_
      refine lv_iload_n hx hb dX11_watch_35 rfl (lv_at hl 3 rfl) ?_
      refine lv_icmp_ne (tgt := 41) hx hb dX11_watch_36 (by decide) (fun c_12 => ?_) (fun c_12 => ?_)
      · have hd := zif_neg c_12 hd
        refine lv_aload_n hx hb dX11_watch_41 rfl (lv_at hl 1 rfl) ?_
        refine z_gR F hw h0 zc11 4 (by decide) rfl zf11_50 dX11_watch_42 ?_
        have t_13 : zT sh (zR M k0 4) 3 := hw.2.2.2.fld h0 4 3
        refine lv_aload_n hx hb dX11_watch_45 rfl (lv_at hl 1 rfl) ?_
        refine z_gR F hw h0 zc11 2 (by decide) rfl zf11_40 dX11_watch_46 ?_
        have t_14 : zT sh (zR M k0 2) 8 := hw.2.2.2.fld h0 2 8
        obtain ⟨M_16, hc_15, hd⟩ := zob_some hd
        refine z_cvV F hw hl.1 (As := [.ref (ad (zR M k0 2))]) (rest := []) (ztX3_keep l D cy sh ad t_13 t_14 hc_15) zyX3_keep t_13 zc3 zk11_255 ⟨rfl, rfl⟩ ⟨by decide, by decide⟩ rfl rfl (Nat.le_of_ble_eq_true rfl) dX11_watch_49 (fun H locs hw => ?_)
        refine lv_aload_n hx hb dX11_watch_52 rfl (lv_at hl 1 rfl) ?_
        refine z_gR F hw h0 zc11 2 (by decide) rfl zf11_40 dX11_watch_53 ?_
        have t_17 : zT sh (zR M_16 k0 2) 8 := hw.2.2.2.fld h0 2 8
        refine z_gR F hw t_17 zc8 0 (by decide) rfl zf11_308 dX11_watch_56 ?_
        have t_18 : zT sh (zR M_16 (zR M_16 k0 2) 0) 18 := hw.2.2.2.fld t_17 0 18
        refine lv_iload_n hx hb dX11_watch_59 rfl (lv_at hl 2 rfl) ?_
        obtain ⟨g_19, hd⟩ := zgd_some hd
        refine z_aald F hw t_18 (by decide) 5 rfl g_19 dX11_watch_60 ?_
        have t_20 : zT sh (zR M_16 (zR M_16 (zR M_16 k0 2) 0) p1.toNatClampNeg) 7 := hw.2.2.2.arr t_18 _ 7 (zin_lt g_19)
        refine lv_iload_n hx hb dX11_watch_61 rfl (lv_at hl 3 rfl) ?_
        refine z_pI F hw t_20 zc7 4 (by decide) rfl zf11_312 rfl rfl rfl dX11_watch_62 (fun H locs M_21 eM_21 hw => ?_)
        have hd := zbd_eq eM_21 hd
        refine lv_iload_n hx hb dX11_watch_65 rfl (lv_at hl 0 rfl) ?_
        exact z_iret F hr hlk hw (zpr1 hd) (zpr2 hd) dX11_watch_66
      · have hd := zif_pos c_12 hd
        refine lv_iconst (v := (-1 : Int32)) hx hb dX11_watch_39 (by decide) ?_
        exact z_iret F hr hlk hw (zpr1 hd) (zpr2 hd) dX11_watch_40
    · have hd := zif_pos c_6 hd
      exact J19 _ _ _ _ (lv_sub hl [] rfl) hw hd

def zjX11_load_21 (sh : zShp) (k0 : Nat) (p1 : Int32) (p2 : Int32)  (M : zMem) : Option (Int32 × zMem) :=
  some ((-2147483648 : Int32), M)
def zX11_load (sh : zShp) (k0 : Nat) (p1 : Int32) (p2 : Int32) (M : zMem) : Option (Int32 × zMem) :=
  zob (zX11_isAxis sh k0 p1 M) fun r_2 =>
  if r_2 = 0 then (
  zjX11_load_21 sh k0 p1 p2 M)
  else (
  zob (zX11_isWithin sh p2 (-2000 : Int32) (2000 : Int32) M) fun r_5 =>
  if r_5 = 0 then (
  zjX11_load_21 sh k0 p1 p2 M)
  else (
  zgd (zin p1 (zlen sh (zR M (zR M k0 2) 0))) <|
  zbd ((zI M (zR M (zR M (zR M k0 2) 0) p1.toNatClampNeg) 3)) fun v_11 =>
  if v_11 = p2 then (
  some ((-2147483648 : Int32), M))
  else (
  zob (zX3_keep sh (zR M k0 4) (zR M k0 2) M) fun M_16 =>
  zgd (zin p1 (zlen sh (zR M_16 (zR M_16 k0 2) 0))) <|
  zbd (zpI M_16 (zR M_16 (zR M_16 (zR M_16 k0 2) 0) p1.toNatClampNeg) 3 p2) fun M_21 =>
  some (v_11, M_21))))
set_option maxHeartbeats 4000000 in
set_option maxRecDepth 100000 in
theorem ztX11_load (l : Launch) (D : va_G) (cy : Nat → ClassId) (sh : zShp) (ad : Nat → Nat) {k0 : Nat} {p1 : Int32} {p2 : Int32} (h0 : zT sh k0 11) {M : zMem} {r : Int32} {M1 : zMem} (hd : zX11_load sh k0 p1 p2 M = some (r, M1)) : zCI l yX11_load cX11_load 4 .int { frames := 5, cells := 0, slots := 0, locals := 111 } [.ref (ad k0), .int p1, .int p2] D cy sh ad M r M1 := by
  refine zci_of (by decide) (Nat.le_of_ble_eq_true rfl) (fun p e s m below meth c ls F hr hlk hl hw => ?_)
  have hx := F.1.1
  have hb := F.1.2.1
  have hl : lv_has ls 4 [(0, .ref (ad k0)), (1, .int p1), (2, .int p2)] := hl
  have J21 : ∀ (M : zMem) (H : Heap) (locs : List Loc) (ls : Array Slot), lv_has ls 4 [] → zWd D cy sh ad s M H locs → zjX11_load_21 sh k0 p1 p2  M = some (r, M1) → W p l e { frames := 5, cells := 0, slots := 0, locals := 111 } s m ([.ref (ad k0), .int p1, .int p2] : List Value).toArray below meth c H locs 0 0 (zQI below D cy sh ad s [.ref (ad k0), .int p1, .int p2] r M1) (F0 m 21 ls []) := by
    intro  M H locs ls hl hw hd
    unfold zjX11_load_21 at hd
    refine lv_ldc (v := (-2147483648 : Int32)) hx hb F.1.2.2.2.1 (F.1.2.2.2.2 _ zi11_127) dX11_load_21 ?_
    exact z_iret F hr hlk hw (zpr1 hd) (zpr2 hd) dX11_load_23
  unfold zX11_load at hd
  refine lv_aload_n hx hb dX11_load_0 rfl (lv_at hl 0 rfl) ?_
  refine lv_iload_n hx hb dX11_load_1 rfl (lv_at hl 1 rfl) ?_
  obtain ⟨r_2, hc_1, hd⟩ := zob_some hd
  refine z_cvI F hw hl.1 (As := [.int p1]) (rest := []) (ztX11_isAxis l D cy sh ad h0 hc_1) zyX11_isAxis h0 zc11 zk11_194 ⟨rfl, rfl⟩ ⟨by decide, by decide⟩ rfl rfl (Nat.le_of_ble_eq_true rfl) dX11_load_2 (fun H locs hw => ?_)
  refine lv_if_eq (tgt := 21) hx hb dX11_load_5 (by decide) (fun c_3 => ?_) (fun c_3 => ?_)
  · have hd := zif_pos c_3 hd
    exact J21 _ _ _ _ (lv_sub hl [] rfl) hw hd
  · have hd := zif_neg c_3 hd
    refine lv_iload_n hx hb dX11_load_8 rfl (lv_at hl 2 rfl) ?_
    refine lv_sipush (v := (-2000 : Int32)) hx hb dX11_load_9 (by decide) ?_
    refine lv_sipush (v := (2000 : Int32)) hx hb dX11_load_12 (by decide) ?_
    obtain ⟨r_5, hc_4, hd⟩ := zob_some hd
    refine z_csI F hw hl.1 (As := [.int p2, .int (-2000 : Int32), .int (2000 : Int32)]) (rest := []) (ztX11_isWithin l D cy sh ad  hc_4) zyX11_isWithin zk11_123 ⟨rfl, rfl⟩ ⟨by decide, by decide⟩ rfl rfl (Nat.le_of_ble_eq_true rfl) dX11_load_15 (fun H locs hw => ?_)
    refine lv_if_ne (tgt := 24) hx hb dX11_load_18 (by decide) (fun c_6 => ?_) (fun c_6 => ?_)
    · have hd := zif_neg c_6 hd
      refine lv_aload_n hx hb dX11_load_24 rfl (lv_at hl 0 rfl) ?_
      refine z_gR F hw h0 zc11 2 (by decide) rfl zf11_40 dX11_load_25 ?_
      have t_7 : zT sh (zR M k0 2) 8 := hw.2.2.2.fld h0 2 8
      refine z_gR F hw t_7 zc8 0 (by decide) rfl zf11_308 dX11_load_28 ?_
      have t_8 : zT sh (zR M (zR M k0 2) 0) 18 := hw.2.2.2.fld t_7 0 18
      refine lv_iload_n hx hb dX11_load_31 rfl (lv_at hl 1 rfl) ?_
      obtain ⟨g_9, hd⟩ := zgd_some hd
      refine z_aald F hw t_8 (by decide) 5 rfl g_9 dX11_load_32 ?_
      have t_10 : zT sh (zR M (zR M (zR M k0 2) 0) p1.toNatClampNeg) 7 := hw.2.2.2.arr t_8 _ 7 (zin_lt g_9)
      refine z_gI F hw t_10 zc7 3 (by decide) rfl zf11_315 dX11_load_33 ?_
      refine lv_topi (fun v_11 ev_11 => ?_)
      have hd := zbd_eq ev_11 hd
      refine lv_istore_n (lv' := [(3, .int v_11), (0, .ref (ad k0)), (1, .int p1), (2, .int p2)]) hx hb dX11_load_36 rfl hl (by decide) rfl (fun ls hl => ?_)
      refine lv_iload_n hx hb dX11_load_37 rfl (lv_at hl 0 rfl) ?_
      refine lv_iload_n hx hb dX11_load_38 rfl (lv_at hl 3 rfl) ?_
      refine lv_icmp_ne (tgt := 45) hx hb dX11_load_39 (by decide) (fun c_12 => ?_) (fun c_12 => ?_)
      · have hd := zif_neg c_12 hd
        refine lv_aload_n hx hb dX11_load_45 rfl (lv_at hl 1 rfl) ?_
        refine z_gR F hw h0 zc11 4 (by decide) rfl zf11_50 dX11_load_46 ?_
        have t_13 : zT sh (zR M k0 4) 3 := hw.2.2.2.fld h0 4 3
        refine lv_aload_n hx hb dX11_load_49 rfl (lv_at hl 1 rfl) ?_
        refine z_gR F hw h0 zc11 2 (by decide) rfl zf11_40 dX11_load_50 ?_
        have t_14 : zT sh (zR M k0 2) 8 := hw.2.2.2.fld h0 2 8
        obtain ⟨M_16, hc_15, hd⟩ := zob_some hd
        refine z_cvV F hw hl.1 (As := [.ref (ad (zR M k0 2))]) (rest := []) (ztX3_keep l D cy sh ad t_13 t_14 hc_15) zyX3_keep t_13 zc3 zk11_255 ⟨rfl, rfl⟩ ⟨by decide, by decide⟩ rfl rfl (Nat.le_of_ble_eq_true rfl) dX11_load_53 (fun H locs hw => ?_)
        refine lv_aload_n hx hb dX11_load_56 rfl (lv_at hl 1 rfl) ?_
        refine z_gR F hw h0 zc11 2 (by decide) rfl zf11_40 dX11_load_57 ?_
        have t_17 : zT sh (zR M_16 k0 2) 8 := hw.2.2.2.fld h0 2 8
        refine z_gR F hw t_17 zc8 0 (by decide) rfl zf11_308 dX11_load_60 ?_
        have t_18 : zT sh (zR M_16 (zR M_16 k0 2) 0) 18 := hw.2.2.2.fld t_17 0 18
        refine lv_iload_n hx hb dX11_load_63 rfl (lv_at hl 2 rfl) ?_
        obtain ⟨g_19, hd⟩ := zgd_some hd
        refine z_aald F hw t_18 (by decide) 5 rfl g_19 dX11_load_64 ?_
        have t_20 : zT sh (zR M_16 (zR M_16 (zR M_16 k0 2) 0) p1.toNatClampNeg) 7 := hw.2.2.2.arr t_18 _ 7 (zin_lt g_19)
        refine lv_iload_n hx hb dX11_load_65 rfl (lv_at hl 3 rfl) ?_
        refine z_pI F hw t_20 zc7 3 (by decide) rfl zf11_315 rfl rfl rfl dX11_load_66 (fun H locs M_21 eM_21 hw => ?_)
        have hd := zbd_eq eM_21 hd
        refine lv_iload_n hx hb dX11_load_69 rfl (lv_at hl 0 rfl) ?_
        exact z_iret F hr hlk hw (zpr1 hd) (zpr2 hd) dX11_load_70
      · have hd := zif_pos c_12 hd
        refine lv_ldc (v := (-2147483648 : Int32)) hx hb F.1.2.2.2.1 (F.1.2.2.2.2 _ zi11_127) dX11_load_42 ?_
        exact z_iret F hr hlk hw (zpr1 hd) (zpr2 hd) dX11_load_44
    · have hd := zif_pos c_6 hd
      exact J21 _ _ _ _ (lv_sub hl [] rfl) hw hd

def zbX11_trueUp_122 (sh : zShp) (k0 : Nat)  (kk122 : Int32 → Int32 → zMem → Option (Int32 × zMem)) (x1 : Int32) (x3 : Int32) (M : zMem) : Option (Int32 × zMem) :=
  if (zI M (zR M k0 11) 6) ≤ x3 then (
  some (x1, M))
  else (
  zgd (zin x3 (zlen sh (zR M (zR M k0 2) 0))) <|
  zgd (zin x3 (zlen sh (zR M (zR M k0 2) 0))) <|
  zob (zX7_truePlace sh (zR M (zR M (zR M k0 2) 0) x3.toNatClampNeg) M) fun r_12 =>
  zbd (zpI M (zR M (zR M (zR M k0 2) 0) x3.toNatClampNeg) 0 r_12) fun M_13 =>
  zgd (zin x3 (zlen sh (zR M_13 (zR M_13 k0 2) 0))) <|
  zbd (zpI M_13 (zR M_13 (zR M_13 (zR M_13 k0 2) 0) x3.toNatClampNeg) 5 (0 : Int32)) fun M_18 =>
  kk122 x1 (x3 + (1 : Int32)) M_18)
def zlX11_trueUp_122 (sh : zShp) (k0 : Nat)  : Nat → Int32 → Int32 → zMem → Option (Int32 × zMem)
  | 0 => fun _ _ _ => none
  | n + 1 => fun x1 x3 M => zbX11_trueUp_122 sh k0  (zlX11_trueUp_122 sh k0  n) x1 x3 M
def zjX11_trueUp_109 (sh : zShp) (k0 : Nat)  (x1 : Int32) (M : zMem) : Option (Int32 × zMem) :=
  zob (zX3_keep sh (zR M k0 4) (zR M k0 2) M) fun M_22 =>
  zlX11_trueUp_122 sh k0 zF x1 (0 : Int32) M_22
def zjX11_trueUp_92 (sh : zShp) (k0 : Nat) (kk18 : Int32 → Int32 → Int32 → zMem → Option (Int32 × zMem)) (x1 : Int32) (x3 : Int32) (s0 : Int32) (M : zMem) : Option (Int32 × zMem) :=
  kk18 x1 s0 (x3 + (1 : Int32)) M
def zjX11_trueUp_87 (sh : zShp) (k0 : Nat) (kk18 : Int32 → Int32 → Int32 → zMem → Option (Int32 × zMem)) (x1 : Int32) (x3 : Int32) (M : zMem) : Option (Int32 × zMem) :=
  zjX11_trueUp_92 sh k0 kk18 x1 x3 (1 : Int32) M
def zjX11_trueUp_75 (sh : zShp) (k0 : Nat) (kk18 : Int32 → Int32 → Int32 → zMem → Option (Int32 × zMem)) (x1 : Int32) (x2 : Int32) (x3 : Int32) (x4 : Nat) (M : zMem) : Option (Int32 × zMem) :=
  if x2 = 0 then (
  if (zI M x4 5) ≤ 0 then (
  zjX11_trueUp_92 sh k0 kk18 x1 x3 (0 : Int32) M)
  else (
  zjX11_trueUp_87 sh k0 kk18 x1 x3 M))
  else (
  zjX11_trueUp_87 sh k0 kk18 x1 x3 M)
def zbX11_trueUp_18 (sh : zShp) (k0 : Nat)  (kk18 : Int32 → Int32 → Int32 → zMem → Option (Int32 × zMem)) (x1 : Int32) (x2 : Int32) (x3 : Int32) (M : zMem) : Option (Int32 × zMem) :=
  if (zI M (zR M k0 11) 6) ≤ x3 then (
  if x1 = 0 then (
  if x2 = 0 then (
  some ((-1 : Int32), M))
  else (
  zjX11_trueUp_109 sh k0 x1 M))
  else (
  zjX11_trueUp_109 sh k0 x1 M))
  else (
  zgd (zin x3 (zlen sh (zR M (zR M k0 2) 0))) <|
  zob (zX7_truePlace sh (zR M (zR M (zR M k0 2) 0) x3.toNatClampNeg) M) fun r_34 =>
  zob (zX11_isWithin sh r_34 (-30000 : Int32) (30000 : Int32) M) fun r_36 =>
  if r_36 = 0 then (
  some ((-1 : Int32), M))
  else (
  zob (zX7_truePlace sh (zR M (zR M (zR M k0 2) 0) x3.toNatClampNeg) M) fun r_39 =>
  if r_39 = (zI M (zR M (zR M (zR M k0 2) 0) x3.toNatClampNeg) 0) then (
  zjX11_trueUp_75 sh k0 kk18 x1 x2 x3 (zR M (zR M (zR M k0 2) 0) x3.toNatClampNeg) M)
  else (
  zjX11_trueUp_75 sh k0 kk18 (x1 + (1 : Int32)) x2 x3 (zR M (zR M (zR M k0 2) 0) x3.toNatClampNeg) M)))
def zlX11_trueUp_18 (sh : zShp) (k0 : Nat)  : Nat → Int32 → Int32 → Int32 → zMem → Option (Int32 × zMem)
  | 0 => fun _ _ _ _ => none
  | n + 1 => fun x1 x2 x3 M => zbX11_trueUp_18 sh k0  (zlX11_trueUp_18 sh k0  n) x1 x2 x3 M
def zX11_trueUp (sh : zShp) (k0 : Nat) (M : zMem) : Option (Int32 × zMem) :=
  if (zI M (zR M k0 2) 8) = 0 then (
  zlX11_trueUp_18 sh k0 zF (0 : Int32) (0 : Int32) (0 : Int32) M)
  else (
  some ((-1 : Int32), M))
set_option maxHeartbeats 4000000 in
set_option maxRecDepth 100000 in
theorem ztX11_trueUp (l : Launch) (D : va_G) (cy : Nat → ClassId) (sh : zShp) (ad : Nat → Nat) {k0 : Nat} (h0 : zT sh k0 11) {M : zMem} {r : Int32} {M1 : zMem} (hd : zX11_trueUp sh k0 M = some (r, M1)) : zCI l yX11_trueUp cX11_trueUp 5 .int { frames := 5, cells := 0, slots := 0, locals := 111 } [.ref (ad k0)] D cy sh ad M r M1 := by
  refine zci_of (by decide) (Nat.le_of_ble_eq_true rfl) (fun p e s m below meth c ls F hr hlk hl hw => ?_)
  have hx := F.1.1
  have hb := F.1.2.1
  have hl : lv_has ls 5 [(0, .ref (ad k0))] := hl
  have L122 : ∀  (n : Nat), ∀ (x1 : Int32) (x3 : Int32) (M : zMem) (H : Heap) (locs : List Loc) (ls : Array Slot), lv_has ls 5 [(0, .ref (ad k0)), (1, .int x1), (3, .int x3)] → zWd D cy sh ad s M H locs → zlX11_trueUp_122 sh k0  n x1 x3 M = some (r, M1) → W p l e { frames := 5, cells := 0, slots := 0, locals := 111 } s m ([.ref (ad k0)] : List Value).toArray below meth c H locs 0 0 (zQI below D cy sh ad s [.ref (ad k0)] r M1) (F0 m 122 ls []) := by
    intro  n
    induction n with
    | zero => intro x1 x3 M H locs ls hl hw hd; exact (znone hd).elim
    | succ n hk122 =>
      intro x1 x3 M H locs ls hl hw hd
      have hd : zbX11_trueUp_122 sh k0  (zlX11_trueUp_122 sh k0  n) x1 x3 M = some (r, M1) := hd
      unfold zbX11_trueUp_122 at hd
      refine lv_iload_n hx hb dX11_trueUp_122 rfl (lv_at hl 2 rfl) ?_
      refine lv_aload_n hx hb dX11_trueUp_123 rfl (lv_at hl 0 rfl) ?_
      refine z_gR F hw h0 zc11 11 (by decide) rfl zf11_12 dX11_trueUp_124 ?_
      have t_1 : zT sh (zR M k0 11) 1 := hw.2.2.2.fld h0 11 1
      refine z_gI F hw t_1 zc1 6 (by decide) rfl zf11_114 dX11_trueUp_127 ?_
      refine lv_icmp_ge (tgt := 176) hx hb dX11_trueUp_130 (by decide) (fun c_2 => ?_) (fun c_2 => ?_)
      · have hd := zif_pos c_2 hd
        refine lv_iload_n hx hb dX11_trueUp_176 rfl (lv_at hl 1 rfl) ?_
        exact z_iret F hr hlk hw (zpr1 hd) (zpr2 hd) dX11_trueUp_177
      · have hd := zif_neg c_2 hd
        refine lv_aload_n hx hb dX11_trueUp_133 rfl (lv_at hl 0 rfl) ?_
        refine z_gR F hw h0 zc11 2 (by decide) rfl zf11_40 dX11_trueUp_134 ?_
        have t_3 : zT sh (zR M k0 2) 8 := hw.2.2.2.fld h0 2 8
        refine z_gR F hw t_3 zc8 0 (by decide) rfl zf11_308 dX11_trueUp_137 ?_
        have t_4 : zT sh (zR M (zR M k0 2) 0) 18 := hw.2.2.2.fld t_3 0 18
        refine lv_iload_n hx hb dX11_trueUp_140 rfl (lv_at hl 2 rfl) ?_
        obtain ⟨g_5, hd⟩ := zgd_some hd
        refine z_aald F hw t_4 (by decide) 5 rfl g_5 dX11_trueUp_141 ?_
        have t_6 : zT sh (zR M (zR M (zR M k0 2) 0) x3.toNatClampNeg) 7 := hw.2.2.2.arr t_4 _ 7 (zin_lt g_5)
        refine lv_aload_n hx hb dX11_trueUp_142 rfl (lv_at hl 0 rfl) ?_
        refine z_gR F hw h0 zc11 2 (by decide) rfl zf11_40 dX11_trueUp_143 ?_
        have t_7 : zT sh (zR M k0 2) 8 := hw.2.2.2.fld h0 2 8
        refine z_gR F hw t_7 zc8 0 (by decide) rfl zf11_308 dX11_trueUp_146 ?_
        have t_8 : zT sh (zR M (zR M k0 2) 0) 18 := hw.2.2.2.fld t_7 0 18
        refine lv_iload_n hx hb dX11_trueUp_149 rfl (lv_at hl 2 rfl) ?_
        obtain ⟨g_9, hd⟩ := zgd_some hd
        refine z_aald F hw t_8 (by decide) 5 rfl g_9 dX11_trueUp_150 ?_
        have t_10 : zT sh (zR M (zR M (zR M k0 2) 0) x3.toNatClampNeg) 7 := hw.2.2.2.arr t_8 _ 7 (zin_lt g_9)
        obtain ⟨r_12, hc_11, hd⟩ := zob_some hd
        refine z_cvI F hw hl.1 (As := []) (rest := [.ref (ad (zR M (zR M (zR M k0 2) 0) x3.toNatClampNeg))]) (ztX7_truePlace l D cy sh ad t_10 hc_11) zyX7_truePlace t_10 zc7 zk11_318 ⟨rfl, rfl⟩ ⟨by decide, by decide⟩ rfl rfl (Nat.le_of_ble_eq_true rfl) dX11_trueUp_151 (fun H locs hw => ?_)
        refine z_pI F hw t_6 zc7 0 (by decide) rfl zf11_321 rfl rfl rfl dX11_trueUp_154 (fun H locs M_13 eM_13 hw => ?_)
        have hd := zbd_eq eM_13 hd
        refine lv_aload_n hx hb dX11_trueUp_157 rfl (lv_at hl 0 rfl) ?_
        refine z_gR F hw h0 zc11 2 (by decide) rfl zf11_40 dX11_trueUp_158 ?_
        have t_14 : zT sh (zR M_13 k0 2) 8 := hw.2.2.2.fld h0 2 8
        refine z_gR F hw t_14 zc8 0 (by decide) rfl zf11_308 dX11_trueUp_161 ?_
        have t_15 : zT sh (zR M_13 (zR M_13 k0 2) 0) 18 := hw.2.2.2.fld t_14 0 18
        refine lv_iload_n hx hb dX11_trueUp_164 rfl (lv_at hl 2 rfl) ?_
        obtain ⟨g_16, hd⟩ := zgd_some hd
        refine z_aald F hw t_15 (by decide) 5 rfl g_16 dX11_trueUp_165 ?_
        have t_17 : zT sh (zR M_13 (zR M_13 (zR M_13 k0 2) 0) x3.toNatClampNeg) 7 := hw.2.2.2.arr t_15 _ 7 (zin_lt g_16)
        refine lv_iconst (v := (0 : Int32)) hx hb dX11_trueUp_166 (by decide) ?_
        refine z_pI F hw t_17 zc7 5 (by decide) rfl zf11_324 rfl rfl rfl dX11_trueUp_167 (fun H locs M_18 eM_18 hw => ?_)
        have hd := zbd_eq eM_18 hd
        refine lv_iinc (v := (x3 + (1 : Int32))) (lv' := [(3, .int (x3 + (1 : Int32))), (0, .ref (ad k0)), (1, .int x1)]) hx hb dX11_trueUp_170 hl (k := 2) rfl (ziinc (by decide)) (by decide) rfl (fun ls hl => ?_)
        refine lv_goto (tgt := 122) hx hb dX11_trueUp_173 (by decide) ?_
        exact hk122 _ _ _ _ _ _ (lv_sub hl [1, 2, 0] rfl) hw hd
  have J109 : ∀ (x1 : Int32) (M : zMem) (H : Heap) (locs : List Loc) (ls : Array Slot), lv_has ls 5 [(0, .ref (ad k0)), (1, .int x1)] → zWd D cy sh ad s M H locs → zjX11_trueUp_109 sh k0  x1 M = some (r, M1) → W p l e { frames := 5, cells := 0, slots := 0, locals := 111 } s m ([.ref (ad k0)] : List Value).toArray below meth c H locs 0 0 (zQI below D cy sh ad s [.ref (ad k0)] r M1) (F0 m 109 ls []) := by
    intro  x1 M H locs ls hl hw hd
    unfold zjX11_trueUp_109 at hd
    refine lv_aload_n hx hb dX11_trueUp_109 rfl (lv_at hl 0 rfl) ?_
    refine z_gR F hw h0 zc11 4 (by decide) rfl zf11_50 dX11_trueUp_110 ?_
    have t_19 : zT sh (zR M k0 4) 3 := hw.2.2.2.fld h0 4 3
    refine lv_aload_n hx hb dX11_trueUp_113 rfl (lv_at hl 0 rfl) ?_
    refine z_gR F hw h0 zc11 2 (by decide) rfl zf11_40 dX11_trueUp_114 ?_
    have t_20 : zT sh (zR M k0 2) 8 := hw.2.2.2.fld h0 2 8
    obtain ⟨M_22, hc_21, hd⟩ := zob_some hd
    refine z_cvV F hw hl.1 (As := [.ref (ad (zR M k0 2))]) (rest := []) (ztX3_keep l D cy sh ad t_19 t_20 hc_21) zyX3_keep t_19 zc3 zk11_255 ⟨rfl, rfl⟩ ⟨by decide, by decide⟩ rfl rfl (Nat.le_of_ble_eq_true rfl) dX11_trueUp_117 (fun H locs hw => ?_)
    refine lv_iconst (v := (0 : Int32)) hx hb dX11_trueUp_120 (by decide) ?_
    refine lv_istore_n (lv' := [(3, .int (0 : Int32)), (0, .ref (ad k0)), (1, .int x1)]) hx hb dX11_trueUp_121 rfl hl (by decide) rfl (fun ls hl => ?_)
    exact L122 zF _ _ _ _ _ _ (lv_sub hl [1, 2, 0] rfl) hw hd
  have J92 : ∀ (kk18 : Int32 → Int32 → Int32 → zMem → Option (Int32 × zMem)) (hk18 : ∀ (x1 : Int32) (x2 : Int32) (x3 : Int32) (M : zMem) (H : Heap) (locs : List Loc) (ls : Array Slot), lv_has ls 5 [(0, .ref (ad k0)), (1, .int x1), (2, .int x2), (3, .int x3)] → zWd D cy sh ad s M H locs → kk18 x1 x2 x3 M = some (r, M1) → W p l e { frames := 5, cells := 0, slots := 0, locals := 111 } s m ([.ref (ad k0)] : List Value).toArray below meth c H locs 0 0 (zQI below D cy sh ad s [.ref (ad k0)] r M1) (F0 m 18 ls [])), ∀ (x1 : Int32) (x3 : Int32) (s0 : Int32) (M : zMem) (H : Heap) (locs : List Loc) (ls : Array Slot), lv_has ls 5 [(0, .ref (ad k0)), (1, .int x1), (3, .int x3)] → zWd D cy sh ad s M H locs → zjX11_trueUp_92 sh k0 kk18 x1 x3 s0 M = some (r, M1) → W p l e { frames := 5, cells := 0, slots := 0, locals := 111 } s m ([.ref (ad k0)] : List Value).toArray below meth c H locs 0 0 (zQI below D cy sh ad s [.ref (ad k0)] r M1) (F0 m 92 ls [.int s0]) := by
    intro kk18 hk18 x1 x3 s0 M H locs ls hl hw hd
    unfold zjX11_trueUp_92 at hd
    refine lv_istore_n (lv' := [(2, .int s0), (0, .ref (ad k0)), (1, .int x1), (3, .int x3)]) hx hb dX11_trueUp_92 rfl hl (by decide) rfl (fun ls hl => ?_)
    refine lv_iinc (v := (x3 + (1 : Int32))) (lv' := [(3, .int (x3 + (1 : Int32))), (2, .int s0), (0, .ref (ad k0)), (1, .int x1)]) hx hb dX11_trueUp_93 hl (k := 3) rfl (ziinc (by decide)) (by decide) rfl (fun ls hl => ?_)
    refine lv_goto (tgt := 18) hx hb dX11_trueUp_96 (by decide) ?_
    exact hk18 _ _ _ _ _ _ _ (lv_sub hl [2, 3, 1, 0] rfl) hw hd
  have J87 : ∀ (kk18 : Int32 → Int32 → Int32 → zMem → Option (Int32 × zMem)) (hk18 : ∀ (x1 : Int32) (x2 : Int32) (x3 : Int32) (M : zMem) (H : Heap) (locs : List Loc) (ls : Array Slot), lv_has ls 5 [(0, .ref (ad k0)), (1, .int x1), (2, .int x2), (3, .int x3)] → zWd D cy sh ad s M H locs → kk18 x1 x2 x3 M = some (r, M1) → W p l e { frames := 5, cells := 0, slots := 0, locals := 111 } s m ([.ref (ad k0)] : List Value).toArray below meth c H locs 0 0 (zQI below D cy sh ad s [.ref (ad k0)] r M1) (F0 m 18 ls [])), ∀ (x1 : Int32) (x3 : Int32) (M : zMem) (H : Heap) (locs : List Loc) (ls : Array Slot), lv_has ls 5 [(0, .ref (ad k0)), (1, .int x1), (3, .int x3)] → zWd D cy sh ad s M H locs → zjX11_trueUp_87 sh k0 kk18 x1 x3 M = some (r, M1) → W p l e { frames := 5, cells := 0, slots := 0, locals := 111 } s m ([.ref (ad k0)] : List Value).toArray below meth c H locs 0 0 (zQI below D cy sh ad s [.ref (ad k0)] r M1) (F0 m 87 ls []) := by
    intro kk18 hk18 x1 x3 M H locs ls hl hw hd
    unfold zjX11_trueUp_87 at hd
    refine lv_iconst (v := (1 : Int32)) hx hb dX11_trueUp_87 (by decide) ?_
    refine lv_goto (tgt := 92) hx hb dX11_trueUp_88 (by decide) ?_
    exact J92 _ hk18 _ _ _ _ _ _ _ (lv_sub hl [0, 1, 2] rfl) hw hd
  have J75 : ∀ (kk18 : Int32 → Int32 → Int32 → zMem → Option (Int32 × zMem)) (hk18 : ∀ (x1 : Int32) (x2 : Int32) (x3 : Int32) (M : zMem) (H : Heap) (locs : List Loc) (ls : Array Slot), lv_has ls 5 [(0, .ref (ad k0)), (1, .int x1), (2, .int x2), (3, .int x3)] → zWd D cy sh ad s M H locs → kk18 x1 x2 x3 M = some (r, M1) → W p l e { frames := 5, cells := 0, slots := 0, locals := 111 } s m ([.ref (ad k0)] : List Value).toArray below meth c H locs 0 0 (zQI below D cy sh ad s [.ref (ad k0)] r M1) (F0 m 18 ls [])), ∀ (x1 : Int32) (x2 : Int32) (x3 : Int32) (x4 : Nat) (tx4 : zT sh x4 7) (M : zMem) (H : Heap) (locs : List Loc) (ls : Array Slot), lv_has ls 5 [(0, .ref (ad k0)), (1, .int x1), (2, .int x2), (3, .int x3), (4, .ref (ad x4))] → zWd D cy sh ad s M H locs → zjX11_trueUp_75 sh k0 kk18 x1 x2 x3 x4 M = some (r, M1) → W p l e { frames := 5, cells := 0, slots := 0, locals := 111 } s m ([.ref (ad k0)] : List Value).toArray below meth c H locs 0 0 (zQI below D cy sh ad s [.ref (ad k0)] r M1) (F0 m 75 ls []) := by
    intro kk18 hk18 x1 x2 x3 x4 tx4 M H locs ls hl hw hd
    unfold zjX11_trueUp_75 at hd
    refine lv_iload_n hx hb dX11_trueUp_75 rfl (lv_at hl 2 rfl) ?_
    refine lv_if_ne (tgt := 87) hx hb dX11_trueUp_76 (by decide) (fun c_23 => ?_) (fun c_23 => ?_)
    · have hd := zif_neg c_23 hd
      exact J87 _ hk18 _ _ _ _ _ _ (lv_sub hl [0, 1, 3] rfl) hw hd
    · have hd := zif_pos c_23 hd
      refine lv_aload hx hb dX11_trueUp_79 (lv_at hl 4 rfl) ?_
      refine z_gI F hw tx4 zc7 5 (by decide) rfl zf11_324 dX11_trueUp_81 ?_
      refine lv_if_le (tgt := 91) hx hb dX11_trueUp_84 (by decide) (fun c_24 => ?_) (fun c_24 => ?_)
      · have hd := zif_pos c_24 hd
        refine lv_iconst (v := (0 : Int32)) hx hb dX11_trueUp_91 (by decide) ?_
        exact J92 _ hk18 _ _ _ _ _ _ _ (lv_sub hl [0, 1, 3] rfl) hw hd
      · have hd := zif_neg c_24 hd
        exact J87 _ hk18 _ _ _ _ _ _ (lv_sub hl [0, 1, 3] rfl) hw hd
  have L18 : ∀  (n : Nat), ∀ (x1 : Int32) (x2 : Int32) (x3 : Int32) (M : zMem) (H : Heap) (locs : List Loc) (ls : Array Slot), lv_has ls 5 [(0, .ref (ad k0)), (1, .int x1), (2, .int x2), (3, .int x3)] → zWd D cy sh ad s M H locs → zlX11_trueUp_18 sh k0  n x1 x2 x3 M = some (r, M1) → W p l e { frames := 5, cells := 0, slots := 0, locals := 111 } s m ([.ref (ad k0)] : List Value).toArray below meth c H locs 0 0 (zQI below D cy sh ad s [.ref (ad k0)] r M1) (F0 m 18 ls []) := by
    intro  n
    induction n with
    | zero => intro x1 x2 x3 M H locs ls hl hw hd; exact (znone hd).elim
    | succ n hk18 =>
      intro x1 x2 x3 M H locs ls hl hw hd
      have hd : zbX11_trueUp_18 sh k0  (zlX11_trueUp_18 sh k0  n) x1 x2 x3 M = some (r, M1) := hd
      unfold zbX11_trueUp_18 at hd
      refine lv_iload_n hx hb dX11_trueUp_18 rfl (lv_at hl 3 rfl) ?_
      refine lv_aload_n hx hb dX11_trueUp_19 rfl (lv_at hl 0 rfl) ?_
      refine z_gR F hw h0 zc11 11 (by decide) rfl zf11_12 dX11_trueUp_20 ?_
      have t_25 : zT sh (zR M k0 11) 1 := hw.2.2.2.fld h0 11 1
      refine z_gI F hw t_25 zc1 6 (by decide) rfl zf11_114 dX11_trueUp_23 ?_
      refine lv_icmp_ge (tgt := 99) hx hb dX11_trueUp_26 (by decide) (fun c_26 => ?_) (fun c_26 => ?_)
      · have hd := zif_pos c_26 hd
        refine lv_iload_n hx hb dX11_trueUp_99 rfl (lv_at hl 1 rfl) ?_
        refine lv_if_ne (tgt := 109) hx hb dX11_trueUp_100 (by decide) (fun c_27 => ?_) (fun c_27 => ?_)
        · have hd := zif_neg c_27 hd
          exact J109 _ _ _ _ _ (lv_sub hl [0, 1] rfl) hw hd
        · have hd := zif_pos c_27 hd
          refine lv_iload_n hx hb dX11_trueUp_103 rfl (lv_at hl 2 rfl) ?_
          refine lv_if_ne (tgt := 109) hx hb dX11_trueUp_104 (by decide) (fun c_28 => ?_) (fun c_28 => ?_)
          · have hd := zif_neg c_28 hd
            exact J109 _ _ _ _ _ (lv_sub hl [0, 1] rfl) hw hd
          · have hd := zif_pos c_28 hd
            refine lv_iconst (v := (-1 : Int32)) hx hb dX11_trueUp_107 (by decide) ?_
            exact z_iret F hr hlk hw (zpr1 hd) (zpr2 hd) dX11_trueUp_108
      · have hd := zif_neg c_26 hd
        refine lv_aload_n hx hb dX11_trueUp_29 rfl (lv_at hl 0 rfl) ?_
        refine z_gR F hw h0 zc11 2 (by decide) rfl zf11_40 dX11_trueUp_30 ?_
        have t_29 : zT sh (zR M k0 2) 8 := hw.2.2.2.fld h0 2 8
        refine z_gR F hw t_29 zc8 0 (by decide) rfl zf11_308 dX11_trueUp_33 ?_
        have t_30 : zT sh (zR M (zR M k0 2) 0) 18 := hw.2.2.2.fld t_29 0 18
        refine lv_iload_n hx hb dX11_trueUp_36 rfl (lv_at hl 3 rfl) ?_
        obtain ⟨g_31, hd⟩ := zgd_some hd
        refine z_aald F hw t_30 (by decide) 5 rfl g_31 dX11_trueUp_37 ?_
        have t_32 : zT sh (zR M (zR M (zR M k0 2) 0) x3.toNatClampNeg) 7 := hw.2.2.2.arr t_30 _ 7 (zin_lt g_31)
        refine lv_astore (lv' := [(4, .ref (ad (zR M (zR M (zR M k0 2) 0) x3.toNatClampNeg))), (0, .ref (ad k0)), (1, .int x1), (2, .int x2), (3, .int x3)]) hx hb dX11_trueUp_38 hl (by decide) rfl (fun ls hl => ?_)
        refine lv_aload hx hb dX11_trueUp_40 (lv_at hl 0 rfl) ?_
        obtain ⟨r_34, hc_33, hd⟩ := zob_some hd
        refine z_cvI F hw hl.1 (As := []) (rest := []) (ztX7_truePlace l D cy sh ad t_32 hc_33) zyX7_truePlace t_32 zc7 zk11_318 ⟨rfl, rfl⟩ ⟨by decide, by decide⟩ rfl rfl (Nat.le_of_ble_eq_true rfl) dX11_trueUp_42 (fun H locs hw => ?_)
        refine lv_sipush (v := (-30000 : Int32)) hx hb dX11_trueUp_45 (by decide) ?_
        refine lv_sipush (v := (30000 : Int32)) hx hb dX11_trueUp_48 (by decide) ?_
        obtain ⟨r_36, hc_35, hd⟩ := zob_some hd
        refine z_csI F hw hl.1 (As := [.int r_34, .int (-30000 : Int32), .int (30000 : Int32)]) (rest := []) (ztX11_isWithin l D cy sh ad  hc_35) zyX11_isWithin zk11_123 ⟨rfl, rfl⟩ ⟨by decide, by decide⟩ rfl rfl (Nat.le_of_ble_eq_true rfl) dX11_trueUp_51 (fun H locs hw => ?_)
        refine lv_if_ne (tgt := 59) hx hb dX11_trueUp_54 (by decide) (fun c_37 => ?_) (fun c_37 => ?_)
        · have hd := zif_neg c_37 hd
          refine lv_aload hx hb dX11_trueUp_59 (lv_at hl 0 rfl) ?_
          obtain ⟨r_39, hc_38, hd⟩ := zob_some hd
          refine z_cvI F hw hl.1 (As := []) (rest := []) (ztX7_truePlace l D cy sh ad t_32 hc_38) zyX7_truePlace t_32 zc7 zk11_318 ⟨rfl, rfl⟩ ⟨by decide, by decide⟩ rfl rfl (Nat.le_of_ble_eq_true rfl) dX11_trueUp_61 (fun H locs hw => ?_)
          refine lv_aload hx hb dX11_trueUp_64 (lv_at hl 0 rfl) ?_
          refine z_gI F hw t_32 zc7 0 (by decide) rfl zf11_321 dX11_trueUp_66 ?_
          refine lv_icmp_eq (tgt := 75) hx hb dX11_trueUp_69 (by decide) (fun c_40 => ?_) (fun c_40 => ?_)
          · have hd := zif_pos c_40 hd
            exact J75 _ hk18 _ _ _ _ t_32 _ _ _ _ (lv_sub hl [1, 2, 3, 4, 0] rfl) hw hd
          · have hd := zif_neg c_40 hd
            refine lv_iinc (v := (x1 + (1 : Int32))) (lv' := [(1, .int (x1 + (1 : Int32))), (4, .ref (ad (zR M (zR M (zR M k0 2) 0) x3.toNatClampNeg))), (0, .ref (ad k0)), (2, .int x2), (3, .int x3)]) hx hb dX11_trueUp_72 hl (k := 2) rfl (ziinc (by decide)) (by decide) rfl (fun ls hl => ?_)
            exact J75 _ hk18 _ _ _ _ t_32 _ _ _ _ (lv_sub hl [2, 0, 3, 4, 1] rfl) hw hd
        · have hd := zif_pos c_37 hd
          refine lv_iconst (v := (-1 : Int32)) hx hb dX11_trueUp_57 (by decide) ?_
          exact z_iret F hr hlk hw (zpr1 hd) (zpr2 hd) dX11_trueUp_58
  unfold zX11_trueUp at hd
  refine lv_aload_n hx hb dX11_trueUp_0 rfl (lv_at hl 0 rfl) ?_
  refine z_gR F hw h0 zc11 2 (by decide) rfl zf11_40 dX11_trueUp_1 ?_
  have t_41 : zT sh (zR M k0 2) 8 := hw.2.2.2.fld h0 2 8
  refine z_gI F hw t_41 zc8 8 (by decide) rfl zf11_251 dX11_trueUp_4 ?_
  refine lv_if_eq (tgt := 12) hx hb dX11_trueUp_7 (by decide) (fun c_42 => ?_) (fun c_42 => ?_)
  · have hd := zif_pos c_42 hd
    refine lv_iconst (v := (0 : Int32)) hx hb dX11_trueUp_12 (by decide) ?_
    refine lv_istore_n (lv' := [(1, .int (0 : Int32)), (0, .ref (ad k0))]) hx hb dX11_trueUp_13 rfl hl (by decide) rfl (fun ls hl => ?_)
    refine lv_iconst (v := (0 : Int32)) hx hb dX11_trueUp_14 (by decide) ?_
    refine lv_istore_n (lv' := [(2, .int (0 : Int32)), (1, .int (0 : Int32)), (0, .ref (ad k0))]) hx hb dX11_trueUp_15 rfl hl (by decide) rfl (fun ls hl => ?_)
    refine lv_iconst (v := (0 : Int32)) hx hb dX11_trueUp_16 (by decide) ?_
    refine lv_istore_n (lv' := [(3, .int (0 : Int32)), (2, .int (0 : Int32)), (1, .int (0 : Int32)), (0, .ref (ad k0))]) hx hb dX11_trueUp_17 rfl hl (by decide) rfl (fun ls hl => ?_)
    exact L18 zF _ _ _ _ _ _ _ (lv_sub hl [3, 2, 1, 0] rfl) hw hd
  · have hd := zif_neg c_42 hd
    refine lv_iconst (v := (-1 : Int32)) hx hb dX11_trueUp_10 (by decide) ?_
    exact z_iret F hr hlk hw (zpr1 hd) (zpr2 hd) dX11_trueUp_11

def zX11_undo (sh : zShp) (k0 : Nat) (M : zMem) : Option (Int32 × zMem) :=
  if (zI M (zR M k0 4) 2) = 0 then (
  some ((-1 : Int32), M))
  else (
  zob (zX3_takeBack sh (zR M k0 4) (zR M k0 2) M) fun M_6 =>
  some ((zI M_6 (zR M_6 k0 4) 2), M_6))
set_option maxHeartbeats 4000000 in
set_option maxRecDepth 100000 in
theorem ztX11_undo (l : Launch) (D : va_G) (cy : Nat → ClassId) (sh : zShp) (ad : Nat → Nat) {k0 : Nat} (h0 : zT sh k0 11) {M : zMem} {r : Int32} {M1 : zMem} (hd : zX11_undo sh k0 M = some (r, M1)) : zCI l yX11_undo cX11_undo 1 .int { frames := 5, cells := 0, slots := 0, locals := 111 } [.ref (ad k0)] D cy sh ad M r M1 := by
  refine zci_of (by decide) (Nat.le_of_ble_eq_true rfl) (fun p e s m below meth c ls F hr hlk hl hw => ?_)
  have hx := F.1.1
  have hb := F.1.2.1
  have hl : lv_has ls 1 [(0, .ref (ad k0))] := hl
  unfold zX11_undo at hd
  refine lv_aload_n hx hb dX11_undo_0 rfl (lv_at hl 0 rfl) ?_
  refine z_gR F hw h0 zc11 4 (by decide) rfl zf11_50 dX11_undo_1 ?_
  have t_1 : zT sh (zR M k0 4) 3 := hw.2.2.2.fld h0 4 3
  refine z_gI F hw t_1 zc3 2 (by decide) rfl zf11_111 dX11_undo_4 ?_
  refine lv_if_ne (tgt := 12) hx hb dX11_undo_7 (by decide) (fun c_2 => ?_) (fun c_2 => ?_)
  · have hd := zif_neg c_2 hd
    refine lv_aload_n hx hb dX11_undo_12 rfl (lv_at hl 0 rfl) ?_
    refine z_gR F hw h0 zc11 4 (by decide) rfl zf11_50 dX11_undo_13 ?_
    have t_3 : zT sh (zR M k0 4) 3 := hw.2.2.2.fld h0 4 3
    refine lv_aload_n hx hb dX11_undo_16 rfl (lv_at hl 0 rfl) ?_
    refine z_gR F hw h0 zc11 2 (by decide) rfl zf11_40 dX11_undo_17 ?_
    have t_4 : zT sh (zR M k0 2) 8 := hw.2.2.2.fld h0 2 8
    obtain ⟨M_6, hc_5, hd⟩ := zob_some hd
    refine z_cvV F hw hl.1 (As := [.ref (ad (zR M k0 2))]) (rest := []) (ztX3_takeBack l D cy sh ad t_3 t_4 hc_5) zyX3_takeBack t_3 zc3 zk11_327 ⟨rfl, rfl⟩ ⟨by decide, by decide⟩ rfl rfl (Nat.le_of_ble_eq_true rfl) dX11_undo_20 (fun H locs hw => ?_)
    refine lv_aload_n hx hb dX11_undo_23 rfl (lv_at hl 0 rfl) ?_
    refine z_gR F hw h0 zc11 4 (by decide) rfl zf11_50 dX11_undo_24 ?_
    have t_7 : zT sh (zR M_6 k0 4) 3 := hw.2.2.2.fld h0 4 3
    refine z_gI F hw t_7 zc3 2 (by decide) rfl zf11_111 dX11_undo_27 ?_
    exact z_iret F hr hlk hw (zpr1 hd) (zpr2 hd) dX11_undo_30
  · have hd := zif_pos c_2 hd
    refine lv_iconst (v := (-1 : Int32)) hx hb dX11_undo_10 (by decide) ?_
    exact z_iret F hr hlk hw (zpr1 hd) (zpr2 hd) dX11_undo_11

def zX11_axis (sh : zShp) (k0 : Nat) (p1 : Int32) (p2 : Int32) (M : zMem) : Option (Int32) :=
  zob (zX11_isAxis sh k0 p1 M) fun r_2 =>
  if r_2 = 0 then (
  some (-2147483648 : Int32))
  else (
  zgd (zin p1 (zlen sh (zR M (zR M k0 11) 0))) <|
  if p2 = (0 : Int32) then (
  some (zI M (zR M (zR M (zR M k0 11) 0) p1.toNatClampNeg) 1))
  else if p2 = (1 : Int32) then (
  some (zI M (zR M (zR M (zR M k0 11) 0) p1.toNatClampNeg) 2))
  else if p2 = (2 : Int32) then (
  some (zI M (zR M (zR M (zR M k0 11) 0) p1.toNatClampNeg) 3))
  else if p2 = (3 : Int32) then (
  some (zI M (zR M (zR M (zR M k0 11) 0) p1.toNatClampNeg) 4))
  else if p2 = (4 : Int32) then (
  some (zI M (zR M (zR M (zR M k0 11) 0) p1.toNatClampNeg) 5))
  else if p2 = (5 : Int32) then (
  some (zI M (zR M (zR M (zR M k0 11) 0) p1.toNatClampNeg) 6))
  else if p2 = (6 : Int32) then (
  zgd (zin p1 (zlen sh (zR M (zR M k0 2) 0))) <|
  some (zI M (zR M (zR M (zR M k0 2) 0) p1.toNatClampNeg) 3))
  else if p2 = (7 : Int32) then (
  zgd (zin p1 (zlen sh (zR M (zR M k0 2) 0))) <|
  some (zI M (zR M (zR M (zR M k0 2) 0) p1.toNatClampNeg) 4))
  else (
  some (-2147483648 : Int32)))
set_option maxHeartbeats 4000000 in
set_option maxRecDepth 100000 in
theorem ztX11_axis (l : Launch) (D : va_G) (cy : Nat → ClassId) (sh : zShp) (ad : Nat → Nat) {k0 : Nat} {p1 : Int32} {p2 : Int32} (h0 : zT sh k0 11) {M : zMem} {r : Int32} (hd : zX11_axis sh k0 p1 p2 M = some r) : zCI l yX11_axis cX11_axis 4 .int { frames := 1, cells := 0, slots := 0, locals := 21 } [.ref (ad k0), .int p1, .int p2] D cy sh ad M r M := by
  refine zci_of (by decide) (Nat.le_of_ble_eq_true rfl) (fun p e s m below meth c ls F hr hlk hl hw => ?_)
  have hx := F.1.1
  have hb := F.1.2.1
  have hl : lv_has ls 4 [(0, .ref (ad k0)), (1, .int p1), (2, .int p2)] := hl
  unfold zX11_axis at hd
  refine lv_aload_n hx hb dX11_axis_0 rfl (lv_at hl 0 rfl) ?_
  refine lv_iload_n hx hb dX11_axis_1 rfl (lv_at hl 1 rfl) ?_
  obtain ⟨r_2, hc_1, hd⟩ := zob_some hd
  refine z_cvI F hw hl.1 (As := [.int p1]) (rest := []) (ztX11_isAxis l D cy sh ad h0 hc_1) zyX11_isAxis h0 zc11 zk11_194 ⟨rfl, rfl⟩ ⟨by decide, by decide⟩ rfl rfl (Nat.le_of_ble_eq_true rfl) dX11_axis_2 (fun H locs hw => ?_)
  refine lv_if_ne (tgt := 11) hx hb dX11_axis_5 (by decide) (fun c_3 => ?_) (fun c_3 => ?_)
  · have hd := zif_neg c_3 hd
    refine lv_aload_n hx hb dX11_axis_11 rfl (lv_at hl 0 rfl) ?_
    refine z_gR F hw h0 zc11 11 (by decide) rfl zf11_12 dX11_axis_12 ?_
    have t_4 : zT sh (zR M k0 11) 1 := hw.2.2.2.fld h0 11 1
    refine z_gR F hw t_4 zc1 0 (by decide) rfl zf11_330 dX11_axis_15 ?_
    have t_5 : zT sh (zR M (zR M k0 11) 0) 17 := hw.2.2.2.fld t_4 0 17
    refine lv_iload_n hx hb dX11_axis_18 rfl (lv_at hl 1 rfl) ?_
    obtain ⟨g_6, hd⟩ := zgd_some hd
    refine z_aald F hw t_5 (by decide) 4 rfl g_6 dX11_axis_19 ?_
    have t_7 : zT sh (zR M (zR M (zR M k0 11) 0) p1.toNatClampNeg) 0 := hw.2.2.2.arr t_5 _ 0 (zin_lt g_6)
    refine lv_astore_n (lv' := [(3, .ref (ad (zR M (zR M (zR M k0 11) 0) p1.toNatClampNeg))), (0, .ref (ad k0)), (1, .int p1), (2, .int p2)]) hx hb dX11_axis_20 rfl hl (by decide) rfl (fun ls hl => ?_)
    refine lv_iload_n hx hb dX11_axis_21 rfl (lv_at hl 3 rfl) ?_
    by_cases c_8 : p2 = (0 : Int32)
    · have hd := zif_pos c_8 hd
      refine lv_tableIn (tgt := 68) (off := 46) hx hb dX11_axis_22 (by rw [c_8]; decide) (by rw [c_8]; decide) (by rw [c_8]; decide) (by decide) ?_
      refine lv_aload_n hx hb dX11_axis_68 rfl (lv_at hl 0 rfl) ?_
      refine z_gI F hw t_7 zc0 1 (by decide) rfl zf11_334 dX11_axis_69 ?_
      exact z_iret F hr hlk hw (Option.some.inj hd) rfl dX11_axis_72
    have hd := zif_neg c_8 hd
    by_cases c_9 : p2 = (1 : Int32)
    · have hd := zif_pos c_9 hd
      refine lv_tableIn (tgt := 73) (off := 51) hx hb dX11_axis_22 (by rw [c_9]; decide) (by rw [c_9]; decide) (by rw [c_9]; decide) (by decide) ?_
      refine lv_aload_n hx hb dX11_axis_73 rfl (lv_at hl 0 rfl) ?_
      refine z_gI F hw t_7 zc0 2 (by decide) rfl zf11_337 dX11_axis_74 ?_
      exact z_iret F hr hlk hw (Option.some.inj hd) rfl dX11_axis_77
    have hd := zif_neg c_9 hd
    by_cases c_10 : p2 = (2 : Int32)
    · have hd := zif_pos c_10 hd
      refine lv_tableIn (tgt := 78) (off := 56) hx hb dX11_axis_22 (by rw [c_10]; decide) (by rw [c_10]; decide) (by rw [c_10]; decide) (by decide) ?_
      refine lv_aload_n hx hb dX11_axis_78 rfl (lv_at hl 0 rfl) ?_
      refine z_gI F hw t_7 zc0 3 (by decide) rfl zf11_338 dX11_axis_79 ?_
      exact z_iret F hr hlk hw (Option.some.inj hd) rfl dX11_axis_82
    have hd := zif_neg c_10 hd
    by_cases c_11 : p2 = (3 : Int32)
    · have hd := zif_pos c_11 hd
      refine lv_tableIn (tgt := 83) (off := 61) hx hb dX11_axis_22 (by rw [c_11]; decide) (by rw [c_11]; decide) (by rw [c_11]; decide) (by decide) ?_
      refine lv_aload_n hx hb dX11_axis_83 rfl (lv_at hl 0 rfl) ?_
      refine z_gI F hw t_7 zc0 4 (by decide) rfl zf11_339 dX11_axis_84 ?_
      exact z_iret F hr hlk hw (Option.some.inj hd) rfl dX11_axis_87
    have hd := zif_neg c_11 hd
    by_cases c_12 : p2 = (4 : Int32)
    · have hd := zif_pos c_12 hd
      refine lv_tableIn (tgt := 88) (off := 66) hx hb dX11_axis_22 (by rw [c_12]; decide) (by rw [c_12]; decide) (by rw [c_12]; decide) (by decide) ?_
      refine lv_aload_n hx hb dX11_axis_88 rfl (lv_at hl 0 rfl) ?_
      refine z_gI F hw t_7 zc0 5 (by decide) rfl zf11_342 dX11_axis_89 ?_
      exact z_iret F hr hlk hw (Option.some.inj hd) rfl dX11_axis_92
    have hd := zif_neg c_12 hd
    by_cases c_13 : p2 = (5 : Int32)
    · have hd := zif_pos c_13 hd
      refine lv_tableIn (tgt := 93) (off := 71) hx hb dX11_axis_22 (by rw [c_13]; decide) (by rw [c_13]; decide) (by rw [c_13]; decide) (by decide) ?_
      refine lv_aload_n hx hb dX11_axis_93 rfl (lv_at hl 0 rfl) ?_
      refine z_gI F hw t_7 zc0 6 (by decide) rfl zf11_345 dX11_axis_94 ?_
      exact z_iret F hr hlk hw (Option.some.inj hd) rfl dX11_axis_97
    have hd := zif_neg c_13 hd
    by_cases c_14 : p2 = (6 : Int32)
    · have hd := zif_pos c_14 hd
      refine lv_tableIn (tgt := 98) (off := 76) hx hb dX11_axis_22 (by rw [c_14]; decide) (by rw [c_14]; decide) (by rw [c_14]; decide) (by decide) ?_
      refine lv_aload_n hx hb dX11_axis_98 rfl (lv_at hl 1 rfl) ?_
      refine z_gR F hw h0 zc11 2 (by decide) rfl zf11_40 dX11_axis_99 ?_
      have t_15 : zT sh (zR M k0 2) 8 := hw.2.2.2.fld h0 2 8
      refine z_gR F hw t_15 zc8 0 (by decide) rfl zf11_308 dX11_axis_102 ?_
      have t_16 : zT sh (zR M (zR M k0 2) 0) 18 := hw.2.2.2.fld t_15 0 18
      refine lv_iload_n hx hb dX11_axis_105 rfl (lv_at hl 2 rfl) ?_
      obtain ⟨g_17, hd⟩ := zgd_some hd
      refine z_aald F hw t_16 (by decide) 5 rfl g_17 dX11_axis_106 ?_
      have t_18 : zT sh (zR M (zR M (zR M k0 2) 0) p1.toNatClampNeg) 7 := hw.2.2.2.arr t_16 _ 7 (zin_lt g_17)
      refine z_gI F hw t_18 zc7 3 (by decide) rfl zf11_315 dX11_axis_107 ?_
      exact z_iret F hr hlk hw (Option.some.inj hd) rfl dX11_axis_110
    have hd := zif_neg c_14 hd
    by_cases c_19 : p2 = (7 : Int32)
    · have hd := zif_pos c_19 hd
      refine lv_tableIn (tgt := 111) (off := 89) hx hb dX11_axis_22 (by rw [c_19]; decide) (by rw [c_19]; decide) (by rw [c_19]; decide) (by decide) ?_
      refine lv_aload_n hx hb dX11_axis_111 rfl (lv_at hl 1 rfl) ?_
      refine z_gR F hw h0 zc11 2 (by decide) rfl zf11_40 dX11_axis_112 ?_
      have t_20 : zT sh (zR M k0 2) 8 := hw.2.2.2.fld h0 2 8
      refine z_gR F hw t_20 zc8 0 (by decide) rfl zf11_308 dX11_axis_115 ?_
      have t_21 : zT sh (zR M (zR M k0 2) 0) 18 := hw.2.2.2.fld t_20 0 18
      refine lv_iload_n hx hb dX11_axis_118 rfl (lv_at hl 2 rfl) ?_
      obtain ⟨g_22, hd⟩ := zgd_some hd
      refine z_aald F hw t_21 (by decide) 5 rfl g_22 dX11_axis_119 ?_
      have t_23 : zT sh (zR M (zR M (zR M k0 2) 0) p1.toNatClampNeg) 7 := hw.2.2.2.arr t_21 _ 7 (zin_lt g_22)
      refine z_gI F hw t_23 zc7 4 (by decide) rfl zf11_312 dX11_axis_120 ?_
      exact z_iret F hr hlk hw (Option.some.inj hd) rfl dX11_axis_123
    have hd := zif_neg c_19 hd
    have nc_8 := zne c_8 (a := 0) (by decide)
    have nc_9 := zne c_9 (a := 1) (by decide)
    have nc_10 := zne c_10 (a := 2) (by decide)
    have nc_11 := zne c_11 (a := 3) (by decide)
    have nc_12 := zne c_12 (a := 4) (by decide)
    have nc_13 := zne c_13 (a := 5) (by decide)
    have nc_14 := zne c_14 (a := 6) (by decide)
    have nc_19 := zne c_19 (a := 7) (by decide)
    refine lv_tableOut (tgt := 124) hx hb dX11_axis_22 (by omega) (by decide) ?_
    refine lv_ldc (v := (-2147483648 : Int32)) hx hb F.1.2.2.2.1 (F.1.2.2.2.2 _ zi11_127) dX11_axis_124 ?_
    exact z_iret F hr hlk hw (Option.some.inj hd) rfl dX11_axis_126
  · have hd := zif_pos c_3 hd
    refine lv_ldc (v := (-2147483648 : Int32)) hx hb F.1.2.2.2.1 (F.1.2.2.2.2 _ zi11_127) dX11_axis_8 ?_
    exact z_iret F hr hlk hw (Option.some.inj hd) rfl dX11_axis_10

def zX11_now (sh : zShp) (k0 : Nat) (p1 : Int32) (p2 : Int32) (M : zMem) : Option (Int32) :=
  zob (zX11_isAxis sh k0 p1 M) fun r_2 =>
  if r_2 = 0 then (
  some (-2147483648 : Int32))
  else (
  zgd (zin p1 (zlen sh (zR M (zR M k0 2) 0))) <|
  if p2 = (0 : Int32) then (
  some (zI M (zR M (zR M (zR M k0 2) 0) p1.toNatClampNeg) 0))
  else if p2 = (1 : Int32) then (
  some (zI M (zR M (zR M (zR M k0 2) 0) p1.toNatClampNeg) 1))
  else if p2 = (2 : Int32) then (
  some (zI M (zR M (zR M (zR M k0 2) 0) p1.toNatClampNeg) 2))
  else if p2 = (3 : Int32) then (
  zob (zX7_angle sh (zR M (zR M (zR M k0 2) 0) p1.toNatClampNeg) M) fun r_13 =>
  some r_13)
  else if p2 = (4 : Int32) then (
  some (zI M (zR M (zR M (zR M k0 2) 0) p1.toNatClampNeg) 5))
  else if p2 = (5 : Int32) then (
  zob (zX7_angle sh (zR M (zR M (zR M k0 2) 0) p1.toNatClampNeg) M) fun r_17 =>
  zob (zJ9_floorDiv_7cf53 sh (r_17 + (2048 : Int32)) (4096 : Int32) M) fun r_19 =>
  some r_19)
  else (
  some (-2147483648 : Int32)))
set_option maxHeartbeats 4000000 in
set_option maxRecDepth 100000 in
theorem ztX11_now (l : Launch) (D : va_G) (cy : Nat → ClassId) (sh : zShp) (ad : Nat → Nat) {k0 : Nat} {p1 : Int32} {p2 : Int32} (h0 : zT sh k0 11) {M : zMem} {r : Int32} (hd : zX11_now sh k0 p1 p2 M = some r) : zCI l yX11_now cX11_now 4 .int { frames := 1, cells := 0, slots := 0, locals := 22 } [.ref (ad k0), .int p1, .int p2] D cy sh ad M r M := by
  refine zci_of (by decide) (Nat.le_of_ble_eq_true rfl) (fun p e s m below meth c ls F hr hlk hl hw => ?_)
  have hx := F.1.1
  have hb := F.1.2.1
  have hl : lv_has ls 4 [(0, .ref (ad k0)), (1, .int p1), (2, .int p2)] := hl
  unfold zX11_now at hd
  refine lv_aload_n hx hb dX11_now_0 rfl (lv_at hl 0 rfl) ?_
  refine lv_iload_n hx hb dX11_now_1 rfl (lv_at hl 1 rfl) ?_
  obtain ⟨r_2, hc_1, hd⟩ := zob_some hd
  refine z_cvI F hw hl.1 (As := [.int p1]) (rest := []) (ztX11_isAxis l D cy sh ad h0 hc_1) zyX11_isAxis h0 zc11 zk11_194 ⟨rfl, rfl⟩ ⟨by decide, by decide⟩ rfl rfl (Nat.le_of_ble_eq_true rfl) dX11_now_2 (fun H locs hw => ?_)
  refine lv_if_ne (tgt := 11) hx hb dX11_now_5 (by decide) (fun c_3 => ?_) (fun c_3 => ?_)
  · have hd := zif_neg c_3 hd
    refine lv_aload_n hx hb dX11_now_11 rfl (lv_at hl 0 rfl) ?_
    refine z_gR F hw h0 zc11 2 (by decide) rfl zf11_40 dX11_now_12 ?_
    have t_4 : zT sh (zR M k0 2) 8 := hw.2.2.2.fld h0 2 8
    refine z_gR F hw t_4 zc8 0 (by decide) rfl zf11_308 dX11_now_15 ?_
    have t_5 : zT sh (zR M (zR M k0 2) 0) 18 := hw.2.2.2.fld t_4 0 18
    refine lv_iload_n hx hb dX11_now_18 rfl (lv_at hl 1 rfl) ?_
    obtain ⟨g_6, hd⟩ := zgd_some hd
    refine z_aald F hw t_5 (by decide) 5 rfl g_6 dX11_now_19 ?_
    have t_7 : zT sh (zR M (zR M (zR M k0 2) 0) p1.toNatClampNeg) 7 := hw.2.2.2.arr t_5 _ 7 (zin_lt g_6)
    refine lv_astore_n (lv' := [(3, .ref (ad (zR M (zR M (zR M k0 2) 0) p1.toNatClampNeg))), (0, .ref (ad k0)), (1, .int p1), (2, .int p2)]) hx hb dX11_now_20 rfl hl (by decide) rfl (fun ls hl => ?_)
    refine lv_iload_n hx hb dX11_now_21 rfl (lv_at hl 3 rfl) ?_
    by_cases c_8 : p2 = (0 : Int32)
    · have hd := zif_pos c_8 hd
      refine lv_tableIn (tgt := 60) (off := 38) hx hb dX11_now_22 (by rw [c_8]; decide) (by rw [c_8]; decide) (by rw [c_8]; decide) (by decide) ?_
      refine lv_aload_n hx hb dX11_now_60 rfl (lv_at hl 0 rfl) ?_
      refine z_gI F hw t_7 zc7 0 (by decide) rfl zf11_321 dX11_now_61 ?_
      exact z_iret F hr hlk hw (Option.some.inj hd) rfl dX11_now_64
    have hd := zif_neg c_8 hd
    by_cases c_9 : p2 = (1 : Int32)
    · have hd := zif_pos c_9 hd
      refine lv_tableIn (tgt := 65) (off := 43) hx hb dX11_now_22 (by rw [c_9]; decide) (by rw [c_9]; decide) (by rw [c_9]; decide) (by decide) ?_
      refine lv_aload_n hx hb dX11_now_65 rfl (lv_at hl 0 rfl) ?_
      refine z_gI F hw t_7 zc7 1 (by decide) rfl zf11_348 dX11_now_66 ?_
      exact z_iret F hr hlk hw (Option.some.inj hd) rfl dX11_now_69
    have hd := zif_neg c_9 hd
    by_cases c_10 : p2 = (2 : Int32)
    · have hd := zif_pos c_10 hd
      refine lv_tableIn (tgt := 70) (off := 48) hx hb dX11_now_22 (by rw [c_10]; decide) (by rw [c_10]; decide) (by rw [c_10]; decide) (by decide) ?_
      refine lv_aload_n hx hb dX11_now_70 rfl (lv_at hl 0 rfl) ?_
      refine z_gI F hw t_7 zc7 2 (by decide) rfl zf11_349 dX11_now_71 ?_
      exact z_iret F hr hlk hw (Option.some.inj hd) rfl dX11_now_74
    have hd := zif_neg c_10 hd
    by_cases c_11 : p2 = (3 : Int32)
    · have hd := zif_pos c_11 hd
      refine lv_tableIn (tgt := 75) (off := 53) hx hb dX11_now_22 (by rw [c_11]; decide) (by rw [c_11]; decide) (by rw [c_11]; decide) (by decide) ?_
      refine lv_aload_n hx hb dX11_now_75 rfl (lv_at hl 0 rfl) ?_
      obtain ⟨r_13, hc_12, hd⟩ := zob_some hd
      refine z_cvI F hw hl.1 (As := []) (rest := []) (ztX7_angle l D cy sh ad t_7 hc_12) zyX7_angle t_7 zc7 zk11_352 ⟨rfl, rfl⟩ ⟨by decide, by decide⟩ rfl rfl (Nat.le_of_ble_eq_true rfl) dX11_now_76 (fun H locs hw => ?_)
      exact z_iret F hr hlk hw (Option.some.inj hd) rfl dX11_now_79
    have hd := zif_neg c_11 hd
    by_cases c_14 : p2 = (4 : Int32)
    · have hd := zif_pos c_14 hd
      refine lv_tableIn (tgt := 80) (off := 58) hx hb dX11_now_22 (by rw [c_14]; decide) (by rw [c_14]; decide) (by rw [c_14]; decide) (by decide) ?_
      refine lv_aload_n hx hb dX11_now_80 rfl (lv_at hl 0 rfl) ?_
      refine z_gI F hw t_7 zc7 5 (by decide) rfl zf11_324 dX11_now_81 ?_
      exact z_iret F hr hlk hw (Option.some.inj hd) rfl dX11_now_84
    have hd := zif_neg c_14 hd
    by_cases c_15 : p2 = (5 : Int32)
    · have hd := zif_pos c_15 hd
      refine lv_tableIn (tgt := 85) (off := 63) hx hb dX11_now_22 (by rw [c_15]; decide) (by rw [c_15]; decide) (by rw [c_15]; decide) (by decide) ?_
      refine lv_aload_n hx hb dX11_now_85 rfl (lv_at hl 0 rfl) ?_
      obtain ⟨r_17, hc_16, hd⟩ := zob_some hd
      refine z_cvI F hw hl.1 (As := []) (rest := []) (ztX7_angle l D cy sh ad t_7 hc_16) zyX7_angle t_7 zc7 zk11_352 ⟨rfl, rfl⟩ ⟨by decide, by decide⟩ rfl rfl (Nat.le_of_ble_eq_true rfl) dX11_now_86 (fun H locs hw => ?_)
      refine lv_sipush (v := (2048 : Int32)) hx hb dX11_now_89 (by decide) ?_
      refine lv_iadd hx hb dX11_now_92 ?_
      refine lv_sipush (v := (4096 : Int32)) hx hb dX11_now_93 (by decide) ?_
      obtain ⟨r_19, hc_18, hd⟩ := zob_some hd
      refine z_csI F hw hl.1 (As := [.int (r_17 + (2048 : Int32)), .int (4096 : Int32)]) (rest := []) (ztJ9_floorDiv_7cf53 l D cy sh ad  hc_18) zyJ9_floorDiv_7cf53 zk11_355 ⟨rfl, rfl⟩ ⟨by decide, by decide⟩ rfl rfl (Nat.le_of_ble_eq_true rfl) dX11_now_96 (fun H locs hw => ?_)
      exact z_iret F hr hlk hw (Option.some.inj hd) rfl dX11_now_99
    have hd := zif_neg c_15 hd
    have nc_8 := zne c_8 (a := 0) (by decide)
    have nc_9 := zne c_9 (a := 1) (by decide)
    have nc_10 := zne c_10 (a := 2) (by decide)
    have nc_11 := zne c_11 (a := 3) (by decide)
    have nc_14 := zne c_14 (a := 4) (by decide)
    have nc_15 := zne c_15 (a := 5) (by decide)
    refine lv_tableOut (tgt := 100) hx hb dX11_now_22 (by omega) (by decide) ?_
    refine lv_ldc (v := (-2147483648 : Int32)) hx hb F.1.2.2.2.1 (F.1.2.2.2.2 _ zi11_127) dX11_now_100 ?_
    exact z_iret F hr hlk hw (Option.some.inj hd) rfl dX11_now_102
  · have hd := zif_pos c_3 hd
    refine lv_ldc (v := (-2147483648 : Int32)) hx hb F.1.2.2.2.1 (F.1.2.2.2.2 _ zi11_127) dX11_now_8 ?_
    exact z_iret F hr hlk hw (Option.some.inj hd) rfl dX11_now_10

def zjX11_bands_18 (sh : zShp) (k0 : Nat) (p1 : Int32) (p2 : Int32) (M : zMem)   : Option (Int32) :=
  some (-1 : Int32)
def zX11_bands (sh : zShp) (k0 : Nat) (p1 : Int32) (p2 : Int32) (M : zMem) : Option (Int32) :=
  zob (zX11_isAxis sh k0 p1 M) fun r_2 =>
  if r_2 = 0 then (
  zjX11_bands_18 sh k0 p1 p2 M)
  else (
  zob (zX11_isWithin sh p2 (1 : Int32) (60 : Int32) M) fun r_5 =>
  if r_5 = 0 then (
  zjX11_bands_18 sh k0 p1 p2 M)
  else (
  zob (zX1_bandsOver sh (zR M k0 11) p1 p2 M) fun r_9 =>
  some r_9))
set_option maxHeartbeats 4000000 in
set_option maxRecDepth 100000 in
theorem ztX11_bands (l : Launch) (D : va_G) (cy : Nat → ClassId) (sh : zShp) (ad : Nat → Nat) {k0 : Nat} {p1 : Int32} {p2 : Int32} (h0 : zT sh k0 11) {M : zMem} {r : Int32} (hd : zX11_bands sh k0 p1 p2 M = some r) : zCI l yX11_bands cX11_bands 3 .int { frames := 2, cells := 0, slots := 0, locals := 46 } [.ref (ad k0), .int p1, .int p2] D cy sh ad M r M := by
  refine zci_of (by decide) (Nat.le_of_ble_eq_true rfl) (fun p e s m below meth c ls F hr hlk hl hw => ?_)
  have hx := F.1.1
  have hb := F.1.2.1
  have hl : lv_has ls 3 [(0, .ref (ad k0)), (1, .int p1), (2, .int p2)] := hl
  have J18 : ∀  (H : Heap) (locs : List Loc) (ls : Array Slot), lv_has ls 3 [] → zWd D cy sh ad s M H locs → zjX11_bands_18 sh k0 p1 p2 M   = some r → W p l e { frames := 2, cells := 0, slots := 0, locals := 46 } s m ([.ref (ad k0), .int p1, .int p2] : List Value).toArray below meth c H locs 0 0 (zQI below D cy sh ad s [.ref (ad k0), .int p1, .int p2] r M) (F0 m 18 ls []) := by
    intro  H locs ls hl hw hd
    unfold zjX11_bands_18 at hd
    refine lv_iconst (v := (-1 : Int32)) hx hb dX11_bands_18 (by decide) ?_
    exact z_iret F hr hlk hw (Option.some.inj hd) rfl dX11_bands_19
  unfold zX11_bands at hd
  refine lv_aload_n hx hb dX11_bands_0 rfl (lv_at hl 0 rfl) ?_
  refine lv_iload_n hx hb dX11_bands_1 rfl (lv_at hl 1 rfl) ?_
  obtain ⟨r_2, hc_1, hd⟩ := zob_some hd
  refine z_cvI F hw hl.1 (As := [.int p1]) (rest := []) (ztX11_isAxis l D cy sh ad h0 hc_1) zyX11_isAxis h0 zc11 zk11_194 ⟨rfl, rfl⟩ ⟨by decide, by decide⟩ rfl rfl (Nat.le_of_ble_eq_true rfl) dX11_bands_2 (fun H locs hw => ?_)
  refine lv_if_eq (tgt := 18) hx hb dX11_bands_5 (by decide) (fun c_3 => ?_) (fun c_3 => ?_)
  · have hd := zif_pos c_3 hd
    exact J18 _ _ _ (lv_sub hl [] rfl) hw hd
  · have hd := zif_neg c_3 hd
    refine lv_iload_n hx hb dX11_bands_8 rfl (lv_at hl 2 rfl) ?_
    refine lv_iconst (v := (1 : Int32)) hx hb dX11_bands_9 (by decide) ?_
    refine lv_bipush (v := (60 : Int32)) hx hb dX11_bands_10 (by decide) ?_
    obtain ⟨r_5, hc_4, hd⟩ := zob_some hd
    refine z_csI F hw hl.1 (As := [.int p2, .int (1 : Int32), .int (60 : Int32)]) (rest := []) (ztX11_isWithin l D cy sh ad  hc_4) zyX11_isWithin zk11_123 ⟨rfl, rfl⟩ ⟨by decide, by decide⟩ rfl rfl (Nat.le_of_ble_eq_true rfl) dX11_bands_12 (fun H locs hw => ?_)
    refine lv_if_ne (tgt := 20) hx hb dX11_bands_15 (by decide) (fun c_6 => ?_) (fun c_6 => ?_)
    · have hd := zif_neg c_6 hd
      refine lv_aload_n hx hb dX11_bands_20 rfl (lv_at hl 0 rfl) ?_
      refine z_gR F hw h0 zc11 11 (by decide) rfl zf11_12 dX11_bands_21 ?_
      have t_7 : zT sh (zR M k0 11) 1 := hw.2.2.2.fld h0 11 1
      refine lv_iload_n hx hb dX11_bands_24 rfl (lv_at hl 1 rfl) ?_
      refine lv_iload_n hx hb dX11_bands_25 rfl (lv_at hl 2 rfl) ?_
      obtain ⟨r_9, hc_8, hd⟩ := zob_some hd
      refine z_cvI F hw hl.1 (As := [.int p1, .int p2]) (rest := []) (ztX1_bandsOver l D cy sh ad t_7 hc_8) zyX1_bandsOver t_7 zc1 zk11_358 ⟨rfl, rfl⟩ ⟨by decide, by decide⟩ rfl rfl (Nat.le_of_ble_eq_true rfl) dX11_bands_26 (fun H locs hw => ?_)
      exact z_iret F hr hlk hw (Option.some.inj hd) rfl dX11_bands_29
    · have hd := zif_pos c_6 hd
      exact J18 _ _ _ (lv_sub hl [] rfl) hw hd

def zbX11_stallIn_40 (sh : zShp) (k0 : Nat) (p1 : Int32)  (kk40 : Int32 → zMem → Option (Int32 × zMem)) (x2 : Int32) (M : zMem) : Option (Int32 × zMem) :=
  if (2000 : Int32) < x2 then (
  some ((-1 : Int32), M))
  else (
  zob (zX8_tick sh (zR M k0 3) (zR M k0 11) M) fun M_5 =>
  zgd (zin p1 (zlen sh (zR M_5 (zR M_5 k0 3) 0))) <|
  if (zI M_5 (zR M_5 (zR M_5 (zR M_5 k0 3) 0) p1.toNatClampNeg) 5) ≤ 0 then (
  kk40 (x2 + (1 : Int32)) M_5)
  else (
  some (x2, M_5)))
def zlX11_stallIn_40 (sh : zShp) (k0 : Nat) (p1 : Int32)  : Nat → Int32 → zMem → Option (Int32 × zMem)
  | 0 => fun _ _ => none
  | n + 1 => fun x2 M => zbX11_stallIn_40 sh k0 p1  (zlX11_stallIn_40 sh k0 p1  n) x2 M
def zX11_stallIn (sh : zShp) (k0 : Nat) (p1 : Int32) (M : zMem) : Option (Int32 × zMem) :=
  zob (zX11_isAxis sh k0 p1 M) fun r_12 =>
  if r_12 = 0 then (
  some ((-1 : Int32), M))
  else (
  zgd (zin p1 (zlen sh (zR M (zR M k0 2) 0))) <|
  if (zI M (zR M (zR M (zR M k0 2) 0) p1.toNatClampNeg) 5) ≤ 0 then (
  zob (zX8_copyFrom sh (zR M k0 3) (zR M k0 2) M) fun M_22 =>
  zlX11_stallIn_40 sh k0 p1 zF (1 : Int32) M_22)
  else (
  some ((0 : Int32), M)))
set_option maxHeartbeats 4000000 in
set_option maxRecDepth 100000 in
theorem ztX11_stallIn (l : Launch) (D : va_G) (cy : Nat → ClassId) (sh : zShp) (ad : Nat → Nat) {k0 : Nat} {p1 : Int32} (h0 : zT sh k0 11) {M : zMem} {r : Int32} {M1 : zMem} (hd : zX11_stallIn sh k0 p1 M = some (r, M1)) : zCI l yX11_stallIn cX11_stallIn 3 .int { frames := 6, cells := 0, slots := 0, locals := 144 } [.ref (ad k0), .int p1] D cy sh ad M r M1 := by
  refine zci_of (by decide) (Nat.le_of_ble_eq_true rfl) (fun p e s m below meth c ls F hr hlk hl hw => ?_)
  have hx := F.1.1
  have hb := F.1.2.1
  have hl : lv_has ls 3 [(0, .ref (ad k0)), (1, .int p1)] := hl
  have L40 : ∀  (n : Nat), ∀ (x2 : Int32) (M : zMem) (H : Heap) (locs : List Loc) (ls : Array Slot), lv_has ls 3 [(0, .ref (ad k0)), (1, .int p1), (2, .int x2)] → zWd D cy sh ad s M H locs → zlX11_stallIn_40 sh k0 p1  n x2 M = some (r, M1) → W p l e { frames := 6, cells := 0, slots := 0, locals := 144 } s m ([.ref (ad k0), .int p1] : List Value).toArray below meth c H locs 0 0 (zQI below D cy sh ad s [.ref (ad k0), .int p1] r M1) (F0 m 40 ls []) := by
    intro  n
    induction n with
    | zero => intro x2 M H locs ls hl hw hd; exact (znone hd).elim
    | succ n hk40 =>
      intro x2 M H locs ls hl hw hd
      have hd : zbX11_stallIn_40 sh k0 p1  (zlX11_stallIn_40 sh k0 p1  n) x2 M = some (r, M1) := hd
      unfold zbX11_stallIn_40 at hd
      refine lv_iload_n hx hb dX11_stallIn_40 rfl (lv_at hl 2 rfl) ?_
      refine lv_sipush (v := (2000 : Int32)) hx hb dX11_stallIn_41 (by decide) ?_
      refine lv_icmp_gt (tgt := 81) hx hb dX11_stallIn_44 (by decide) (fun c_1 => ?_) (fun c_1 => ?_)
      · have hd := zif_pos c_1 hd
        refine lv_iconst (v := (-1 : Int32)) hx hb dX11_stallIn_81 (by decide) ?_
        exact z_iret F hr hlk hw (zpr1 hd) (zpr2 hd) dX11_stallIn_82
      · have hd := zif_neg c_1 hd
        refine lv_aload_n hx hb dX11_stallIn_47 rfl (lv_at hl 0 rfl) ?_
        refine z_gR F hw h0 zc11 3 (by decide) rfl zf11_44 dX11_stallIn_48 ?_
        have t_2 : zT sh (zR M k0 3) 8 := hw.2.2.2.fld h0 3 8
        refine lv_aload_n hx hb dX11_stallIn_51 rfl (lv_at hl 0 rfl) ?_
        refine z_gR F hw h0 zc11 11 (by decide) rfl zf11_12 dX11_stallIn_52 ?_
        have t_3 : zT sh (zR M k0 11) 1 := hw.2.2.2.fld h0 11 1
        obtain ⟨M_5, hc_4, hd⟩ := zob_some hd
        refine z_cvV F hw hl.1 (As := [.ref (ad (zR M k0 11))]) (rest := []) (ztX8_tick l D cy sh ad t_2 t_3 hc_4) zyX8_tick t_2 zc8 zk11_292 ⟨rfl, rfl⟩ ⟨by decide, by decide⟩ rfl rfl (Nat.le_of_ble_eq_true rfl) dX11_stallIn_55 (fun H locs hw => ?_)
        refine lv_aload_n hx hb dX11_stallIn_58 rfl (lv_at hl 0 rfl) ?_
        refine z_gR F hw h0 zc11 3 (by decide) rfl zf11_44 dX11_stallIn_59 ?_
        have t_6 : zT sh (zR M_5 k0 3) 8 := hw.2.2.2.fld h0 3 8
        refine z_gR F hw t_6 zc8 0 (by decide) rfl zf11_308 dX11_stallIn_62 ?_
        have t_7 : zT sh (zR M_5 (zR M_5 k0 3) 0) 18 := hw.2.2.2.fld t_6 0 18
        refine lv_iload_n hx hb dX11_stallIn_65 rfl (lv_at hl 1 rfl) ?_
        obtain ⟨g_8, hd⟩ := zgd_some hd
        refine z_aald F hw t_7 (by decide) 5 rfl g_8 dX11_stallIn_66 ?_
        have t_9 : zT sh (zR M_5 (zR M_5 (zR M_5 k0 3) 0) p1.toNatClampNeg) 7 := hw.2.2.2.arr t_7 _ 7 (zin_lt g_8)
        refine z_gI F hw t_9 zc7 5 (by decide) rfl zf11_324 dX11_stallIn_67 ?_
        refine lv_if_le (tgt := 75) hx hb dX11_stallIn_70 (by decide) (fun c_10 => ?_) (fun c_10 => ?_)
        · have hd := zif_pos c_10 hd
          refine lv_iinc (v := (x2 + (1 : Int32))) (lv' := [(2, .int (x2 + (1 : Int32))), (0, .ref (ad k0)), (1, .int p1)]) hx hb dX11_stallIn_75 hl (k := 2) rfl (ziinc (by decide)) (by decide) rfl (fun ls hl => ?_)
          refine lv_goto (tgt := 40) hx hb dX11_stallIn_78 (by decide) ?_
          exact hk40 _ _ _ _ _ (lv_sub hl [1, 2, 0] rfl) hw hd
        · have hd := zif_neg c_10 hd
          refine lv_iload_n hx hb dX11_stallIn_73 rfl (lv_at hl 2 rfl) ?_
          exact z_iret F hr hlk hw (zpr1 hd) (zpr2 hd) dX11_stallIn_74
  unfold zX11_stallIn at hd
  refine lv_aload_n hx hb dX11_stallIn_0 rfl (lv_at hl 0 rfl) ?_
  refine lv_iload_n hx hb dX11_stallIn_1 rfl (lv_at hl 1 rfl) ?_
  obtain ⟨r_12, hc_11, hd⟩ := zob_some hd
  refine z_cvI F hw hl.1 (As := [.int p1]) (rest := []) (ztX11_isAxis l D cy sh ad h0 hc_11) zyX11_isAxis h0 zc11 zk11_194 ⟨rfl, rfl⟩ ⟨by decide, by decide⟩ rfl rfl (Nat.le_of_ble_eq_true rfl) dX11_stallIn_2 (fun H locs hw => ?_)
  refine lv_if_ne (tgt := 10) hx hb dX11_stallIn_5 (by decide) (fun c_13 => ?_) (fun c_13 => ?_)
  · have hd := zif_neg c_13 hd
    refine lv_aload_n hx hb dX11_stallIn_10 rfl (lv_at hl 0 rfl) ?_
    refine z_gR F hw h0 zc11 2 (by decide) rfl zf11_40 dX11_stallIn_11 ?_
    have t_14 : zT sh (zR M k0 2) 8 := hw.2.2.2.fld h0 2 8
    refine z_gR F hw t_14 zc8 0 (by decide) rfl zf11_308 dX11_stallIn_14 ?_
    have t_15 : zT sh (zR M (zR M k0 2) 0) 18 := hw.2.2.2.fld t_14 0 18
    refine lv_iload_n hx hb dX11_stallIn_17 rfl (lv_at hl 1 rfl) ?_
    obtain ⟨g_16, hd⟩ := zgd_some hd
    refine z_aald F hw t_15 (by decide) 5 rfl g_16 dX11_stallIn_18 ?_
    have t_17 : zT sh (zR M (zR M (zR M k0 2) 0) p1.toNatClampNeg) 7 := hw.2.2.2.arr t_15 _ 7 (zin_lt g_16)
    refine z_gI F hw t_17 zc7 5 (by decide) rfl zf11_324 dX11_stallIn_19 ?_
    refine lv_if_le (tgt := 27) hx hb dX11_stallIn_22 (by decide) (fun c_18 => ?_) (fun c_18 => ?_)
    · have hd := zif_pos c_18 hd
      refine lv_aload_n hx hb dX11_stallIn_27 rfl (lv_at hl 0 rfl) ?_
      refine z_gR F hw h0 zc11 3 (by decide) rfl zf11_44 dX11_stallIn_28 ?_
      have t_19 : zT sh (zR M k0 3) 8 := hw.2.2.2.fld h0 3 8
      refine lv_aload_n hx hb dX11_stallIn_31 rfl (lv_at hl 0 rfl) ?_
      refine z_gR F hw h0 zc11 2 (by decide) rfl zf11_40 dX11_stallIn_32 ?_
      have t_20 : zT sh (zR M k0 2) 8 := hw.2.2.2.fld h0 2 8
      obtain ⟨M_22, hc_21, hd⟩ := zob_some hd
      refine z_cvV F hw hl.1 (As := [.ref (ad (zR M k0 2))]) (rest := []) (ztX8_copyFrom l D cy sh ad t_19 t_20 hc_21) zyX8_copyFrom t_19 zc8 zk11_361 ⟨rfl, rfl⟩ ⟨by decide, by decide⟩ rfl rfl (Nat.le_of_ble_eq_true rfl) dX11_stallIn_35 (fun H locs hw => ?_)
      refine lv_iconst (v := (1 : Int32)) hx hb dX11_stallIn_38 (by decide) ?_
      refine lv_istore_n (lv' := [(2, .int (1 : Int32)), (0, .ref (ad k0)), (1, .int p1)]) hx hb dX11_stallIn_39 rfl hl (by decide) rfl (fun ls hl => ?_)
      exact L40 zF _ _ _ _ _ (lv_sub hl [1, 2, 0] rfl) hw hd
    · have hd := zif_neg c_18 hd
      refine lv_iconst (v := (0 : Int32)) hx hb dX11_stallIn_25 (by decide) ?_
      exact z_iret F hr hlk hw (zpr1 hd) (zpr2 hd) dX11_stallIn_26
  · have hd := zif_pos c_13 hd
    refine lv_iconst (v := (-1 : Int32)) hx hb dX11_stallIn_8 (by decide) ?_
    exact z_iret F hr hlk hw (zpr1 hd) (zpr2 hd) dX11_stallIn_9

def zbX11_calmIn_25 (sh : zShp) (k0 : Nat)  (kk25 : Int32 → zMem → Option (Int32 × zMem)) (x1 : Int32) (M : zMem) : Option (Int32 × zMem) :=
  if (2000 : Int32) < x1 then (
  some ((-1 : Int32), M))
  else (
  zob (zX8_isSteady sh (zR M k0 3) (zR M k0 11) M) fun r_5 =>
  if r_5 = 0 then (
  zob (zX8_tick sh (zR M k0 3) (zR M k0 11) M) fun M_10 =>
  kk25 (x1 + (1 : Int32)) M_10)
  else (
  some (x1, M)))
def zlX11_calmIn_25 (sh : zShp) (k0 : Nat)  : Nat → Int32 → zMem → Option (Int32 × zMem)
  | 0 => fun _ _ => none
  | n + 1 => fun x1 M => zbX11_calmIn_25 sh k0  (zlX11_calmIn_25 sh k0  n) x1 M
def zX11_calmIn (sh : zShp) (k0 : Nat) (M : zMem) : Option (Int32 × zMem) :=
  if (zI M (zR M k0 11) 6) = 0 then (
  some ((-1 : Int32), M))
  else (
  zob (zX8_copyFrom sh (zR M k0 3) (zR M k0 2) M) fun M_16 =>
  zlX11_calmIn_25 sh k0 zF (0 : Int32) M_16)
set_option maxHeartbeats 4000000 in
set_option maxRecDepth 100000 in
theorem ztX11_calmIn (l : Launch) (D : va_G) (cy : Nat → ClassId) (sh : zShp) (ad : Nat → Nat) {k0 : Nat} (h0 : zT sh k0 11) {M : zMem} {r : Int32} {M1 : zMem} (hd : zX11_calmIn sh k0 M = some (r, M1)) : zCI l yX11_calmIn cX11_calmIn 2 .int { frames := 6, cells := 0, slots := 0, locals := 144 } [.ref (ad k0)] D cy sh ad M r M1 := by
  refine zci_of (by decide) (Nat.le_of_ble_eq_true rfl) (fun p e s m below meth c ls F hr hlk hl hw => ?_)
  have hx := F.1.1
  have hb := F.1.2.1
  have hl : lv_has ls 2 [(0, .ref (ad k0))] := hl
  have L25 : ∀  (n : Nat), ∀ (x1 : Int32) (M : zMem) (H : Heap) (locs : List Loc) (ls : Array Slot), lv_has ls 2 [(0, .ref (ad k0)), (1, .int x1)] → zWd D cy sh ad s M H locs → zlX11_calmIn_25 sh k0  n x1 M = some (r, M1) → W p l e { frames := 6, cells := 0, slots := 0, locals := 144 } s m ([.ref (ad k0)] : List Value).toArray below meth c H locs 0 0 (zQI below D cy sh ad s [.ref (ad k0)] r M1) (F0 m 25 ls []) := by
    intro  n
    induction n with
    | zero => intro x1 M H locs ls hl hw hd; exact (znone hd).elim
    | succ n hk25 =>
      intro x1 M H locs ls hl hw hd
      have hd : zbX11_calmIn_25 sh k0  (zlX11_calmIn_25 sh k0  n) x1 M = some (r, M1) := hd
      unfold zbX11_calmIn_25 at hd
      refine lv_iload_n hx hb dX11_calmIn_25 rfl (lv_at hl 1 rfl) ?_
      refine lv_sipush (v := (2000 : Int32)) hx hb dX11_calmIn_26 (by decide) ?_
      refine lv_icmp_gt (tgt := 65) hx hb dX11_calmIn_29 (by decide) (fun c_1 => ?_) (fun c_1 => ?_)
      · have hd := zif_pos c_1 hd
        refine lv_iconst (v := (-1 : Int32)) hx hb dX11_calmIn_65 (by decide) ?_
        exact z_iret F hr hlk hw (zpr1 hd) (zpr2 hd) dX11_calmIn_66
      · have hd := zif_neg c_1 hd
        refine lv_aload_n hx hb dX11_calmIn_32 rfl (lv_at hl 0 rfl) ?_
        refine z_gR F hw h0 zc11 3 (by decide) rfl zf11_44 dX11_calmIn_33 ?_
        have t_2 : zT sh (zR M k0 3) 8 := hw.2.2.2.fld h0 3 8
        refine lv_aload_n hx hb dX11_calmIn_36 rfl (lv_at hl 0 rfl) ?_
        refine z_gR F hw h0 zc11 11 (by decide) rfl zf11_12 dX11_calmIn_37 ?_
        have t_3 : zT sh (zR M k0 11) 1 := hw.2.2.2.fld h0 11 1
        obtain ⟨r_5, hc_4, hd⟩ := zob_some hd
        refine z_cvI F hw hl.1 (As := [.ref (ad (zR M k0 11))]) (rest := []) (ztX8_isSteady l D cy sh ad t_2 t_3 hc_4) zyX8_isSteady t_2 zc8 zk11_364 ⟨rfl, rfl⟩ ⟨by decide, by decide⟩ rfl rfl (Nat.le_of_ble_eq_true rfl) dX11_calmIn_40 (fun H locs hw => ?_)
        refine lv_if_eq (tgt := 48) hx hb dX11_calmIn_43 (by decide) (fun c_6 => ?_) (fun c_6 => ?_)
        · have hd := zif_pos c_6 hd
          refine lv_aload_n hx hb dX11_calmIn_48 rfl (lv_at hl 0 rfl) ?_
          refine z_gR F hw h0 zc11 3 (by decide) rfl zf11_44 dX11_calmIn_49 ?_
          have t_7 : zT sh (zR M k0 3) 8 := hw.2.2.2.fld h0 3 8
          refine lv_aload_n hx hb dX11_calmIn_52 rfl (lv_at hl 0 rfl) ?_
          refine z_gR F hw h0 zc11 11 (by decide) rfl zf11_12 dX11_calmIn_53 ?_
          have t_8 : zT sh (zR M k0 11) 1 := hw.2.2.2.fld h0 11 1
          obtain ⟨M_10, hc_9, hd⟩ := zob_some hd
          refine z_cvV F hw hl.1 (As := [.ref (ad (zR M k0 11))]) (rest := []) (ztX8_tick l D cy sh ad t_7 t_8 hc_9) zyX8_tick t_7 zc8 zk11_292 ⟨rfl, rfl⟩ ⟨by decide, by decide⟩ rfl rfl (Nat.le_of_ble_eq_true rfl) dX11_calmIn_56 (fun H locs hw => ?_)
          refine lv_iinc (v := (x1 + (1 : Int32))) (lv' := [(1, .int (x1 + (1 : Int32))), (0, .ref (ad k0))]) hx hb dX11_calmIn_59 hl (k := 1) rfl (ziinc (by decide)) (by decide) rfl (fun ls hl => ?_)
          refine lv_goto (tgt := 25) hx hb dX11_calmIn_62 (by decide) ?_
          exact hk25 _ _ _ _ _ (lv_sub hl [1, 0] rfl) hw hd
        · have hd := zif_neg c_6 hd
          refine lv_iload_n hx hb dX11_calmIn_46 rfl (lv_at hl 1 rfl) ?_
          exact z_iret F hr hlk hw (zpr1 hd) (zpr2 hd) dX11_calmIn_47
  unfold zX11_calmIn at hd
  refine lv_aload_n hx hb dX11_calmIn_0 rfl (lv_at hl 0 rfl) ?_
  refine z_gR F hw h0 zc11 11 (by decide) rfl zf11_12 dX11_calmIn_1 ?_
  have t_11 : zT sh (zR M k0 11) 1 := hw.2.2.2.fld h0 11 1
  refine z_gI F hw t_11 zc1 6 (by decide) rfl zf11_114 dX11_calmIn_4 ?_
  refine lv_if_ne (tgt := 12) hx hb dX11_calmIn_7 (by decide) (fun c_12 => ?_) (fun c_12 => ?_)
  · have hd := zif_neg c_12 hd
    refine lv_aload_n hx hb dX11_calmIn_12 rfl (lv_at hl 0 rfl) ?_
    refine z_gR F hw h0 zc11 3 (by decide) rfl zf11_44 dX11_calmIn_13 ?_
    have t_13 : zT sh (zR M k0 3) 8 := hw.2.2.2.fld h0 3 8
    refine lv_aload_n hx hb dX11_calmIn_16 rfl (lv_at hl 0 rfl) ?_
    refine z_gR F hw h0 zc11 2 (by decide) rfl zf11_40 dX11_calmIn_17 ?_
    have t_14 : zT sh (zR M k0 2) 8 := hw.2.2.2.fld h0 2 8
    obtain ⟨M_16, hc_15, hd⟩ := zob_some hd
    refine z_cvV F hw hl.1 (As := [.ref (ad (zR M k0 2))]) (rest := []) (ztX8_copyFrom l D cy sh ad t_13 t_14 hc_15) zyX8_copyFrom t_13 zc8 zk11_361 ⟨rfl, rfl⟩ ⟨by decide, by decide⟩ rfl rfl (Nat.le_of_ble_eq_true rfl) dX11_calmIn_20 (fun H locs hw => ?_)
    refine lv_iconst (v := (0 : Int32)) hx hb dX11_calmIn_23 (by decide) ?_
    refine lv_istore_n (lv' := [(1, .int (0 : Int32)), (0, .ref (ad k0))]) hx hb dX11_calmIn_24 rfl hl (by decide) rfl (fun ls hl => ?_)
    exact L25 zF _ _ _ _ _ (lv_sub hl [1, 0] rfl) hw hd
  · have hd := zif_pos c_12 hd
    refine lv_iconst (v := (-1 : Int32)) hx hb dX11_calmIn_10 (by decide) ?_
    exact z_iret F hr hlk hw (zpr1 hd) (zpr2 hd) dX11_calmIn_11

def zjX11_carries_34 (sh : zShp) (k0 : Nat) (p1 : Int32) (p2 : Int32)  (M : zMem) : Option (Int32 × zMem) :=
  some ((-1 : Int32), M)
def zjX11_carries_106 (sh : zShp) (k0 : Nat) (p1 : Int32) (p2 : Int32) (kk51 : Nat → Int32 → zMem → Option (Int32 × zMem)) (x3 : Nat) (x4 : Int32) (M : zMem) : Option (Int32 × zMem) :=
  if (zI M x3 5) = 0 then (
  some (x4, M))
  else (
  kk51 x3 (x4 + (-1 : Int32)) M)
def zbX11_carries_76 (sh : zShp) (k0 : Nat) (p1 : Int32) (p2 : Int32) (kk51 : Nat → Int32 → zMem → Option (Int32 × zMem)) (kk76 : Nat → Int32 → Int32 → zMem → Option (Int32 × zMem)) (x3 : Nat) (x4 : Int32) (x5 : Int32) (M : zMem) : Option (Int32 × zMem) :=
  if p2 ≤ x5 then (
  zjX11_carries_106 sh k0 p1 p2 kk51 x3 x4 M)
  else (
  if (zI M x3 5) = 0 then (
  zob (zX8_tick sh (zR M k0 3) (zR M k0 11) M) fun M_7 =>
  kk76 x3 x4 (x5 + (1 : Int32)) M_7)
  else (
  zjX11_carries_106 sh k0 p1 p2 kk51 x3 x4 M))
def zlX11_carries_76 (sh : zShp) (k0 : Nat) (p1 : Int32) (p2 : Int32) (kk51 : Nat → Int32 → zMem → Option (Int32 × zMem)) : Nat → Nat → Int32 → Int32 → zMem → Option (Int32 × zMem)
  | 0 => fun _ _ _ _ => none
  | n + 1 => fun x3 x4 x5 M => zbX11_carries_76 sh k0 p1 p2 kk51 (zlX11_carries_76 sh k0 p1 p2 kk51 n) x3 x4 x5 M
def zbX11_carries_51 (sh : zShp) (k0 : Nat) (p1 : Int32) (p2 : Int32)  (kk51 : Nat → Int32 → zMem → Option (Int32 × zMem)) (x3 : Nat) (x4 : Int32) (M : zMem) : Option (Int32 × zMem) :=
  if x4 < 0 then (
  some ((-1 : Int32), M))
  else (
  zob (zX8_copyFrom sh (zR M k0 3) (zR M k0 2) M) fun M_12 =>
  zbd (zpI M_12 x3 3 x4) fun M_13 =>
  zlX11_carries_76 sh k0 p1 p2 kk51 zF x3 x4 (0 : Int32) M_13)
def zlX11_carries_51 (sh : zShp) (k0 : Nat) (p1 : Int32) (p2 : Int32)  : Nat → Nat → Int32 → zMem → Option (Int32 × zMem)
  | 0 => fun _ _ _ => none
  | n + 1 => fun x3 x4 M => zbX11_carries_51 sh k0 p1 p2  (zlX11_carries_51 sh k0 p1 p2  n) x3 x4 M
def zX11_carries (sh : zShp) (k0 : Nat) (p1 : Int32) (p2 : Int32) (M : zMem) : Option (Int32 × zMem) :=
  zob (zX11_isAxis sh k0 p1 M) fun r_15 =>
  if r_15 = 0 then (
  zjX11_carries_34 sh k0 p1 p2 M)
  else (
  zob (zX11_isWithin sh p2 (1 : Int32) (200 : Int32) M) fun r_18 =>
  if r_18 = 0 then (
  zjX11_carries_34 sh k0 p1 p2 M)
  else (
  zgd (zin p1 (zlen sh (zR M (zR M k0 2) 0))) <|
  if (zI M (zR M (zR M (zR M k0 2) 0) p1.toNatClampNeg) 5) ≤ 0 then (
  zgd (zin p1 (zlen sh (zR M (zR M k0 3) 0))) <|
  zlX11_carries_51 sh k0 p1 p2 zF (zR M (zR M (zR M k0 3) 0) p1.toNatClampNeg) (2000 : Int32) M)
  else (
  zjX11_carries_34 sh k0 p1 p2 M)))
set_option maxHeartbeats 4000000 in
set_option maxRecDepth 100000 in
theorem ztX11_carries (l : Launch) (D : va_G) (cy : Nat → ClassId) (sh : zShp) (ad : Nat → Nat) {k0 : Nat} {p1 : Int32} {p2 : Int32} (h0 : zT sh k0 11) {M : zMem} {r : Int32} {M1 : zMem} (hd : zX11_carries sh k0 p1 p2 M = some (r, M1)) : zCI l yX11_carries cX11_carries 6 .int { frames := 6, cells := 0, slots := 0, locals := 144 } [.ref (ad k0), .int p1, .int p2] D cy sh ad M r M1 := by
  refine zci_of (by decide) (Nat.le_of_ble_eq_true rfl) (fun p e s m below meth c ls F hr hlk hl hw => ?_)
  have hx := F.1.1
  have hb := F.1.2.1
  have hl : lv_has ls 6 [(0, .ref (ad k0)), (1, .int p1), (2, .int p2)] := hl
  have J34 : ∀ (M : zMem) (H : Heap) (locs : List Loc) (ls : Array Slot), lv_has ls 6 [] → zWd D cy sh ad s M H locs → zjX11_carries_34 sh k0 p1 p2  M = some (r, M1) → W p l e { frames := 6, cells := 0, slots := 0, locals := 144 } s m ([.ref (ad k0), .int p1, .int p2] : List Value).toArray below meth c H locs 0 0 (zQI below D cy sh ad s [.ref (ad k0), .int p1, .int p2] r M1) (F0 m 34 ls []) := by
    intro  M H locs ls hl hw hd
    unfold zjX11_carries_34 at hd
    refine lv_iconst (v := (-1 : Int32)) hx hb dX11_carries_34 (by decide) ?_
    exact z_iret F hr hlk hw (zpr1 hd) (zpr2 hd) dX11_carries_35
  have J106 : ∀ (kk51 : Nat → Int32 → zMem → Option (Int32 × zMem)) (hk51 : ∀ (x3 : Nat) (x4 : Int32) (tx3 : zT sh x3 7) (M : zMem) (H : Heap) (locs : List Loc) (ls : Array Slot), lv_has ls 6 [(0, .ref (ad k0)), (2, .int p2), (3, .ref (ad x3)), (4, .int x4)] → zWd D cy sh ad s M H locs → kk51 x3 x4 M = some (r, M1) → W p l e { frames := 6, cells := 0, slots := 0, locals := 144 } s m ([.ref (ad k0), .int p1, .int p2] : List Value).toArray below meth c H locs 0 0 (zQI below D cy sh ad s [.ref (ad k0), .int p1, .int p2] r M1) (F0 m 51 ls [])), ∀ (x3 : Nat) (x4 : Int32) (tx3 : zT sh x3 7) (M : zMem) (H : Heap) (locs : List Loc) (ls : Array Slot), lv_has ls 6 [(0, .ref (ad k0)), (2, .int p2), (3, .ref (ad x3)), (4, .int x4)] → zWd D cy sh ad s M H locs → zjX11_carries_106 sh k0 p1 p2 kk51 x3 x4 M = some (r, M1) → W p l e { frames := 6, cells := 0, slots := 0, locals := 144 } s m ([.ref (ad k0), .int p1, .int p2] : List Value).toArray below meth c H locs 0 0 (zQI below D cy sh ad s [.ref (ad k0), .int p1, .int p2] r M1) (F0 m 106 ls []) := by
    intro kk51 hk51 x3 x4 tx3 M H locs ls hl hw hd
    unfold zjX11_carries_106 at hd
    refine lv_aload_n hx hb dX11_carries_106 rfl (lv_at hl 2 rfl) ?_
    refine z_gI F hw tx3 zc7 5 (by decide) rfl zf11_324 dX11_carries_107 ?_
    refine lv_if_ne (tgt := 116) hx hb dX11_carries_110 (by decide) (fun c_1 => ?_) (fun c_1 => ?_)
    · have hd := zif_neg c_1 hd
      refine lv_iinc (v := (x4 + (-1 : Int32))) (lv' := [(4, .int (x4 + (-1 : Int32))), (0, .ref (ad k0)), (2, .int p2), (3, .ref (ad x3))]) hx hb dX11_carries_116 hl (k := 3) rfl (ziinc (by decide)) (by decide) rfl (fun ls hl => ?_)
      refine lv_goto (tgt := 51) hx hb dX11_carries_119 (by decide) ?_
      exact hk51 _ _ tx3 _ _ _ _ (lv_sub hl [1, 2, 3, 0] rfl) hw hd
    · have hd := zif_pos c_1 hd
      refine lv_iload hx hb dX11_carries_113 (lv_at hl 3 rfl) ?_
      exact z_iret F hr hlk hw (zpr1 hd) (zpr2 hd) dX11_carries_115
  have L76 : ∀ (kk51 : Nat → Int32 → zMem → Option (Int32 × zMem)) (hk51 : ∀ (x3 : Nat) (x4 : Int32) (tx3 : zT sh x3 7) (M : zMem) (H : Heap) (locs : List Loc) (ls : Array Slot), lv_has ls 6 [(0, .ref (ad k0)), (2, .int p2), (3, .ref (ad x3)), (4, .int x4)] → zWd D cy sh ad s M H locs → kk51 x3 x4 M = some (r, M1) → W p l e { frames := 6, cells := 0, slots := 0, locals := 144 } s m ([.ref (ad k0), .int p1, .int p2] : List Value).toArray below meth c H locs 0 0 (zQI below D cy sh ad s [.ref (ad k0), .int p1, .int p2] r M1) (F0 m 51 ls [])) (n : Nat), ∀ (x3 : Nat) (x4 : Int32) (x5 : Int32) (tx3 : zT sh x3 7) (M : zMem) (H : Heap) (locs : List Loc) (ls : Array Slot), lv_has ls 6 [(0, .ref (ad k0)), (2, .int p2), (3, .ref (ad x3)), (4, .int x4), (5, .int x5)] → zWd D cy sh ad s M H locs → zlX11_carries_76 sh k0 p1 p2 kk51 n x3 x4 x5 M = some (r, M1) → W p l e { frames := 6, cells := 0, slots := 0, locals := 144 } s m ([.ref (ad k0), .int p1, .int p2] : List Value).toArray below meth c H locs 0 0 (zQI below D cy sh ad s [.ref (ad k0), .int p1, .int p2] r M1) (F0 m 76 ls []) := by
    intro kk51 hk51 n
    induction n with
    | zero => intro x3 x4 x5 tx3 M H locs ls hl hw hd; exact (znone hd).elim
    | succ n hk76 =>
      intro x3 x4 x5 tx3 M H locs ls hl hw hd
      have hd : zbX11_carries_76 sh k0 p1 p2 kk51 (zlX11_carries_76 sh k0 p1 p2 kk51 n) x3 x4 x5 M = some (r, M1) := hd
      unfold zbX11_carries_76 at hd
      refine lv_iload hx hb dX11_carries_76 (lv_at hl 4 rfl) ?_
      refine lv_iload_n hx hb dX11_carries_78 rfl (lv_at hl 1 rfl) ?_
      refine lv_icmp_ge (tgt := 106) hx hb dX11_carries_79 (by decide) (fun c_2 => ?_) (fun c_2 => ?_)
      · have hd := zif_pos c_2 hd
        exact J106 _ hk51 _ _ tx3 _ _ _ _ (lv_sub hl [0, 1, 2, 3] rfl) hw hd
      · have hd := zif_neg c_2 hd
        refine lv_aload_n hx hb dX11_carries_82 rfl (lv_at hl 2 rfl) ?_
        refine z_gI F hw tx3 zc7 5 (by decide) rfl zf11_324 dX11_carries_83 ?_
        refine lv_if_ne (tgt := 106) hx hb dX11_carries_86 (by decide) (fun c_3 => ?_) (fun c_3 => ?_)
        · have hd := zif_neg c_3 hd
          exact J106 _ hk51 _ _ tx3 _ _ _ _ (lv_sub hl [0, 1, 2, 3] rfl) hw hd
        · have hd := zif_pos c_3 hd
          refine lv_aload_n hx hb dX11_carries_89 rfl (lv_at hl 0 rfl) ?_
          refine z_gR F hw h0 zc11 3 (by decide) rfl zf11_44 dX11_carries_90 ?_
          have t_4 : zT sh (zR M k0 3) 8 := hw.2.2.2.fld h0 3 8
          refine lv_aload_n hx hb dX11_carries_93 rfl (lv_at hl 0 rfl) ?_
          refine z_gR F hw h0 zc11 11 (by decide) rfl zf11_12 dX11_carries_94 ?_
          have t_5 : zT sh (zR M k0 11) 1 := hw.2.2.2.fld h0 11 1
          obtain ⟨M_7, hc_6, hd⟩ := zob_some hd
          refine z_cvV F hw hl.1 (As := [.ref (ad (zR M k0 11))]) (rest := []) (ztX8_tick l D cy sh ad t_4 t_5 hc_6) zyX8_tick t_4 zc8 zk11_292 ⟨rfl, rfl⟩ ⟨by decide, by decide⟩ rfl rfl (Nat.le_of_ble_eq_true rfl) dX11_carries_97 (fun H locs hw => ?_)
          refine lv_iinc (v := (x5 + (1 : Int32))) (lv' := [(5, .int (x5 + (1 : Int32))), (0, .ref (ad k0)), (2, .int p2), (3, .ref (ad x3)), (4, .int x4)]) hx hb dX11_carries_100 hl (k := 4) rfl (ziinc (by decide)) (by decide) rfl (fun ls hl => ?_)
          refine lv_goto (tgt := 76) hx hb dX11_carries_103 (by decide) ?_
          exact hk76 _ _ _ tx3 _ _ _ _ (lv_sub hl [1, 2, 3, 4, 0] rfl) hw hd
  have L51 : ∀  (n : Nat), ∀ (x3 : Nat) (x4 : Int32) (tx3 : zT sh x3 7) (M : zMem) (H : Heap) (locs : List Loc) (ls : Array Slot), lv_has ls 6 [(0, .ref (ad k0)), (2, .int p2), (3, .ref (ad x3)), (4, .int x4)] → zWd D cy sh ad s M H locs → zlX11_carries_51 sh k0 p1 p2  n x3 x4 M = some (r, M1) → W p l e { frames := 6, cells := 0, slots := 0, locals := 144 } s m ([.ref (ad k0), .int p1, .int p2] : List Value).toArray below meth c H locs 0 0 (zQI below D cy sh ad s [.ref (ad k0), .int p1, .int p2] r M1) (F0 m 51 ls []) := by
    intro  n
    induction n with
    | zero => intro x3 x4 tx3 M H locs ls hl hw hd; exact (znone hd).elim
    | succ n hk51 =>
      intro x3 x4 tx3 M H locs ls hl hw hd
      have hd : zbX11_carries_51 sh k0 p1 p2  (zlX11_carries_51 sh k0 p1 p2  n) x3 x4 M = some (r, M1) := hd
      unfold zbX11_carries_51 at hd
      refine lv_iload hx hb dX11_carries_51 (lv_at hl 3 rfl) ?_
      refine lv_if_lt (tgt := 122) hx hb dX11_carries_53 (by decide) (fun c_8 => ?_) (fun c_8 => ?_)
      · have hd := zif_pos c_8 hd
        refine lv_iconst (v := (-1 : Int32)) hx hb dX11_carries_122 (by decide) ?_
        exact z_iret F hr hlk hw (zpr1 hd) (zpr2 hd) dX11_carries_123
      · have hd := zif_neg c_8 hd
        refine lv_aload_n hx hb dX11_carries_56 rfl (lv_at hl 0 rfl) ?_
        refine z_gR F hw h0 zc11 3 (by decide) rfl zf11_44 dX11_carries_57 ?_
        have t_9 : zT sh (zR M k0 3) 8 := hw.2.2.2.fld h0 3 8
        refine lv_aload_n hx hb dX11_carries_60 rfl (lv_at hl 0 rfl) ?_
        refine z_gR F hw h0 zc11 2 (by decide) rfl zf11_40 dX11_carries_61 ?_
        have t_10 : zT sh (zR M k0 2) 8 := hw.2.2.2.fld h0 2 8
        obtain ⟨M_12, hc_11, hd⟩ := zob_some hd
        refine z_cvV F hw hl.1 (As := [.ref (ad (zR M k0 2))]) (rest := []) (ztX8_copyFrom l D cy sh ad t_9 t_10 hc_11) zyX8_copyFrom t_9 zc8 zk11_361 ⟨rfl, rfl⟩ ⟨by decide, by decide⟩ rfl rfl (Nat.le_of_ble_eq_true rfl) dX11_carries_64 (fun H locs hw => ?_)
        refine lv_aload_n hx hb dX11_carries_67 rfl (lv_at hl 2 rfl) ?_
        refine lv_iload hx hb dX11_carries_68 (lv_at hl 3 rfl) ?_
        refine z_pI F hw tx3 zc7 3 (by decide) rfl zf11_315 rfl rfl rfl dX11_carries_70 (fun H locs M_13 eM_13 hw => ?_)
        have hd := zbd_eq eM_13 hd
        refine lv_iconst (v := (0 : Int32)) hx hb dX11_carries_73 (by decide) ?_
        refine lv_istore (lv' := [(5, .int (0 : Int32)), (0, .ref (ad k0)), (2, .int p2), (3, .ref (ad x3)), (4, .int x4)]) hx hb dX11_carries_74 hl (by decide) rfl (fun ls hl => ?_)
        exact L76 _ hk51 zF _ _ _ tx3 _ _ _ _ (lv_sub hl [1, 2, 3, 4, 0] rfl) hw hd
  unfold zX11_carries at hd
  refine lv_aload_n hx hb dX11_carries_0 rfl (lv_at hl 0 rfl) ?_
  refine lv_iload_n hx hb dX11_carries_1 rfl (lv_at hl 1 rfl) ?_
  obtain ⟨r_15, hc_14, hd⟩ := zob_some hd
  refine z_cvI F hw hl.1 (As := [.int p1]) (rest := []) (ztX11_isAxis l D cy sh ad h0 hc_14) zyX11_isAxis h0 zc11 zk11_194 ⟨rfl, rfl⟩ ⟨by decide, by decide⟩ rfl rfl (Nat.le_of_ble_eq_true rfl) dX11_carries_2 (fun H locs hw => ?_)
  refine lv_if_eq (tgt := 34) hx hb dX11_carries_5 (by decide) (fun c_16 => ?_) (fun c_16 => ?_)
  · have hd := zif_pos c_16 hd
    exact J34 _ _ _ _ (lv_sub hl [] rfl) hw hd
  · have hd := zif_neg c_16 hd
    refine lv_iload_n hx hb dX11_carries_8 rfl (lv_at hl 2 rfl) ?_
    refine lv_iconst (v := (1 : Int32)) hx hb dX11_carries_9 (by decide) ?_
    refine lv_sipush (v := (200 : Int32)) hx hb dX11_carries_10 (by decide) ?_
    obtain ⟨r_18, hc_17, hd⟩ := zob_some hd
    refine z_csI F hw hl.1 (As := [.int p2, .int (1 : Int32), .int (200 : Int32)]) (rest := []) (ztX11_isWithin l D cy sh ad  hc_17) zyX11_isWithin zk11_123 ⟨rfl, rfl⟩ ⟨by decide, by decide⟩ rfl rfl (Nat.le_of_ble_eq_true rfl) dX11_carries_13 (fun H locs hw => ?_)
    refine lv_if_eq (tgt := 34) hx hb dX11_carries_16 (by decide) (fun c_19 => ?_) (fun c_19 => ?_)
    · have hd := zif_pos c_19 hd
      exact J34 _ _ _ _ (lv_sub hl [] rfl) hw hd
    · have hd := zif_neg c_19 hd
      refine lv_aload_n hx hb dX11_carries_19 rfl (lv_at hl 0 rfl) ?_
      refine z_gR F hw h0 zc11 2 (by decide) rfl zf11_40 dX11_carries_20 ?_
      have t_20 : zT sh (zR M k0 2) 8 := hw.2.2.2.fld h0 2 8
      refine z_gR F hw t_20 zc8 0 (by decide) rfl zf11_308 dX11_carries_23 ?_
      have t_21 : zT sh (zR M (zR M k0 2) 0) 18 := hw.2.2.2.fld t_20 0 18
      refine lv_iload_n hx hb dX11_carries_26 rfl (lv_at hl 1 rfl) ?_
      obtain ⟨g_22, hd⟩ := zgd_some hd
      refine z_aald F hw t_21 (by decide) 5 rfl g_22 dX11_carries_27 ?_
      have t_23 : zT sh (zR M (zR M (zR M k0 2) 0) p1.toNatClampNeg) 7 := hw.2.2.2.arr t_21 _ 7 (zin_lt g_22)
      refine z_gI F hw t_23 zc7 5 (by decide) rfl zf11_324 dX11_carries_28 ?_
      refine lv_if_le (tgt := 36) hx hb dX11_carries_31 (by decide) (fun c_24 => ?_) (fun c_24 => ?_)
      · have hd := zif_pos c_24 hd
        refine lv_aload_n hx hb dX11_carries_36 rfl (lv_at hl 0 rfl) ?_
        refine z_gR F hw h0 zc11 3 (by decide) rfl zf11_44 dX11_carries_37 ?_
        have t_25 : zT sh (zR M k0 3) 8 := hw.2.2.2.fld h0 3 8
        refine z_gR F hw t_25 zc8 0 (by decide) rfl zf11_308 dX11_carries_40 ?_
        have t_26 : zT sh (zR M (zR M k0 3) 0) 18 := hw.2.2.2.fld t_25 0 18
        refine lv_iload_n hx hb dX11_carries_43 rfl (lv_at hl 1 rfl) ?_
        obtain ⟨g_27, hd⟩ := zgd_some hd
        refine z_aald F hw t_26 (by decide) 5 rfl g_27 dX11_carries_44 ?_
        have t_28 : zT sh (zR M (zR M (zR M k0 3) 0) p1.toNatClampNeg) 7 := hw.2.2.2.arr t_26 _ 7 (zin_lt g_27)
        refine lv_astore_n (lv' := [(3, .ref (ad (zR M (zR M (zR M k0 3) 0) p1.toNatClampNeg))), (0, .ref (ad k0)), (1, .int p1), (2, .int p2)]) hx hb dX11_carries_45 rfl hl (by decide) rfl (fun ls hl => ?_)
        refine lv_sipush (v := (2000 : Int32)) hx hb dX11_carries_46 (by decide) ?_
        refine lv_istore (lv' := [(4, .int (2000 : Int32)), (3, .ref (ad (zR M (zR M (zR M k0 3) 0) p1.toNatClampNeg))), (0, .ref (ad k0)), (1, .int p1), (2, .int p2)]) hx hb dX11_carries_49 hl (by decide) rfl (fun ls hl => ?_)
        exact L51 zF _ _ t_28 _ _ _ _ (lv_sub hl [2, 4, 1, 0] rfl) hw hd
      · have hd := zif_neg c_24 hd
        exact J34 _ _ _ _ (lv_sub hl [] rfl) hw hd

def zjX11_strain_19 (sh : zShp) (k0 : Nat) (p1 : Int32) (p2 : Int32)  (M : zMem) : Option (Int32 × zMem) :=
  some ((-1 : Int32), M)
def zbX11_strain_37 (sh : zShp) (k0 : Nat) (p1 : Int32) (p2 : Int32)  (kk37 : Int32 → Int32 → zMem → Option (Int32 × zMem)) (x3 : Int32) (x4 : Int32) (M : zMem) : Option (Int32 × zMem) :=
  if p2 ≤ x4 then (
  some (x3, M))
  else (
  zob (zX8_tick sh (zR M k0 3) (zR M k0 11) M) fun M_5 =>
  zgd (zin p1 (zlen sh (zR M_5 (zR M_5 k0 3) 0))) <|
  zob (zX7_angle sh (zR M_5 (zR M_5 (zR M_5 k0 3) 0) p1.toNatClampNeg) M_5) fun r_11 =>
  kk37 (zmax x3 (zabs r_11)) (x4 + (1 : Int32)) M_5)
def zlX11_strain_37 (sh : zShp) (k0 : Nat) (p1 : Int32) (p2 : Int32)  : Nat → Int32 → Int32 → zMem → Option (Int32 × zMem)
  | 0 => fun _ _ _ => none
  | n + 1 => fun x3 x4 M => zbX11_strain_37 sh k0 p1 p2  (zlX11_strain_37 sh k0 p1 p2  n) x3 x4 M
def zX11_strain (sh : zShp) (k0 : Nat) (p1 : Int32) (p2 : Int32) (M : zMem) : Option (Int32 × zMem) :=
  zob (zX11_isAxis sh k0 p1 M) fun r_13 =>
  if r_13 = 0 then (
  zjX11_strain_19 sh k0 p1 p2 M)
  else (
  zob (zX11_isWithin sh p2 (1 : Int32) (1000 : Int32) M) fun r_16 =>
  if r_16 = 0 then (
  zjX11_strain_19 sh k0 p1 p2 M)
  else (
  zob (zX8_copyFrom sh (zR M k0 3) (zR M k0 2) M) fun M_21 =>
  zlX11_strain_37 sh k0 p1 p2 zF (0 : Int32) (0 : Int32) M_21))
set_option maxHeartbeats 4000000 in
set_option maxRecDepth 100000 in
theorem ztX11_strain (l : Launch) (D : va_G) (cy : Nat → ClassId) (sh : zShp) (ad : Nat → Nat) {k0 : Nat} {p1 : Int32} {p2 : Int32} (h0 : zT sh k0 11) {M : zMem} {r : Int32} {M1 : zMem} (hd : zX11_strain sh k0 p1 p2 M = some (r, M1)) : zCI l yX11_strain cX11_strain 5 .int { frames := 6, cells := 0, slots := 0, locals := 144 } [.ref (ad k0), .int p1, .int p2] D cy sh ad M r M1 := by
  refine zci_of (by decide) (Nat.le_of_ble_eq_true rfl) (fun p e s m below meth c ls F hr hlk hl hw => ?_)
  have hx := F.1.1
  have hb := F.1.2.1
  have hl : lv_has ls 5 [(0, .ref (ad k0)), (1, .int p1), (2, .int p2)] := hl
  have J19 : ∀ (M : zMem) (H : Heap) (locs : List Loc) (ls : Array Slot), lv_has ls 5 [] → zWd D cy sh ad s M H locs → zjX11_strain_19 sh k0 p1 p2  M = some (r, M1) → W p l e { frames := 6, cells := 0, slots := 0, locals := 144 } s m ([.ref (ad k0), .int p1, .int p2] : List Value).toArray below meth c H locs 0 0 (zQI below D cy sh ad s [.ref (ad k0), .int p1, .int p2] r M1) (F0 m 19 ls []) := by
    intro  M H locs ls hl hw hd
    unfold zjX11_strain_19 at hd
    refine lv_iconst (v := (-1 : Int32)) hx hb dX11_strain_19 (by decide) ?_
    exact z_iret F hr hlk hw (zpr1 hd) (zpr2 hd) dX11_strain_20
  have L37 : ∀  (n : Nat), ∀ (x3 : Int32) (x4 : Int32) (M : zMem) (H : Heap) (locs : List Loc) (ls : Array Slot), lv_has ls 5 [(0, .ref (ad k0)), (1, .int p1), (2, .int p2), (3, .int x3), (4, .int x4)] → zWd D cy sh ad s M H locs → zlX11_strain_37 sh k0 p1 p2  n x3 x4 M = some (r, M1) → W p l e { frames := 6, cells := 0, slots := 0, locals := 144 } s m ([.ref (ad k0), .int p1, .int p2] : List Value).toArray below meth c H locs 0 0 (zQI below D cy sh ad s [.ref (ad k0), .int p1, .int p2] r M1) (F0 m 37 ls []) := by
    intro  n
    induction n with
    | zero => intro x3 x4 M H locs ls hl hw hd; exact (znone hd).elim
    | succ n hk37 =>
      intro x3 x4 M H locs ls hl hw hd
      have hd : zbX11_strain_37 sh k0 p1 p2  (zlX11_strain_37 sh k0 p1 p2  n) x3 x4 M = some (r, M1) := hd
      unfold zbX11_strain_37 at hd
      refine lv_iload hx hb dX11_strain_37 (lv_at hl 4 rfl) ?_
      refine lv_iload_n hx hb dX11_strain_39 rfl (lv_at hl 2 rfl) ?_
      refine lv_icmp_ge (tgt := 80) hx hb dX11_strain_40 (by decide) (fun c_1 => ?_) (fun c_1 => ?_)
      · have hd := zif_pos c_1 hd
        refine lv_iload_n hx hb dX11_strain_80 rfl (lv_at hl 3 rfl) ?_
        exact z_iret F hr hlk hw (zpr1 hd) (zpr2 hd) dX11_strain_81
      · have hd := zif_neg c_1 hd
        refine lv_aload_n hx hb dX11_strain_43 rfl (lv_at hl 0 rfl) ?_
        refine z_gR F hw h0 zc11 3 (by decide) rfl zf11_44 dX11_strain_44 ?_
        have t_2 : zT sh (zR M k0 3) 8 := hw.2.2.2.fld h0 3 8
        refine lv_aload_n hx hb dX11_strain_47 rfl (lv_at hl 0 rfl) ?_
        refine z_gR F hw h0 zc11 11 (by decide) rfl zf11_12 dX11_strain_48 ?_
        have t_3 : zT sh (zR M k0 11) 1 := hw.2.2.2.fld h0 11 1
        obtain ⟨M_5, hc_4, hd⟩ := zob_some hd
        refine z_cvV F hw hl.1 (As := [.ref (ad (zR M k0 11))]) (rest := []) (ztX8_tick l D cy sh ad t_2 t_3 hc_4) zyX8_tick t_2 zc8 zk11_292 ⟨rfl, rfl⟩ ⟨by decide, by decide⟩ rfl rfl (Nat.le_of_ble_eq_true rfl) dX11_strain_51 (fun H locs hw => ?_)
        refine lv_iload_n hx hb dX11_strain_54 rfl (lv_at hl 3 rfl) ?_
        refine lv_aload_n hx hb dX11_strain_55 rfl (lv_at hl 0 rfl) ?_
        refine z_gR F hw h0 zc11 3 (by decide) rfl zf11_44 dX11_strain_56 ?_
        have t_6 : zT sh (zR M_5 k0 3) 8 := hw.2.2.2.fld h0 3 8
        refine z_gR F hw t_6 zc8 0 (by decide) rfl zf11_308 dX11_strain_59 ?_
        have t_7 : zT sh (zR M_5 (zR M_5 k0 3) 0) 18 := hw.2.2.2.fld t_6 0 18
        refine lv_iload_n hx hb dX11_strain_62 rfl (lv_at hl 1 rfl) ?_
        obtain ⟨g_8, hd⟩ := zgd_some hd
        refine z_aald F hw t_7 (by decide) 5 rfl g_8 dX11_strain_63 ?_
        have t_9 : zT sh (zR M_5 (zR M_5 (zR M_5 k0 3) 0) p1.toNatClampNeg) 7 := hw.2.2.2.arr t_7 _ 7 (zin_lt g_8)
        obtain ⟨r_11, hc_10, hd⟩ := zob_some hd
        refine z_cvI F hw hl.1 (As := []) (rest := [.int x3]) (ztX7_angle l D cy sh ad t_9 hc_10) zyX7_angle t_9 zc7 zk11_352 ⟨rfl, rfl⟩ ⟨by decide, by decide⟩ rfl rfl (Nat.le_of_ble_eq_true rfl) dX11_strain_64 (fun H locs hw => ?_)
        refine z_mabs F hl.1 zk11_230 (by decide) (Nat.le_of_ble_eq_true rfl) dX11_strain_67 ?_
        refine z_mmax F hl.1 zk11_235 (by decide) (Nat.le_of_ble_eq_true rfl) dX11_strain_70 ?_
        refine lv_istore_n (lv' := [(3, .int (zmax x3 (zabs r_11))), (0, .ref (ad k0)), (1, .int p1), (2, .int p2), (4, .int x4)]) hx hb dX11_strain_73 rfl hl (by decide) rfl (fun ls hl => ?_)
        refine lv_iinc (v := (x4 + (1 : Int32))) (lv' := [(4, .int (x4 + (1 : Int32))), (3, .int (zmax x3 (zabs r_11))), (0, .ref (ad k0)), (1, .int p1), (2, .int p2)]) hx hb dX11_strain_74 hl (k := 4) rfl (ziinc (by decide)) (by decide) rfl (fun ls hl => ?_)
        refine lv_goto (tgt := 37) hx hb dX11_strain_77 (by decide) ?_
        exact hk37 _ _ _ _ _ _ (lv_sub hl [2, 3, 4, 1, 0] rfl) hw hd
  unfold zX11_strain at hd
  refine lv_aload_n hx hb dX11_strain_0 rfl (lv_at hl 0 rfl) ?_
  refine lv_iload_n hx hb dX11_strain_1 rfl (lv_at hl 1 rfl) ?_
  obtain ⟨r_13, hc_12, hd⟩ := zob_some hd
  refine z_cvI F hw hl.1 (As := [.int p1]) (rest := []) (ztX11_isAxis l D cy sh ad h0 hc_12) zyX11_isAxis h0 zc11 zk11_194 ⟨rfl, rfl⟩ ⟨by decide, by decide⟩ rfl rfl (Nat.le_of_ble_eq_true rfl) dX11_strain_2 (fun H locs hw => ?_)
  refine lv_if_eq (tgt := 19) hx hb dX11_strain_5 (by decide) (fun c_14 => ?_) (fun c_14 => ?_)
  · have hd := zif_pos c_14 hd
    exact J19 _ _ _ _ (lv_sub hl [] rfl) hw hd
  · have hd := zif_neg c_14 hd
    refine lv_iload_n hx hb dX11_strain_8 rfl (lv_at hl 2 rfl) ?_
    refine lv_iconst (v := (1 : Int32)) hx hb dX11_strain_9 (by decide) ?_
    refine lv_sipush (v := (1000 : Int32)) hx hb dX11_strain_10 (by decide) ?_
    obtain ⟨r_16, hc_15, hd⟩ := zob_some hd
    refine z_csI F hw hl.1 (As := [.int p2, .int (1 : Int32), .int (1000 : Int32)]) (rest := []) (ztX11_isWithin l D cy sh ad  hc_15) zyX11_isWithin zk11_123 ⟨rfl, rfl⟩ ⟨by decide, by decide⟩ rfl rfl (Nat.le_of_ble_eq_true rfl) dX11_strain_13 (fun H locs hw => ?_)
    refine lv_if_ne (tgt := 21) hx hb dX11_strain_16 (by decide) (fun c_17 => ?_) (fun c_17 => ?_)
    · have hd := zif_neg c_17 hd
      refine lv_iconst (v := (0 : Int32)) hx hb dX11_strain_21 (by decide) ?_
      refine lv_istore_n (lv' := [(3, .int (0 : Int32)), (0, .ref (ad k0)), (1, .int p1), (2, .int p2)]) hx hb dX11_strain_22 rfl hl (by decide) rfl (fun ls hl => ?_)
      refine lv_aload_n hx hb dX11_strain_23 rfl (lv_at hl 1 rfl) ?_
      refine z_gR F hw h0 zc11 3 (by decide) rfl zf11_44 dX11_strain_24 ?_
      have t_18 : zT sh (zR M k0 3) 8 := hw.2.2.2.fld h0 3 8
      refine lv_aload_n hx hb dX11_strain_27 rfl (lv_at hl 1 rfl) ?_
      refine z_gR F hw h0 zc11 2 (by decide) rfl zf11_40 dX11_strain_28 ?_
      have t_19 : zT sh (zR M k0 2) 8 := hw.2.2.2.fld h0 2 8
      obtain ⟨M_21, hc_20, hd⟩ := zob_some hd
      refine z_cvV F hw hl.1 (As := [.ref (ad (zR M k0 2))]) (rest := []) (ztX8_copyFrom l D cy sh ad t_18 t_19 hc_20) zyX8_copyFrom t_18 zc8 zk11_361 ⟨rfl, rfl⟩ ⟨by decide, by decide⟩ rfl rfl (Nat.le_of_ble_eq_true rfl) dX11_strain_31 (fun H locs hw => ?_)
      refine lv_iconst (v := (0 : Int32)) hx hb dX11_strain_34 (by decide) ?_
      refine lv_istore (lv' := [(4, .int (0 : Int32)), (3, .int (0 : Int32)), (0, .ref (ad k0)), (1, .int p1), (2, .int p2)]) hx hb dX11_strain_35 hl (by decide) rfl (fun ls hl => ?_)
      exact L37 zF _ _ _ _ _ _ (lv_sub hl [2, 3, 4, 1, 0] rfl) hw hd
    · have hd := zif_pos c_17 hd
      exact J19 _ _ _ _ (lv_sub hl [] rfl) hw hd

def zX11_isLetGo (sh : zShp) (p0 : Int32) (M : zMem) : Option (Int32) :=
  zob (zX11_isWithin sh p0 (-1023 : Int32) (1023 : Int32) M) fun r_2 =>
  zgd (zisB r_2) <|
  some r_2
set_option maxHeartbeats 4000000 in
set_option maxRecDepth 100000 in
theorem ztX11_isLetGo (l : Launch) (D : va_G) (cy : Nat → ClassId) (sh : zShp) (ad : Nat → Nat) {p0 : Int32}  {M : zMem} {r : Int32} (hd : zX11_isLetGo sh p0 M = some r) : zCI l yX11_isLetGo cX11_isLetGo 1 .boolean { frames := 1, cells := 0, slots := 0, locals := 22 } [.int p0] D cy sh ad M r M := by
  refine zci_of (by decide) (Nat.le_of_ble_eq_true rfl) (fun p e s m below meth c ls F hr hlk hl hw => ?_)
  have hx := F.1.1
  have hb := F.1.2.1
  have hl : lv_has ls 1 [(0, .int p0)] := hl
  unfold zX11_isLetGo at hd
  refine lv_iload_n hx hb dX11_isLetGo_0 rfl (lv_at hl 0 rfl) ?_
  refine lv_sipush (v := (-1023 : Int32)) hx hb dX11_isLetGo_1 (by decide) ?_
  refine lv_sipush (v := (1023 : Int32)) hx hb dX11_isLetGo_4 (by decide) ?_
  obtain ⟨r_2, hc_1, hd⟩ := zob_some hd
  refine z_csI F hw hl.1 (As := [.int p0, .int (-1023 : Int32), .int (1023 : Int32)]) (rest := []) (ztX11_isWithin l D cy sh ad  hc_1) zyX11_isWithin zk11_123 ⟨rfl, rfl⟩ ⟨by decide, by decide⟩ rfl rfl (Nat.le_of_ble_eq_true rfl) dX11_isLetGo_7 (fun H locs hw => ?_)
  obtain ⟨g_3, hd⟩ := zgd_some hd
  exact z_zret F hr hlk hw g_3 (Option.some.inj hd) rfl dX11_isLetGo_10

def zJ6_signum_0f7a4 (sh : zShp) (p0 : Int32) (M : zMem) : Option (Int32) :=
  some ((p0 >>> ((31 : Int32) &&& 31)) ||| (((-p0).toUInt32 >>> ((31 : Int32).toUInt32 &&& Int32.toUInt32 31)).toInt32))
set_option maxHeartbeats 4000000 in
set_option maxRecDepth 100000 in
theorem ztJ6_signum_0f7a4 (l : Launch) (D : va_G) (cy : Nat → ClassId) (sh : zShp) (ad : Nat → Nat) {p0 : Int32}  {M : zMem} {r : Int32} (hd : zJ6_signum_0f7a4 sh p0 M = some r) : zCI l yJ6_signum_0f7a4 cJ6_signum_0f7a4 1 .int { frames := 0, cells := 0, slots := 0, locals := 0 } [.int p0] D cy sh ad M r M := by
  refine zci_ofF (by decide +kernel) (Nat.le_of_ble_eq_true rfl) (fun p e s m below meth c ls F hr hlk hl hw => ?_)
  have hx := F.1.1
  have hb := F.1.2.1
  have hl : lv_has ls 1 [(0, .int p0)] := hl
  unfold zJ6_signum_0f7a4 at hd
  refine lv_iload_n hx hb dJ6_signum_0f7a4_0 rfl (lv_at hl 0 rfl) ?_
  refine lv_bipush (v := (31 : Int32)) hx hb dJ6_signum_0f7a4_1 (by decide) ?_
  refine lv_ishr hx hb dJ6_signum_0f7a4_3 ?_
  refine lv_iload_n hx hb dJ6_signum_0f7a4_4 rfl (lv_at hl 0 rfl) ?_
  refine lv_ineg hx hb dJ6_signum_0f7a4_5 ?_
  refine lv_bipush (v := (31 : Int32)) hx hb dJ6_signum_0f7a4_6 (by decide) ?_
  refine lv_iushr (v := ((-p0).toUInt32 >>> ((31 : Int32).toUInt32 &&& Int32.toUInt32 31)).toInt32) hx hb dJ6_signum_0f7a4_8 rfl ?_
  refine lv_ior hx hb dJ6_signum_0f7a4_9 ?_
  exact z_iret F hr hlk hw (Option.some.inj hd) rfl dJ6_signum_0f7a4_10

def zjX11_swings_26 (sh : zShp) (k0 : Nat) (p1 : Int32) (p2 : Int32) (p3 : Int32)  (M : zMem) : Option (Int32 × zMem) :=
  some ((-1 : Int32), M)
def zjX11_swings_108 (sh : zShp) (k0 : Nat) (p1 : Int32) (p2 : Int32) (p3 : Int32) (kk57 : Int32 → Int32 → Int32 → zMem → Option (Int32 × zMem)) (x4 : Int32) (x6 : Int32) (x7 : Int32) (M : zMem) : Option (Int32 × zMem) :=
  kk57 x4 x7 (x6 + (1 : Int32)) M
def zbX11_swings_57 (sh : zShp) (k0 : Nat) (p1 : Int32) (p2 : Int32) (p3 : Int32)  (kk57 : Int32 → Int32 → Int32 → zMem → Option (Int32 × zMem)) (x4 : Int32) (x5 : Int32) (x6 : Int32) (M : zMem) : Option (Int32 × zMem) :=
  if p3 ≤ x6 then (
  some (x4, M))
  else (
  zgd (zin p1 (zlen sh (zR M (zR M k0 11) 0))) <|
  zob (zX7_turn sh (zR M k0 7) (zR M (zR M (zR M k0 11) 0) p1.toNatClampNeg) (zR M (zR M k0 11) 4) M) fun M_10 =>
  zob (zJ6_signum_0f7a4 sh (zI M_10 (zR M_10 k0 7) 2) M_10) fun r_13 =>
  if r_13 = x5 then (
  zjX11_swings_108 sh k0 p1 p2 p3 kk57 x4 x6 r_13 M_10)
  else (
  zjX11_swings_108 sh k0 p1 p2 p3 kk57 (x4 + (1 : Int32)) x6 r_13 M_10))
def zlX11_swings_57 (sh : zShp) (k0 : Nat) (p1 : Int32) (p2 : Int32) (p3 : Int32)  : Nat → Int32 → Int32 → Int32 → zMem → Option (Int32 × zMem)
  | 0 => fun _ _ _ _ => none
  | n + 1 => fun x4 x5 x6 M => zbX11_swings_57 sh k0 p1 p2 p3  (zlX11_swings_57 sh k0 p1 p2 p3  n) x4 x5 x6 M
def zX11_swings (sh : zShp) (k0 : Nat) (p1 : Int32) (p2 : Int32) (p3 : Int32) (M : zMem) : Option (Int32 × zMem) :=
  zob (zX11_isAxis sh k0 p1 M) fun r_16 =>
  if r_16 = 0 then (
  zjX11_swings_26 sh k0 p1 p2 p3 M)
  else (
  zob (zX11_isLetGo sh p2 M) fun r_19 =>
  if r_19 = 0 then (
  zjX11_swings_26 sh k0 p1 p2 p3 M)
  else (
  zob (zX11_isWithin sh p3 (1 : Int32) (500 : Int32) M) fun r_22 =>
  if r_22 = 0 then (
  zjX11_swings_26 sh k0 p1 p2 p3 M)
  else (
  zgd (zin p1 (zlen sh (zR M (zR M k0 2) 0))) <|
  zob (zX7_letGo sh (zR M k0 7) (zI M (zR M (zR M (zR M k0 2) 0) p1.toNatClampNeg) 3) p2 M) fun M_30 =>
  zlX11_swings_57 sh k0 p1 p2 p3 zF (0 : Int32) (0 : Int32) (0 : Int32) M_30)))
set_option maxHeartbeats 4000000 in
set_option maxRecDepth 100000 in
theorem ztX11_swings (l : Launch) (D : va_G) (cy : Nat → ClassId) (sh : zShp) (ad : Nat → Nat) {k0 : Nat} {p1 : Int32} {p2 : Int32} {p3 : Int32} (h0 : zT sh k0 11) {M : zMem} {r : Int32} {M1 : zMem} (hd : zX11_swings sh k0 p1 p2 p3 M = some (r, M1)) : zCI l yX11_swings cX11_swings 8 .int { frames := 3, cells := 0, slots := 0, locals := 68 } [.ref (ad k0), .int p1, .int p2, .int p3] D cy sh ad M r M1 := by
  refine zci_of (by decide) (Nat.le_of_ble_eq_true rfl) (fun p e s m below meth c ls F hr hlk hl hw => ?_)
  have hx := F.1.1
  have hb := F.1.2.1
  have hl : lv_has ls 8 [(0, .ref (ad k0)), (1, .int p1), (2, .int p2), (3, .int p3)] := hl
  have J26 : ∀ (M : zMem) (H : Heap) (locs : List Loc) (ls : Array Slot), lv_has ls 8 [] → zWd D cy sh ad s M H locs → zjX11_swings_26 sh k0 p1 p2 p3  M = some (r, M1) → W p l e { frames := 3, cells := 0, slots := 0, locals := 68 } s m ([.ref (ad k0), .int p1, .int p2, .int p3] : List Value).toArray below meth c H locs 0 0 (zQI below D cy sh ad s [.ref (ad k0), .int p1, .int p2, .int p3] r M1) (F0 m 26 ls []) := by
    intro  M H locs ls hl hw hd
    unfold zjX11_swings_26 at hd
    refine lv_iconst (v := (-1 : Int32)) hx hb dX11_swings_26 (by decide) ?_
    exact z_iret F hr hlk hw (zpr1 hd) (zpr2 hd) dX11_swings_27
  have J108 : ∀ (kk57 : Int32 → Int32 → Int32 → zMem → Option (Int32 × zMem)) (hk57 : ∀ (x4 : Int32) (x5 : Int32) (x6 : Int32) (M : zMem) (H : Heap) (locs : List Loc) (ls : Array Slot), lv_has ls 8 [(0, .ref (ad k0)), (1, .int p1), (3, .int p3), (4, .int x4), (5, .int x5), (6, .int x6)] → zWd D cy sh ad s M H locs → kk57 x4 x5 x6 M = some (r, M1) → W p l e { frames := 3, cells := 0, slots := 0, locals := 68 } s m ([.ref (ad k0), .int p1, .int p2, .int p3] : List Value).toArray below meth c H locs 0 0 (zQI below D cy sh ad s [.ref (ad k0), .int p1, .int p2, .int p3] r M1) (F0 m 57 ls [])), ∀ (x4 : Int32) (x6 : Int32) (x7 : Int32) (M : zMem) (H : Heap) (locs : List Loc) (ls : Array Slot), lv_has ls 8 [(0, .ref (ad k0)), (1, .int p1), (3, .int p3), (4, .int x4), (6, .int x6), (7, .int x7)] → zWd D cy sh ad s M H locs → zjX11_swings_108 sh k0 p1 p2 p3 kk57 x4 x6 x7 M = some (r, M1) → W p l e { frames := 3, cells := 0, slots := 0, locals := 68 } s m ([.ref (ad k0), .int p1, .int p2, .int p3] : List Value).toArray below meth c H locs 0 0 (zQI below D cy sh ad s [.ref (ad k0), .int p1, .int p2, .int p3] r M1) (F0 m 108 ls []) := by
    intro kk57 hk57 x4 x6 x7 M H locs ls hl hw hd
    unfold zjX11_swings_108 at hd
    refine lv_iload hx hb dX11_swings_108 (lv_at hl 5 rfl) ?_
    refine lv_istore (lv' := [(5, .int x7), (0, .ref (ad k0)), (1, .int p1), (3, .int p3), (4, .int x4), (6, .int x6), (7, .int x7)]) hx hb dX11_swings_110 hl (by decide) rfl (fun ls hl => ?_)
    refine lv_iinc (v := (x6 + (1 : Int32))) (lv' := [(6, .int (x6 + (1 : Int32))), (5, .int x7), (0, .ref (ad k0)), (1, .int p1), (3, .int p3), (4, .int x4), (7, .int x7)]) hx hb dX11_swings_112 hl (k := 5) rfl (ziinc (by decide)) (by decide) rfl (fun ls hl => ?_)
    refine lv_goto (tgt := 57) hx hb dX11_swings_115 (by decide) ?_
    exact hk57 _ _ _ _ _ _ _ (lv_sub hl [2, 3, 4, 5, 1, 0] rfl) hw hd
  have L57 : ∀  (n : Nat), ∀ (x4 : Int32) (x5 : Int32) (x6 : Int32) (M : zMem) (H : Heap) (locs : List Loc) (ls : Array Slot), lv_has ls 8 [(0, .ref (ad k0)), (1, .int p1), (3, .int p3), (4, .int x4), (5, .int x5), (6, .int x6)] → zWd D cy sh ad s M H locs → zlX11_swings_57 sh k0 p1 p2 p3  n x4 x5 x6 M = some (r, M1) → W p l e { frames := 3, cells := 0, slots := 0, locals := 68 } s m ([.ref (ad k0), .int p1, .int p2, .int p3] : List Value).toArray below meth c H locs 0 0 (zQI below D cy sh ad s [.ref (ad k0), .int p1, .int p2, .int p3] r M1) (F0 m 57 ls []) := by
    intro  n
    induction n with
    | zero => intro x4 x5 x6 M H locs ls hl hw hd; exact (znone hd).elim
    | succ n hk57 =>
      intro x4 x5 x6 M H locs ls hl hw hd
      have hd : zbX11_swings_57 sh k0 p1 p2 p3  (zlX11_swings_57 sh k0 p1 p2 p3  n) x4 x5 x6 M = some (r, M1) := hd
      unfold zbX11_swings_57 at hd
      refine lv_iload hx hb dX11_swings_57 (lv_at hl 5 rfl) ?_
      refine lv_iload_n hx hb dX11_swings_59 rfl (lv_at hl 2 rfl) ?_
      refine lv_icmp_ge (tgt := 118) hx hb dX11_swings_60 (by decide) (fun c_1 => ?_) (fun c_1 => ?_)
      · have hd := zif_pos c_1 hd
        refine lv_iload hx hb dX11_swings_118 (lv_at hl 3 rfl) ?_
        exact z_iret F hr hlk hw (zpr1 hd) (zpr2 hd) dX11_swings_120
      · have hd := zif_neg c_1 hd
        refine lv_aload_n hx hb dX11_swings_63 rfl (lv_at hl 0 rfl) ?_
        refine z_gR F hw h0 zc11 7 (by decide) rfl zf11_71 dX11_swings_64 ?_
        have t_2 : zT sh (zR M k0 7) 7 := hw.2.2.2.fld h0 7 7
        refine lv_aload_n hx hb dX11_swings_67 rfl (lv_at hl 0 rfl) ?_
        refine z_gR F hw h0 zc11 11 (by decide) rfl zf11_12 dX11_swings_68 ?_
        have t_3 : zT sh (zR M k0 11) 1 := hw.2.2.2.fld h0 11 1
        refine z_gR F hw t_3 zc1 0 (by decide) rfl zf11_330 dX11_swings_71 ?_
        have t_4 : zT sh (zR M (zR M k0 11) 0) 17 := hw.2.2.2.fld t_3 0 17
        refine lv_iload_n hx hb dX11_swings_74 rfl (lv_at hl 1 rfl) ?_
        obtain ⟨g_5, hd⟩ := zgd_some hd
        refine z_aald F hw t_4 (by decide) 4 rfl g_5 dX11_swings_75 ?_
        have t_6 : zT sh (zR M (zR M (zR M k0 11) 0) p1.toNatClampNeg) 0 := hw.2.2.2.arr t_4 _ 0 (zin_lt g_5)
        refine lv_aload_n hx hb dX11_swings_76 rfl (lv_at hl 0 rfl) ?_
        refine z_gR F hw h0 zc11 11 (by decide) rfl zf11_12 dX11_swings_77 ?_
        have t_7 : zT sh (zR M k0 11) 1 := hw.2.2.2.fld h0 11 1
        refine z_gR F hw t_7 zc1 4 (by decide) rfl zf11_128 dX11_swings_80 ?_
        have t_8 : zT sh (zR M (zR M k0 11) 4) 9 := hw.2.2.2.fld t_7 4 9
        obtain ⟨M_10, hc_9, hd⟩ := zob_some hd
        refine z_cvV F hw hl.1 (As := [.ref (ad (zR M (zR M (zR M k0 11) 0) p1.toNatClampNeg)), .ref (ad (zR M (zR M k0 11) 4))]) (rest := []) (ztX7_turn l D cy sh ad t_2 t_6 t_8 hc_9) zyX7_turn t_2 zc7 zk11_375 ⟨rfl, rfl⟩ ⟨by decide, by decide⟩ rfl rfl (Nat.le_of_ble_eq_true rfl) dX11_swings_83 (fun H locs hw => ?_)
        refine lv_aload_n hx hb dX11_swings_86 rfl (lv_at hl 0 rfl) ?_
        refine z_gR F hw h0 zc11 7 (by decide) rfl zf11_71 dX11_swings_87 ?_
        have t_11 : zT sh (zR M_10 k0 7) 7 := hw.2.2.2.fld h0 7 7
        refine z_gI F hw t_11 zc7 2 (by decide) rfl zf11_349 dX11_swings_90 ?_
        obtain ⟨r_13, hc_12, hd⟩ := zob_some hd
        refine z_csI F hw hl.1 (As := [.int (zI M_10 (zR M_10 k0 7) 2)]) (rest := []) (ztJ6_signum_0f7a4 l D cy sh ad  hc_12) zyJ6_signum_0f7a4 zk11_379 ⟨rfl, rfl⟩ ⟨by decide, by decide⟩ rfl rfl (Nat.le_of_ble_eq_true rfl) dX11_swings_93 (fun H locs hw => ?_)
        refine lv_istore (lv' := [(7, .int r_13), (0, .ref (ad k0)), (1, .int p1), (3, .int p3), (4, .int x4), (5, .int x5), (6, .int x6)]) hx hb dX11_swings_96 hl (by decide) rfl (fun ls hl => ?_)
        refine lv_iload hx hb dX11_swings_98 (lv_at hl 0 rfl) ?_
        refine lv_iload hx hb dX11_swings_100 (lv_at hl 5 rfl) ?_
        refine lv_icmp_eq (tgt := 108) hx hb dX11_swings_102 (by decide) (fun c_14 => ?_) (fun c_14 => ?_)
        · have hd := zif_pos c_14 hd
          exact J108 _ hk57 _ _ _ _ _ _ _ (lv_sub hl [1, 2, 3, 4, 6, 0] rfl) hw hd
        · have hd := zif_neg c_14 hd
          refine lv_iinc (v := (x4 + (1 : Int32))) (lv' := [(4, .int (x4 + (1 : Int32))), (7, .int r_13), (0, .ref (ad k0)), (1, .int p1), (3, .int p3), (5, .int x5), (6, .int x6)]) hx hb dX11_swings_105 hl (k := 4) rfl (ziinc (by decide)) (by decide) rfl (fun ls hl => ?_)
          exact J108 _ hk57 _ _ _ _ _ _ _ (lv_sub hl [2, 3, 4, 0, 6, 1] rfl) hw hd
  unfold zX11_swings at hd
  refine lv_aload_n hx hb dX11_swings_0 rfl (lv_at hl 0 rfl) ?_
  refine lv_iload_n hx hb dX11_swings_1 rfl (lv_at hl 1 rfl) ?_
  obtain ⟨r_16, hc_15, hd⟩ := zob_some hd
  refine z_cvI F hw hl.1 (As := [.int p1]) (rest := []) (ztX11_isAxis l D cy sh ad h0 hc_15) zyX11_isAxis h0 zc11 zk11_194 ⟨rfl, rfl⟩ ⟨by decide, by decide⟩ rfl rfl (Nat.le_of_ble_eq_true rfl) dX11_swings_2 (fun H locs hw => ?_)
  refine lv_if_eq (tgt := 26) hx hb dX11_swings_5 (by decide) (fun c_17 => ?_) (fun c_17 => ?_)
  · have hd := zif_pos c_17 hd
    exact J26 _ _ _ _ (lv_sub hl [] rfl) hw hd
  · have hd := zif_neg c_17 hd
    refine lv_iload_n hx hb dX11_swings_8 rfl (lv_at hl 2 rfl) ?_
    obtain ⟨r_19, hc_18, hd⟩ := zob_some hd
    refine z_csI F hw hl.1 (As := [.int p2]) (rest := []) (ztX11_isLetGo l D cy sh ad  hc_18) zyX11_isLetGo zk11_368 ⟨rfl, rfl⟩ ⟨by decide, by decide⟩ rfl rfl (Nat.le_of_ble_eq_true rfl) dX11_swings_9 (fun H locs hw => ?_)
    refine lv_if_eq (tgt := 26) hx hb dX11_swings_12 (by decide) (fun c_20 => ?_) (fun c_20 => ?_)
    · have hd := zif_pos c_20 hd
      exact J26 _ _ _ _ (lv_sub hl [] rfl) hw hd
    · have hd := zif_neg c_20 hd
      refine lv_iload_n hx hb dX11_swings_15 rfl (lv_at hl 3 rfl) ?_
      refine lv_iconst (v := (1 : Int32)) hx hb dX11_swings_16 (by decide) ?_
      refine lv_sipush (v := (500 : Int32)) hx hb dX11_swings_17 (by decide) ?_
      obtain ⟨r_22, hc_21, hd⟩ := zob_some hd
      refine z_csI F hw hl.1 (As := [.int p3, .int (1 : Int32), .int (500 : Int32)]) (rest := []) (ztX11_isWithin l D cy sh ad  hc_21) zyX11_isWithin zk11_123 ⟨rfl, rfl⟩ ⟨by decide, by decide⟩ rfl rfl (Nat.le_of_ble_eq_true rfl) dX11_swings_20 (fun H locs hw => ?_)
      refine lv_if_ne (tgt := 28) hx hb dX11_swings_23 (by decide) (fun c_23 => ?_) (fun c_23 => ?_)
      · have hd := zif_neg c_23 hd
        refine lv_iconst (v := (0 : Int32)) hx hb dX11_swings_28 (by decide) ?_
        refine lv_istore (lv' := [(4, .int (0 : Int32)), (0, .ref (ad k0)), (1, .int p1), (2, .int p2), (3, .int p3)]) hx hb dX11_swings_29 hl (by decide) rfl (fun ls hl => ?_)
        refine lv_iconst (v := (0 : Int32)) hx hb dX11_swings_31 (by decide) ?_
        refine lv_istore (lv' := [(5, .int (0 : Int32)), (4, .int (0 : Int32)), (0, .ref (ad k0)), (1, .int p1), (2, .int p2), (3, .int p3)]) hx hb dX11_swings_32 hl (by decide) rfl (fun ls hl => ?_)
        refine lv_aload_n hx hb dX11_swings_34 rfl (lv_at hl 2 rfl) ?_
        refine z_gR F hw h0 zc11 7 (by decide) rfl zf11_71 dX11_swings_35 ?_
        have t_24 : zT sh (zR M k0 7) 7 := hw.2.2.2.fld h0 7 7
        refine lv_aload_n hx hb dX11_swings_38 rfl (lv_at hl 2 rfl) ?_
        refine z_gR F hw h0 zc11 2 (by decide) rfl zf11_40 dX11_swings_39 ?_
        have t_25 : zT sh (zR M k0 2) 8 := hw.2.2.2.fld h0 2 8
        refine z_gR F hw t_25 zc8 0 (by decide) rfl zf11_308 dX11_swings_42 ?_
        have t_26 : zT sh (zR M (zR M k0 2) 0) 18 := hw.2.2.2.fld t_25 0 18
        refine lv_iload_n hx hb dX11_swings_45 rfl (lv_at hl 3 rfl) ?_
        obtain ⟨g_27, hd⟩ := zgd_some hd
        refine z_aald F hw t_26 (by decide) 5 rfl g_27 dX11_swings_46 ?_
        have t_28 : zT sh (zR M (zR M (zR M k0 2) 0) p1.toNatClampNeg) 7 := hw.2.2.2.arr t_26 _ 7 (zin_lt g_27)
        refine z_gI F hw t_28 zc7 3 (by decide) rfl zf11_315 dX11_swings_47 ?_
        refine lv_iload_n hx hb dX11_swings_50 rfl (lv_at hl 4 rfl) ?_
        obtain ⟨M_30, hc_29, hd⟩ := zob_some hd
        refine z_cvV F hw hl.1 (As := [.int (zI M (zR M (zR M (zR M k0 2) 0) p1.toNatClampNeg) 3), .int p2]) (rest := []) (ztX7_letGo l D cy sh ad t_24 hc_29) zyX7_letGo t_24 zc7 zk11_371 ⟨rfl, rfl⟩ ⟨by decide, by decide⟩ rfl rfl (Nat.le_of_ble_eq_true rfl) dX11_swings_51 (fun H locs hw => ?_)
        refine lv_iconst (v := (0 : Int32)) hx hb dX11_swings_54 (by decide) ?_
        refine lv_istore (lv' := [(6, .int (0 : Int32)), (5, .int (0 : Int32)), (4, .int (0 : Int32)), (0, .ref (ad k0)), (1, .int p1), (2, .int p2), (3, .int p3)]) hx hb dX11_swings_55 hl (by decide) rfl (fun ls hl => ?_)
        exact L57 zF _ _ _ _ _ _ _ (lv_sub hl [3, 4, 6, 2, 1, 0] rfl) hw hd
      · have hd := zif_pos c_23 hd
        exact J26 _ _ _ _ (lv_sub hl [] rfl) hw hd

def zjX11_settles_15 (sh : zShp) (k0 : Nat) (p1 : Int32) (p2 : Int32)  (M : zMem) : Option (Int32 × zMem) :=
  some ((-1 : Int32), M)
def zbX11_settles_39 (sh : zShp) (k0 : Nat) (p1 : Int32) (p2 : Int32)  (kk39 : Int32 → zMem → Option (Int32 × zMem)) (x3 : Int32) (M : zMem) : Option (Int32 × zMem) :=
  if (2000 : Int32) < x3 then (
  some ((-1 : Int32), M))
  else (
  zgd (zin p1 (zlen sh (zR M (zR M k0 11) 0))) <|
  zob (zX7_isCalm sh (zR M k0 7) (zR M (zR M (zR M k0 11) 0) p1.toNatClampNeg) (zR M (zR M k0 11) 4) M) fun r_10 =>
  if r_10 = 0 then (
  zgd (zin p1 (zlen sh (zR M (zR M k0 11) 0))) <|
  zob (zX7_turn sh (zR M k0 7) (zR M (zR M (zR M k0 11) 0) p1.toNatClampNeg) (zR M (zR M k0 11) 4) M) fun M_20 =>
  kk39 (x3 + (1 : Int32)) M_20)
  else (
  some (x3, M)))
def zlX11_settles_39 (sh : zShp) (k0 : Nat) (p1 : Int32) (p2 : Int32)  : Nat → Int32 → zMem → Option (Int32 × zMem)
  | 0 => fun _ _ => none
  | n + 1 => fun x3 M => zbX11_settles_39 sh k0 p1 p2  (zlX11_settles_39 sh k0 p1 p2  n) x3 M
def zX11_settles (sh : zShp) (k0 : Nat) (p1 : Int32) (p2 : Int32) (M : zMem) : Option (Int32 × zMem) :=
  zob (zX11_isAxis sh k0 p1 M) fun r_22 =>
  if r_22 = 0 then (
  zjX11_settles_15 sh k0 p1 p2 M)
  else (
  zob (zX11_isLetGo sh p2 M) fun r_25 =>
  if r_25 = 0 then (
  zjX11_settles_15 sh k0 p1 p2 M)
  else (
  zgd (zin p1 (zlen sh (zR M (zR M k0 2) 0))) <|
  zob (zX7_letGo sh (zR M k0 7) (zI M (zR M (zR M (zR M k0 2) 0) p1.toNatClampNeg) 3) p2 M) fun M_33 =>
  zlX11_settles_39 sh k0 p1 p2 zF (0 : Int32) M_33))
set_option maxHeartbeats 4000000 in
set_option maxRecDepth 100000 in
theorem ztX11_settles (l : Launch) (D : va_G) (cy : Nat → ClassId) (sh : zShp) (ad : Nat → Nat) {k0 : Nat} {p1 : Int32} {p2 : Int32} (h0 : zT sh k0 11) {M : zMem} {r : Int32} {M1 : zMem} (hd : zX11_settles sh k0 p1 p2 M = some (r, M1)) : zCI l yX11_settles cX11_settles 4 .int { frames := 3, cells := 0, slots := 0, locals := 68 } [.ref (ad k0), .int p1, .int p2] D cy sh ad M r M1 := by
  refine zci_of (by decide) (Nat.le_of_ble_eq_true rfl) (fun p e s m below meth c ls F hr hlk hl hw => ?_)
  have hx := F.1.1
  have hb := F.1.2.1
  have hl : lv_has ls 4 [(0, .ref (ad k0)), (1, .int p1), (2, .int p2)] := hl
  have J15 : ∀ (M : zMem) (H : Heap) (locs : List Loc) (ls : Array Slot), lv_has ls 4 [] → zWd D cy sh ad s M H locs → zjX11_settles_15 sh k0 p1 p2  M = some (r, M1) → W p l e { frames := 3, cells := 0, slots := 0, locals := 68 } s m ([.ref (ad k0), .int p1, .int p2] : List Value).toArray below meth c H locs 0 0 (zQI below D cy sh ad s [.ref (ad k0), .int p1, .int p2] r M1) (F0 m 15 ls []) := by
    intro  M H locs ls hl hw hd
    unfold zjX11_settles_15 at hd
    refine lv_iconst (v := (-1 : Int32)) hx hb dX11_settles_15 (by decide) ?_
    exact z_iret F hr hlk hw (zpr1 hd) (zpr2 hd) dX11_settles_16
  have L39 : ∀  (n : Nat), ∀ (x3 : Int32) (M : zMem) (H : Heap) (locs : List Loc) (ls : Array Slot), lv_has ls 4 [(0, .ref (ad k0)), (1, .int p1), (3, .int x3)] → zWd D cy sh ad s M H locs → zlX11_settles_39 sh k0 p1 p2  n x3 M = some (r, M1) → W p l e { frames := 3, cells := 0, slots := 0, locals := 68 } s m ([.ref (ad k0), .int p1, .int p2] : List Value).toArray below meth c H locs 0 0 (zQI below D cy sh ad s [.ref (ad k0), .int p1, .int p2] r M1) (F0 m 39 ls []) := by
    intro  n
    induction n with
    | zero => intro x3 M H locs ls hl hw hd; exact (znone hd).elim
    | succ n hk39 =>
      intro x3 M H locs ls hl hw hd
      have hd : zbX11_settles_39 sh k0 p1 p2  (zlX11_settles_39 sh k0 p1 p2  n) x3 M = some (r, M1) := hd
      unfold zbX11_settles_39 at hd
      refine lv_iload_n hx hb dX11_settles_39 rfl (lv_at hl 2 rfl) ?_
      refine lv_sipush (v := (2000 : Int32)) hx hb dX11_settles_40 (by decide) ?_
      refine lv_icmp_gt (tgt := 103) hx hb dX11_settles_43 (by decide) (fun c_1 => ?_) (fun c_1 => ?_)
      · have hd := zif_pos c_1 hd
        refine lv_iconst (v := (-1 : Int32)) hx hb dX11_settles_103 (by decide) ?_
        exact z_iret F hr hlk hw (zpr1 hd) (zpr2 hd) dX11_settles_104
      · have hd := zif_neg c_1 hd
        refine lv_aload_n hx hb dX11_settles_46 rfl (lv_at hl 0 rfl) ?_
        refine z_gR F hw h0 zc11 7 (by decide) rfl zf11_71 dX11_settles_47 ?_
        have t_2 : zT sh (zR M k0 7) 7 := hw.2.2.2.fld h0 7 7
        refine lv_aload_n hx hb dX11_settles_50 rfl (lv_at hl 0 rfl) ?_
        refine z_gR F hw h0 zc11 11 (by decide) rfl zf11_12 dX11_settles_51 ?_
        have t_3 : zT sh (zR M k0 11) 1 := hw.2.2.2.fld h0 11 1
        refine z_gR F hw t_3 zc1 0 (by decide) rfl zf11_330 dX11_settles_54 ?_
        have t_4 : zT sh (zR M (zR M k0 11) 0) 17 := hw.2.2.2.fld t_3 0 17
        refine lv_iload_n hx hb dX11_settles_57 rfl (lv_at hl 1 rfl) ?_
        obtain ⟨g_5, hd⟩ := zgd_some hd
        refine z_aald F hw t_4 (by decide) 4 rfl g_5 dX11_settles_58 ?_
        have t_6 : zT sh (zR M (zR M (zR M k0 11) 0) p1.toNatClampNeg) 0 := hw.2.2.2.arr t_4 _ 0 (zin_lt g_5)
        refine lv_aload_n hx hb dX11_settles_59 rfl (lv_at hl 0 rfl) ?_
        refine z_gR F hw h0 zc11 11 (by decide) rfl zf11_12 dX11_settles_60 ?_
        have t_7 : zT sh (zR M k0 11) 1 := hw.2.2.2.fld h0 11 1
        refine z_gR F hw t_7 zc1 4 (by decide) rfl zf11_128 dX11_settles_63 ?_
        have t_8 : zT sh (zR M (zR M k0 11) 4) 9 := hw.2.2.2.fld t_7 4 9
        obtain ⟨r_10, hc_9, hd⟩ := zob_some hd
        refine z_cvI F hw hl.1 (As := [.ref (ad (zR M (zR M (zR M k0 11) 0) p1.toNatClampNeg)), .ref (ad (zR M (zR M k0 11) 4))]) (rest := []) (ztX7_isCalm l D cy sh ad t_2 t_6 t_8 hc_9) zyX7_isCalm t_2 zc7 zk11_382 ⟨rfl, rfl⟩ ⟨by decide, by decide⟩ rfl rfl (Nat.le_of_ble_eq_true rfl) dX11_settles_66 (fun H locs hw => ?_)
        refine lv_if_eq (tgt := 74) hx hb dX11_settles_69 (by decide) (fun c_11 => ?_) (fun c_11 => ?_)
        · have hd := zif_pos c_11 hd
          refine lv_aload_n hx hb dX11_settles_74 rfl (lv_at hl 0 rfl) ?_
          refine z_gR F hw h0 zc11 7 (by decide) rfl zf11_71 dX11_settles_75 ?_
          have t_12 : zT sh (zR M k0 7) 7 := hw.2.2.2.fld h0 7 7
          refine lv_aload_n hx hb dX11_settles_78 rfl (lv_at hl 0 rfl) ?_
          refine z_gR F hw h0 zc11 11 (by decide) rfl zf11_12 dX11_settles_79 ?_
          have t_13 : zT sh (zR M k0 11) 1 := hw.2.2.2.fld h0 11 1
          refine z_gR F hw t_13 zc1 0 (by decide) rfl zf11_330 dX11_settles_82 ?_
          have t_14 : zT sh (zR M (zR M k0 11) 0) 17 := hw.2.2.2.fld t_13 0 17
          refine lv_iload_n hx hb dX11_settles_85 rfl (lv_at hl 1 rfl) ?_
          obtain ⟨g_15, hd⟩ := zgd_some hd
          refine z_aald F hw t_14 (by decide) 4 rfl g_15 dX11_settles_86 ?_
          have t_16 : zT sh (zR M (zR M (zR M k0 11) 0) p1.toNatClampNeg) 0 := hw.2.2.2.arr t_14 _ 0 (zin_lt g_15)
          refine lv_aload_n hx hb dX11_settles_87 rfl (lv_at hl 0 rfl) ?_
          refine z_gR F hw h0 zc11 11 (by decide) rfl zf11_12 dX11_settles_88 ?_
          have t_17 : zT sh (zR M k0 11) 1 := hw.2.2.2.fld h0 11 1
          refine z_gR F hw t_17 zc1 4 (by decide) rfl zf11_128 dX11_settles_91 ?_
          have t_18 : zT sh (zR M (zR M k0 11) 4) 9 := hw.2.2.2.fld t_17 4 9
          obtain ⟨M_20, hc_19, hd⟩ := zob_some hd
          refine z_cvV F hw hl.1 (As := [.ref (ad (zR M (zR M (zR M k0 11) 0) p1.toNatClampNeg)), .ref (ad (zR M (zR M k0 11) 4))]) (rest := []) (ztX7_turn l D cy sh ad t_12 t_16 t_18 hc_19) zyX7_turn t_12 zc7 zk11_375 ⟨rfl, rfl⟩ ⟨by decide, by decide⟩ rfl rfl (Nat.le_of_ble_eq_true rfl) dX11_settles_94 (fun H locs hw => ?_)
          refine lv_iinc (v := (x3 + (1 : Int32))) (lv' := [(3, .int (x3 + (1 : Int32))), (0, .ref (ad k0)), (1, .int p1)]) hx hb dX11_settles_97 hl (k := 2) rfl (ziinc (by decide)) (by decide) rfl (fun ls hl => ?_)
          refine lv_goto (tgt := 39) hx hb dX11_settles_100 (by decide) ?_
          exact hk39 _ _ _ _ _ (lv_sub hl [1, 2, 0] rfl) hw hd
        · have hd := zif_neg c_11 hd
          refine lv_iload_n hx hb dX11_settles_72 rfl (lv_at hl 2 rfl) ?_
          exact z_iret F hr hlk hw (zpr1 hd) (zpr2 hd) dX11_settles_73
  unfold zX11_settles at hd
  refine lv_aload_n hx hb dX11_settles_0 rfl (lv_at hl 0 rfl) ?_
  refine lv_iload_n hx hb dX11_settles_1 rfl (lv_at hl 1 rfl) ?_
  obtain ⟨r_22, hc_21, hd⟩ := zob_some hd
  refine z_cvI F hw hl.1 (As := [.int p1]) (rest := []) (ztX11_isAxis l D cy sh ad h0 hc_21) zyX11_isAxis h0 zc11 zk11_194 ⟨rfl, rfl⟩ ⟨by decide, by decide⟩ rfl rfl (Nat.le_of_ble_eq_true rfl) dX11_settles_2 (fun H locs hw => ?_)
  refine lv_if_eq (tgt := 15) hx hb dX11_settles_5 (by decide) (fun c_23 => ?_) (fun c_23 => ?_)
  · have hd := zif_pos c_23 hd
    exact J15 _ _ _ _ (lv_sub hl [] rfl) hw hd
  · have hd := zif_neg c_23 hd
    refine lv_iload_n hx hb dX11_settles_8 rfl (lv_at hl 2 rfl) ?_
    obtain ⟨r_25, hc_24, hd⟩ := zob_some hd
    refine z_csI F hw hl.1 (As := [.int p2]) (rest := []) (ztX11_isLetGo l D cy sh ad  hc_24) zyX11_isLetGo zk11_368 ⟨rfl, rfl⟩ ⟨by decide, by decide⟩ rfl rfl (Nat.le_of_ble_eq_true rfl) dX11_settles_9 (fun H locs hw => ?_)
    refine lv_if_ne (tgt := 17) hx hb dX11_settles_12 (by decide) (fun c_26 => ?_) (fun c_26 => ?_)
    · have hd := zif_neg c_26 hd
      refine lv_aload_n hx hb dX11_settles_17 rfl (lv_at hl 0 rfl) ?_
      refine z_gR F hw h0 zc11 7 (by decide) rfl zf11_71 dX11_settles_18 ?_
      have t_27 : zT sh (zR M k0 7) 7 := hw.2.2.2.fld h0 7 7
      refine lv_aload_n hx hb dX11_settles_21 rfl (lv_at hl 0 rfl) ?_
      refine z_gR F hw h0 zc11 2 (by decide) rfl zf11_40 dX11_settles_22 ?_
      have t_28 : zT sh (zR M k0 2) 8 := hw.2.2.2.fld h0 2 8
      refine z_gR F hw t_28 zc8 0 (by decide) rfl zf11_308 dX11_settles_25 ?_
      have t_29 : zT sh (zR M (zR M k0 2) 0) 18 := hw.2.2.2.fld t_28 0 18
      refine lv_iload_n hx hb dX11_settles_28 rfl (lv_at hl 1 rfl) ?_
      obtain ⟨g_30, hd⟩ := zgd_some hd
      refine z_aald F hw t_29 (by decide) 5 rfl g_30 dX11_settles_29 ?_
      have t_31 : zT sh (zR M (zR M (zR M k0 2) 0) p1.toNatClampNeg) 7 := hw.2.2.2.arr t_29 _ 7 (zin_lt g_30)
      refine z_gI F hw t_31 zc7 3 (by decide) rfl zf11_315 dX11_settles_30 ?_
      refine lv_iload_n hx hb dX11_settles_33 rfl (lv_at hl 2 rfl) ?_
      obtain ⟨M_33, hc_32, hd⟩ := zob_some hd
      refine z_cvV F hw hl.1 (As := [.int (zI M (zR M (zR M (zR M k0 2) 0) p1.toNatClampNeg) 3), .int p2]) (rest := []) (ztX7_letGo l D cy sh ad t_27 hc_32) zyX7_letGo t_27 zc7 zk11_371 ⟨rfl, rfl⟩ ⟨by decide, by decide⟩ rfl rfl (Nat.le_of_ble_eq_true rfl) dX11_settles_34 (fun H locs hw => ?_)
      refine lv_iconst (v := (0 : Int32)) hx hb dX11_settles_37 (by decide) ?_
      refine lv_istore_n (lv' := [(3, .int (0 : Int32)), (0, .ref (ad k0)), (1, .int p1), (2, .int p2)]) hx hb dX11_settles_38 rfl hl (by decide) rfl (fun ls hl => ?_)
      exact L39 zF _ _ _ _ _ (lv_sub hl [1, 2, 0] rfl) hw hd
    · have hd := zif_pos c_26 hd
      exact J15 _ _ _ _ (lv_sub hl [] rfl) hw hd
