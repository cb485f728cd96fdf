theorem dX4_ticks_0 : decode cX4_ticks 0 = .ok (.iconst 2, 1) := by decide +kernel
theorem dX4_ticks_1 : decode cX4_ticks 1 = .ok (.aload_n 0, 1) := by decide +kernel
theorem dX4_ticks_2 : decode cX4_ticks 2 = .ok (.getfield 21, 3) := by decide +kernel
theorem dX4_ticks_5 : decode cX4_ticks 5 = .ok (.getfield 107, 3) := by decide +kernel
theorem dX4_ticks_8 : decode cX4_ticks 8 = .ok (.imul, 1) := by decide +kernel
theorem dX4_ticks_9 : decode cX4_ticks 9 = .ok (.aload_n 0, 1) := by decide +kernel
theorem dX4_ticks_10 : decode cX4_ticks 10 = .ok (.getfield 101, 3) := by decide +kernel
theorem dX4_ticks_13 : decode cX4_ticks 13 = .ok (.iadd, 1) := by decide +kernel
theorem dX4_ticks_14 : decode cX4_ticks 14 = .ok (.ireturn, 1) := by decide +kernel
theorem dX4_startAlone_0 : decode cX4_startAlone 0 = .ok (.aload_n 0, 1) := by decide +kernel
theorem dX4_startAlone_1 : decode cX4_startAlone 1 = .ok (.iload_n 2, 1) := by decide +kernel
theorem dX4_startAlone_2 : decode cX4_startAlone 2 = .ok (.putfield 25, 3) := by decide +kernel
theorem dX4_startAlone_5 : decode cX4_startAlone 5 = .ok (.aload_n 0, 1) := by decide +kernel
theorem dX4_startAlone_6 : decode cX4_startAlone 6 = .ok (.iload_n 3, 1) := by decide +kernel
theorem dX4_startAlone_7 : decode cX4_startAlone 7 = .ok (.putfield 29, 3) := by decide +kernel
theorem dX4_startAlone_10 : decode cX4_startAlone 10 = .ok (.aload_n 0, 1) := by decide +kernel
theorem dX4_startAlone_11 : decode cX4_startAlone 11 = .ok (.aload_n 1, 1) := by decide +kernel
theorem dX4_startAlone_12 : decode cX4_startAlone 12 = .ok (.getfield 57, 3) := by decide +kernel
theorem dX4_startAlone_15 : decode cX4_startAlone 15 = .ok (.iload_n 2, 1) := by decide +kernel
theorem dX4_startAlone_16 : decode cX4_startAlone 16 = .ok (.aaload, 1) := by decide +kernel
theorem dX4_startAlone_17 : decode cX4_startAlone 17 = .ok (.getfield 61, 3) := by decide +kernel
theorem dX4_startAlone_20 : decode cX4_startAlone 20 = .ok (.putfield 66, 3) := by decide +kernel
theorem dX4_startAlone_23 : decode cX4_startAlone 23 = .ok (.aload_n 0, 1) := by decide +kernel
theorem dX4_startAlone_24 : decode cX4_startAlone 24 = .ok (.aload_n 1, 1) := by decide +kernel
theorem dX4_startAlone_25 : decode cX4_startAlone 25 = .ok (.getfield 57, 3) := by decide +kernel
theorem dX4_startAlone_28 : decode cX4_startAlone 28 = .ok (.iload_n 2, 1) := by decide +kernel
theorem dX4_startAlone_29 : decode cX4_startAlone 29 = .ok (.aaload, 1) := by decide +kernel
theorem dX4_startAlone_30 : decode cX4_startAlone 30 = .ok (.getfield 67, 3) := by decide +kernel
theorem dX4_startAlone_33 : decode cX4_startAlone 33 = .ok (.putfield 70, 3) := by decide +kernel
theorem dX4_startAlone_36 : decode cX4_startAlone 36 = .ok (.aload_n 0, 1) := by decide +kernel
theorem dX4_startAlone_37 : decode cX4_startAlone 37 = .ok (.aload_n 1, 1) := by decide +kernel
theorem dX4_startAlone_38 : decode cX4_startAlone 38 = .ok (.iconst 0, 1) := by decide +kernel
theorem dX4_startAlone_39 : decode cX4_startAlone 39 = .ok (.invokevirtual 53, 3) := by decide +kernel
theorem dX4_startAlone_42 : decode cX4_startAlone 42 = .ok (.pop, 1) := by decide +kernel
theorem dX4_startAlone_43 : decode cX4_startAlone 43 = .ok (.aload_n 0, 1) := by decide +kernel
theorem dX4_startAlone_44 : decode cX4_startAlone 44 = .ok (.invokevirtual 71, 3) := by decide +kernel
theorem dX4_startAlone_47 : decode cX4_startAlone 47 = .ok (.ireturn, 1) := by decide +kernel
theorem dX4_goneBehind_0 : decode cX4_goneBehind 0 = .ok (.aload_n 0, 1) := by decide +kernel
theorem dX4_goneBehind_1 : decode cX4_goneBehind 1 = .ok (.invokevirtual 71, 3) := by decide +kernel
theorem dX4_goneBehind_4 : decode cX4_goneBehind 4 = .ok (.istore_n 2, 1) := by decide +kernel
theorem dX4_goneBehind_5 : decode cX4_goneBehind 5 = .ok (.iload_n 1, 1) := by decide +kernel
theorem dX4_goneBehind_6 : decode cX4_goneBehind 6 = .ok (.aload_n 0, 1) := by decide +kernel
theorem dX4_goneBehind_7 : decode cX4_goneBehind 7 = .ok (.getfield 21, 3) := by decide +kernel
theorem dX4_goneBehind_10 : decode cX4_goneBehind 10 = .ok (.getfield 107, 3) := by decide +kernel
theorem dX4_goneBehind_13 : decode cX4_goneBehind 13 = .ok (.isub, 1) := by decide +kernel
theorem dX4_goneBehind_14 : decode cX4_goneBehind 14 = .ok (.istore_n 3, 1) := by decide +kernel
theorem dX4_goneBehind_15 : decode cX4_goneBehind 15 = .ok (.iload_n 1, 1) := by decide +kernel
theorem dX4_goneBehind_16 : decode cX4_goneBehind 16 = .ok (.ifCond .gt 5, 3) := by decide +kernel
theorem dX4_goneBehind_19 : decode cX4_goneBehind 19 = .ok (.iconst 0, 1) := by decide +kernel
theorem dX4_goneBehind_20 : decode cX4_goneBehind 20 = .ok (.ireturn, 1) := by decide +kernel
theorem dX4_goneBehind_21 : decode cX4_goneBehind 21 = .ok (.iload_n 1, 1) := by decide +kernel
theorem dX4_goneBehind_22 : decode cX4_goneBehind 22 = .ok (.iload_n 2, 1) := by decide +kernel
theorem dX4_goneBehind_23 : decode cX4_goneBehind 23 = .ok (.if_icmp .lt 8, 3) := by decide +kernel
theorem dX4_goneBehind_26 : decode cX4_goneBehind 26 = .ok (.aload_n 0, 1) := by decide +kernel
theorem dX4_goneBehind_27 : decode cX4_goneBehind 27 = .ok (.getfield 29, 3) := by decide +kernel
theorem dX4_goneBehind_30 : decode cX4_goneBehind 30 = .ok (.ireturn, 1) := by decide +kernel
theorem dX4_goneBehind_31 : decode cX4_goneBehind 31 = .ok (.iload_n 3, 1) := by decide +kernel
theorem dX4_goneBehind_32 : decode cX4_goneBehind 32 = .ok (.ifCond .gt 13, 3) := by decide +kernel
theorem dX4_goneBehind_35 : decode cX4_goneBehind 35 = .ok (.aload_n 0, 1) := by decide +kernel
theorem dX4_goneBehind_36 : decode cX4_goneBehind 36 = .ok (.getfield 21, 3) := by decide +kernel
theorem dX4_goneBehind_39 : decode cX4_goneBehind 39 = .ok (.getfield 109, 3) := by decide +kernel
theorem dX4_goneBehind_42 : decode cX4_goneBehind 42 = .ok (.iload_n 1, 1) := by decide +kernel
theorem dX4_goneBehind_43 : decode cX4_goneBehind 43 = .ok (.iaload, 1) := by decide +kernel
theorem dX4_goneBehind_44 : decode cX4_goneBehind 44 = .ok (.ireturn, 1) := by decide +kernel
theorem dX4_goneBehind_45 : decode cX4_goneBehind 45 = .ok (.iload_n 3, 1) := by decide +kernel
theorem dX4_goneBehind_46 : decode cX4_goneBehind 46 = .ok (.aload_n 0, 1) := by decide +kernel
theorem dX4_goneBehind_47 : decode cX4_goneBehind 47 = .ok (.getfield 101, 3) := by decide +kernel
theorem dX4_goneBehind_50 : decode cX4_goneBehind 50 = .ok (.if_icmp .gt 27, 3) := by decide +kernel
theorem dX4_goneBehind_53 : decode cX4_goneBehind 53 = .ok (.aload_n 0, 1) := by decide +kernel
theorem dX4_goneBehind_54 : decode cX4_goneBehind 54 = .ok (.getfield 21, 3) := by decide +kernel
theorem dX4_goneBehind_57 : decode cX4_goneBehind 57 = .ok (.invokevirtual 89, 3) := by decide +kernel
theorem dX4_goneBehind_60 : decode cX4_goneBehind 60 = .ok (.aload_n 0, 1) := by decide +kernel
theorem dX4_goneBehind_61 : decode cX4_goneBehind 61 = .ok (.getfield 98, 3) := by decide +kernel
theorem dX4_goneBehind_64 : decode cX4_goneBehind 64 = .ok (.i2l, 1) := by decide +kernel
theorem dX4_goneBehind_65 : decode cX4_goneBehind 65 = .ok (.iload_n 3, 1) := by decide +kernel
theorem dX4_goneBehind_66 : decode cX4_goneBehind 66 = .ok (.i2l, 1) := by decide +kernel
theorem dX4_goneBehind_67 : decode cX4_goneBehind 67 = .ok (.lmul, 1) := by decide +kernel
theorem dX4_goneBehind_68 : decode cX4_goneBehind 68 = .ok (.aload_n 0, 1) := by decide +kernel
theorem dX4_goneBehind_69 : decode cX4_goneBehind 69 = .ok (.getfield 101, 3) := by decide +kernel
theorem dX4_goneBehind_72 : decode cX4_goneBehind 72 = .ok (.i2l, 1) := by decide +kernel
theorem dX4_goneBehind_73 : decode cX4_goneBehind 73 = .ok (.ldiv, 1) := by decide +kernel
theorem dX4_goneBehind_74 : decode cX4_goneBehind 74 = .ok (.l2i, 1) := by decide +kernel
theorem dX4_goneBehind_75 : decode cX4_goneBehind 75 = .ok (.iadd, 1) := by decide +kernel
theorem dX4_goneBehind_76 : decode cX4_goneBehind 76 = .ok (.ireturn, 1) := by decide +kernel
theorem dX4_goneBehind_77 : decode cX4_goneBehind 77 = .ok (.aload_n 0, 1) := by decide +kernel
theorem dX4_goneBehind_78 : decode cX4_goneBehind 78 = .ok (.getfield 29, 3) := by decide +kernel
theorem dX4_goneBehind_81 : decode cX4_goneBehind 81 = .ok (.aload_n 0, 1) := by decide +kernel
theorem dX4_goneBehind_82 : decode cX4_goneBehind 82 = .ok (.getfield 21, 3) := by decide +kernel
theorem dX4_goneBehind_85 : decode cX4_goneBehind 85 = .ok (.getfield 109, 3) := by decide +kernel
theorem dX4_goneBehind_88 : decode cX4_goneBehind 88 = .ok (.iload_n 2, 1) := by decide +kernel
theorem dX4_goneBehind_89 : decode cX4_goneBehind 89 = .ok (.iload_n 1, 1) := by decide +kernel
theorem dX4_goneBehind_90 : decode cX4_goneBehind 90 = .ok (.isub, 1) := by decide +kernel
theorem dX4_goneBehind_91 : decode cX4_goneBehind 91 = .ok (.iaload, 1) := by decide +kernel
theorem dX4_goneBehind_92 : decode cX4_goneBehind 92 = .ok (.isub, 1) := by decide +kernel
theorem dX4_goneBehind_93 : decode cX4_goneBehind 93 = .ok (.ireturn, 1) := by decide +kernel
theorem dX4_placeOf_0 : decode cX4_placeOf 0 = .ok (.aload_n 0, 1) := by decide +kernel
theorem dX4_placeOf_1 : decode cX4_placeOf 1 = .ok (.getfield 29, 3) := by decide +kernel
theorem dX4_placeOf_4 : decode cX4_placeOf 4 = .ok (.iconst 1, 1) := by decide +kernel
theorem dX4_placeOf_5 : decode cX4_placeOf 5 = .ok (.if_icmp .ge 10, 3) := by decide +kernel
theorem dX4_placeOf_8 : decode cX4_placeOf 8 = .ok (.aload_n 0, 1) := by decide +kernel
theorem dX4_placeOf_9 : decode cX4_placeOf 9 = .ok (.getfield 9, 3) := by decide +kernel
theorem dX4_placeOf_12 : decode cX4_placeOf 12 = .ok (.iload_n 1, 1) := by decide +kernel
theorem dX4_placeOf_13 : decode cX4_placeOf 13 = .ok (.iaload, 1) := by decide +kernel
theorem dX4_placeOf_14 : decode cX4_placeOf 14 = .ok (.ireturn, 1) := by decide +kernel
theorem dX4_placeOf_15 : decode cX4_placeOf 15 = .ok (.ldc2_w 112, 3) := by decide +kernel
theorem dX4_placeOf_18 : decode cX4_placeOf 18 = .ok (.iload_n 2, 1) := by decide +kernel
theorem dX4_placeOf_19 : decode cX4_placeOf 19 = .ok (.i2l, 1) := by decide +kernel
theorem dX4_placeOf_20 : decode cX4_placeOf 20 = .ok (.lmul, 1) := by decide +kernel
theorem dX4_placeOf_21 : decode cX4_placeOf 21 = .ok (.aload_n 0, 1) := by decide +kernel
theorem dX4_placeOf_22 : decode cX4_placeOf 22 = .ok (.iload_n 1, 1) := by decide +kernel
theorem dX4_placeOf_23 : decode cX4_placeOf 23 = .ok (.invokevirtual 42, 3) := by decide +kernel
theorem dX4_placeOf_26 : decode cX4_placeOf 26 = .ok (.i2l, 1) := by decide +kernel
theorem dX4_placeOf_27 : decode cX4_placeOf 27 = .ok (.lmul, 1) := by decide +kernel
theorem dX4_placeOf_28 : decode cX4_placeOf 28 = .ok (.aload_n 0, 1) := by decide +kernel
theorem dX4_placeOf_29 : decode cX4_placeOf 29 = .ok (.getfield 29, 3) := by decide +kernel
theorem dX4_placeOf_32 : decode cX4_placeOf 32 = .ok (.i2l, 1) := by decide +kernel
theorem dX4_placeOf_33 : decode cX4_placeOf 33 = .ok (.ladd, 1) := by decide +kernel
theorem dX4_placeOf_34 : decode cX4_placeOf 34 = .ok (.ldc2_w 112, 3) := by decide +kernel
theorem dX4_placeOf_37 : decode cX4_placeOf 37 = .ok (.aload_n 0, 1) := by decide +kernel
theorem dX4_placeOf_38 : decode cX4_placeOf 38 = .ok (.getfield 29, 3) := by decide +kernel
theorem dX4_placeOf_41 : decode cX4_placeOf 41 = .ok (.i2l, 1) := by decide +kernel
theorem dX4_placeOf_42 : decode cX4_placeOf 42 = .ok (.lmul, 1) := by decide +kernel
theorem dX4_placeOf_43 : decode cX4_placeOf 43 = .ok (.ldiv, 1) := by decide +kernel
theorem dX4_placeOf_44 : decode cX4_placeOf 44 = .ok (.l2i, 1) := by decide +kernel
theorem dX4_placeOf_45 : decode cX4_placeOf 45 = .ok (.istore_n 3, 1) := by decide +kernel
theorem dX4_placeOf_46 : decode cX4_placeOf 46 = .ok (.aload_n 0, 1) := by decide +kernel
theorem dX4_placeOf_47 : decode cX4_placeOf 47 = .ok (.getfield 15, 3) := by decide +kernel
theorem dX4_placeOf_50 : decode cX4_placeOf 50 = .ok (.iload_n 1, 1) := by decide +kernel
theorem dX4_placeOf_51 : decode cX4_placeOf 51 = .ok (.iaload, 1) := by decide +kernel
theorem dX4_placeOf_52 : decode cX4_placeOf 52 = .ok (.ifCond .ge 14, 3) := by decide +kernel
theorem dX4_placeOf_55 : decode cX4_placeOf 55 = .ok (.aload_n 0, 1) := by decide +kernel
theorem dX4_placeOf_56 : decode cX4_placeOf 56 = .ok (.getfield 9, 3) := by decide +kernel
theorem dX4_placeOf_59 : decode cX4_placeOf 59 = .ok (.iload_n 1, 1) := by decide +kernel
theorem dX4_placeOf_60 : decode cX4_placeOf 60 = .ok (.iaload, 1) := by decide +kernel
theorem dX4_placeOf_61 : decode cX4_placeOf 61 = .ok (.iload_n 3, 1) := by decide +kernel
theorem dX4_placeOf_62 : decode cX4_placeOf 62 = .ok (.isub, 1) := by decide +kernel
theorem dX4_placeOf_63 : decode cX4_placeOf 63 = .ok (.goto 11, 3) := by decide +kernel
theorem dX4_placeOf_66 : decode cX4_placeOf 66 = .ok (.aload_n 0, 1) := by decide +kernel
theorem dX4_placeOf_67 : decode cX4_placeOf 67 = .ok (.getfield 9, 3) := by decide +kernel
theorem dX4_placeOf_70 : decode cX4_placeOf 70 = .ok (.iload_n 1, 1) := by decide +kernel
theorem dX4_placeOf_71 : decode cX4_placeOf 71 = .ok (.iaload, 1) := by decide +kernel
theorem dX4_placeOf_72 : decode cX4_placeOf 72 = .ok (.iload_n 3, 1) := by decide +kernel
theorem dX4_placeOf_73 : decode cX4_placeOf 73 = .ok (.iadd, 1) := by decide +kernel
theorem dX4_placeOf_74 : decode cX4_placeOf 74 = .ok (.ireturn, 1) := by decide +kernel
theorem dX4_leadFor_0 : decode cX4_leadFor 0 = .ok (.ldc2_w 112, 3) := by decide +kernel
theorem dX4_leadFor_3 : decode cX4_leadFor 3 = .ok (.aload_n 0, 1) := by decide +kernel
theorem dX4_leadFor_4 : decode cX4_leadFor 4 = .ok (.iload_n 1, 1) := by decide +kernel
theorem dX4_leadFor_5 : decode cX4_leadFor 5 = .ok (.invokevirtual 42, 3) := by decide +kernel
theorem dX4_leadFor_8 : decode cX4_leadFor 8 = .ok (.i2l, 1) := by decide +kernel
theorem dX4_leadFor_9 : decode cX4_leadFor 9 = .ok (.lmul, 1) := by decide +kernel
theorem dX4_leadFor_10 : decode cX4_leadFor 10 = .ok (.lstore_n 3, 1) := by decide +kernel
theorem dX4_leadFor_11 : decode cX4_leadFor 11 = .ok (.lload_n 3, 1) := by decide +kernel
theorem dX4_leadFor_12 : decode cX4_leadFor 12 = .ok (.lconst 1, 1) := by decide +kernel
theorem dX4_leadFor_13 : decode cX4_leadFor 13 = .ok (.lcmp, 1) := by decide +kernel
theorem dX4_leadFor_14 : decode cX4_leadFor 14 = .ok (.ifCond .ge 7, 3) := by decide +kernel
theorem dX4_leadFor_17 : decode cX4_leadFor 17 = .ok (.iconst 0, 1) := by decide +kernel
theorem dX4_leadFor_18 : decode cX4_leadFor 18 = .ok (.goto 24, 3) := by decide +kernel
theorem dX4_leadFor_21 : decode cX4_leadFor 21 = .ok (.ldc2_w 112, 3) := by decide +kernel
theorem dX4_leadFor_24 : decode cX4_leadFor 24 = .ok (.iload_n 2, 1) := by decide +kernel
theorem dX4_leadFor_25 : decode cX4_leadFor 25 = .ok (.i2l, 1) := by decide +kernel
theorem dX4_leadFor_26 : decode cX4_leadFor 26 = .ok (.lmul, 1) := by decide +kernel
theorem dX4_leadFor_27 : decode cX4_leadFor 27 = .ok (.lconst 1, 1) := by decide +kernel
theorem dX4_leadFor_28 : decode cX4_leadFor 28 = .ok (.lsub, 1) := by decide +kernel
theorem dX4_leadFor_29 : decode cX4_leadFor 29 = .ok (.aload_n 0, 1) := by decide +kernel
theorem dX4_leadFor_30 : decode cX4_leadFor 30 = .ok (.getfield 29, 3) := by decide +kernel
theorem dX4_leadFor_33 : decode cX4_leadFor 33 = .ok (.i2l, 1) := by decide +kernel
theorem dX4_leadFor_34 : decode cX4_leadFor 34 = .ok (.lmul, 1) := by decide +kernel
theorem dX4_leadFor_35 : decode cX4_leadFor 35 = .ok (.lload_n 3, 1) := by decide +kernel
theorem dX4_leadFor_36 : decode cX4_leadFor 36 = .ok (.ladd, 1) := by decide +kernel
theorem dX4_leadFor_37 : decode cX4_leadFor 37 = .ok (.lconst 1, 1) := by decide +kernel
theorem dX4_leadFor_38 : decode cX4_leadFor 38 = .ok (.lsub, 1) := by decide +kernel
theorem dX4_leadFor_39 : decode cX4_leadFor 39 = .ok (.lload_n 3, 1) := by decide +kernel
theorem dX4_leadFor_40 : decode cX4_leadFor 40 = .ok (.ldiv, 1) := by decide +kernel
theorem dX4_leadFor_41 : decode cX4_leadFor 41 = .ok (.l2i, 1) := by decide +kernel
theorem dX4_leadFor_42 : decode cX4_leadFor 42 = .ok (.ireturn, 1) := by decide +kernel
theorem dX4_dueAt_0 : decode cX4_dueAt 0 = .ok (.iconst 1, 1) := by decide +kernel
theorem dX4_dueAt_1 : decode cX4_dueAt 1 = .ok (.istore_n 2, 1) := by decide +kernel
theorem dX4_dueAt_2 : decode cX4_dueAt 2 = .ok (.aload_n 0, 1) := by decide +kernel
theorem dX4_dueAt_3 : decode cX4_dueAt 3 = .ok (.invokevirtual 71, 3) := by decide +kernel
theorem dX4_dueAt_6 : decode cX4_dueAt 6 = .ok (.istore_n 3, 1) := by decide +kernel
theorem dX4_dueAt_7 : decode cX4_dueAt 7 = .ok (.iconst 0, 1) := by decide +kernel
theorem dX4_dueAt_8 : decode cX4_dueAt 8 = .ok (.istore 4, 2) := by decide +kernel
theorem dX4_dueAt_10 : decode cX4_dueAt 10 = .ok (.iload 4, 2) := by decide +kernel
theorem dX4_dueAt_12 : decode cX4_dueAt 12 = .ok (.bipush 16, 2) := by decide +kernel
theorem dX4_dueAt_14 : decode cX4_dueAt 14 = .ok (.if_icmp .ge 42, 3) := by decide +kernel
theorem dX4_dueAt_17 : decode cX4_dueAt 17 = .ok (.iload_n 2, 1) := by decide +kernel
theorem dX4_dueAt_18 : decode cX4_dueAt 18 = .ok (.iload_n 3, 1) := by decide +kernel
theorem dX4_dueAt_19 : decode cX4_dueAt 19 = .ok (.if_icmp .ge 37, 3) := by decide +kernel
theorem dX4_dueAt_22 : decode cX4_dueAt 22 = .ok (.iload_n 2, 1) := by decide +kernel
theorem dX4_dueAt_23 : decode cX4_dueAt 23 = .ok (.iload_n 3, 1) := by decide +kernel
theorem dX4_dueAt_24 : decode cX4_dueAt 24 = .ok (.iadd, 1) := by decide +kernel
theorem dX4_dueAt_25 : decode cX4_dueAt 25 = .ok (.iconst 2, 1) := by decide +kernel
theorem dX4_dueAt_26 : decode cX4_dueAt 26 = .ok (.idiv, 1) := by decide +kernel
theorem dX4_dueAt_27 : decode cX4_dueAt 27 = .ok (.istore 5, 2) := by decide +kernel
theorem dX4_dueAt_29 : decode cX4_dueAt 29 = .ok (.aload_n 0, 1) := by decide +kernel
theorem dX4_dueAt_30 : decode cX4_dueAt 30 = .ok (.iload 5, 2) := by decide +kernel
theorem dX4_dueAt_32 : decode cX4_dueAt 32 = .ok (.invokevirtual 114, 3) := by decide +kernel
theorem dX4_dueAt_35 : decode cX4_dueAt 35 = .ok (.iload_n 1, 1) := by decide +kernel
theorem dX4_dueAt_36 : decode cX4_dueAt 36 = .ok (.if_icmp .lt 9, 3) := by decide +kernel
theorem dX4_dueAt_39 : decode cX4_dueAt 39 = .ok (.iload 5, 2) := by decide +kernel
theorem dX4_dueAt_41 : decode cX4_dueAt 41 = .ok (.istore_n 3, 1) := by decide +kernel
theorem dX4_dueAt_42 : decode cX4_dueAt 42 = .ok (.goto 8, 3) := by decide +kernel
theorem dX4_dueAt_45 : decode cX4_dueAt 45 = .ok (.iload 5, 2) := by decide +kernel
theorem dX4_dueAt_47 : decode cX4_dueAt 47 = .ok (.iconst 1, 1) := by decide +kernel
theorem dX4_dueAt_48 : decode cX4_dueAt 48 = .ok (.iadd, 1) := by decide +kernel
theorem dX4_dueAt_49 : decode cX4_dueAt 49 = .ok (.istore_n 2, 1) := by decide +kernel
theorem dX4_dueAt_50 : decode cX4_dueAt 50 = .ok (.iinc 4 1, 3) := by decide +kernel
theorem dX4_dueAt_53 : decode cX4_dueAt 53 = .ok (.goto (-43), 3) := by decide +kernel
theorem dX4_dueAt_56 : decode cX4_dueAt 56 = .ok (.aload_n 0, 1) := by decide +kernel
theorem dX4_dueAt_57 : decode cX4_dueAt 57 = .ok (.iload_n 2, 1) := by decide +kernel
theorem dX4_dueAt_58 : decode cX4_dueAt 58 = .ok (.iconst 1, 1) := by decide +kernel
theorem dX4_dueAt_59 : decode cX4_dueAt 59 = .ok (.isub, 1) := by decide +kernel
theorem dX4_dueAt_60 : decode cX4_dueAt 60 = .ok (.invokevirtual 114, 3) := by decide +kernel
theorem dX4_dueAt_63 : decode cX4_dueAt 63 = .ok (.istore 4, 2) := by decide +kernel
theorem dX4_dueAt_65 : decode cX4_dueAt 65 = .ok (.iconst 1, 1) := by decide +kernel
theorem dX4_dueAt_66 : decode cX4_dueAt 66 = .ok (.aload_n 0, 1) := by decide +kernel
theorem dX4_dueAt_67 : decode cX4_dueAt 67 = .ok (.iload_n 2, 1) := by decide +kernel
theorem dX4_dueAt_68 : decode cX4_dueAt 68 = .ok (.invokevirtual 114, 3) := by decide +kernel
theorem dX4_dueAt_71 : decode cX4_dueAt 71 = .ok (.iload 4, 2) := by decide +kernel
theorem dX4_dueAt_73 : decode cX4_dueAt 73 = .ok (.isub, 1) := by decide +kernel
theorem dX4_dueAt_74 : decode cX4_dueAt 74 = .ok (.invokestatic 95, 3) := by decide +kernel
theorem dX4_dueAt_77 : decode cX4_dueAt 77 = .ok (.istore 5, 2) := by decide +kernel
theorem dX4_dueAt_79 : decode cX4_dueAt 79 = .ok (.iload_n 2, 1) := by decide +kernel
theorem dX4_dueAt_80 : decode cX4_dueAt 80 = .ok (.iconst 1, 1) := by decide +kernel
theorem dX4_dueAt_81 : decode cX4_dueAt 81 = .ok (.isub, 1) := by decide +kernel
theorem dX4_dueAt_82 : decode cX4_dueAt 82 = .ok (.sipush 1000, 3) := by decide +kernel
theorem dX4_dueAt_85 : decode cX4_dueAt 85 = .ok (.imul, 1) := by decide +kernel
theorem dX4_dueAt_86 : decode cX4_dueAt 86 = .ok (.iload_n 1, 1) := by decide +kernel
theorem dX4_dueAt_87 : decode cX4_dueAt 87 = .ok (.iload 4, 2) := by decide +kernel
theorem dX4_dueAt_89 : decode cX4_dueAt 89 = .ok (.isub, 1) := by decide +kernel
theorem dX4_dueAt_90 : decode cX4_dueAt 90 = .ok (.sipush 1000, 3) := by decide +kernel
theorem dX4_dueAt_93 : decode cX4_dueAt 93 = .ok (.imul, 1) := by decide +kernel
theorem dX4_dueAt_94 : decode cX4_dueAt 94 = .ok (.iload 5, 2) := by decide +kernel
theorem dX4_dueAt_96 : decode cX4_dueAt 96 = .ok (.idiv, 1) := by decide +kernel
theorem dX4_dueAt_97 : decode cX4_dueAt 97 = .ok (.iadd, 1) := by decide +kernel
theorem dX4_dueAt_98 : decode cX4_dueAt 98 = .ok (.ireturn, 1) := by decide +kernel
theorem dX4_ticksInBands_0 : decode cX4_ticksInBands 0 = .ok (.iconst 0, 1) := by decide +kernel
theorem dX4_ticksInBands_1 : decode cX4_ticksInBands 1 = .ok (.istore_n 2, 1) := by decide +kernel
theorem dX4_ticksInBands_2 : decode cX4_ticksInBands 2 = .ok (.iconst 1, 1) := by decide +kernel
theorem dX4_ticksInBands_3 : decode cX4_ticksInBands 3 = .ok (.istore_n 3, 1) := by decide +kernel
theorem dX4_ticksInBands_4 : decode cX4_ticksInBands 4 = .ok (.iload_n 3, 1) := by decide +kernel
theorem dX4_ticksInBands_5 : decode cX4_ticksInBands 5 = .ok (.aload_n 0, 1) := by decide +kernel
theorem dX4_ticksInBands_6 : decode cX4_ticksInBands 6 = .ok (.getfield 21, 3) := by decide +kernel
theorem dX4_ticksInBands_9 : decode cX4_ticksInBands 9 = .ok (.getfield 107, 3) := by decide +kernel
theorem dX4_ticksInBands_12 : decode cX4_ticksInBands 12 = .ok (.if_icmp .gt 36, 3) := by decide +kernel
theorem dX4_ticksInBands_15 : decode cX4_ticksInBands 15 = .ok (.iload_n 2, 1) := by decide +kernel
theorem dX4_ticksInBands_16 : decode cX4_ticksInBands 16 = .ok (.aload_n 1, 1) := by decide +kernel
theorem dX4_ticksInBands_17 : decode cX4_ticksInBands 17 = .ok (.aload_n 0, 1) := by decide +kernel
theorem dX4_ticksInBands_18 : decode cX4_ticksInBands 18 = .ok (.getfield 25, 3) := by decide +kernel
theorem dX4_ticksInBands_21 : decode cX4_ticksInBands 21 = .ok (.aload_n 0, 1) := by decide +kernel
theorem dX4_ticksInBands_22 : decode cX4_ticksInBands 22 = .ok (.getfield 21, 3) := by decide +kernel
theorem dX4_ticksInBands_25 : decode cX4_ticksInBands 25 = .ok (.iload_n 3, 1) := by decide +kernel
theorem dX4_ticksInBands_26 : decode cX4_ticksInBands 26 = .ok (.invokevirtual 117, 3) := by decide +kernel
theorem dX4_ticksInBands_29 : decode cX4_ticksInBands 29 = .ok (.invokevirtual 92, 3) := by decide +kernel
theorem dX4_ticksInBands_32 : decode cX4_ticksInBands 32 = .ok (.ifCond .le 7, 3) := by decide +kernel
theorem dX4_ticksInBands_35 : decode cX4_ticksInBands 35 = .ok (.iconst 2, 1) := by decide +kernel
theorem dX4_ticksInBands_36 : decode cX4_ticksInBands 36 = .ok (.goto 4, 3) := by decide +kernel
theorem dX4_ticksInBands_39 : decode cX4_ticksInBands 39 = .ok (.iconst 0, 1) := by decide +kernel
theorem dX4_ticksInBands_40 : decode cX4_ticksInBands 40 = .ok (.iadd, 1) := by decide +kernel
theorem dX4_ticksInBands_41 : decode cX4_ticksInBands 41 = .ok (.istore_n 2, 1) := by decide +kernel
theorem dX4_ticksInBands_42 : decode cX4_ticksInBands 42 = .ok (.iinc 3 1, 3) := by decide +kernel
theorem dX4_ticksInBands_45 : decode cX4_ticksInBands 45 = .ok (.goto (-41), 3) := by decide +kernel
theorem dX4_ticksInBands_48 : decode cX4_ticksInBands 48 = .ok (.aload_n 0, 1) := by decide +kernel
theorem dX4_ticksInBands_49 : decode cX4_ticksInBands 49 = .ok (.getfield 101, 3) := by decide +kernel
theorem dX4_ticksInBands_52 : decode cX4_ticksInBands 52 = .ok (.iconst 1, 1) := by decide +kernel
theorem dX4_ticksInBands_53 : decode cX4_ticksInBands 53 = .ok (.if_icmp .ge 5, 3) := by decide +kernel
theorem dX4_ticksInBands_56 : decode cX4_ticksInBands 56 = .ok (.iload_n 2, 1) := by decide +kernel
theorem dX4_ticksInBands_57 : decode cX4_ticksInBands 57 = .ok (.ireturn, 1) := by decide +kernel
theorem dX4_ticksInBands_58 : decode cX4_ticksInBands 58 = .ok (.aload_n 0, 1) := by decide +kernel
theorem dX4_ticksInBands_59 : decode cX4_ticksInBands 59 = .ok (.getfield 98, 3) := by decide +kernel
theorem dX4_ticksInBands_62 : decode cX4_ticksInBands 62 = .ok (.aload_n 0, 1) := by decide +kernel
theorem dX4_ticksInBands_63 : decode cX4_ticksInBands 63 = .ok (.getfield 101, 3) := by decide +kernel
theorem dX4_ticksInBands_66 : decode cX4_ticksInBands 66 = .ok (.idiv, 1) := by decide +kernel
theorem dX4_ticksInBands_67 : decode cX4_ticksInBands 67 = .ok (.istore_n 3, 1) := by decide +kernel
theorem dX4_ticksInBands_68 : decode cX4_ticksInBands 68 = .ok (.aload_n 0, 1) := by decide +kernel
theorem dX4_ticksInBands_69 : decode cX4_ticksInBands 69 = .ok (.getfield 98, 3) := by decide +kernel
theorem dX4_ticksInBands_72 : decode cX4_ticksInBands 72 = .ok (.iload_n 3, 1) := by decide +kernel
theorem dX4_ticksInBands_73 : decode cX4_ticksInBands 73 = .ok (.aload_n 0, 1) := by decide +kernel
theorem dX4_ticksInBands_74 : decode cX4_ticksInBands 74 = .ok (.getfield 101, 3) := by decide +kernel
theorem dX4_ticksInBands_77 : decode cX4_ticksInBands 77 = .ok (.imul, 1) := by decide +kernel
theorem dX4_ticksInBands_78 : decode cX4_ticksInBands 78 = .ok (.isub, 1) := by decide +kernel
theorem dX4_ticksInBands_79 : decode cX4_ticksInBands 79 = .ok (.istore 4, 2) := by decide +kernel
theorem dX4_ticksInBands_81 : decode cX4_ticksInBands 81 = .ok (.iload_n 2, 1) := by decide +kernel
theorem dX4_ticksInBands_82 : decode cX4_ticksInBands 82 = .ok (.aload_n 1, 1) := by decide +kernel
theorem dX4_ticksInBands_83 : decode cX4_ticksInBands 83 = .ok (.aload_n 0, 1) := by decide +kernel
theorem dX4_ticksInBands_84 : decode cX4_ticksInBands 84 = .ok (.getfield 25, 3) := by decide +kernel
theorem dX4_ticksInBands_87 : decode cX4_ticksInBands 87 = .ok (.iload_n 3, 1) := by decide +kernel
theorem dX4_ticksInBands_88 : decode cX4_ticksInBands 88 = .ok (.invokevirtual 92, 3) := by decide +kernel
theorem dX4_ticksInBands_91 : decode cX4_ticksInBands 91 = .ok (.ifCond .le 13, 3) := by decide +kernel
theorem dX4_ticksInBands_94 : decode cX4_ticksInBands 94 = .ok (.aload_n 0, 1) := by decide +kernel
theorem dX4_ticksInBands_95 : decode cX4_ticksInBands 95 = .ok (.getfield 101, 3) := by decide +kernel
theorem dX4_ticksInBands_98 : decode cX4_ticksInBands 98 = .ok (.iload 4, 2) := by decide +kernel
theorem dX4_ticksInBands_100 : decode cX4_ticksInBands 100 = .ok (.isub, 1) := by decide +kernel
theorem dX4_ticksInBands_101 : decode cX4_ticksInBands 101 = .ok (.goto 4, 3) := by decide +kernel
theorem dX4_ticksInBands_104 : decode cX4_ticksInBands 104 = .ok (.iconst 0, 1) := by decide +kernel
theorem dX4_ticksInBands_105 : decode cX4_ticksInBands 105 = .ok (.iadd, 1) := by decide +kernel
theorem dX4_ticksInBands_106 : decode cX4_ticksInBands 106 = .ok (.istore_n 2, 1) := by decide +kernel
theorem dX4_ticksInBands_107 : decode cX4_ticksInBands 107 = .ok (.iload_n 2, 1) := by decide +kernel
theorem dX4_ticksInBands_108 : decode cX4_ticksInBands 108 = .ok (.aload_n 1, 1) := by decide +kernel
theorem dX4_ticksInBands_109 : decode cX4_ticksInBands 109 = .ok (.aload_n 0, 1) := by decide +kernel
theorem dX4_ticksInBands_110 : decode cX4_ticksInBands 110 = .ok (.getfield 25, 3) := by decide +kernel
theorem dX4_ticksInBands_113 : decode cX4_ticksInBands 113 = .ok (.iload_n 3, 1) := by decide +kernel
theorem dX4_ticksInBands_114 : decode cX4_ticksInBands 114 = .ok (.iconst 1, 1) := by decide +kernel
theorem dX4_ticksInBands_115 : decode cX4_ticksInBands 115 = .ok (.iadd, 1) := by decide +kernel
theorem dX4_ticksInBands_116 : decode cX4_ticksInBands 116 = .ok (.invokevirtual 92, 3) := by decide +kernel
theorem dX4_ticksInBands_119 : decode cX4_ticksInBands 119 = .ok (.ifCond .le 8, 3) := by decide +kernel
theorem dX4_ticksInBands_122 : decode cX4_ticksInBands 122 = .ok (.iload 4, 2) := by decide +kernel
theorem dX4_ticksInBands_124 : decode cX4_ticksInBands 124 = .ok (.goto 4, 3) := by decide +kernel
theorem dX4_ticksInBands_127 : decode cX4_ticksInBands 127 = .ok (.iconst 0, 1) := by decide +kernel
theorem dX4_ticksInBands_128 : decode cX4_ticksInBands 128 = .ok (.iadd, 1) := by decide +kernel
theorem dX4_ticksInBands_129 : decode cX4_ticksInBands 129 = .ok (.istore_n 2, 1) := by decide +kernel
theorem dX4_ticksInBands_130 : decode cX4_ticksInBands 130 = .ok (.iload_n 2, 1) := by decide +kernel
theorem dX4_ticksInBands_131 : decode cX4_ticksInBands 131 = .ok (.ireturn, 1) := by decide +kernel
theorem dX4_greatestChange_0 : decode cX4_greatestChange 0 = .ok (.iconst 0, 1) := by decide +kernel
theorem dX4_greatestChange_1 : decode cX4_greatestChange 1 = .ok (.istore_n 2, 1) := by decide +kernel
theorem dX4_greatestChange_2 : decode cX4_greatestChange 2 = .ok (.iconst 0, 1) := by decide +kernel
theorem dX4_greatestChange_3 : decode cX4_greatestChange 3 = .ok (.istore_n 3, 1) := by decide +kernel
theorem dX4_greatestChange_4 : decode cX4_greatestChange 4 = .ok (.iconst 0, 1) := by decide +kernel
theorem dX4_greatestChange_5 : decode cX4_greatestChange 5 = .ok (.istore 4, 2) := by decide +kernel
theorem dX4_greatestChange_7 : decode cX4_greatestChange 7 = .ok (.iconst 0, 1) := by decide +kernel
theorem dX4_greatestChange_8 : decode cX4_greatestChange 8 = .ok (.istore 5, 2) := by decide +kernel
theorem dX4_greatestChange_10 : decode cX4_greatestChange 10 = .ok (.aload_n 0, 1) := by decide +kernel
theorem dX4_greatestChange_11 : decode cX4_greatestChange 11 = .ok (.invokevirtual 71, 3) := by decide +kernel
theorem dX4_greatestChange_14 : decode cX4_greatestChange 14 = .ok (.istore 6, 2) := by decide +kernel
theorem dX4_greatestChange_16 : decode cX4_greatestChange 16 = .ok (.iconst 1, 1) := by decide +kernel
theorem dX4_greatestChange_17 : decode cX4_greatestChange 17 = .ok (.istore 7, 2) := by decide +kernel
theorem dX4_greatestChange_19 : decode cX4_greatestChange 19 = .ok (.iload 7, 2) := by decide +kernel
theorem dX4_greatestChange_21 : decode cX4_greatestChange 21 = .ok (.iload 6, 2) := by decide +kernel
theorem dX4_greatestChange_23 : decode cX4_greatestChange 23 = .ok (.iconst 1, 1) := by decide +kernel
theorem dX4_greatestChange_24 : decode cX4_greatestChange 24 = .ok (.iadd, 1) := by decide +kernel
theorem dX4_greatestChange_25 : decode cX4_greatestChange 25 = .ok (.if_icmp .gt 61, 3) := by decide +kernel
theorem dX4_greatestChange_28 : decode cX4_greatestChange 28 = .ok (.aload_n 0, 1) := by decide +kernel
theorem dX4_greatestChange_29 : decode cX4_greatestChange 29 = .ok (.iload 7, 2) := by decide +kernel
theorem dX4_greatestChange_31 : decode cX4_greatestChange 31 = .ok (.invokevirtual 114, 3) := by decide +kernel
theorem dX4_greatestChange_34 : decode cX4_greatestChange 34 = .ok (.istore 8, 2) := by decide +kernel
theorem dX4_greatestChange_36 : decode cX4_greatestChange 36 = .ok (.iload 8, 2) := by decide +kernel
theorem dX4_greatestChange_38 : decode cX4_greatestChange 38 = .ok (.iload_n 3, 1) := by decide +kernel
theorem dX4_greatestChange_39 : decode cX4_greatestChange 39 = .ok (.isub, 1) := by decide +kernel
theorem dX4_greatestChange_40 : decode cX4_greatestChange 40 = .ok (.iload 4, 2) := by decide +kernel
theorem dX4_greatestChange_42 : decode cX4_greatestChange 42 = .ok (.isub, 1) := by decide +kernel
theorem dX4_greatestChange_43 : decode cX4_greatestChange 43 = .ok (.istore 9, 2) := by decide +kernel
theorem dX4_greatestChange_45 : decode cX4_greatestChange 45 = .ok (.iload_n 2, 1) := by decide +kernel
theorem dX4_greatestChange_46 : decode cX4_greatestChange 46 = .ok (.iload_n 1, 1) := by decide +kernel
theorem dX4_greatestChange_47 : decode cX4_greatestChange 47 = .ok (.ifCond .eq 11, 3) := by decide +kernel
theorem dX4_greatestChange_50 : decode cX4_greatestChange 50 = .ok (.iload 9, 2) := by decide +kernel
theorem dX4_greatestChange_52 : decode cX4_greatestChange 52 = .ok (.iload 5, 2) := by decide +kernel
theorem dX4_greatestChange_54 : decode cX4_greatestChange 54 = .ok (.isub, 1) := by decide +kernel
theorem dX4_greatestChange_55 : decode cX4_greatestChange 55 = .ok (.goto 5, 3) := by decide +kernel
theorem dX4_greatestChange_58 : decode cX4_greatestChange 58 = .ok (.iload 9, 2) := by decide +kernel
theorem dX4_greatestChange_60 : decode cX4_greatestChange 60 = .ok (.invokestatic 104, 3) := by decide +kernel
theorem dX4_greatestChange_63 : decode cX4_greatestChange 63 = .ok (.invokestatic 95, 3) := by decide +kernel
theorem dX4_greatestChange_66 : decode cX4_greatestChange 66 = .ok (.istore_n 2, 1) := by decide +kernel
theorem dX4_greatestChange_67 : decode cX4_greatestChange 67 = .ok (.iload 8, 2) := by decide +kernel
theorem dX4_greatestChange_69 : decode cX4_greatestChange 69 = .ok (.iload_n 3, 1) := by decide +kernel
theorem dX4_greatestChange_70 : decode cX4_greatestChange 70 = .ok (.isub, 1) := by decide +kernel
theorem dX4_greatestChange_71 : decode cX4_greatestChange 71 = .ok (.istore 4, 2) := by decide +kernel
theorem dX4_greatestChange_73 : decode cX4_greatestChange 73 = .ok (.iload 8, 2) := by decide +kernel
theorem dX4_greatestChange_75 : decode cX4_greatestChange 75 = .ok (.istore_n 3, 1) := by decide +kernel
theorem dX4_greatestChange_76 : decode cX4_greatestChange 76 = .ok (.iload 9, 2) := by decide +kernel
theorem dX4_greatestChange_78 : decode cX4_greatestChange 78 = .ok (.istore 5, 2) := by decide +kernel
theorem dX4_greatestChange_80 : decode cX4_greatestChange 80 = .ok (.iinc 7 1, 3) := by decide +kernel
theorem dX4_greatestChange_83 : decode cX4_greatestChange 83 = .ok (.goto (-64), 3) := by decide +kernel
theorem dX4_greatestChange_86 : decode cX4_greatestChange 86 = .ok (.iload_n 2, 1) := by decide +kernel
theorem dX4_greatestChange_87 : decode cX4_greatestChange 87 = .ok (.ireturn, 1) := by decide +kernel
theorem dX10_byteAt_0 : decode cX10_byteAt 0 = .ok (.iload_n 1, 1) := by decide +kernel
theorem dX10_byteAt_1 : decode cX10_byteAt 1 = .ok (.ifCond .lt 33, 3) := by decide +kernel
theorem dX10_byteAt_4 : decode cX10_byteAt 4 = .ok (.iload_n 1, 1) := by decide +kernel
theorem dX10_byteAt_5 : decode cX10_byteAt 5 = .ok (.aload_n 0, 1) := by decide +kernel
theorem dX10_byteAt_6 : decode cX10_byteAt 6 = .ok (.getfield 15, 3) := by decide +kernel
theorem dX10_byteAt_9 : decode cX10_byteAt 9 = .ok (.if_icmp .ge 25, 3) := by decide +kernel
theorem dX10_byteAt_12 : decode cX10_byteAt 12 = .ok (.iload_n 1, 1) := by decide +kernel
theorem dX10_byteAt_13 : decode cX10_byteAt 13 = .ok (.aload_n 0, 1) := by decide +kernel
theorem dX10_byteAt_14 : decode cX10_byteAt 14 = .ok (.getfield 9, 3) := by decide +kernel
theorem dX10_byteAt_17 : decode cX10_byteAt 17 = .ok (.arraylength, 1) := by decide +kernel
theorem dX10_byteAt_18 : decode cX10_byteAt 18 = .ok (.if_icmp .ge 16, 3) := by decide +kernel
theorem dX10_byteAt_21 : decode cX10_byteAt 21 = .ok (.aload_n 0, 1) := by decide +kernel
theorem dX10_byteAt_22 : decode cX10_byteAt 22 = .ok (.getfield 9, 3) := by decide +kernel
theorem dX10_byteAt_25 : decode cX10_byteAt 25 = .ok (.iload_n 1, 1) := by decide +kernel
theorem dX10_byteAt_26 : decode cX10_byteAt 26 = .ok (.baload, 1) := by decide +kernel
theorem dX10_byteAt_27 : decode cX10_byteAt 27 = .ok (.sipush 255, 3) := by decide +kernel
theorem dX10_byteAt_30 : decode cX10_byteAt 30 = .ok (.iand, 1) := by decide +kernel
theorem dX10_byteAt_31 : decode cX10_byteAt 31 = .ok (.goto 4, 3) := by decide +kernel
theorem dX10_byteAt_34 : decode cX10_byteAt 34 = .ok (.iconst (-1), 1) := by decide +kernel
theorem dX10_byteAt_35 : decode cX10_byteAt 35 = .ok (.ireturn, 1) := by decide +kernel
theorem dX6_isBlank_0 : decode cX6_isBlank 0 = .ok (.iload_n 0, 1) := by decide +kernel
theorem dX6_isBlank_1 : decode cX6_isBlank 1 = .ok (.bipush 32, 2) := by decide +kernel
theorem dX6_isBlank_3 : decode cX6_isBlank 3 = .ok (.if_icmp .eq 9, 3) := by decide +kernel
theorem dX6_isBlank_6 : decode cX6_isBlank 6 = .ok (.iload_n 0, 1) := by decide +kernel
theorem dX6_isBlank_7 : decode cX6_isBlank 7 = .ok (.bipush 10, 2) := by decide +kernel
theorem dX6_isBlank_9 : decode cX6_isBlank 9 = .ok (.if_icmp .ne 7, 3) := by decide +kernel
theorem dX6_isBlank_12 : decode cX6_isBlank 12 = .ok (.iconst 1, 1) := by decide +kernel
theorem dX6_isBlank_13 : decode cX6_isBlank 13 = .ok (.goto 4, 3) := by decide +kernel
theorem dX6_isBlank_16 : decode cX6_isBlank 16 = .ok (.iconst 0, 1) := by decide +kernel
theorem dX6_isBlank_17 : decode cX6_isBlank 17 = .ok (.ireturn, 1) := by decide +kernel
theorem dX6_isLetter_0 : decode cX6_isLetter 0 = .ok (.iload_n 0, 1) := by decide +kernel
theorem dX6_isLetter_1 : decode cX6_isLetter 1 = .ok (.bipush 97, 2) := by decide +kernel
theorem dX6_isLetter_3 : decode cX6_isLetter 3 = .ok (.if_icmp .lt 13, 3) := by decide +kernel
theorem dX6_isLetter_6 : decode cX6_isLetter 6 = .ok (.iload_n 0, 1) := by decide +kernel
theorem dX6_isLetter_7 : decode cX6_isLetter 7 = .ok (.bipush 122, 2) := by decide +kernel
theorem dX6_isLetter_9 : decode cX6_isLetter 9 = .ok (.if_icmp .gt 7, 3) := by decide +kernel
theorem dX6_isLetter_12 : decode cX6_isLetter 12 = .ok (.iconst 1, 1) := by decide +kernel
theorem dX6_isLetter_13 : decode cX6_isLetter 13 = .ok (.goto 4, 3) := by decide +kernel
theorem dX6_isLetter_16 : decode cX6_isLetter 16 = .ok (.iconst 0, 1) := by decide +kernel
theorem dX6_isLetter_17 : decode cX6_isLetter 17 = .ok (.ireturn, 1) := by decide +kernel
theorem dX6_stepWord_0 : decode cX6_stepWord 0 = .ok (.aload_n 0, 1) := by decide +kernel
theorem dX6_stepWord_1 : decode cX6_stepWord 1 = .ok (.getfield 188, 3) := by decide +kernel
theorem dX6_stepWord_4 : decode cX6_stepWord 4 = .ok (.istore_n 1, 1) := by decide +kernel
theorem dX6_stepWord_5 : decode cX6_stepWord 5 = .ok (.aload_n 0, 1) := by decide +kernel
theorem dX6_stepWord_6 : decode cX6_stepWord 6 = .ok (.iconst 0, 1) := by decide +kernel
theorem dX6_stepWord_7 : decode cX6_stepWord 7 = .ok (.putfield 80, 3) := by decide +kernel
theorem dX6_stepWord_10 : decode cX6_stepWord 10 = .ok (.iload_n 1, 1) := by decide +kernel
theorem dX6_stepWord_11 : decode cX6_stepWord 11 = .ok (.aload_n 0, 1) := by decide +kernel
theorem dX6_stepWord_12 : decode cX6_stepWord 12 = .ok (.getfield 15, 3) := by decide +kernel
theorem dX6_stepWord_15 : decode cX6_stepWord 15 = .ok (.getfield 205, 3) := by decide +kernel
theorem dX6_stepWord_18 : decode cX6_stepWord 18 = .ok (.if_icmp .ge 48, 3) := by decide +kernel
theorem dX6_stepWord_21 : decode cX6_stepWord 21 = .ok (.aload_n 0, 1) := by decide +kernel
theorem dX6_stepWord_22 : decode cX6_stepWord 22 = .ok (.getfield 15, 3) := by decide +kernel
theorem dX6_stepWord_25 : decode cX6_stepWord 25 = .ok (.iload_n 1, 1) := by decide +kernel
theorem dX6_stepWord_26 : decode cX6_stepWord 26 = .ok (.invokevirtual 209, 3) := by decide +kernel
theorem dX6_stepWord_29 : decode cX6_stepWord 29 = .ok (.invokestatic 215, 3) := by decide +kernel
theorem dX6_stepWord_32 : decode cX6_stepWord 32 = .ok (.ifCond .eq 34, 3) := by decide +kernel
theorem dX6_stepWord_35 : decode cX6_stepWord 35 = .ok (.aload_n 0, 1) := by decide +kernel
theorem dX6_stepWord_36 : decode cX6_stepWord 36 = .ok (.aload_n 0, 1) := by decide +kernel
theorem dX6_stepWord_37 : decode cX6_stepWord 37 = .ok (.getfield 80, 3) := by decide +kernel
theorem dX6_stepWord_40 : decode cX6_stepWord 40 = .ok (.bipush 27, 2) := by decide +kernel
theorem dX6_stepWord_42 : decode cX6_stepWord 42 = .ok (.imul, 1) := by decide +kernel
theorem dX6_stepWord_43 : decode cX6_stepWord 43 = .ok (.aload_n 0, 1) := by decide +kernel
theorem dX6_stepWord_44 : decode cX6_stepWord 44 = .ok (.getfield 15, 3) := by decide +kernel
theorem dX6_stepWord_47 : decode cX6_stepWord 47 = .ok (.iload_n 1, 1) := by decide +kernel
theorem dX6_stepWord_48 : decode cX6_stepWord 48 = .ok (.invokevirtual 209, 3) := by decide +kernel
theorem dX6_stepWord_51 : decode cX6_stepWord 51 = .ok (.iadd, 1) := by decide +kernel
theorem dX6_stepWord_52 : decode cX6_stepWord 52 = .ok (.bipush 97, 2) := by decide +kernel
theorem dX6_stepWord_54 : decode cX6_stepWord 54 = .ok (.isub, 1) := by decide +kernel
theorem dX6_stepWord_55 : decode cX6_stepWord 55 = .ok (.iconst 1, 1) := by decide +kernel
theorem dX6_stepWord_56 : decode cX6_stepWord 56 = .ok (.iadd, 1) := by decide +kernel
theorem dX6_stepWord_57 : decode cX6_stepWord 57 = .ok (.putfield 80, 3) := by decide +kernel
theorem dX6_stepWord_60 : decode cX6_stepWord 60 = .ok (.iinc 1 1, 3) := by decide +kernel
theorem dX6_stepWord_63 : decode cX6_stepWord 63 = .ok (.goto (-53), 3) := by decide +kernel
theorem dX6_stepWord_66 : decode cX6_stepWord 66 = .ok (.aload_n 0, 1) := by decide +kernel
theorem dX6_stepWord_67 : decode cX6_stepWord 67 = .ok (.iload_n 1, 1) := by decide +kernel
theorem dX6_stepWord_68 : decode cX6_stepWord 68 = .ok (.aload_n 0, 1) := by decide +kernel
theorem dX6_stepWord_69 : decode cX6_stepWord 69 = .ok (.getfield 188, 3) := by decide +kernel
theorem dX6_stepWord_72 : decode cX6_stepWord 72 = .ok (.isub, 1) := by decide +kernel
theorem dX6_stepWord_73 : decode cX6_stepWord 73 = .ok (.bipush 6, 2) := by decide +kernel
theorem dX6_stepWord_75 : decode cX6_stepWord 75 = .ok (.if_icmp .gt 7, 3) := by decide +kernel
theorem dX6_stepWord_78 : decode cX6_stepWord 78 = .ok (.iconst 1, 1) := by decide +kernel
theorem dX6_stepWord_79 : decode cX6_stepWord 79 = .ok (.goto 4, 3) := by decide +kernel
theorem dX6_stepWord_82 : decode cX6_stepWord 82 = .ok (.iconst 5, 1) := by decide +kernel
theorem dX6_stepWord_83 : decode cX6_stepWord 83 = .ok (.putfield 37, 3) := by decide +kernel
theorem dX6_stepWord_86 : decode cX6_stepWord 86 = .ok (.aload_n 0, 1) := by decide +kernel
theorem dX6_stepWord_87 : decode cX6_stepWord 87 = .ok (.iload_n 1, 1) := by decide +kernel
theorem dX6_stepWord_88 : decode cX6_stepWord 88 = .ok (.putfield 23, 3) := by decide +kernel
theorem dX6_stepWord_91 : decode cX6_stepWord 91 = .ok (.return_, 1) := by decide +kernel
theorem dX6_isDigit_0 : decode cX6_isDigit 0 = .ok (.iload_n 0, 1) := by decide +kernel
theorem dX6_isDigit_1 : decode cX6_isDigit 1 = .ok (.bipush 48, 2) := by decide +kernel
theorem dX6_isDigit_3 : decode cX6_isDigit 3 = .ok (.if_icmp .lt 13, 3) := by decide +kernel
theorem dX6_isDigit_6 : decode cX6_isDigit 6 = .ok (.iload_n 0, 1) := by decide +kernel
theorem dX6_isDigit_7 : decode cX6_isDigit 7 = .ok (.bipush 57, 2) := by decide +kernel
theorem dX6_isDigit_9 : decode cX6_isDigit 9 = .ok (.if_icmp .gt 7, 3) := by decide +kernel
theorem dX6_isDigit_12 : decode cX6_isDigit 12 = .ok (.iconst 1, 1) := by decide +kernel
theorem dX6_isDigit_13 : decode cX6_isDigit 13 = .ok (.goto 4, 3) := by decide +kernel
theorem dX6_isDigit_16 : decode cX6_isDigit 16 = .ok (.iconst 0, 1) := by decide +kernel
theorem dX6_isDigit_17 : decode cX6_isDigit 17 = .ok (.ireturn, 1) := by decide +kernel
theorem dX6_stepNumber_0 : decode cX6_stepNumber 0 = .ok (.aload_n 0, 1) := by decide +kernel
theorem dX6_stepNumber_1 : decode cX6_stepNumber 1 = .ok (.getfield 188, 3) := by decide +kernel
theorem dX6_stepNumber_4 : decode cX6_stepNumber 4 = .ok (.istore_n 1, 1) := by decide +kernel
theorem dX6_stepNumber_5 : decode cX6_stepNumber 5 = .ok (.aload_n 0, 1) := by decide +kernel
theorem dX6_stepNumber_6 : decode cX6_stepNumber 6 = .ok (.iconst 0, 1) := by decide +kernel
theorem dX6_stepNumber_7 : decode cX6_stepNumber 7 = .ok (.putfield 80, 3) := by decide +kernel
theorem dX6_stepNumber_10 : decode cX6_stepNumber 10 = .ok (.iload_n 1, 1) := by decide +kernel
theorem dX6_stepNumber_11 : decode cX6_stepNumber 11 = .ok (.aload_n 0, 1) := by decide +kernel
theorem dX6_stepNumber_12 : decode cX6_stepNumber 12 = .ok (.getfield 15, 3) := by decide +kernel
theorem dX6_stepNumber_15 : decode cX6_stepNumber 15 = .ok (.getfield 205, 3) := by decide +kernel
theorem dX6_stepNumber_18 : decode cX6_stepNumber 18 = .ok (.if_icmp .ge 46, 3) := by decide +kernel
theorem dX6_stepNumber_21 : decode cX6_stepNumber 21 = .ok (.aload_n 0, 1) := by decide +kernel
theorem dX6_stepNumber_22 : decode cX6_stepNumber 22 = .ok (.getfield 15, 3) := by decide +kernel
theorem dX6_stepNumber_25 : decode cX6_stepNumber 25 = .ok (.iload_n 1, 1) := by decide +kernel
theorem dX6_stepNumber_26 : decode cX6_stepNumber 26 = .ok (.invokevirtual 209, 3) := by decide +kernel
theorem dX6_stepNumber_29 : decode cX6_stepNumber 29 = .ok (.invokestatic 221, 3) := by decide +kernel
theorem dX6_stepNumber_32 : decode cX6_stepNumber 32 = .ok (.ifCond .eq 32, 3) := by decide +kernel
theorem dX6_stepNumber_35 : decode cX6_stepNumber 35 = .ok (.aload_n 0, 1) := by decide +kernel
theorem dX6_stepNumber_36 : decode cX6_stepNumber 36 = .ok (.aload_n 0, 1) := by decide +kernel
theorem dX6_stepNumber_37 : decode cX6_stepNumber 37 = .ok (.getfield 80, 3) := by decide +kernel
theorem dX6_stepNumber_40 : decode cX6_stepNumber 40 = .ok (.bipush 10, 2) := by decide +kernel
theorem dX6_stepNumber_42 : decode cX6_stepNumber 42 = .ok (.imul, 1) := by decide +kernel
theorem dX6_stepNumber_43 : decode cX6_stepNumber 43 = .ok (.aload_n 0, 1) := by decide +kernel
theorem dX6_stepNumber_44 : decode cX6_stepNumber 44 = .ok (.getfield 15, 3) := by decide +kernel
theorem dX6_stepNumber_47 : decode cX6_stepNumber 47 = .ok (.iload_n 1, 1) := by decide +kernel
theorem dX6_stepNumber_48 : decode cX6_stepNumber 48 = .ok (.invokevirtual 209, 3) := by decide +kernel
theorem dX6_stepNumber_51 : decode cX6_stepNumber 51 = .ok (.iadd, 1) := by decide +kernel
theorem dX6_stepNumber_52 : decode cX6_stepNumber 52 = .ok (.bipush 48, 2) := by decide +kernel
theorem dX6_stepNumber_54 : decode cX6_stepNumber 54 = .ok (.isub, 1) := by decide +kernel
theorem dX6_stepNumber_55 : decode cX6_stepNumber 55 = .ok (.putfield 80, 3) := by decide +kernel
theorem dX6_stepNumber_58 : decode cX6_stepNumber 58 = .ok (.iinc 1 1, 3) := by decide +kernel
theorem dX6_stepNumber_61 : decode cX6_stepNumber 61 = .ok (.goto (-51), 3) := by decide +kernel
theorem dX6_stepNumber_64 : decode cX6_stepNumber 64 = .ok (.iload_n 1, 1) := by decide +kernel
theorem dX6_stepNumber_65 : decode cX6_stepNumber 65 = .ok (.aload_n 0, 1) := by decide +kernel
theorem dX6_stepNumber_66 : decode cX6_stepNumber 66 = .ok (.getfield 188, 3) := by decide +kernel
theorem dX6_stepNumber_69 : decode cX6_stepNumber 69 = .ok (.isub, 1) := by decide +kernel
theorem dX6_stepNumber_70 : decode cX6_stepNumber 70 = .ok (.iconst 5, 1) := by decide +kernel
theorem dX6_stepNumber_71 : decode cX6_stepNumber 71 = .ok (.if_icmp .gt 21, 3) := by decide +kernel
theorem dX6_stepNumber_74 : decode cX6_stepNumber 74 = .ok (.aload_n 0, 1) := by decide +kernel
theorem dX6_stepNumber_75 : decode cX6_stepNumber 75 = .ok (.getfield 15, 3) := by decide +kernel
theorem dX6_stepNumber_78 : decode cX6_stepNumber 78 = .ok (.iload_n 1, 1) := by decide +kernel
theorem dX6_stepNumber_79 : decode cX6_stepNumber 79 = .ok (.invokevirtual 209, 3) := by decide +kernel
theorem dX6_stepNumber_82 : decode cX6_stepNumber 82 = .ok (.invokestatic 215, 3) := by decide +kernel
theorem dX6_stepNumber_85 : decode cX6_stepNumber 85 = .ok (.ifCond .ne 7, 3) := by decide +kernel
theorem dX6_stepNumber_88 : decode cX6_stepNumber 88 = .ok (.iconst 1, 1) := by decide +kernel
theorem dX6_stepNumber_89 : decode cX6_stepNumber 89 = .ok (.goto 4, 3) := by decide +kernel
theorem dX6_stepNumber_92 : decode cX6_stepNumber 92 = .ok (.iconst 0, 1) := by decide +kernel
theorem dX6_stepNumber_93 : decode cX6_stepNumber 93 = .ok (.istore_n 2, 1) := by decide +kernel
theorem dX6_stepNumber_94 : decode cX6_stepNumber 94 = .ok (.aload_n 0, 1) := by decide +kernel
theorem dX6_stepNumber_95 : decode cX6_stepNumber 95 = .ok (.iload_n 2, 1) := by decide +kernel
theorem dX6_stepNumber_96 : decode cX6_stepNumber 96 = .ok (.ifCond .eq 7, 3) := by decide +kernel
theorem dX6_stepNumber_99 : decode cX6_stepNumber 99 = .ok (.iconst 2, 1) := by decide +kernel
theorem dX6_stepNumber_100 : decode cX6_stepNumber 100 = .ok (.goto 4, 3) := by decide +kernel
theorem dX6_stepNumber_103 : decode cX6_stepNumber 103 = .ok (.iconst 5, 1) := by decide +kernel
theorem dX6_stepNumber_104 : decode cX6_stepNumber 104 = .ok (.putfield 37, 3) := by decide +kernel
theorem dX6_stepNumber_107 : decode cX6_stepNumber 107 = .ok (.aload_n 0, 1) := by decide +kernel
theorem dX6_stepNumber_108 : decode cX6_stepNumber 108 = .ok (.iload_n 1, 1) := by decide +kernel
theorem dX6_stepNumber_109 : decode cX6_stepNumber 109 = .ok (.putfield 23, 3) := by decide +kernel
theorem dX6_stepNumber_112 : decode cX6_stepNumber 112 = .ok (.return_, 1) := by decide +kernel
theorem dX6_step_0 : decode cX6_step 0 = .ok (.aload_n 0, 1) := by decide +kernel
theorem dX6_step_1 : decode cX6_step 1 = .ok (.getfield 23, 3) := by decide +kernel
theorem dX6_step_4 : decode cX6_step 4 = .ok (.istore_n 1, 1) := by decide +kernel
theorem dX6_step_5 : decode cX6_step 5 = .ok (.iload_n 1, 1) := by decide +kernel
theorem dX6_step_6 : decode cX6_step 6 = .ok (.aload_n 0, 1) := by decide +kernel
theorem dX6_step_7 : decode cX6_step 7 = .ok (.getfield 15, 3) := by decide +kernel
theorem dX6_step_10 : decode cX6_step 10 = .ok (.getfield 205, 3) := by decide +kernel
theorem dX6_step_13 : decode cX6_step 13 = .ok (.if_icmp .ge 23, 3) := by decide +kernel
theorem dX6_step_16 : decode cX6_step 16 = .ok (.aload_n 0, 1) := by decide +kernel
theorem dX6_step_17 : decode cX6_step 17 = .ok (.getfield 15, 3) := by decide +kernel
theorem dX6_step_20 : decode cX6_step 20 = .ok (.iload_n 1, 1) := by decide +kernel
theorem dX6_step_21 : decode cX6_step 21 = .ok (.invokevirtual 209, 3) := by decide +kernel
theorem dX6_step_24 : decode cX6_step 24 = .ok (.invokestatic 212, 3) := by decide +kernel
theorem dX6_step_27 : decode cX6_step 27 = .ok (.ifCond .eq 9, 3) := by decide +kernel
theorem dX6_step_30 : decode cX6_step 30 = .ok (.iinc 1 1, 3) := by decide +kernel
theorem dX6_step_33 : decode cX6_step 33 = .ok (.goto (-28), 3) := by decide +kernel
theorem dX6_step_36 : decode cX6_step 36 = .ok (.aload_n 0, 1) := by decide +kernel
theorem dX6_step_37 : decode cX6_step 37 = .ok (.iload_n 1, 1) := by decide +kernel
theorem dX6_step_38 : decode cX6_step 38 = .ok (.putfield 188, 3) := by decide +kernel
theorem dX6_step_41 : decode cX6_step 41 = .ok (.aload_n 0, 1) := by decide +kernel
theorem dX6_step_42 : decode cX6_step 42 = .ok (.getfield 15, 3) := by decide +kernel
theorem dX6_step_45 : decode cX6_step 45 = .ok (.iload_n 1, 1) := by decide +kernel
theorem dX6_step_46 : decode cX6_step 46 = .ok (.invokevirtual 209, 3) := by decide +kernel
theorem dX6_step_49 : decode cX6_step 49 = .ok (.istore_n 2, 1) := by decide +kernel
theorem dX6_step_50 : decode cX6_step 50 = .ok (.iload_n 2, 1) := by decide +kernel
theorem dX6_step_51 : decode cX6_step 51 = .ok (.iconst (-1), 1) := by decide +kernel
theorem dX6_step_52 : decode cX6_step 52 = .ok (.if_icmp .ne 16, 3) := by decide +kernel
theorem dX6_step_55 : decode cX6_step 55 = .ok (.aload_n 0, 1) := by decide +kernel
theorem dX6_step_56 : decode cX6_step 56 = .ok (.iconst 0, 1) := by decide +kernel
theorem dX6_step_57 : decode cX6_step 57 = .ok (.putfield 37, 3) := by decide +kernel
theorem dX6_step_60 : decode cX6_step 60 = .ok (.aload_n 0, 1) := by decide +kernel
theorem dX6_step_61 : decode cX6_step 61 = .ok (.iload_n 1, 1) := by decide +kernel
theorem dX6_step_62 : decode cX6_step 62 = .ok (.putfield 23, 3) := by decide +kernel
theorem dX6_step_65 : decode cX6_step 65 = .ok (.goto 63, 3) := by decide +kernel
theorem dX6_step_68 : decode cX6_step 68 = .ok (.iload_n 2, 1) := by decide +kernel
theorem dX6_step_69 : decode cX6_step 69 = .ok (.invokestatic 215, 3) := by decide +kernel
theorem dX6_step_72 : decode cX6_step 72 = .ok (.ifCond .eq 10, 3) := by decide +kernel
theorem dX6_step_75 : decode cX6_step 75 = .ok (.aload_n 0, 1) := by decide +kernel
theorem dX6_step_76 : decode cX6_step 76 = .ok (.invokevirtual 218, 3) := by decide +kernel
theorem dX6_step_79 : decode cX6_step 79 = .ok (.goto 49, 3) := by decide +kernel
theorem dX6_step_82 : decode cX6_step 82 = .ok (.iload_n 2, 1) := by decide +kernel
theorem dX6_step_83 : decode cX6_step 83 = .ok (.invokestatic 221, 3) := by decide +kernel
theorem dX6_step_86 : decode cX6_step 86 = .ok (.ifCond .eq 10, 3) := by decide +kernel
theorem dX6_step_89 : decode cX6_step 89 = .ok (.aload_n 0, 1) := by decide +kernel
theorem dX6_step_90 : decode cX6_step 90 = .ok (.invokevirtual 224, 3) := by decide +kernel
theorem dX6_step_93 : decode cX6_step 93 = .ok (.goto 35, 3) := by decide +kernel
theorem dX6_step_96 : decode cX6_step 96 = .ok (.aload_n 0, 1) := by decide +kernel
theorem dX6_step_97 : decode cX6_step 97 = .ok (.iload_n 2, 1) := by decide +kernel
theorem dX6_step_98 : decode cX6_step 98 = .ok (.bipush 45, 2) := by decide +kernel
theorem dX6_step_100 : decode cX6_step 100 = .ok (.if_icmp .ne 7, 3) := by decide +kernel
theorem dX6_step_103 : decode cX6_step 103 = .ok (.iconst 3, 1) := by decide +kernel
theorem dX6_step_104 : decode cX6_step 104 = .ok (.goto 14, 3) := by decide +kernel
theorem dX6_step_107 : decode cX6_step 107 = .ok (.iload_n 2, 1) := by decide +kernel
theorem dX6_step_108 : decode cX6_step 108 = .ok (.bipush 59, 2) := by decide +kernel
theorem dX6_step_110 : decode cX6_step 110 = .ok (.if_icmp .ne 7, 3) := by decide +kernel
theorem dX6_step_113 : decode cX6_step 113 = .ok (.iconst 4, 1) := by decide +kernel
theorem dX6_step_114 : decode cX6_step 114 = .ok (.goto 4, 3) := by decide +kernel
theorem dX6_step_117 : decode cX6_step 117 = .ok (.iconst 5, 1) := by decide +kernel
theorem dX6_step_118 : decode cX6_step 118 = .ok (.putfield 37, 3) := by decide +kernel
theorem dX6_step_121 : decode cX6_step 121 = .ok (.aload_n 0, 1) := by decide +kernel
theorem dX6_step_122 : decode cX6_step 122 = .ok (.iload_n 1, 1) := by decide +kernel
theorem dX6_step_123 : decode cX6_step 123 = .ok (.iconst 1, 1) := by decide +kernel
theorem dX6_step_124 : decode cX6_step 124 = .ok (.iadd, 1) := by decide +kernel
theorem dX6_step_125 : decode cX6_step 125 = .ok (.putfield 23, 3) := by decide +kernel
theorem dX6_step_128 : decode cX6_step 128 = .ok (.return_, 1) := by decide +kernel
theorem dX6_start_0 : decode cX6_start 0 = .ok (.aload_n 0, 1) := by decide +kernel
theorem dX6_start_1 : decode cX6_start 1 = .ok (.aload_n 1, 1) := by decide +kernel
theorem dX6_start_2 : decode cX6_start 2 = .ok (.putfield 19, 3) := by decide +kernel
theorem dX6_start_5 : decode cX6_start 5 = .ok (.aload_n 0, 1) := by decide +kernel
theorem dX6_start_6 : decode cX6_start 6 = .ok (.iconst 0, 1) := by decide +kernel
theorem dX6_start_7 : decode cX6_start 7 = .ok (.putfield 23, 3) := by decide +kernel
theorem dX6_start_10 : decode cX6_start 10 = .ok (.aload_n 0, 1) := by decide +kernel
theorem dX6_start_11 : decode cX6_start 11 = .ok (.iconst 0, 1) := by decide +kernel
theorem dX6_start_12 : decode cX6_start 12 = .ok (.putfield 26, 3) := by decide +kernel
theorem dX6_start_15 : decode cX6_start 15 = .ok (.aload_n 0, 1) := by decide +kernel
theorem dX6_start_16 : decode cX6_start 16 = .ok (.iconst (-1), 1) := by decide +kernel
theorem dX6_start_17 : decode cX6_start 17 = .ok (.putfield 9, 3) := by decide +kernel
theorem dX6_start_20 : decode cX6_start 20 = .ok (.aload_n 0, 1) := by decide +kernel
theorem dX6_start_21 : decode cX6_start 21 = .ok (.getfield 19, 3) := by decide +kernel
theorem dX6_start_24 : decode cX6_start 24 = .ok (.invokevirtual 29, 3) := by decide +kernel
theorem dX6_start_27 : decode cX6_start 27 = .ok (.aload_n 0, 1) := by decide +kernel
theorem dX6_start_28 : decode cX6_start 28 = .ok (.invokevirtual 34, 3) := by decide +kernel
theorem dX6_start_31 : decode cX6_start 31 = .ok (.return_, 1) := by decide +kernel
theorem dX6_hasMore_0 : decode cX6_hasMore 0 = .ok (.aload_n 0, 1) := by decide +kernel
theorem dX6_hasMore_1 : decode cX6_hasMore 1 = .ok (.getfield 37, 3) := by decide +kernel
theorem dX6_hasMore_4 : decode cX6_hasMore 4 = .ok (.ifCond .eq 7, 3) := by decide +kernel
theorem dX6_hasMore_7 : decode cX6_hasMore 7 = .ok (.iconst 1, 1) := by decide +kernel
theorem dX6_hasMore_8 : decode cX6_hasMore 8 = .ok (.goto 4, 3) := by decide +kernel
theorem dX6_hasMore_11 : decode cX6_hasMore 11 = .ok (.iconst 0, 1) := by decide +kernel
theorem dX6_hasMore_12 : decode cX6_hasMore 12 = .ok (.ireturn, 1) := by decide +kernel
theorem dX6_refuse_0 : decode cX6_refuse 0 = .ok (.aload_n 0, 1) := by decide +kernel
theorem dX6_refuse_1 : decode cX6_refuse 1 = .ok (.aload_n 0, 1) := by decide +kernel
theorem dX6_refuse_2 : decode cX6_refuse 2 = .ok (.getfield 37, 3) := by decide +kernel
theorem dX6_refuse_5 : decode cX6_refuse 5 = .ok (.iconst 5, 1) := by decide +kernel
theorem dX6_refuse_6 : decode cX6_refuse 6 = .ok (.if_icmp .ne 7, 3) := by decide +kernel
theorem dX6_refuse_9 : decode cX6_refuse 9 = .ok (.iconst 1, 1) := by decide +kernel
theorem dX6_refuse_10 : decode cX6_refuse 10 = .ok (.goto 4, 3) := by decide +kernel
theorem dX6_refuse_13 : decode cX6_refuse 13 = .ok (.iload_n 1, 1) := by decide +kernel
theorem dX6_refuse_14 : decode cX6_refuse 14 = .ok (.putfield 26, 3) := by decide +kernel
theorem dX6_refuse_17 : decode cX6_refuse 17 = .ok (.aload_n 0, 1) := by decide +kernel
theorem dX6_refuse_18 : decode cX6_refuse 18 = .ok (.aload_n 0, 1) := by decide +kernel
theorem dX6_refuse_19 : decode cX6_refuse 19 = .ok (.getfield 188, 3) := by decide +kernel
theorem dX6_refuse_22 : decode cX6_refuse 22 = .ok (.putfield 9, 3) := by decide +kernel
theorem dX6_refuse_25 : decode cX6_refuse 25 = .ok (.iconst 0, 1) := by decide +kernel
theorem dX6_refuse_26 : decode cX6_refuse 26 = .ok (.ireturn, 1) := by decide +kernel
theorem dX6_takeNumber_0 : decode cX6_takeNumber 0 = .ok (.aload_n 0, 1) := by decide +kernel
theorem dX6_takeNumber_1 : decode cX6_takeNumber 1 = .ok (.getfield 37, 3) := by decide +kernel
theorem dX6_takeNumber_4 : decode cX6_takeNumber 4 = .ok (.iconst 2, 1) := by decide +kernel
theorem dX6_takeNumber_5 : decode cX6_takeNumber 5 = .ok (.if_icmp .eq 9, 3) := by decide +kernel
theorem dX6_takeNumber_8 : decode cX6_takeNumber 8 = .ok (.aload_n 0, 1) := by decide +kernel
theorem dX6_takeNumber_9 : decode cX6_takeNumber 9 = .ok (.iconst 2, 1) := by decide +kernel
theorem dX6_takeNumber_10 : decode cX6_takeNumber 10 = .ok (.invokevirtual 70, 3) := by decide +kernel
theorem dX6_takeNumber_13 : decode cX6_takeNumber 13 = .ok (.ireturn, 1) := by decide +kernel
theorem dX6_takeNumber_14 : decode cX6_takeNumber 14 = .ok (.aload_n 0, 1) := by decide +kernel
theorem dX6_takeNumber_15 : decode cX6_takeNumber 15 = .ok (.getfield 80, 3) := by decide +kernel
theorem dX6_takeNumber_18 : decode cX6_takeNumber 18 = .ok (.iload_n 1, 1) := by decide +kernel
theorem dX6_takeNumber_19 : decode cX6_takeNumber 19 = .ok (.iload_n 2, 1) := by decide +kernel
theorem dX6_takeNumber_20 : decode cX6_takeNumber 20 = .ok (.invokestatic 184, 3) := by decide +kernel
theorem dX6_takeNumber_23 : decode cX6_takeNumber 23 = .ok (.ifCond .ne 9, 3) := by decide +kernel
theorem dX6_takeNumber_26 : decode cX6_takeNumber 26 = .ok (.aload_n 0, 1) := by decide +kernel
theorem dX6_takeNumber_27 : decode cX6_takeNumber 27 = .ok (.iconst 4, 1) := by decide +kernel
theorem dX6_takeNumber_28 : decode cX6_takeNumber 28 = .ok (.invokevirtual 70, 3) := by decide +kernel
theorem dX6_takeNumber_31 : decode cX6_takeNumber 31 = .ok (.ireturn, 1) := by decide +kernel
theorem dX6_takeNumber_32 : decode cX6_takeNumber 32 = .ok (.aload_n 0, 1) := by decide +kernel
theorem dX6_takeNumber_33 : decode cX6_takeNumber 33 = .ok (.aload_n 0, 1) := by decide +kernel
theorem dX6_takeNumber_34 : decode cX6_takeNumber 34 = .ok (.getfield 80, 3) := by decide +kernel
theorem dX6_takeNumber_37 : decode cX6_takeNumber 37 = .ok (.putfield 105, 3) := by decide +kernel
theorem dX6_takeNumber_40 : decode cX6_takeNumber 40 = .ok (.aload_n 0, 1) := by decide +kernel
theorem dX6_takeNumber_41 : decode cX6_takeNumber 41 = .ok (.invokevirtual 34, 3) := by decide +kernel
theorem dX6_takeNumber_44 : decode cX6_takeNumber 44 = .ok (.iconst 1, 1) := by decide +kernel
theorem dX6_takeNumber_45 : decode cX6_takeNumber 45 = .ok (.ireturn, 1) := by decide +kernel
theorem dX6_takeStop_0 : decode cX6_takeStop 0 = .ok (.aload_n 0, 1) := by decide +kernel
theorem dX6_takeStop_1 : decode cX6_takeStop 1 = .ok (.getfield 37, 3) := by decide +kernel
theorem dX6_takeStop_4 : decode cX6_takeStop 4 = .ok (.iconst 4, 1) := by decide +kernel
theorem dX6_takeStop_5 : decode cX6_takeStop 5 = .ok (.if_icmp .eq 9, 3) := by decide +kernel
theorem dX6_takeStop_8 : decode cX6_takeStop 8 = .ok (.aload_n 0, 1) := by decide +kernel
theorem dX6_takeStop_9 : decode cX6_takeStop 9 = .ok (.iconst 2, 1) := by decide +kernel
theorem dX6_takeStop_10 : decode cX6_takeStop 10 = .ok (.invokevirtual 70, 3) := by decide +kernel
theorem dX6_takeStop_13 : decode cX6_takeStop 13 = .ok (.ireturn, 1) := by decide +kernel
theorem dX6_takeStop_14 : decode cX6_takeStop 14 = .ok (.aload_n 0, 1) := by decide +kernel
theorem dX6_takeStop_15 : decode cX6_takeStop 15 = .ok (.invokevirtual 34, 3) := by decide +kernel
theorem dX6_takeStop_18 : decode cX6_takeStop 18 = .ok (.iconst 1, 1) := by decide +kernel
theorem dX6_takeStop_19 : decode cX6_takeStop 19 = .ok (.ireturn, 1) := by decide +kernel
theorem dX6_readFix_0 : decode cX6_readFix 0 = .ok (.aload_n 0, 1) := by decide +kernel
theorem dX6_readFix_1 : decode cX6_readFix 1 = .ok (.invokevirtual 34, 3) := by decide +kernel
theorem dX6_readFix_4 : decode cX6_readFix 4 = .ok (.aload_n 0, 1) := by decide +kernel
theorem dX6_readFix_5 : decode cX6_readFix 5 = .ok (.getfield 37, 3) := by decide +kernel
theorem dX6_readFix_8 : decode cX6_readFix 8 = .ok (.iconst 2, 1) := by decide +kernel
theorem dX6_readFix_9 : decode cX6_readFix 9 = .ok (.if_icmp .ne 33, 3) := by decide +kernel
theorem dX6_readFix_12 : decode cX6_readFix 12 = .ok (.aload_n 0, 1) := by decide +kernel
theorem dX6_readFix_13 : decode cX6_readFix 13 = .ok (.getfield 80, 3) := by decide +kernel
theorem dX6_readFix_16 : decode cX6_readFix 16 = .ok (.bipush 64, 2) := by decide +kernel
theorem dX6_readFix_18 : decode cX6_readFix 18 = .ok (.if_icmp .gt 24, 3) := by decide +kernel
theorem dX6_readFix_21 : decode cX6_readFix 21 = .ok (.aload_n 0, 1) := by decide +kernel
theorem dX6_readFix_22 : decode cX6_readFix 22 = .ok (.getfield 19, 3) := by decide +kernel
theorem dX6_readFix_25 : decode cX6_readFix 25 = .ok (.getfield 154, 3) := by decide +kernel
theorem dX6_readFix_28 : decode cX6_readFix 28 = .ok (.aload_n 0, 1) := by decide +kernel
theorem dX6_readFix_29 : decode cX6_readFix 29 = .ok (.getfield 80, 3) := by decide +kernel
theorem dX6_readFix_32 : decode cX6_readFix 32 = .ok (.baload, 1) := by decide +kernel
theorem dX6_readFix_33 : decode cX6_readFix 33 = .ok (.ifCond .eq 9, 3) := by decide +kernel
theorem dX6_readFix_36 : decode cX6_readFix 36 = .ok (.aload_n 0, 1) := by decide +kernel
theorem dX6_readFix_37 : decode cX6_readFix 37 = .ok (.iconst 5, 1) := by decide +kernel
theorem dX6_readFix_38 : decode cX6_readFix 38 = .ok (.invokevirtual 70, 3) := by decide +kernel
theorem dX6_readFix_41 : decode cX6_readFix 41 = .ok (.ireturn, 1) := by decide +kernel
theorem dX6_readFix_42 : decode cX6_readFix 42 = .ok (.aload_n 0, 1) := by decide +kernel
theorem dX6_readFix_43 : decode cX6_readFix 43 = .ok (.iconst 0, 1) := by decide +kernel
theorem dX6_readFix_44 : decode cX6_readFix 44 = .ok (.bipush 64, 2) := by decide +kernel
theorem dX6_readFix_46 : decode cX6_readFix 46 = .ok (.invokevirtual 101, 3) := by decide +kernel
theorem dX6_readFix_49 : decode cX6_readFix 49 = .ok (.ifCond .ne 5, 3) := by decide +kernel
theorem dX6_readFix_52 : decode cX6_readFix 52 = .ok (.iconst 0, 1) := by decide +kernel
theorem dX6_readFix_53 : decode cX6_readFix 53 = .ok (.ireturn, 1) := by decide +kernel
theorem dX6_readFix_54 : decode cX6_readFix 54 = .ok (.aload_n 0, 1) := by decide +kernel
theorem dX6_readFix_55 : decode cX6_readFix 55 = .ok (.getfield 105, 3) := by decide +kernel
theorem dX6_readFix_58 : decode cX6_readFix 58 = .ok (.istore_n 1, 1) := by decide +kernel
theorem dX6_readFix_59 : decode cX6_readFix 59 = .ok (.aload_n 0, 1) := by decide +kernel
theorem dX6_readFix_60 : decode cX6_readFix 60 = .ok (.getfield 37, 3) := by decide +kernel
theorem dX6_readFix_63 : decode cX6_readFix 63 = .ok (.iconst 3, 1) := by decide +kernel
theorem dX6_readFix_64 : decode cX6_readFix 64 = .ok (.if_icmp .ne 7, 3) := by decide +kernel
theorem dX6_readFix_67 : decode cX6_readFix 67 = .ok (.iconst 1, 1) := by decide +kernel
theorem dX6_readFix_68 : decode cX6_readFix 68 = .ok (.goto 4, 3) := by decide +kernel
theorem dX6_readFix_71 : decode cX6_readFix 71 = .ok (.iconst 0, 1) := by decide +kernel
theorem dX6_readFix_72 : decode cX6_readFix 72 = .ok (.istore_n 2, 1) := by decide +kernel
theorem dX6_readFix_73 : decode cX6_readFix 73 = .ok (.iload_n 2, 1) := by decide +kernel
theorem dX6_readFix_74 : decode cX6_readFix 74 = .ok (.ifCond .eq 7, 3) := by decide +kernel
theorem dX6_readFix_77 : decode cX6_readFix 77 = .ok (.aload_n 0, 1) := by decide +kernel
theorem dX6_readFix_78 : decode cX6_readFix 78 = .ok (.invokevirtual 34, 3) := by decide +kernel
theorem dX6_readFix_81 : decode cX6_readFix 81 = .ok (.aload_n 0, 1) := by decide +kernel
theorem dX6_readFix_82 : decode cX6_readFix 82 = .ok (.iconst 0, 1) := by decide +kernel
theorem dX6_readFix_83 : decode cX6_readFix 83 = .ok (.sipush 200, 3) := by decide +kernel
theorem dX6_readFix_86 : decode cX6_readFix 86 = .ok (.invokevirtual 101, 3) := by decide +kernel
theorem dX6_readFix_89 : decode cX6_readFix 89 = .ok (.ifCond .ne 5, 3) := by decide +kernel
theorem dX6_readFix_92 : decode cX6_readFix 92 = .ok (.iconst 0, 1) := by decide +kernel
theorem dX6_readFix_93 : decode cX6_readFix 93 = .ok (.ireturn, 1) := by decide +kernel
theorem dX6_readFix_94 : decode cX6_readFix 94 = .ok (.aload_n 0, 1) := by decide +kernel
theorem dX6_readFix_95 : decode cX6_readFix 95 = .ok (.getfield 19, 3) := by decide +kernel
theorem dX6_readFix_98 : decode cX6_readFix 98 = .ok (.getfield 158, 3) := by decide +kernel
theorem dX6_readFix_101 : decode cX6_readFix 101 = .ok (.getfield 162, 3) := by decide +kernel
theorem dX6_readFix_104 : decode cX6_readFix 104 = .ok (.iload_n 1, 1) := by decide +kernel
theorem dX6_readFix_105 : decode cX6_readFix 105 = .ok (.aload_n 0, 1) := by decide +kernel
theorem dX6_readFix_106 : decode cX6_readFix 106 = .ok (.getfield 19, 3) := by decide +kernel
theorem dX6_readFix_109 : decode cX6_readFix 109 = .ok (.getfield 158, 3) := by decide +kernel
theorem dX6_readFix_112 : decode cX6_readFix 112 = .ok (.getfield 167, 3) := by decide +kernel
theorem dX6_readFix_115 : decode cX6_readFix 115 = .ok (.iload_n 1, 1) := by decide +kernel
theorem dX6_readFix_116 : decode cX6_readFix 116 = .ok (.iaload, 1) := by decide +kernel
theorem dX6_readFix_117 : decode cX6_readFix 117 = .ok (.iload_n 2, 1) := by decide +kernel
theorem dX6_readFix_118 : decode cX6_readFix 118 = .ok (.ifCond .eq 11, 3) := by decide +kernel
theorem dX6_readFix_121 : decode cX6_readFix 121 = .ok (.aload_n 0, 1) := by decide +kernel
theorem dX6_readFix_122 : decode cX6_readFix 122 = .ok (.getfield 105, 3) := by decide +kernel
theorem dX6_readFix_125 : decode cX6_readFix 125 = .ok (.ineg, 1) := by decide +kernel
theorem dX6_readFix_126 : decode cX6_readFix 126 = .ok (.goto 7, 3) := by decide +kernel
theorem dX6_readFix_129 : decode cX6_readFix 129 = .ok (.aload_n 0, 1) := by decide +kernel
theorem dX6_readFix_130 : decode cX6_readFix 130 = .ok (.getfield 105, 3) := by decide +kernel
theorem dX6_readFix_133 : decode cX6_readFix 133 = .ok (.iadd, 1) := by decide +kernel
theorem dX6_readFix_134 : decode cX6_readFix 134 = .ok (.iastore, 1) := by decide +kernel
theorem dX6_readFix_135 : decode cX6_readFix 135 = .ok (.aload_n 0, 1) := by decide +kernel
theorem dX6_readFix_136 : decode cX6_readFix 136 = .ok (.getfield 19, 3) := by decide +kernel
theorem dX6_readFix_139 : decode cX6_readFix 139 = .ok (.getfield 154, 3) := by decide +kernel
theorem dX6_readFix_142 : decode cX6_readFix 142 = .ok (.iload_n 1, 1) := by decide +kernel
theorem dX6_readFix_143 : decode cX6_readFix 143 = .ok (.iconst 1, 1) := by decide +kernel
theorem dX6_readFix_144 : decode cX6_readFix 144 = .ok (.bastore, 1) := by decide +kernel
theorem dX6_readFix_145 : decode cX6_readFix 145 = .ok (.aload_n 0, 1) := by decide +kernel
theorem dX6_readFix_146 : decode cX6_readFix 146 = .ok (.getfield 19, 3) := by decide +kernel
theorem dX6_readFix_149 : decode cX6_readFix 149 = .ok (.dup, 1) := by decide +kernel
theorem dX6_readFix_150 : decode cX6_readFix 150 = .ok (.getfield 170, 3) := by decide +kernel
theorem dX6_readFix_153 : decode cX6_readFix 153 = .ok (.iconst 1, 1) := by decide +kernel
theorem dX6_readFix_154 : decode cX6_readFix 154 = .ok (.iadd, 1) := by decide +kernel
theorem dX6_readFix_155 : decode cX6_readFix 155 = .ok (.putfield 170, 3) := by decide +kernel
theorem dX6_readFix_158 : decode cX6_readFix 158 = .ok (.aload_n 0, 1) := by decide +kernel
theorem dX6_readFix_159 : decode cX6_readFix 159 = .ok (.invokevirtual 118, 3) := by decide +kernel
theorem dX6_readFix_162 : decode cX6_readFix 162 = .ok (.ireturn, 1) := by decide +kernel
def zX4_ticks (sh : zShp) (k0 : Nat) (M : zMem) : Option (Int32) :=
  some (((2 : Int32) * (zI M (zR M k0 2) 1)) + (zI M k0 9))
set_option maxHeartbeats 4000000 in
set_option maxRecDepth 100000 in
theorem ztX4_ticks (l : Launch) (D : va_G) (cy : Nat → ClassId) (sh : zShp) (ad : Nat → Nat) {k0 : Nat} (h0 : zT sh k0 4) {M : zMem} {r : Int32} (hd : zX4_ticks sh k0 M = some r) : zCI l yX4_ticks cX4_ticks 1 .int { frames := 0, cells := 0, slots := 0, locals := 0 } [.ref (ad k0)] D cy sh ad M r M := by
  refine zci_of (by decide) (Nat.le_of_ble_eq_true rfl) (fun p e s m below meth c ls F hr hlk hl hw => ?_)
  have hx := F.1.1
  have hb := F.1.2.1
  have hl : lv_has ls 1 [(0, .ref (ad k0))] := hl
  unfold zX4_ticks at hd
  refine lv_iconst (v := (2 : Int32)) hx hb dX4_ticks_0 (by decide) ?_
  refine lv_aload_n hx hb dX4_ticks_1 rfl (lv_at hl 0 rfl) ?_
  refine z_gR F hw h0 zc4 2 (by decide) rfl zf4_21 dX4_ticks_2 ?_
  have t_1 : zT sh (zR M k0 2) 5 := hw.2.2.2.fld h0 2 5
  refine z_gI F hw t_1 zc5 1 (by decide) rfl zf4_107 dX4_ticks_5 ?_
  refine lv_imul hx hb dX4_ticks_8 ?_
  refine lv_aload_n hx hb dX4_ticks_9 rfl (lv_at hl 0 rfl) ?_
  refine z_gI F hw h0 zc4 9 (by decide) rfl zf4_101 dX4_ticks_10 ?_
  refine lv_iadd hx hb dX4_ticks_13 ?_
  exact z_iret F hr hlk hw (Option.some.inj hd) rfl dX4_ticks_14

def zX4_startAlone (sh : zShp) (k0 : Nat) (k1 : Nat) (p2 : Int32) (p3 : Int32) (M : zMem) : Option (Int32 × zMem) :=
  zbd (zpI M k0 3 p2) fun M_1 =>
  zbd (zpI M_1 k0 4 p3) fun M_2 =>
  zgd (zin p2 (zlen sh (zR M_2 k1 0))) <|
  zbd (zpI M_2 k0 6 (zI M_2 (zR M_2 (zR M_2 k1 0) p2.toNatClampNeg) 2)) fun M_6 =>
  zgd (zin p2 (zlen sh (zR M_6 k1 0))) <|
  zbd (zpI M_6 k0 7 (zI M_6 (zR M_6 (zR M_6 k1 0) p2.toNatClampNeg) 3)) fun M_10 =>
  zob2 (zX4_takeTop sh k0 k1 (0 : Int32) M_10) fun r_12 M_13 =>
  zob (zX4_ticks sh k0 M_13) fun r_15 =>
  some (r_15, M_13)
set_option maxHeartbeats 4000000 in
set_option maxRecDepth 100000 in
theorem ztX4_startAlone (l : Launch) (D : va_G) (cy : Nat → ClassId) (sh : zShp) (ad : Nat → Nat) {k0 : Nat} {k1 : Nat} {p2 : Int32} {p3 : Int32} (h0 : zT sh k0 4) (h1 : zT sh k1 1) {M : zMem} {r : Int32} {M1 : zMem} (hd : zX4_startAlone sh k0 k1 p2 p3 M = some (r, M1)) : zCI l yX4_startAlone cX4_startAlone 4 .int { frames := 3, cells := 0, slots := 0, locals := 76 } [.ref (ad k0), .ref (ad k1), .int p2, .int p3] D cy sh ad M r M1 := by
  refine zci_of (by decide) (Nat.le_of_ble_eq_true rfl) (fun p e s m below meth c ls F hr hlk hl hw => ?_)
  have hx := F.1.1
  have hb := F.1.2.1
  have hl : lv_has ls 4 [(0, .ref (ad k0)), (1, .ref (ad k1)), (2, .int p2), (3, .int p3)] := hl
  unfold zX4_startAlone at hd
  refine lv_aload_n hx hb dX4_startAlone_0 rfl (lv_at hl 0 rfl) ?_
  refine lv_iload_n hx hb dX4_startAlone_1 rfl (lv_at hl 2 rfl) ?_
  refine z_pI F hw h0 zc4 3 (by decide) rfl zf4_25 rfl rfl rfl dX4_startAlone_2 (fun H locs M_1 eM_1 hw => ?_)
  have hd := zbd_eq eM_1 hd
  refine lv_aload_n hx hb dX4_startAlone_5 rfl (lv_at hl 0 rfl) ?_
  refine lv_iload_n hx hb dX4_startAlone_6 rfl (lv_at hl 3 rfl) ?_
  refine z_pI F hw h0 zc4 4 (by decide) rfl zf4_29 rfl rfl rfl dX4_startAlone_7 (fun H locs M_2 eM_2 hw => ?_)
  have hd := zbd_eq eM_2 hd
  refine lv_aload_n hx hb dX4_startAlone_10 rfl (lv_at hl 0 rfl) ?_
  refine lv_aload_n hx hb dX4_startAlone_11 rfl (lv_at hl 1 rfl) ?_
  refine z_gR F hw h1 zc1 0 (by decide) rfl zf4_57 dX4_startAlone_12 ?_
  have t_3 : zT sh (zR M_2 k1 0) 17 := hw.2.2.2.fld h1 0 17
  refine lv_iload_n hx hb dX4_startAlone_15 rfl (lv_at hl 2 rfl) ?_
  obtain ⟨g_4, hd⟩ := zgd_some hd
  refine z_aald F hw t_3 (by decide) 4 rfl g_4 dX4_startAlone_16 ?_
  have t_5 : zT sh (zR M_2 (zR M_2 k1 0) p2.toNatClampNeg) 0 := hw.2.2.2.arr t_3 _ 0 (zin_lt g_4)
  refine z_gI F hw t_5 zc0 2 (by decide) rfl zf4_61 dX4_startAlone_17 ?_
  refine z_pI F hw h0 zc4 6 (by decide) rfl zf4_66 rfl rfl rfl dX4_startAlone_20 (fun H locs M_6 eM_6 hw => ?_)
  have hd := zbd_eq eM_6 hd
  refine lv_aload_n hx hb dX4_startAlone_23 rfl (lv_at hl 0 rfl) ?_
  refine lv_aload_n hx hb dX4_startAlone_24 rfl (lv_at hl 1 rfl) ?_
  refine z_gR F hw h1 zc1 0 (by decide) rfl zf4_57 dX4_startAlone_25 ?_
  have t_7 : zT sh (zR M_6 k1 0) 17 := hw.2.2.2.fld h1 0 17
  refine lv_iload_n hx hb dX4_startAlone_28 rfl (lv_at hl 2 rfl) ?_
  obtain ⟨g_8, hd⟩ := zgd_some hd
  refine z_aald F hw t_7 (by decide) 4 rfl g_8 dX4_startAlone_29 ?_
  have t_9 : zT sh (zR M_6 (zR M_6 k1 0) p2.toNatClampNeg) 0 := hw.2.2.2.arr t_7 _ 0 (zin_lt g_8)
  refine z_gI F hw t_9 zc0 3 (by decide) rfl zf4_67 dX4_startAlone_30 ?_
  refine z_pI F hw h0 zc4 7 (by decide) rfl zf4_70 rfl rfl rfl dX4_startAlone_33 (fun H locs M_10 eM_10 hw => ?_)
  have hd := zbd_eq eM_10 hd
  refine lv_aload_n hx hb dX4_startAlone_36 rfl (lv_at hl 0 rfl) ?_
  refine lv_aload_n hx hb dX4_startAlone_37 rfl (lv_at hl 1 rfl) ?_
  refine lv_iconst (v := (0 : Int32)) hx hb dX4_startAlone_38 (by decide) ?_
  obtain ⟨r_12, M_13, hc_11, hd⟩ := zob2_some hd
  refine z_cvI F hw hl.1 (As := [.ref (ad k1), .int (0 : Int32)]) (rest := []) (ztX4_takeTop l D cy sh ad h0 h1 hc_11) zyX4_takeTop h0 zc4 zk4_53 ⟨rfl, rfl⟩ ⟨by decide, by decide⟩ rfl rfl (Nat.le_of_ble_eq_true rfl) dX4_startAlone_39 (fun H locs hw => ?_)
  refine lv_pop hx hb dX4_startAlone_42 rfl ?_
  refine lv_aload_n hx hb dX4_startAlone_43 rfl (lv_at hl 0 rfl) ?_
  obtain ⟨r_15, hc_14, hd⟩ := zob_some hd
  refine z_cvI F hw hl.1 (As := []) (rest := []) (ztX4_ticks l D cy sh ad h0 hc_14) zyX4_ticks h0 zc4 zk4_71 ⟨rfl, rfl⟩ ⟨by decide, by decide⟩ rfl rfl (Nat.le_of_ble_eq_true rfl) dX4_startAlone_44 (fun H locs hw => ?_)
  exact z_iret F hr hlk hw (zpr1 hd) (zpr2 hd) dX4_startAlone_47

def zX4_goneBehind (sh : zShp) (k0 : Nat) (p1 : Int32) (M : zMem) : Option (Int32) :=
  zob (zX4_ticks sh k0 M) fun r_2 =>
  zbd ((p1 - (zI M (zR M k0 2) 1))) fun v_4 =>
  if 0 < p1 then (
  if p1 < r_2 then (
  if 0 < v_4 then (
  if (zI M k0 9) < v_4 then (
  zgd (zin (r_2 - p1) (zlen sh (zR M (zR M k0 2) 0))) <|
  some ((zI M k0 4) - (zI M (zR M (zR M k0 2) 0) ((r_2 - p1).toNatClampNeg))))
  else (
  zob (zX5_micros sh (zR M k0 2) M) fun r_14 =>
  zgd (znzL ((zI M k0 9).toInt64)) <|
  some (r_14 + (((((zI M k0 8).toInt64) * (v_4.toInt64)) / ((zI M k0 9).toInt64)).toInt32))))
  else (
  zgd (zin p1 (zlen sh (zR M (zR M k0 2) 0))) <|
  some (zI M (zR M (zR M k0 2) 0) p1.toNatClampNeg)))
  else (
  some (zI M k0 4)))
  else (
  some (0 : Int32))
set_option maxHeartbeats 4000000 in
set_option maxRecDepth 100000 in
theorem ztX4_goneBehind (l : Launch) (D : va_G) (cy : Nat → ClassId) (sh : zShp) (ad : Nat → Nat) {k0 : Nat} {p1 : Int32} (h0 : zT sh k0 4) {M : zMem} {r : Int32} (hd : zX4_goneBehind sh k0 p1 M = some r) : zCI l yX4_goneBehind cX4_goneBehind 4 .int { frames := 1, cells := 0, slots := 0, locals := 20 } [.ref (ad k0), .int p1] D cy sh ad M r M := by
  refine zci_of (by decide) (Nat.le_of_ble_eq_true rfl) (fun p e s m below meth c ls F hr hlk hl hw => ?_)
  have hx := F.1.1
  have hb := F.1.2.1
  have hl : lv_has ls 4 [(0, .ref (ad k0)), (1, .int p1)] := hl
  unfold zX4_goneBehind at hd
  refine lv_aload_n hx hb dX4_goneBehind_0 rfl (lv_at hl 0 rfl) ?_
  obtain ⟨r_2, hc_1, hd⟩ := zob_some hd
  refine z_cvI F hw hl.1 (As := []) (rest := []) (ztX4_ticks l D cy sh ad h0 hc_1) zyX4_ticks h0 zc4 zk4_71 ⟨rfl, rfl⟩ ⟨by decide, by decide⟩ rfl rfl (Nat.le_of_ble_eq_true rfl) dX4_goneBehind_1 (fun H locs hw => ?_)
  refine lv_istore_n (lv' := [(2, .int r_2), (0, .ref (ad k0)), (1, .int p1)]) hx hb dX4_goneBehind_4 rfl hl (by decide) rfl (fun ls hl => ?_)
  refine lv_iload_n hx hb dX4_goneBehind_5 rfl (lv_at hl 2 rfl) ?_
  refine lv_aload_n hx hb dX4_goneBehind_6 rfl (lv_at hl 1 rfl) ?_
  refine z_gR F hw h0 zc4 2 (by decide) rfl zf4_21 dX4_goneBehind_7 ?_
  have t_3 : zT sh (zR M k0 2) 5 := hw.2.2.2.fld h0 2 5
  refine z_gI F hw t_3 zc5 1 (by decide) rfl zf4_107 dX4_goneBehind_10 ?_
  refine lv_isub hx hb dX4_goneBehind_13 ?_
  refine lv_topi (fun v_4 ev_4 => ?_)
  have hd := zbd_eq ev_4 hd
  refine lv_istore_n (lv' := [(3, .int v_4), (2, .int r_2), (0, .ref (ad k0)), (1, .int p1)]) hx hb dX4_goneBehind_14 rfl hl (by decide) rfl (fun ls hl => ?_)
  refine lv_iload_n hx hb dX4_goneBehind_15 rfl (lv_at hl 3 rfl) ?_
  refine lv_if_gt (tgt := 21) hx hb dX4_goneBehind_16 (by decide) (fun c_5 => ?_) (fun c_5 => ?_)
  · have hd := zif_pos c_5 hd
    refine lv_iload_n hx hb dX4_goneBehind_21 rfl (lv_at hl 3 rfl) ?_
    refine lv_iload_n hx hb dX4_goneBehind_22 rfl (lv_at hl 1 rfl) ?_
    refine lv_icmp_lt (tgt := 31) hx hb dX4_goneBehind_23 (by decide) (fun c_6 => ?_) (fun c_6 => ?_)
    · have hd := zif_pos c_6 hd
      refine lv_iload_n hx hb dX4_goneBehind_31 rfl (lv_at hl 0 rfl) ?_
      refine lv_if_gt (tgt := 45) hx hb dX4_goneBehind_32 (by decide) (fun c_7 => ?_) (fun c_7 => ?_)
      · have hd := zif_pos c_7 hd
        refine lv_iload_n hx hb dX4_goneBehind_45 rfl (lv_at hl 0 rfl) ?_
        refine lv_aload_n hx hb dX4_goneBehind_46 rfl (lv_at hl 2 rfl) ?_
        refine z_gI F hw h0 zc4 9 (by decide) rfl zf4_101 dX4_goneBehind_47 ?_
        refine lv_icmp_gt (tgt := 77) hx hb dX4_goneBehind_50 (by decide) (fun c_8 => ?_) (fun c_8 => ?_)
        · have hd := zif_pos c_8 hd
          refine lv_aload_n hx hb dX4_goneBehind_77 rfl (lv_at hl 2 rfl) ?_
          refine z_gI F hw h0 zc4 4 (by decide) rfl zf4_29 dX4_goneBehind_78 ?_
          refine lv_aload_n hx hb dX4_goneBehind_81 rfl (lv_at hl 2 rfl) ?_
          refine z_gR F hw h0 zc4 2 (by decide) rfl zf4_21 dX4_goneBehind_82 ?_
          have t_9 : zT sh (zR M k0 2) 5 := hw.2.2.2.fld h0 2 5
          refine z_gR F hw t_9 zc5 0 (by decide) rfl zf4_109 dX4_goneBehind_85 ?_
          have t_10 : zT sh (zR M (zR M k0 2) 0) 14 := hw.2.2.2.fld t_9 0 14
          refine lv_iload_n hx hb dX4_goneBehind_88 rfl (lv_at hl 1 rfl) ?_
          refine lv_iload_n hx hb dX4_goneBehind_89 rfl (lv_at hl 3 rfl) ?_
          refine lv_isub hx hb dX4_goneBehind_90 ?_
          obtain ⟨g_11, hd⟩ := zgd_some hd
          refine z_iald F hw t_10 g_11 dX4_goneBehind_91 ?_
          refine lv_isub hx hb dX4_goneBehind_92 ?_
          exact z_iret F hr hlk hw (Option.some.inj hd) rfl dX4_goneBehind_93
        · have hd := zif_neg c_8 hd
          refine lv_aload_n hx hb dX4_goneBehind_53 rfl (lv_at hl 2 rfl) ?_
          refine z_gR F hw h0 zc4 2 (by decide) rfl zf4_21 dX4_goneBehind_54 ?_
          have t_12 : zT sh (zR M k0 2) 5 := hw.2.2.2.fld h0 2 5
          obtain ⟨r_14, hc_13, hd⟩ := zob_some hd
          refine z_cvI F hw hl.1 (As := []) (rest := []) (ztX5_micros l D cy sh ad t_12 hc_13) zyX5_micros t_12 zc5 zk4_89 ⟨rfl, rfl⟩ ⟨by decide, by decide⟩ rfl rfl (Nat.le_of_ble_eq_true rfl) dX4_goneBehind_57 (fun H locs hw => ?_)
          refine lv_aload_n hx hb dX4_goneBehind_60 rfl (lv_at hl 2 rfl) ?_
          refine z_gI F hw h0 zc4 8 (by decide) rfl zf4_98 dX4_goneBehind_61 ?_
          refine lv_i2l (v := (zI M k0 8).toInt64) hx hb dX4_goneBehind_64 rfl ?_
          refine lv_iload_n hx hb dX4_goneBehind_65 rfl (lv_at hl 0 rfl) ?_
          refine lv_i2l (v := v_4.toInt64) hx hb dX4_goneBehind_66 rfl ?_
          refine lv_lmul hx hb dX4_goneBehind_67 ?_
          refine lv_aload_n hx hb dX4_goneBehind_68 rfl (lv_at hl 2 rfl) ?_
          refine z_gI F hw h0 zc4 9 (by decide) rfl zf4_101 dX4_goneBehind_69 ?_
          refine lv_i2l (v := (zI M k0 9).toInt64) hx hb dX4_goneBehind_72 rfl ?_
          obtain ⟨g_15, hd⟩ := zgd_some hd
          refine lv_ldiv hx hb dX4_goneBehind_73 (znzL_ne g_15) ?_
          refine lv_l2i (v := ((((zI M k0 8).toInt64) * (v_4.toInt64)) / ((zI M k0 9).toInt64)).toInt32) hx hb dX4_goneBehind_74 rfl ?_
          refine lv_iadd hx hb dX4_goneBehind_75 ?_
          exact z_iret F hr hlk hw (Option.some.inj hd) rfl dX4_goneBehind_76
      · have hd := zif_neg c_7 hd
        refine lv_aload_n hx hb dX4_goneBehind_35 rfl (lv_at hl 2 rfl) ?_
        refine z_gR F hw h0 zc4 2 (by decide) rfl zf4_21 dX4_goneBehind_36 ?_
        have t_16 : zT sh (zR M k0 2) 5 := hw.2.2.2.fld h0 2 5
        refine z_gR F hw t_16 zc5 0 (by decide) rfl zf4_109 dX4_goneBehind_39 ?_
        have t_17 : zT sh (zR M (zR M k0 2) 0) 14 := hw.2.2.2.fld t_16 0 14
        refine lv_iload_n hx hb dX4_goneBehind_42 rfl (lv_at hl 3 rfl) ?_
        obtain ⟨g_18, hd⟩ := zgd_some hd
        refine z_iald F hw t_17 g_18 dX4_goneBehind_43 ?_
        exact z_iret F hr hlk hw (Option.some.inj hd) rfl dX4_goneBehind_44
    · have hd := zif_neg c_6 hd
      refine lv_aload_n hx hb dX4_goneBehind_26 rfl (lv_at hl 2 rfl) ?_
      refine z_gI F hw h0 zc4 4 (by decide) rfl zf4_29 dX4_goneBehind_27 ?_
      exact z_iret F hr hlk hw (Option.some.inj hd) rfl dX4_goneBehind_30
  · have hd := zif_neg c_5 hd
    refine lv_iconst (v := (0 : Int32)) hx hb dX4_goneBehind_19 (by decide) ?_
    exact z_iret F hr hlk hw (Option.some.inj hd) rfl dX4_goneBehind_20

def zjX4_placeOf_74 (sh : zShp) (k0 : Nat) (p1 : Int32) (p2 : Int32) (M : zMem)  (s0 : Int32) : Option (Int32) :=
  some s0
def zX4_placeOf (sh : zShp) (k0 : Nat) (p1 : Int32) (p2 : Int32) (M : zMem) : Option (Int32) :=
  if (1 : Int32) ≤ (zI M k0 4) then (
  zob (zX4_wayOf sh k0 p1 M) fun r_3 =>
  zgd (znzL ((2 : Int64) * ((zI M k0 4).toInt64))) <|
  zbd (((((((2 : Int64) * (p2.toInt64)) * (r_3.toInt64)) + ((zI M k0 4).toInt64)) / ((2 : Int64) * ((zI M k0 4).toInt64))).toInt32)) fun v_5 =>
  zgd (zin p1 (zlen sh (zR M k0 1))) <|
  if 0 ≤ (zI M (zR M k0 1) p1.toNatClampNeg) then (
  zgd (zin p1 (zlen sh (zR M k0 0))) <|
  zjX4_placeOf_74 sh k0 p1 p2 M ((zI M (zR M k0 0) p1.toNatClampNeg) + v_5))
  else (
  zgd (zin p1 (zlen sh (zR M k0 0))) <|
  zjX4_placeOf_74 sh k0 p1 p2 M ((zI M (zR M k0 0) p1.toNatClampNeg) - v_5)))
  else (
  zgd (zin p1 (zlen sh (zR M k0 0))) <|
  some (zI M (zR M k0 0) p1.toNatClampNeg))
set_option maxHeartbeats 4000000 in
set_option maxRecDepth 100000 in
theorem ztX4_placeOf (l : Launch) (D : va_G) (cy : Nat → ClassId) (sh : zShp) (ad : Nat → Nat) {k0 : Nat} {p1 : Int32} {p2 : Int32} (h0 : zT sh k0 4) {M : zMem} {r : Int32} (hd : zX4_placeOf sh k0 p1 p2 M = some r) : zCI l yX4_placeOf cX4_placeOf 4 .int { frames := 2, cells := 0, slots := 0, locals := 42 } [.ref (ad k0), .int p1, .int p2] D cy sh ad M r M := by
  refine zci_of (by decide) (Nat.le_of_ble_eq_true rfl) (fun p e s m below meth c ls F hr hlk hl hw => ?_)
  have hx := F.1.1
  have hb := F.1.2.1
  have hl : lv_has ls 4 [(0, .ref (ad k0)), (1, .int p1), (2, .int p2)] := hl
  have J74 : ∀ (s0 : Int32) (H : Heap) (locs : List Loc) (ls : Array Slot), lv_has ls 4 [] → zWd D cy sh ad s M H locs → zjX4_placeOf_74 sh k0 p1 p2 M  s0 = some r → W p l e { frames := 2, cells := 0, slots := 0, locals := 42 } s m ([.ref (ad k0), .int p1, .int p2] : List Value).toArray below meth c H locs 0 0 (zQI below D cy sh ad s [.ref (ad k0), .int p1, .int p2] r M) (F0 m 74 ls [.int s0]) := by
    intro  s0 H locs ls hl hw hd
    unfold zjX4_placeOf_74 at hd
    exact z_iret F hr hlk hw (Option.some.inj hd) rfl dX4_placeOf_74
  unfold zX4_placeOf at hd
  refine lv_aload_n hx hb dX4_placeOf_0 rfl (lv_at hl 0 rfl) ?_
  refine z_gI F hw h0 zc4 4 (by decide) rfl zf4_29 dX4_placeOf_1 ?_
  refine lv_iconst (v := (1 : Int32)) hx hb dX4_placeOf_4 (by decide) ?_
  refine lv_icmp_ge (tgt := 15) hx hb dX4_placeOf_5 (by decide) (fun c_1 => ?_) (fun c_1 => ?_)
  · have hd := zif_pos c_1 hd
    refine lv_ldc2 (v := (2 : Int64)) hx hb F.1.2.2.2.1 (F.1.2.2.2.2 _ zi4_112) dX4_placeOf_15 ?_
    refine lv_iload_n hx hb dX4_placeOf_18 rfl (lv_at hl 2 rfl) ?_
    refine lv_i2l (v := p2.toInt64) hx hb dX4_placeOf_19 rfl ?_
    refine lv_lmul hx hb dX4_placeOf_20 ?_
    refine lv_aload_n hx hb dX4_placeOf_21 rfl (lv_at hl 0 rfl) ?_
    refine lv_iload_n hx hb dX4_placeOf_22 rfl (lv_at hl 1 rfl) ?_
    obtain ⟨r_3, hc_2, hd⟩ := zob_some hd
    refine z_cvI F hw hl.1 (As := [.int p1]) (rest := [.long ((2 : Int64) * (p2.toInt64))]) (ztX4_wayOf l D cy sh ad h0 hc_2) zyX4_wayOf h0 zc4 zk4_42 ⟨rfl, rfl⟩ ⟨by decide, by decide⟩ rfl rfl (Nat.le_of_ble_eq_true rfl) dX4_placeOf_23 (fun H locs hw => ?_)
    refine lv_i2l (v := r_3.toInt64) hx hb dX4_placeOf_26 rfl ?_
    refine lv_lmul hx hb dX4_placeOf_27 ?_
    refine lv_aload_n hx hb dX4_placeOf_28 rfl (lv_at hl 0 rfl) ?_
    refine z_gI F hw h0 zc4 4 (by decide) rfl zf4_29 dX4_placeOf_29 ?_
    refine lv_i2l (v := (zI M k0 4).toInt64) hx hb dX4_placeOf_32 rfl ?_
    refine lv_ladd hx hb dX4_placeOf_33 ?_
    refine lv_ldc2 (v := (2 : Int64)) hx hb F.1.2.2.2.1 (F.1.2.2.2.2 _ zi4_112) dX4_placeOf_34 ?_
    refine lv_aload_n hx hb dX4_placeOf_37 rfl (lv_at hl 0 rfl) ?_
    refine z_gI F hw h0 zc4 4 (by decide) rfl zf4_29 dX4_placeOf_38 ?_
    refine lv_i2l (v := (zI M k0 4).toInt64) hx hb dX4_placeOf_41 rfl ?_
    refine lv_lmul hx hb dX4_placeOf_42 ?_
    obtain ⟨g_4, hd⟩ := zgd_some hd
    refine lv_ldiv hx hb dX4_placeOf_43 (znzL_ne g_4) ?_
    refine lv_l2i (v := (((((2 : Int64) * (p2.toInt64)) * (r_3.toInt64)) + ((zI M k0 4).toInt64)) / ((2 : Int64) * ((zI M k0 4).toInt64))).toInt32) hx hb dX4_placeOf_44 rfl ?_
    refine lv_topi (fun v_5 ev_5 => ?_)
    have hd := zbd_eq ev_5 hd
    refine lv_istore_n (lv' := [(3, .int v_5), (0, .ref (ad k0)), (1, .int p1), (2, .int p2)]) hx hb dX4_placeOf_45 rfl hl (by decide) rfl (fun ls hl => ?_)
    refine lv_aload_n hx hb dX4_placeOf_46 rfl (lv_at hl 1 rfl) ?_
    refine z_gR F hw h0 zc4 1 (by decide) rfl zf4_15 dX4_placeOf_47 ?_
    have t_6 : zT sh (zR M k0 1) 14 := hw.2.2.2.fld h0 1 14
    refine lv_iload_n hx hb dX4_placeOf_50 rfl (lv_at hl 2 rfl) ?_
    obtain ⟨g_7, hd⟩ := zgd_some hd
    refine z_iald F hw t_6 g_7 dX4_placeOf_51 ?_
    refine lv_if_ge (tgt := 66) hx hb dX4_placeOf_52 (by decide) (fun c_8 => ?_) (fun c_8 => ?_)
    · have hd := zif_pos c_8 hd
      refine lv_aload_n hx hb dX4_placeOf_66 rfl (lv_at hl 1 rfl) ?_
      refine z_gR F hw h0 zc4 0 (by decide) rfl zf4_9 dX4_placeOf_67 ?_
      have t_9 : zT sh (zR M k0 0) 14 := hw.2.2.2.fld h0 0 14
      refine lv_iload_n hx hb dX4_placeOf_70 rfl (lv_at hl 2 rfl) ?_
      obtain ⟨g_10, hd⟩ := zgd_some hd
      refine z_iald F hw t_9 g_10 dX4_placeOf_71 ?_
      refine lv_iload_n hx hb dX4_placeOf_72 rfl (lv_at hl 0 rfl) ?_
      refine lv_iadd hx hb dX4_placeOf_73 ?_
      exact J74 _ _ _ _ (lv_sub hl [] rfl) hw hd
    · have hd := zif_neg c_8 hd
      refine lv_aload_n hx hb dX4_placeOf_55 rfl (lv_at hl 1 rfl) ?_
      refine z_gR F hw h0 zc4 0 (by decide) rfl zf4_9 dX4_placeOf_56 ?_
      have t_11 : zT sh (zR M k0 0) 14 := hw.2.2.2.fld h0 0 14
      refine lv_iload_n hx hb dX4_placeOf_59 rfl (lv_at hl 2 rfl) ?_
      obtain ⟨g_12, hd⟩ := zgd_some hd
      refine z_iald F hw t_11 g_12 dX4_placeOf_60 ?_
      refine lv_iload_n hx hb dX4_placeOf_61 rfl (lv_at hl 0 rfl) ?_
      refine lv_isub hx hb dX4_placeOf_62 ?_
      refine lv_goto (tgt := 74) hx hb dX4_placeOf_63 (by decide) ?_
      exact J74 _ _ _ _ (lv_sub hl [] rfl) hw hd
  · have hd := zif_neg c_1 hd
    refine lv_aload_n hx hb dX4_placeOf_8 rfl (lv_at hl 0 rfl) ?_
    refine z_gR F hw h0 zc4 0 (by decide) rfl zf4_9 dX4_placeOf_9 ?_
    have t_13 : zT sh (zR M k0 0) 14 := hw.2.2.2.fld h0 0 14
    refine lv_iload_n hx hb dX4_placeOf_12 rfl (lv_at hl 1 rfl) ?_
    obtain ⟨g_14, hd⟩ := zgd_some hd
    refine z_iald F hw t_13 g_14 dX4_placeOf_13 ?_
    exact z_iret F hr hlk hw (Option.some.inj hd) rfl dX4_placeOf_14

def zjX4_leadFor_42 (sh : zShp) (k0 : Nat) (p1 : Int32) (p2 : Int32) (M : zMem)  (s0 : Int32) : Option (Int32) :=
  some s0
def zX4_leadFor (sh : zShp) (k0 : Nat) (p1 : Int32) (p2 : Int32) (M : zMem) : Option (Int32) :=
  zob (zX4_wayOf sh k0 p1 M) fun r_2 =>
  zbd (((2 : Int64) * (r_2.toInt64))) fun v_3 =>
  if 0 ≤ (lg_cmp v_3 (1 : Int64)) then (
  zgd (znzL v_3) <|
  zjX4_leadFor_42 sh k0 p1 p2 M ((((((((2 : Int64) * (p2.toInt64)) - (1 : Int64)) * ((zI M k0 4).toInt64)) + v_3) - (1 : Int64)) / v_3).toInt32))
  else (
  zjX4_leadFor_42 sh k0 p1 p2 M (0 : Int32))
set_option maxHeartbeats 4000000 in
set_option maxRecDepth 100000 in
theorem ztX4_leadFor (l : Launch) (D : va_G) (cy : Nat → ClassId) (sh : zShp) (ad : Nat → Nat) {k0 : Nat} {p1 : Int32} {p2 : Int32} (h0 : zT sh k0 4) {M : zMem} {r : Int32} (hd : zX4_leadFor sh k0 p1 p2 M = some r) : zCI l yX4_leadFor cX4_leadFor 5 .int { frames := 2, cells := 0, slots := 0, locals := 42 } [.ref (ad k0), .int p1, .int p2] D cy sh ad M r M := by
  refine zci_of (by decide) (Nat.le_of_ble_eq_true rfl) (fun p e s m below meth c ls F hr hlk hl hw => ?_)
  have hx := F.1.1
  have hb := F.1.2.1
  have hl : lv_has ls 5 [(0, .ref (ad k0)), (1, .int p1), (2, .int p2)] := hl
  have J42 : ∀ (s0 : Int32) (H : Heap) (locs : List Loc) (ls : Array Slot), lv_has ls 5 [] → zWd D cy sh ad s M H locs → zjX4_leadFor_42 sh k0 p1 p2 M  s0 = some r → W p l e { frames := 2, cells := 0, slots := 0, locals := 42 } s m ([.ref (ad k0), .int p1, .int p2] : List Value).toArray below meth c H locs 0 0 (zQI below D cy sh ad s [.ref (ad k0), .int p1, .int p2] r M) (F0 m 42 ls [.int s0]) := by
    intro  s0 H locs ls hl hw hd
    unfold zjX4_leadFor_42 at hd
    exact z_iret F hr hlk hw (Option.some.inj hd) rfl dX4_leadFor_42
  unfold zX4_leadFor at hd
  refine lv_ldc2 (v := (2 : Int64)) hx hb F.1.2.2.2.1 (F.1.2.2.2.2 _ zi4_112) dX4_leadFor_0 ?_
  refine lv_aload_n hx hb dX4_leadFor_3 rfl (lv_at hl 0 rfl) ?_
  refine lv_iload_n hx hb dX4_leadFor_4 rfl (lv_at hl 1 rfl) ?_
  obtain ⟨r_2, hc_1, hd⟩ := zob_some hd
  refine z_cvI F hw hl.1 (As := [.int p1]) (rest := [.long (2 : Int64)]) (ztX4_wayOf l D cy sh ad h0 hc_1) zyX4_wayOf h0 zc4 zk4_42 ⟨rfl, rfl⟩ ⟨by decide, by decide⟩ rfl rfl (Nat.le_of_ble_eq_true rfl) dX4_leadFor_5 (fun H locs hw => ?_)
  refine lv_i2l (v := r_2.toInt64) hx hb dX4_leadFor_8 rfl ?_
  refine lv_lmul hx hb dX4_leadFor_9 ?_
  refine lv_topl (fun v_3 ev_3 => ?_)
  have hd := zbd_eq ev_3 hd
  refine lv_lstore_n (lv' := [(3, .long v_3), (0, .ref (ad k0)), (1, .int p1), (2, .int p2)]) hx hb dX4_leadFor_10 rfl hl (by decide) rfl (fun ls hl => ?_)
  refine lv_lload_n hx hb dX4_leadFor_11 rfl (lv_at hl 0 rfl) ?_
  refine lv_lconst (v := (1 : Int64)) hx hb dX4_leadFor_12 (by decide) ?_
  refine W.lcmp hx hb dX4_leadFor_13 ?_
  refine lv_if_ge (tgt := 21) hx hb dX4_leadFor_14 (by decide) (fun c_4 => ?_) (fun c_4 => ?_)
  · have hd := zif_pos c_4 hd
    refine lv_ldc2 (v := (2 : Int64)) hx hb F.1.2.2.2.1 (F.1.2.2.2.2 _ zi4_112) dX4_leadFor_21 ?_
    refine lv_iload_n hx hb dX4_leadFor_24 rfl (lv_at hl 3 rfl) ?_
    refine lv_i2l (v := p2.toInt64) hx hb dX4_leadFor_25 rfl ?_
    refine lv_lmul hx hb dX4_leadFor_26 ?_
    refine lv_lconst (v := (1 : Int64)) hx hb dX4_leadFor_27 (by decide) ?_
    refine lv_lsub hx hb dX4_leadFor_28 ?_
    refine lv_aload_n hx hb dX4_leadFor_29 rfl (lv_at hl 1 rfl) ?_
    refine z_gI F hw h0 zc4 4 (by decide) rfl zf4_29 dX4_leadFor_30 ?_
    refine lv_i2l (v := (zI M k0 4).toInt64) hx hb dX4_leadFor_33 rfl ?_
    refine lv_lmul hx hb dX4_leadFor_34 ?_
    refine lv_lload_n hx hb dX4_leadFor_35 rfl (lv_at hl 0 rfl) ?_
    refine lv_ladd hx hb dX4_leadFor_36 ?_
    refine lv_lconst (v := (1 : Int64)) hx hb dX4_leadFor_37 (by decide) ?_
    refine lv_lsub hx hb dX4_leadFor_38 ?_
    refine lv_lload_n hx hb dX4_leadFor_39 rfl (lv_at hl 0 rfl) ?_
    obtain ⟨g_5, hd⟩ := zgd_some hd
    refine lv_ldiv hx hb dX4_leadFor_40 (znzL_ne g_5) ?_
    refine lv_l2i (v := (((((((2 : Int64) * (p2.toInt64)) - (1 : Int64)) * ((zI M k0 4).toInt64)) + v_3) - (1 : Int64)) / v_3).toInt32) hx hb dX4_leadFor_41 rfl ?_
    exact J42 _ _ _ _ (lv_sub hl [] rfl) hw hd
  · have hd := zif_neg c_4 hd
    refine lv_iconst (v := (0 : Int32)) hx hb dX4_leadFor_17 (by decide) ?_
    refine lv_goto (tgt := 42) hx hb dX4_leadFor_18 (by decide) ?_
    exact J42 _ _ _ _ (lv_sub hl [] rfl) hw hd

def zjX4_dueAt_56 (sh : zShp) (k0 : Nat) (p1 : Int32) (M : zMem)  (x2 : Int32) : Option (Int32) :=
  zob (zX4_goneBehind sh k0 (x2 - (1 : Int32)) M) fun r_2 =>
  zob (zX4_goneBehind sh k0 x2 M) fun r_4 =>
  zbd ((zmax (1 : Int32) (r_4 - r_2))) fun v_5 =>
  zgd (znz v_5) <|
  some (((x2 - (1 : Int32)) * (1000 : Int32)) + (((p1 - r_2) * (1000 : Int32)) / v_5))
def zjX4_dueAt_50 (sh : zShp) (k0 : Nat) (p1 : Int32) (M : zMem) (kk10 : Int32 → Int32 → Int32 → Option (Int32)) (x2 : Int32) (x3 : Int32) (x4 : Int32) : Option (Int32) :=
  kk10 x2 x3 (x4 + (1 : Int32))
def zbX4_dueAt_10 (sh : zShp) (k0 : Nat) (p1 : Int32) (M : zMem)  (kk10 : Int32 → Int32 → Int32 → Option (Int32)) (x2 : Int32) (x3 : Int32) (x4 : Int32) : Option (Int32) :=
  if (16 : Int32) ≤ x4 then (
  zjX4_dueAt_56 sh k0 p1 M x2)
  else (
  if x3 ≤ x2 then (
  zjX4_dueAt_56 sh k0 p1 M x2)
  else (
  zob (zX4_goneBehind sh k0 ((x2 + x3) / (2 : Int32)) M) fun r_10 =>
  if r_10 < p1 then (
  zbd ((((x2 + x3) / (2 : Int32)) + (1 : Int32))) fun v_12 =>
  zjX4_dueAt_50 sh k0 p1 M kk10 v_12 x3 x4)
  else (
  zjX4_dueAt_50 sh k0 p1 M kk10 x2 ((x2 + x3) / (2 : Int32)) x4)))
def zlX4_dueAt_10 (sh : zShp) (k0 : Nat) (p1 : Int32) (M : zMem)  : Nat → Int32 → Int32 → Int32 → Option (Int32)
  | 0 => fun _ _ _ => none
  | n + 1 => fun x2 x3 x4 => zbX4_dueAt_10 sh k0 p1 M  (zlX4_dueAt_10 sh k0 p1 M  n) x2 x3 x4
def zX4_dueAt (sh : zShp) (k0 : Nat) (p1 : Int32) (M : zMem) : Option (Int32) :=
  zob (zX4_ticks sh k0 M) fun r_14 =>
  zlX4_dueAt_10 sh k0 p1 M zF (1 : Int32) r_14 (0 : Int32)
set_option maxHeartbeats 4000000 in
set_option maxRecDepth 100000 in
theorem ztX4_dueAt (l : Launch) (D : va_G) (cy : Nat → ClassId) (sh : zShp) (ad : Nat → Nat) {k0 : Nat} {p1 : Int32} (h0 : zT sh k0 4) {M : zMem} {r : Int32} (hd : zX4_dueAt sh k0 p1 M = some r) : zCI l yX4_dueAt cX4_dueAt 6 .int { frames := 2, cells := 0, slots := 0, locals := 43 } [.ref (ad k0), .int p1] D cy sh ad M r M := by
  refine zci_of (by decide) (Nat.le_of_ble_eq_true rfl) (fun p e s m below meth c ls F hr hlk hl hw => ?_)
  have hx := F.1.1
  have hb := F.1.2.1
  have hl : lv_has ls 6 [(0, .ref (ad k0)), (1, .int p1)] := hl
  have J56 : ∀ (x2 : Int32) (H : Heap) (locs : List Loc) (ls : Array Slot), lv_has ls 6 [(0, .ref (ad k0)), (1, .int p1), (2, .int x2)] → zWd D cy sh ad s M H locs → zjX4_dueAt_56 sh k0 p1 M  x2 = some r → W p l e { frames := 2, cells := 0, slots := 0, locals := 43 } s m ([.ref (ad k0), .int p1] : List Value).toArray below meth c H locs 0 0 (zQI below D cy sh ad s [.ref (ad k0), .int p1] r M) (F0 m 56 ls []) := by
    intro  x2 H locs ls hl hw hd
    unfold zjX4_dueAt_56 at hd
    refine lv_aload_n hx hb dX4_dueAt_56 rfl (lv_at hl 0 rfl) ?_
    refine lv_iload_n hx hb dX4_dueAt_57 rfl (lv_at hl 2 rfl) ?_
    refine lv_iconst (v := (1 : Int32)) hx hb dX4_dueAt_58 (by decide) ?_
    refine lv_isub hx hb dX4_dueAt_59 ?_
    obtain ⟨r_2, hc_1, hd⟩ := zob_some hd
    refine z_cvI F hw hl.1 (As := [.int (x2 - (1 : Int32))]) (rest := []) (ztX4_goneBehind l D cy sh ad h0 hc_1) zyX4_goneBehind h0 zc4 zk4_114 ⟨rfl, rfl⟩ ⟨by decide, by decide⟩ rfl rfl (Nat.le_of_ble_eq_true rfl) dX4_dueAt_60 (fun H locs hw => ?_)
    refine lv_istore (lv' := [(4, .int r_2), (0, .ref (ad k0)), (1, .int p1), (2, .int x2)]) hx hb dX4_dueAt_63 hl (by decide) rfl (fun ls hl => ?_)
    refine lv_iconst (v := (1 : Int32)) hx hb dX4_dueAt_65 (by decide) ?_
    refine lv_aload_n hx hb dX4_dueAt_66 rfl (lv_at hl 1 rfl) ?_
    refine lv_iload_n hx hb dX4_dueAt_67 rfl (lv_at hl 3 rfl) ?_
    obtain ⟨r_4, hc_3, hd⟩ := zob_some hd
    refine z_cvI F hw hl.1 (As := [.int x2]) (rest := [.int (1 : Int32)]) (ztX4_goneBehind l D cy sh ad h0 hc_3) zyX4_goneBehind h0 zc4 zk4_114 ⟨rfl, rfl⟩ ⟨by decide, by decide⟩ rfl rfl (Nat.le_of_ble_eq_true rfl) dX4_dueAt_68 (fun H locs hw => ?_)
    refine lv_iload hx hb dX4_dueAt_71 (lv_at hl 0 rfl) ?_
    refine lv_isub hx hb dX4_dueAt_73 ?_
    refine z_mmax F hl.1 zk4_95 (by decide) (Nat.le_of_ble_eq_true rfl) dX4_dueAt_74 ?_
    refine lv_topi (fun v_5 ev_5 => ?_)
    have hd := zbd_eq ev_5 hd
    refine lv_istore (lv' := [(5, .int v_5), (4, .int r_2), (0, .ref (ad k0)), (1, .int p1), (2, .int x2)]) hx hb dX4_dueAt_77 hl (by decide) rfl (fun ls hl => ?_)
    refine lv_iload_n hx hb dX4_dueAt_79 rfl (lv_at hl 4 rfl) ?_
    refine lv_iconst (v := (1 : Int32)) hx hb dX4_dueAt_80 (by decide) ?_
    refine lv_isub hx hb dX4_dueAt_81 ?_
    refine lv_sipush (v := (1000 : Int32)) hx hb dX4_dueAt_82 (by decide) ?_
    refine lv_imul hx hb dX4_dueAt_85 ?_
    refine lv_iload_n hx hb dX4_dueAt_86 rfl (lv_at hl 3 rfl) ?_
    refine lv_iload hx hb dX4_dueAt_87 (lv_at hl 1 rfl) ?_
    refine lv_isub hx hb dX4_dueAt_89 ?_
    refine lv_sipush (v := (1000 : Int32)) hx hb dX4_dueAt_90 (by decide) ?_
    refine lv_imul hx hb dX4_dueAt_93 ?_
    refine lv_iload hx hb dX4_dueAt_94 (lv_at hl 0 rfl) ?_
    obtain ⟨g_6, hd⟩ := zgd_some hd
    refine lv_idiv hx hb dX4_dueAt_96 (znz_ne g_6) ?_
    refine lv_iadd hx hb dX4_dueAt_97 ?_
    exact z_iret F hr hlk hw (Option.some.inj hd) rfl dX4_dueAt_98
  have J50 : ∀ (kk10 : Int32 → Int32 → Int32 → Option (Int32)) (hk10 : ∀ (x2 : Int32) (x3 : Int32) (x4 : Int32) (H : Heap) (locs : List Loc) (ls : Array Slot), lv_has ls 6 [(0, .ref (ad k0)), (1, .int p1), (2, .int x2), (3, .int x3), (4, .int x4)] → zWd D cy sh ad s M H locs → kk10 x2 x3 x4 = some r → W p l e { frames := 2, cells := 0, slots := 0, locals := 43 } s m ([.ref (ad k0), .int p1] : List Value).toArray below meth c H locs 0 0 (zQI below D cy sh ad s [.ref (ad k0), .int p1] r M) (F0 m 10 ls [])), ∀ (x2 : Int32) (x3 : Int32) (x4 : Int32) (H : Heap) (locs : List Loc) (ls : Array Slot), lv_has ls 6 [(0, .ref (ad k0)), (1, .int p1), (2, .int x2), (3, .int x3), (4, .int x4)] → zWd D cy sh ad s M H locs → zjX4_dueAt_50 sh k0 p1 M kk10 x2 x3 x4 = some r → W p l e { frames := 2, cells := 0, slots := 0, locals := 43 } s m ([.ref (ad k0), .int p1] : List Value).toArray below meth c H locs 0 0 (zQI below D cy sh ad s [.ref (ad k0), .int p1] r M) (F0 m 50 ls []) := by
    intro kk10 hk10 x2 x3 x4 H locs ls hl hw hd
    unfold zjX4_dueAt_50 at hd
    refine lv_iinc (v := (x4 + (1 : Int32))) (lv' := [(4, .int (x4 + (1 : Int32))), (0, .ref (ad k0)), (1, .int p1), (2, .int x2), (3, .int x3)]) hx hb dX4_dueAt_50 hl (k := 4) rfl (ziinc (by decide)) (by decide) rfl (fun ls hl => ?_)
    refine lv_goto (tgt := 10) hx hb dX4_dueAt_53 (by decide) ?_
    exact hk10 _ _ _ _ _ _ (lv_sub hl [1, 2, 3, 4, 0] rfl) hw hd
  have L10 : ∀  (n : Nat), ∀ (x2 : Int32) (x3 : Int32) (x4 : Int32) (H : Heap) (locs : List Loc) (ls : Array Slot), lv_has ls 6 [(0, .ref (ad k0)), (1, .int p1), (2, .int x2), (3, .int x3), (4, .int x4)] → zWd D cy sh ad s M H locs → zlX4_dueAt_10 sh k0 p1 M  n x2 x3 x4 = some r → W p l e { frames := 2, cells := 0, slots := 0, locals := 43 } s m ([.ref (ad k0), .int p1] : List Value).toArray below meth c H locs 0 0 (zQI below D cy sh ad s [.ref (ad k0), .int p1] r M) (F0 m 10 ls []) := by
    intro  n
    induction n with
    | zero => intro x2 x3 x4 H locs ls hl hw hd; exact (znone hd).elim
    | succ n hk10 =>
      intro x2 x3 x4 H locs ls hl hw hd
      have hd : zbX4_dueAt_10 sh k0 p1 M  (zlX4_dueAt_10 sh k0 p1 M  n) x2 x3 x4 = some r := hd
      unfold zbX4_dueAt_10 at hd
      refine lv_iload hx hb dX4_dueAt_10 (lv_at hl 4 rfl) ?_
      refine lv_bipush (v := (16 : Int32)) hx hb dX4_dueAt_12 (by decide) ?_
      refine lv_icmp_ge (tgt := 56) hx hb dX4_dueAt_14 (by decide) (fun c_7 => ?_) (fun c_7 => ?_)
      · have hd := zif_pos c_7 hd
        exact J56 _ _ _ _ (lv_sub hl [0, 1, 2] rfl) hw hd
      · have hd := zif_neg c_7 hd
        refine lv_iload_n hx hb dX4_dueAt_17 rfl (lv_at hl 2 rfl) ?_
        refine lv_iload_n hx hb dX4_dueAt_18 rfl (lv_at hl 3 rfl) ?_
        refine lv_icmp_ge (tgt := 56) hx hb dX4_dueAt_19 (by decide) (fun c_8 => ?_) (fun c_8 => ?_)
        · have hd := zif_pos c_8 hd
          exact J56 _ _ _ _ (lv_sub hl [0, 1, 2] rfl) hw hd
        · have hd := zif_neg c_8 hd
          refine lv_iload_n hx hb dX4_dueAt_22 rfl (lv_at hl 2 rfl) ?_
          refine lv_iload_n hx hb dX4_dueAt_23 rfl (lv_at hl 3 rfl) ?_
          refine lv_iadd hx hb dX4_dueAt_24 ?_
          refine lv_iconst (v := (2 : Int32)) hx hb dX4_dueAt_25 (by decide) ?_
          refine lv_idiv hx hb dX4_dueAt_26 (by decide) ?_
          refine lv_istore (lv' := [(5, .int ((x2 + x3) / (2 : Int32))), (0, .ref (ad k0)), (1, .int p1), (2, .int x2), (3, .int x3), (4, .int x4)]) hx hb dX4_dueAt_27 hl (by decide) rfl (fun ls hl => ?_)
          refine lv_aload_n hx hb dX4_dueAt_29 rfl (lv_at hl 1 rfl) ?_
          refine lv_iload hx hb dX4_dueAt_30 (lv_at hl 0 rfl) ?_
          obtain ⟨r_10, hc_9, hd⟩ := zob_some hd
          refine z_cvI F hw hl.1 (As := [.int ((x2 + x3) / (2 : Int32))]) (rest := []) (ztX4_goneBehind l D cy sh ad h0 hc_9) zyX4_goneBehind h0 zc4 zk4_114 ⟨rfl, rfl⟩ ⟨by decide, by decide⟩ rfl rfl (Nat.le_of_ble_eq_true rfl) dX4_dueAt_32 (fun H locs hw => ?_)
          refine lv_iload_n hx hb dX4_dueAt_35 rfl (lv_at hl 2 rfl) ?_
          refine lv_icmp_lt (tgt := 45) hx hb dX4_dueAt_36 (by decide) (fun c_11 => ?_) (fun c_11 => ?_)
          · have hd := zif_pos c_11 hd
            refine lv_iload hx hb dX4_dueAt_45 (lv_at hl 0 rfl) ?_
            refine lv_iconst (v := (1 : Int32)) hx hb dX4_dueAt_47 (by decide) ?_
            refine lv_iadd hx hb dX4_dueAt_48 ?_
            refine lv_topi (fun v_12 ev_12 => ?_)
            have hd := zbd_eq ev_12 hd
            refine lv_istore_n (lv' := [(2, .int v_12), (5, .int ((x2 + x3) / (2 : Int32))), (0, .ref (ad k0)), (1, .int p1), (3, .int x3), (4, .int x4)]) hx hb dX4_dueAt_49 rfl hl (by decide) rfl (fun ls hl => ?_)
            exact J50 _ hk10 _ _ _ _ _ _ (lv_sub hl [2, 3, 0, 4, 5] rfl) hw hd
          · have hd := zif_neg c_11 hd
            refine lv_iload hx hb dX4_dueAt_39 (lv_at hl 0 rfl) ?_
            refine lv_istore_n (lv' := [(3, .int ((x2 + x3) / (2 : Int32))), (5, .int ((x2 + x3) / (2 : Int32))), (0, .ref (ad k0)), (1, .int p1), (2, .int x2), (4, .int x4)]) hx hb dX4_dueAt_41 rfl hl (by decide) rfl (fun ls hl => ?_)
            refine lv_goto (tgt := 50) hx hb dX4_dueAt_42 (by decide) ?_
            exact J50 _ hk10 _ _ _ _ _ _ (lv_sub hl [2, 3, 4, 0, 5] rfl) hw hd
  unfold zX4_dueAt at hd
  refine lv_iconst (v := (1 : Int32)) hx hb dX4_dueAt_0 (by decide) ?_
  refine lv_istore_n (lv' := [(2, .int (1 : Int32)), (0, .ref (ad k0)), (1, .int p1)]) hx hb dX4_dueAt_1 rfl hl (by decide) rfl (fun ls hl => ?_)
  refine lv_aload_n hx hb dX4_dueAt_2 rfl (lv_at hl 1 rfl) ?_
  obtain ⟨r_14, hc_13, hd⟩ := zob_some hd
  refine z_cvI F hw hl.1 (As := []) (rest := []) (ztX4_ticks l D cy sh ad h0 hc_13) zyX4_ticks h0 zc4 zk4_71 ⟨rfl, rfl⟩ ⟨by decide, by decide⟩ rfl rfl (Nat.le_of_ble_eq_true rfl) dX4_dueAt_3 (fun H locs hw => ?_)
  refine lv_istore_n (lv' := [(3, .int r_14), (2, .int (1 : Int32)), (0, .ref (ad k0)), (1, .int p1)]) hx hb dX4_dueAt_6 rfl hl (by decide) rfl (fun ls hl => ?_)
  refine lv_iconst (v := (0 : Int32)) hx hb dX4_dueAt_7 (by decide) ?_
  refine lv_istore (lv' := [(4, .int (0 : Int32)), (3, .int r_14), (2, .int (1 : Int32)), (0, .ref (ad k0)), (1, .int p1)]) hx hb dX4_dueAt_8 hl (by decide) rfl (fun ls hl => ?_)
  exact L10 zF _ _ _ _ _ _ (lv_sub hl [3, 4, 2, 1, 0] rfl) hw hd

def zjX4_ticksInBands_128 (sh : zShp) (k0 : Nat) (k1 : Nat) (M : zMem)  (s0 : Int32) (s1 : Int32) : Option (Int32) :=
  some (s0 + s1)
def zjX4_ticksInBands_105 (sh : zShp) (k0 : Nat) (k1 : Nat) (M : zMem)  (x3 : Int32) (x4 : Int32) (s0 : Int32) (s1 : Int32) : Option (Int32) :=
  zob (zX1_bandsOver sh k1 (zI M k0 3) (x3 + (1 : Int32)) M) fun r_2 =>
  if r_2 ≤ 0 then (
  zjX4_ticksInBands_128 sh k0 k1 M (s0 + s1) (0 : Int32))
  else (
  zjX4_ticksInBands_128 sh k0 k1 M (s0 + s1) x4)
def zjX4_ticksInBands_40 (sh : zShp) (k0 : Nat) (k1 : Nat) (M : zMem) (kk4 : Int32 → Int32 → Option (Int32)) (x3 : Int32) (s0 : Int32) (s1 : Int32) : Option (Int32) :=
  kk4 (s0 + s1) (x3 + (1 : Int32))
def zbX4_ticksInBands_4 (sh : zShp) (k0 : Nat) (k1 : Nat) (M : zMem)  (kk4 : Int32 → Int32 → Option (Int32)) (x2 : Int32) (x3 : Int32) : Option (Int32) :=
  if (zI M (zR M k0 2) 1) < x3 then (
  if (1 : Int32) ≤ (zI M k0 9) then (
  zgd (znz (zI M k0 9)) <|
  zbd (((zI M k0 8) / (zI M k0 9))) fun v_8 =>
  zbd (((zI M k0 8) - (v_8 * (zI M k0 9)))) fun v_9 =>
  zob (zX1_bandsOver sh k1 (zI M k0 3) v_8 M) fun r_11 =>
  if r_11 ≤ 0 then (
  zjX4_ticksInBands_105 sh k0 k1 M v_8 v_9 x2 (0 : Int32))
  else (
  zjX4_ticksInBands_105 sh k0 k1 M v_8 v_9 x2 ((zI M k0 9) - v_9)))
  else (
  some x2))
  else (
  zob (zX5_speedIn sh (zR M k0 2) x3 M) fun r_15 =>
  zob (zX1_bandsOver sh k1 (zI M k0 3) r_15 M) fun r_17 =>
  if r_17 ≤ 0 then (
  zjX4_ticksInBands_40 sh k0 k1 M kk4 x3 x2 (0 : Int32))
  else (
  zjX4_ticksInBands_40 sh k0 k1 M kk4 x3 x2 (2 : Int32)))
def zlX4_ticksInBands_4 (sh : zShp) (k0 : Nat) (k1 : Nat) (M : zMem)  : Nat → Int32 → Int32 → Option (Int32)
  | 0 => fun _ _ => none
  | n + 1 => fun x2 x3 => zbX4_ticksInBands_4 sh k0 k1 M  (zlX4_ticksInBands_4 sh k0 k1 M  n) x2 x3
def zX4_ticksInBands (sh : zShp) (k0 : Nat) (k1 : Nat) (M : zMem) : Option (Int32) :=
  zlX4_ticksInBands_4 sh k0 k1 M zF (0 : Int32) (1 : Int32)
set_option maxHeartbeats 4000000 in
set_option maxRecDepth 100000 in
theorem ztX4_ticksInBands (l : Launch) (D : va_G) (cy : Nat → ClassId) (sh : zShp) (ad : Nat → Nat) {k0 : Nat} {k1 : Nat} (h0 : zT sh k0 4) (h1 : zT sh k1 1) {M : zMem} {r : Int32} (hd : zX4_ticksInBands sh k0 k1 M = some r) : zCI l yX4_ticksInBands cX4_ticksInBands 5 .int { frames := 2, cells := 0, slots := 0, locals := 46 } [.ref (ad k0), .ref (ad k1)] D cy sh ad M r M := by
  refine zci_of (by decide) (Nat.le_of_ble_eq_true rfl) (fun p e s m below meth c ls F hr hlk hl hw => ?_)
  have hx := F.1.1
  have hb := F.1.2.1
  have hl : lv_has ls 5 [(0, .ref (ad k0)), (1, .ref (ad k1))] := hl
  have J128 : ∀ (s0 : Int32) (s1 : Int32) (H : Heap) (locs : List Loc) (ls : Array Slot), lv_has ls 5 [] → zWd D cy sh ad s M H locs → zjX4_ticksInBands_128 sh k0 k1 M  s0 s1 = some r → W p l e { frames := 2, cells := 0, slots := 0, locals := 46 } s m ([.ref (ad k0), .ref (ad k1)] : List Value).toArray below meth c H locs 0 0 (zQI below D cy sh ad s [.ref (ad k0), .ref (ad k1)] r M) (F0 m 128 ls [.int s1, .int s0]) := by
    intro  s0 s1 H locs ls hl hw hd
    unfold zjX4_ticksInBands_128 at hd
    refine lv_iadd hx hb dX4_ticksInBands_128 ?_
    refine lv_istore_n (lv' := [(2, .int (s0 + s1))]) hx hb dX4_ticksInBands_129 rfl hl (by decide) rfl (fun ls hl => ?_)
    refine lv_iload_n hx hb dX4_ticksInBands_130 rfl (lv_at hl 0 rfl) ?_
    exact z_iret F hr hlk hw (Option.some.inj hd) rfl dX4_ticksInBands_131
  have J105 : ∀ (x3 : Int32) (x4 : Int32) (s0 : Int32) (s1 : Int32) (H : Heap) (locs : List Loc) (ls : Array Slot), lv_has ls 5 [(0, .ref (ad k0)), (1, .ref (ad k1)), (3, .int x3), (4, .int x4)] → zWd D cy sh ad s M H locs → zjX4_ticksInBands_105 sh k0 k1 M  x3 x4 s0 s1 = some r → W p l e { frames := 2, cells := 0, slots := 0, locals := 46 } s m ([.ref (ad k0), .ref (ad k1)] : List Value).toArray below meth c H locs 0 0 (zQI below D cy sh ad s [.ref (ad k0), .ref (ad k1)] r M) (F0 m 105 ls [.int s1, .int s0]) := by
    intro  x3 x4 s0 s1 H locs ls hl hw hd
    unfold zjX4_ticksInBands_105 at hd
    refine lv_iadd hx hb dX4_ticksInBands_105 ?_
    refine lv_istore_n (lv' := [(2, .int (s0 + s1)), (0, .ref (ad k0)), (1, .ref (ad k1)), (3, .int x3), (4, .int x4)]) hx hb dX4_ticksInBands_106 rfl hl (by decide) rfl (fun ls hl => ?_)
    refine lv_iload_n hx hb dX4_ticksInBands_107 rfl (lv_at hl 0 rfl) ?_
    refine lv_aload_n hx hb dX4_ticksInBands_108 rfl (lv_at hl 2 rfl) ?_
    refine lv_aload_n hx hb dX4_ticksInBands_109 rfl (lv_at hl 1 rfl) ?_
    refine z_gI F hw h0 zc4 3 (by decide) rfl zf4_25 dX4_ticksInBands_110 ?_
    refine lv_iload_n hx hb dX4_ticksInBands_113 rfl (lv_at hl 3 rfl) ?_
    refine lv_iconst (v := (1 : Int32)) hx hb dX4_ticksInBands_114 (by decide) ?_
    refine lv_iadd hx hb dX4_ticksInBands_115 ?_
    obtain ⟨r_2, hc_1, hd⟩ := zob_some hd
    refine z_cvI F hw hl.1 (As := [.int (zI M k0 3), .int (x3 + (1 : Int32))]) (rest := [.int (s0 + s1)]) (ztX1_bandsOver l D cy sh ad h1 hc_1) zyX1_bandsOver h1 zc1 zk4_92 ⟨rfl, rfl⟩ ⟨by decide, by decide⟩ rfl rfl (Nat.le_of_ble_eq_true rfl) dX4_ticksInBands_116 (fun H locs hw => ?_)
    refine lv_if_le (tgt := 127) hx hb dX4_ticksInBands_119 (by decide) (fun c_3 => ?_) (fun c_3 => ?_)
    · have hd := zif_pos c_3 hd
      refine lv_iconst (v := (0 : Int32)) hx hb dX4_ticksInBands_127 (by decide) ?_
      exact J128 _ _ _ _ _ (lv_sub hl [] rfl) hw hd
    · have hd := zif_neg c_3 hd
      refine lv_iload hx hb dX4_ticksInBands_122 (lv_at hl 4 rfl) ?_
      refine lv_goto (tgt := 128) hx hb dX4_ticksInBands_124 (by decide) ?_
      exact J128 _ _ _ _ _ (lv_sub hl [] rfl) hw hd
  have J40 : ∀ (kk4 : Int32 → Int32 → Option (Int32)) (hk4 : ∀ (x2 : Int32) (x3 : Int32) (H : Heap) (locs : List Loc) (ls : Array Slot), lv_has ls 5 [(0, .ref (ad k0)), (1, .ref (ad k1)), (2, .int x2), (3, .int x3)] → zWd D cy sh ad s M H locs → kk4 x2 x3 = some r → W p l e { frames := 2, cells := 0, slots := 0, locals := 46 } s m ([.ref (ad k0), .ref (ad k1)] : List Value).toArray below meth c H locs 0 0 (zQI below D cy sh ad s [.ref (ad k0), .ref (ad k1)] r M) (F0 m 4 ls [])), ∀ (x3 : Int32) (s0 : Int32) (s1 : Int32) (H : Heap) (locs : List Loc) (ls : Array Slot), lv_has ls 5 [(0, .ref (ad k0)), (1, .ref (ad k1)), (3, .int x3)] → zWd D cy sh ad s M H locs → zjX4_ticksInBands_40 sh k0 k1 M kk4 x3 s0 s1 = some r → W p l e { frames := 2, cells := 0, slots := 0, locals := 46 } s m ([.ref (ad k0), .ref (ad k1)] : List Value).toArray below meth c H locs 0 0 (zQI below D cy sh ad s [.ref (ad k0), .ref (ad k1)] r M) (F0 m 40 ls [.int s1, .int s0]) := by
    intro kk4 hk4 x3 s0 s1 H locs ls hl hw hd
    unfold zjX4_ticksInBands_40 at hd
    refine lv_iadd hx hb dX4_ticksInBands_40 ?_
    refine lv_istore_n (lv' := [(2, .int (s0 + s1)), (0, .ref (ad k0)), (1, .ref (ad k1)), (3, .int x3)]) hx hb dX4_ticksInBands_41 rfl hl (by decide) rfl (fun ls hl => ?_)
    refine lv_iinc (v := (x3 + (1 : Int32))) (lv' := [(3, .int (x3 + (1 : Int32))), (2, .int (s0 + s1)), (0, .ref (ad k0)), (1, .ref (ad k1))]) hx hb dX4_ticksInBands_42 hl (k := 3) rfl (ziinc (by decide)) (by decide) rfl (fun ls hl => ?_)
    refine lv_goto (tgt := 4) hx hb dX4_ticksInBands_45 (by decide) ?_
    exact hk4 _ _ _ _ _ (lv_sub hl [2, 3, 1, 0] rfl) hw hd
  have L4 : ∀  (n : Nat), ∀ (x2 : Int32) (x3 : Int32) (H : Heap) (locs : List Loc) (ls : Array Slot), lv_has ls 5 [(0, .ref (ad k0)), (1, .ref (ad k1)), (2, .int x2), (3, .int x3)] → zWd D cy sh ad s M H locs → zlX4_ticksInBands_4 sh k0 k1 M  n x2 x3 = some r → W p l e { frames := 2, cells := 0, slots := 0, locals := 46 } s m ([.ref (ad k0), .ref (ad k1)] : List Value).toArray below meth c H locs 0 0 (zQI below D cy sh ad s [.ref (ad k0), .ref (ad k1)] r M) (F0 m 4 ls []) := by
    intro  n
    induction n with
    | zero => intro x2 x3 H locs ls hl hw hd; exact (znone hd).elim
    | succ n hk4 =>
      intro x2 x3 H locs ls hl hw hd
      have hd : zbX4_ticksInBands_4 sh k0 k1 M  (zlX4_ticksInBands_4 sh k0 k1 M  n) x2 x3 = some r := hd
      unfold zbX4_ticksInBands_4 at hd
      refine lv_iload_n hx hb dX4_ticksInBands_4 rfl (lv_at hl 3 rfl) ?_
      refine lv_aload_n hx hb dX4_ticksInBands_5 rfl (lv_at hl 0 rfl) ?_
      refine z_gR F hw h0 zc4 2 (by decide) rfl zf4_21 dX4_ticksInBands_6 ?_
      have t_4 : zT sh (zR M k0 2) 5 := hw.2.2.2.fld h0 2 5
      refine z_gI F hw t_4 zc5 1 (by decide) rfl zf4_107 dX4_ticksInBands_9 ?_
      refine lv_icmp_gt (tgt := 48) hx hb dX4_ticksInBands_12 (by decide) (fun c_5 => ?_) (fun c_5 => ?_)
      · have hd := zif_pos c_5 hd
        refine lv_aload_n hx hb dX4_ticksInBands_48 rfl (lv_at hl 0 rfl) ?_
        refine z_gI F hw h0 zc4 9 (by decide) rfl zf4_101 dX4_ticksInBands_49 ?_
        refine lv_iconst (v := (1 : Int32)) hx hb dX4_ticksInBands_52 (by decide) ?_
        refine lv_icmp_ge (tgt := 58) hx hb dX4_ticksInBands_53 (by decide) (fun c_6 => ?_) (fun c_6 => ?_)
        · have hd := zif_pos c_6 hd
          refine lv_aload_n hx hb dX4_ticksInBands_58 rfl (lv_at hl 0 rfl) ?_
          refine z_gI F hw h0 zc4 8 (by decide) rfl zf4_98 dX4_ticksInBands_59 ?_
          refine lv_aload_n hx hb dX4_ticksInBands_62 rfl (lv_at hl 0 rfl) ?_
          refine z_gI F hw h0 zc4 9 (by decide) rfl zf4_101 dX4_ticksInBands_63 ?_
          obtain ⟨g_7, hd⟩ := zgd_some hd
          refine lv_idiv hx hb dX4_ticksInBands_66 (znz_ne g_7) ?_
          refine lv_topi (fun v_8 ev_8 => ?_)
          have hd := zbd_eq ev_8 hd
          refine lv_istore_n (lv' := [(3, .int v_8), (0, .ref (ad k0)), (1, .ref (ad k1)), (2, .int x2)]) hx hb dX4_ticksInBands_67 rfl hl (by decide) rfl (fun ls hl => ?_)
          refine lv_aload_n hx hb dX4_ticksInBands_68 rfl (lv_at hl 1 rfl) ?_
          refine z_gI F hw h0 zc4 8 (by decide) rfl zf4_98 dX4_ticksInBands_69 ?_
          refine lv_iload_n hx hb dX4_ticksInBands_72 rfl (lv_at hl 0 rfl) ?_
          refine lv_aload_n hx hb dX4_ticksInBands_73 rfl (lv_at hl 1 rfl) ?_
          refine z_gI F hw h0 zc4 9 (by decide) rfl zf4_101 dX4_ticksInBands_74 ?_
          refine lv_imul hx hb dX4_ticksInBands_77 ?_
          refine lv_isub hx hb dX4_ticksInBands_78 ?_
          refine lv_topi (fun v_9 ev_9 => ?_)
          have hd := zbd_eq ev_9 hd
          refine lv_istore (lv' := [(4, .int v_9), (3, .int v_8), (0, .ref (ad k0)), (1, .ref (ad k1)), (2, .int x2)]) hx hb dX4_ticksInBands_79 hl (by decide) rfl (fun ls hl => ?_)
          refine lv_iload_n hx hb dX4_ticksInBands_81 rfl (lv_at hl 4 rfl) ?_
          refine lv_aload_n hx hb dX4_ticksInBands_82 rfl (lv_at hl 3 rfl) ?_
          refine lv_aload_n hx hb dX4_ticksInBands_83 rfl (lv_at hl 2 rfl) ?_
          refine z_gI F hw h0 zc4 3 (by decide) rfl zf4_25 dX4_ticksInBands_84 ?_
          refine lv_iload_n hx hb dX4_ticksInBands_87 rfl (lv_at hl 1 rfl) ?_
          obtain ⟨r_11, hc_10, hd⟩ := zob_some hd
          refine z_cvI F hw hl.1 (As := [.int (zI M k0 3), .int v_8]) (rest := [.int x2]) (ztX1_bandsOver l D cy sh ad h1 hc_10) zyX1_bandsOver h1 zc1 zk4_92 ⟨rfl, rfl⟩ ⟨by decide, by decide⟩ rfl rfl (Nat.le_of_ble_eq_true rfl) dX4_ticksInBands_88 (fun H locs hw => ?_)
          refine lv_if_le (tgt := 104) hx hb dX4_ticksInBands_91 (by decide) (fun c_12 => ?_) (fun c_12 => ?_)
          · have hd := zif_pos c_12 hd
            refine lv_iconst (v := (0 : Int32)) hx hb dX4_ticksInBands_104 (by decide) ?_
            exact J105 _ _ _ _ _ _ _ (lv_sub hl [2, 3, 1, 0] rfl) hw hd
          · have hd := zif_neg c_12 hd
            refine lv_aload_n hx hb dX4_ticksInBands_94 rfl (lv_at hl 2 rfl) ?_
            refine z_gI F hw h0 zc4 9 (by decide) rfl zf4_101 dX4_ticksInBands_95 ?_
            refine lv_iload hx hb dX4_ticksInBands_98 (lv_at hl 0 rfl) ?_
            refine lv_isub hx hb dX4_ticksInBands_100 ?_
            refine lv_goto (tgt := 105) hx hb dX4_ticksInBands_101 (by decide) ?_
            exact J105 _ _ _ _ _ _ _ (lv_sub hl [2, 3, 1, 0] rfl) hw hd
        · have hd := zif_neg c_6 hd
          refine lv_iload_n hx hb dX4_ticksInBands_56 rfl (lv_at hl 2 rfl) ?_
          exact z_iret F hr hlk hw (Option.some.inj hd) rfl dX4_ticksInBands_57
      · have hd := zif_neg c_5 hd
        refine lv_iload_n hx hb dX4_ticksInBands_15 rfl (lv_at hl 2 rfl) ?_
        refine lv_aload_n hx hb dX4_ticksInBands_16 rfl (lv_at hl 1 rfl) ?_
        refine lv_aload_n hx hb dX4_ticksInBands_17 rfl (lv_at hl 0 rfl) ?_
        refine z_gI F hw h0 zc4 3 (by decide) rfl zf4_25 dX4_ticksInBands_18 ?_
        refine lv_aload_n hx hb dX4_ticksInBands_21 rfl (lv_at hl 0 rfl) ?_
        refine z_gR F hw h0 zc4 2 (by decide) rfl zf4_21 dX4_ticksInBands_22 ?_
        have t_13 : zT sh (zR M k0 2) 5 := hw.2.2.2.fld h0 2 5
        refine lv_iload_n hx hb dX4_ticksInBands_25 rfl (lv_at hl 3 rfl) ?_
        obtain ⟨r_15, hc_14, hd⟩ := zob_some hd
        refine z_cvI F hw hl.1 (As := [.int x3]) (rest := [.int (zI M k0 3), .ref (ad k1), .int x2]) (ztX5_speedIn l D cy sh ad t_13 hc_14) zyX5_speedIn t_13 zc5 zk4_117 ⟨rfl, rfl⟩ ⟨by decide, by decide⟩ rfl rfl (Nat.le_of_ble_eq_true rfl) dX4_ticksInBands_26 (fun H locs hw => ?_)
        obtain ⟨r_17, hc_16, hd⟩ := zob_some hd
        refine z_cvI F hw hl.1 (As := [.int (zI M k0 3), .int r_15]) (rest := [.int x2]) (ztX1_bandsOver l D cy sh ad h1 hc_16) zyX1_bandsOver h1 zc1 zk4_92 ⟨rfl, rfl⟩ ⟨by decide, by decide⟩ rfl rfl (Nat.le_of_ble_eq_true rfl) dX4_ticksInBands_29 (fun H locs hw => ?_)
        refine lv_if_le (tgt := 39) hx hb dX4_ticksInBands_32 (by decide) (fun c_18 => ?_) (fun c_18 => ?_)
        · have hd := zif_pos c_18 hd
          refine lv_iconst (v := (0 : Int32)) hx hb dX4_ticksInBands_39 (by decide) ?_
          exact J40 _ hk4 _ _ _ _ _ _ (lv_sub hl [0, 1, 3] rfl) hw hd
        · have hd := zif_neg c_18 hd
          refine lv_iconst (v := (2 : Int32)) hx hb dX4_ticksInBands_35 (by decide) ?_
          refine lv_goto (tgt := 40) hx hb dX4_ticksInBands_36 (by decide) ?_
          exact J40 _ hk4 _ _ _ _ _ _ (lv_sub hl [0, 1, 3] rfl) hw hd
  unfold zX4_ticksInBands at hd
  refine lv_iconst (v := (0 : Int32)) hx hb dX4_ticksInBands_0 (by decide) ?_
  refine lv_istore_n (lv' := [(2, .int (0 : Int32)), (0, .ref (ad k0)), (1, .ref (ad k1))]) hx hb dX4_ticksInBands_1 rfl hl (by decide) rfl (fun ls hl => ?_)
  refine lv_iconst (v := (1 : Int32)) hx hb dX4_ticksInBands_2 (by decide) ?_
  refine lv_istore_n (lv' := [(3, .int (1 : Int32)), (2, .int (0 : Int32)), (0, .ref (ad k0)), (1, .ref (ad k1))]) hx hb dX4_ticksInBands_3 rfl hl (by decide) rfl (fun ls hl => ?_)
  exact L4 zF _ _ _ _ _ (lv_sub hl [2, 3, 1, 0] rfl) hw hd

def zjX4_greatestChange_60 (sh : zShp) (k0 : Nat) (p1 : Int32) (M : zMem) (kk19 : Int32 → Int32 → Int32 → Int32 → Int32 → Int32 → Option (Int32)) (x3 : Int32) (x6 : Int32) (x7 : Int32) (x8 : Int32) (x9 : Int32) (s0 : Int32) (s1 : Int32) : Option (Int32) :=
  kk19 (zmax s0 (zabs s1)) x8 (x8 - x3) x9 x6 (x7 + (1 : Int32))
def zbX4_greatestChange_19 (sh : zShp) (k0 : Nat) (p1 : Int32) (M : zMem)  (kk19 : Int32 → Int32 → Int32 → Int32 → Int32 → Int32 → Option (Int32)) (x2 : Int32) (x3 : Int32) (x4 : Int32) (x5 : Int32) (x6 : Int32) (x7 : Int32) : Option (Int32) :=
  if (x6 + (1 : Int32)) < x7 then (
  some x2)
  else (
  zob (zX4_goneBehind sh k0 x7 M) fun r_3 =>
  if p1 = 0 then (
  zjX4_greatestChange_60 sh k0 p1 M kk19 x3 x6 x7 r_3 ((r_3 - x3) - x4) x2 ((r_3 - x3) - x4))
  else (
  zjX4_greatestChange_60 sh k0 p1 M kk19 x3 x6 x7 r_3 ((r_3 - x3) - x4) x2 (((r_3 - x3) - x4) - x5)))
def zlX4_greatestChange_19 (sh : zShp) (k0 : Nat) (p1 : Int32) (M : zMem)  : Nat → Int32 → Int32 → Int32 → Int32 → Int32 → Int32 → Option (Int32)
  | 0 => fun _ _ _ _ _ _ => none
  | n + 1 => fun x2 x3 x4 x5 x6 x7 => zbX4_greatestChange_19 sh k0 p1 M  (zlX4_greatestChange_19 sh k0 p1 M  n) x2 x3 x4 x5 x6 x7
def zX4_greatestChange (sh : zShp) (k0 : Nat) (p1 : Int32) (M : zMem) : Option (Int32) :=
  zob (zX4_ticks sh k0 M) fun r_6 =>
  zlX4_greatestChange_19 sh k0 p1 M zF (0 : Int32) (0 : Int32) (0 : Int32) (0 : Int32) r_6 (1 : Int32)
set_option maxHeartbeats 4000000 in
set_option maxRecDepth 100000 in
theorem ztX4_greatestChange (l : Launch) (D : va_G) (cy : Nat → ClassId) (sh : zShp) (ad : Nat → Nat) {k0 : Nat} {p1 : Int32} (h0 : zT sh k0 4) {M : zMem} {r : Int32} (hd : zX4_greatestChange sh k0 p1 M = some r) : zCI l yX4_greatestChange cX4_greatestChange 10 .int { frames := 2, cells := 0, slots := 0, locals := 43 } [.ref (ad k0), .int p1] D cy sh ad M r M := by
  refine zci_of (by decide) (Nat.le_of_ble_eq_true rfl) (fun p e s m below meth c ls F hr hlk hl hw => ?_)
  have hx := F.1.1
  have hb := F.1.2.1
  have hl : lv_has ls 10 [(0, .ref (ad k0)), (1, .int p1)] := hl
  have J60 : ∀ (kk19 : Int32 → Int32 → Int32 → Int32 → Int32 → Int32 → Option (Int32)) (hk19 : ∀ (x2 : Int32) (x3 : Int32) (x4 : Int32) (x5 : Int32) (x6 : Int32) (x7 : Int32) (H : Heap) (locs : List Loc) (ls : Array Slot), lv_has ls 10 [(0, .ref (ad k0)), (1, .int p1), (2, .int x2), (3, .int x3), (4, .int x4), (5, .int x5), (6, .int x6), (7, .int x7)] → zWd D cy sh ad s M H locs → kk19 x2 x3 x4 x5 x6 x7 = some r → W p l e { frames := 2, cells := 0, slots := 0, locals := 43 } s m ([.ref (ad k0), .int p1] : List Value).toArray below meth c H locs 0 0 (zQI below D cy sh ad s [.ref (ad k0), .int p1] r M) (F0 m 19 ls [])), ∀ (x3 : Int32) (x6 : Int32) (x7 : Int32) (x8 : Int32) (x9 : Int32) (s0 : Int32) (s1 : Int32) (H : Heap) (locs : List Loc) (ls : Array Slot), lv_has ls 10 [(0, .ref (ad k0)), (1, .int p1), (3, .int x3), (6, .int x6), (7, .int x7), (8, .int x8), (9, .int x9)] → zWd D cy sh ad s M H locs → zjX4_greatestChange_60 sh k0 p1 M kk19 x3 x6 x7 x8 x9 s0 s1 = some r → W p l e { frames := 2, cells := 0, slots := 0, locals := 43 } s m ([.ref (ad k0), .int p1] : List Value).toArray below meth c H locs 0 0 (zQI below D cy sh ad s [.ref (ad k0), .int p1] r M) (F0 m 60 ls [.int s1, .int s0]) := by
    intro kk19 hk19 x3 x6 x7 x8 x9 s0 s1 H locs ls hl hw hd
    unfold zjX4_greatestChange_60 at hd
    refine z_mabs F hl.1 zk4_104 (by decide) (Nat.le_of_ble_eq_true rfl) dX4_greatestChange_60 ?_
    refine z_mmax F hl.1 zk4_95 (by decide) (Nat.le_of_ble_eq_true rfl) dX4_greatestChange_63 ?_
    refine lv_istore_n (lv' := [(2, .int (zmax s0 (zabs s1))), (0, .ref (ad k0)), (1, .int p1), (3, .int x3), (6, .int x6), (7, .int x7), (8, .int x8), (9, .int x9)]) hx hb dX4_greatestChange_66 rfl hl (by decide) rfl (fun ls hl => ?_)
    refine lv_iload hx hb dX4_greatestChange_67 (lv_at hl 6 rfl) ?_
    refine lv_iload_n hx hb dX4_greatestChange_69 rfl (lv_at hl 3 rfl) ?_
    refine lv_isub hx hb dX4_greatestChange_70 ?_
    refine lv_istore (lv' := [(4, .int (x8 - x3)), (2, .int (zmax s0 (zabs s1))), (0, .ref (ad k0)), (1, .int p1), (3, .int x3), (6, .int x6), (7, .int x7), (8, .int x8), (9, .int x9)]) hx hb dX4_greatestChange_71 hl (by decide) rfl (fun ls hl => ?_)
    refine lv_iload hx hb dX4_greatestChange_73 (lv_at hl 7 rfl) ?_
    refine lv_istore_n (lv' := [(3, .int x8), (4, .int (x8 - x3)), (2, .int (zmax s0 (zabs s1))), (0, .ref (ad k0)), (1, .int p1), (6, .int x6), (7, .int x7), (8, .int x8), (9, .int x9)]) hx hb dX4_greatestChange_75 rfl hl (by decide) rfl (fun ls hl => ?_)
    refine lv_iload hx hb dX4_greatestChange_76 (lv_at hl 8 rfl) ?_
    refine lv_istore (lv' := [(5, .int x9), (3, .int x8), (4, .int (x8 - x3)), (2, .int (zmax s0 (zabs s1))), (0, .ref (ad k0)), (1, .int p1), (6, .int x6), (7, .int x7), (8, .int x8), (9, .int x9)]) hx hb dX4_greatestChange_78 hl (by decide) rfl (fun ls hl => ?_)
    refine lv_iinc (v := (x7 + (1 : Int32))) (lv' := [(7, .int (x7 + (1 : Int32))), (5, .int x9), (3, .int x8), (4, .int (x8 - x3)), (2, .int (zmax s0 (zabs s1))), (0, .ref (ad k0)), (1, .int p1), (6, .int x6), (8, .int x8), (9, .int x9)]) hx hb dX4_greatestChange_80 hl (k := 7) rfl (ziinc (by decide)) (by decide) rfl (fun ls hl => ?_)
    refine lv_goto (tgt := 19) hx hb dX4_greatestChange_83 (by decide) ?_
    exact hk19 _ _ _ _ _ _ _ _ _ (lv_sub hl [5, 6, 4, 2, 3, 1, 7, 0] rfl) hw hd
  have L19 : ∀  (n : Nat), ∀ (x2 : Int32) (x3 : Int32) (x4 : Int32) (x5 : Int32) (x6 : Int32) (x7 : Int32) (H : Heap) (locs : List Loc) (ls : Array Slot), lv_has ls 10 [(0, .ref (ad k0)), (1, .int p1), (2, .int x2), (3, .int x3), (4, .int x4), (5, .int x5), (6, .int x6), (7, .int x7)] → zWd D cy sh ad s M H locs → zlX4_greatestChange_19 sh k0 p1 M  n x2 x3 x4 x5 x6 x7 = some r → W p l e { frames := 2, cells := 0, slots := 0, locals := 43 } s m ([.ref (ad k0), .int p1] : List Value).toArray below meth c H locs 0 0 (zQI below D cy sh ad s [.ref (ad k0), .int p1] r M) (F0 m 19 ls []) := by
    intro  n
    induction n with
    | zero => intro x2 x3 x4 x5 x6 x7 H locs ls hl hw hd; exact (znone hd).elim
    | succ n hk19 =>
      intro x2 x3 x4 x5 x6 x7 H locs ls hl hw hd
      have hd : zbX4_greatestChange_19 sh k0 p1 M  (zlX4_greatestChange_19 sh k0 p1 M  n) x2 x3 x4 x5 x6 x7 = some r := hd
      unfold zbX4_greatestChange_19 at hd
      refine lv_iload hx hb dX4_greatestChange_19 (lv_at hl 7 rfl) ?_
      refine lv_iload hx hb dX4_greatestChange_21 (lv_at hl 6 rfl) ?_
      refine lv_iconst (v := (1 : Int32)) hx hb dX4_greatestChange_23 (by decide) ?_
      refine lv_iadd hx hb dX4_greatestChange_24 ?_
      refine lv_icmp_gt (tgt := 86) hx hb dX4_greatestChange_25 (by decide) (fun c_1 => ?_) (fun c_1 => ?_)
      · have hd := zif_pos c_1 hd
        refine lv_iload_n hx hb dX4_greatestChange_86 rfl (lv_at hl 2 rfl) ?_
        exact z_iret F hr hlk hw (Option.some.inj hd) rfl dX4_greatestChange_87
      · have hd := zif_neg c_1 hd
        refine lv_aload_n hx hb dX4_greatestChange_28 rfl (lv_at hl 0 rfl) ?_
        refine lv_iload hx hb dX4_greatestChange_29 (lv_at hl 7 rfl) ?_
        obtain ⟨r_3, hc_2, hd⟩ := zob_some hd
        refine z_cvI F hw hl.1 (As := [.int x7]) (rest := []) (ztX4_goneBehind l D cy sh ad h0 hc_2) zyX4_goneBehind h0 zc4 zk4_114 ⟨rfl, rfl⟩ ⟨by decide, by decide⟩ rfl rfl (Nat.le_of_ble_eq_true rfl) dX4_greatestChange_31 (fun H locs hw => ?_)
        refine lv_istore (lv' := [(8, .int r_3), (0, .ref (ad k0)), (1, .int p1), (2, .int x2), (3, .int x3), (4, .int x4), (5, .int x5), (6, .int x6), (7, .int x7)]) hx hb dX4_greatestChange_34 hl (by decide) rfl (fun ls hl => ?_)
        refine lv_iload hx hb dX4_greatestChange_36 (lv_at hl 0 rfl) ?_
        refine lv_iload_n hx hb dX4_greatestChange_38 rfl (lv_at hl 4 rfl) ?_
        refine lv_isub hx hb dX4_greatestChange_39 ?_
        refine lv_iload hx hb dX4_greatestChange_40 (lv_at hl 5 rfl) ?_
        refine lv_isub hx hb dX4_greatestChange_42 ?_
        refine lv_istore (lv' := [(9, .int ((r_3 - x3) - x4)), (8, .int r_3), (0, .ref (ad k0)), (1, .int p1), (2, .int x2), (3, .int x3), (4, .int x4), (5, .int x5), (6, .int x6), (7, .int x7)]) hx hb dX4_greatestChange_43 hl (by decide) rfl (fun ls hl => ?_)
        refine lv_iload_n hx hb dX4_greatestChange_45 rfl (lv_at hl 4 rfl) ?_
        refine lv_iload_n hx hb dX4_greatestChange_46 rfl (lv_at hl 3 rfl) ?_
        refine lv_if_eq (tgt := 58) hx hb dX4_greatestChange_47 (by decide) (fun c_4 => ?_) (fun c_4 => ?_)
        · have hd := zif_pos c_4 hd
          refine lv_iload hx hb dX4_greatestChange_58 (lv_at hl 0 rfl) ?_
          exact J60 _ hk19 _ _ _ _ _ _ _ _ _ _ (lv_sub hl [2, 3, 5, 8, 9, 1, 0] rfl) hw hd
        · have hd := zif_neg c_4 hd
          refine lv_iload hx hb dX4_greatestChange_50 (lv_at hl 0 rfl) ?_
          refine lv_iload hx hb dX4_greatestChange_52 (lv_at hl 7 rfl) ?_
          refine lv_isub hx hb dX4_greatestChange_54 ?_
          refine lv_goto (tgt := 60) hx hb dX4_greatestChange_55 (by decide) ?_
          exact J60 _ hk19 _ _ _ _ _ _ _ _ _ _ (lv_sub hl [2, 3, 5, 8, 9, 1, 0] rfl) hw hd
  unfold zX4_greatestChange at hd
  refine lv_iconst (v := (0 : Int32)) hx hb dX4_greatestChange_0 (by decide) ?_
  refine lv_istore_n (lv' := [(2, .int (0 : Int32)), (0, .ref (ad k0)), (1, .int p1)]) hx hb dX4_greatestChange_1 rfl hl (by decide) rfl (fun ls hl => ?_)
  refine lv_iconst (v := (0 : Int32)) hx hb dX4_greatestChange_2 (by decide) ?_
  refine lv_istore_n (lv' := [(3, .int (0 : Int32)), (2, .int (0 : Int32)), (0, .ref (ad k0)), (1, .int p1)]) hx hb dX4_greatestChange_3 rfl hl (by decide) rfl (fun ls hl => ?_)
  refine lv_iconst (v := (0 : Int32)) hx hb dX4_greatestChange_4 (by decide) ?_
  refine lv_istore (lv' := [(4, .int (0 : Int32)), (3, .int (0 : Int32)), (2, .int (0 : Int32)), (0, .ref (ad k0)), (1, .int p1)]) hx hb dX4_greatestChange_5 hl (by decide) rfl (fun ls hl => ?_)
  refine lv_iconst (v := (0 : Int32)) hx hb dX4_greatestChange_7 (by decide) ?_
  refine lv_istore (lv' := [(5, .int (0 : Int32)), (4, .int (0 : Int32)), (3, .int (0 : Int32)), (2, .int (0 : Int32)), (0, .ref (ad k0)), (1, .int p1)]) hx hb dX4_greatestChange_8 hl (by decide) rfl (fun ls hl => ?_)
  refine lv_aload_n hx hb dX4_greatestChange_10 rfl (lv_at hl 4 rfl) ?_
  obtain ⟨r_6, hc_5, hd⟩ := zob_some hd
  refine z_cvI F hw hl.1 (As := []) (rest := []) (ztX4_ticks l D cy sh ad h0 hc_5) zyX4_ticks h0 zc4 zk4_71 ⟨rfl, rfl⟩ ⟨by decide, by decide⟩ rfl rfl (Nat.le_of_ble_eq_true rfl) dX4_greatestChange_11 (fun H locs hw => ?_)
  refine lv_istore (lv' := [(6, .int r_6), (5, .int (0 : Int32)), (4, .int (0 : Int32)), (3, .int (0 : Int32)), (2, .int (0 : Int32)), (0, .ref (ad k0)), (1, .int p1)]) hx hb dX4_greatestChange_14 hl (by decide) rfl (fun ls hl => ?_)
  refine lv_iconst (v := (1 : Int32)) hx hb dX4_greatestChange_16 (by decide) ?_
  refine lv_istore (lv' := [(7, .int (1 : Int32)), (6, .int r_6), (5, .int (0 : Int32)), (4, .int (0 : Int32)), (3, .int (0 : Int32)), (2, .int (0 : Int32)), (0, .ref (ad k0)), (1, .int p1)]) hx hb dX4_greatestChange_17 hl (by decide) rfl (fun ls hl => ?_)
  exact L19 zF _ _ _ _ _ _ _ _ _ (lv_sub hl [6, 7, 5, 4, 3, 2, 1, 0] rfl) hw hd

def zjX10_byteAt_35 (sh : zShp) (k0 : Nat) (p1 : Int32) (M : zMem)  (s0 : Int32) : Option (Int32) :=
  some s0
def zjX10_byteAt_34 (sh : zShp) (k0 : Nat) (p1 : Int32) (M : zMem)   : Option (Int32) :=
  zjX10_byteAt_35 sh k0 p1 M (-1 : Int32)
def zX10_byteAt (sh : zShp) (k0 : Nat) (p1 : Int32) (M : zMem) : Option (Int32) :=
  if p1 < 0 then (
  zjX10_byteAt_34 sh k0 p1 M)
  else (
  if (zI M k0 1) ≤ p1 then (
  zjX10_byteAt_34 sh k0 p1 M)
  else (
  if (Int32.ofNat (zlen sh (zR M k0 0))) ≤ p1 then (
  zjX10_byteAt_34 sh k0 p1 M)
  else (
  zgd (zin p1 (zlen sh (zR M k0 0))) <|
  zjX10_byteAt_35 sh k0 p1 M ((zI M (zR M k0 0) p1.toNatClampNeg) &&& (255 : Int32)))))
set_option maxHeartbeats 4000000 in
set_option maxRecDepth 100000 in
theorem ztX10_byteAt (l : Launch) (D : va_G) (cy : Nat → ClassId) (sh : zShp) (ad : Nat → Nat) {k0 : Nat} {p1 : Int32} (h0 : zT sh k0 10) {M : zMem} {r : Int32} (hd : zX10_byteAt sh k0 p1 M = some r) : zCI l yX10_byteAt cX10_byteAt 2 .int { frames := 0, cells := 0, slots := 0, locals := 0 } [.ref (ad k0), .int p1] D cy sh ad M r M := by
  refine zci_of (by decide) (Nat.le_of_ble_eq_true rfl) (fun p e s m below meth c ls F hr hlk hl hw => ?_)
  have hx := F.1.1
  have hb := F.1.2.1
  have hl : lv_has ls 2 [(0, .ref (ad k0)), (1, .int p1)] := hl
  have J35 : ∀ (s0 : Int32) (H : Heap) (locs : List Loc) (ls : Array Slot), lv_has ls 2 [] → zWd D cy sh ad s M H locs → zjX10_byteAt_35 sh k0 p1 M  s0 = some r → W p l e { frames := 0, cells := 0, slots := 0, locals := 0 } s m ([.ref (ad k0), .int p1] : List Value).toArray below meth c H locs 0 0 (zQI below D cy sh ad s [.ref (ad k0), .int p1] r M) (F0 m 35 ls [.int s0]) := by
    intro  s0 H locs ls hl hw hd
    unfold zjX10_byteAt_35 at hd
    exact z_iret F hr hlk hw (Option.some.inj hd) rfl dX10_byteAt_35
  have J34 : ∀  (H : Heap) (locs : List Loc) (ls : Array Slot), lv_has ls 2 [] → zWd D cy sh ad s M H locs → zjX10_byteAt_34 sh k0 p1 M   = some r → W p l e { frames := 0, cells := 0, slots := 0, locals := 0 } s m ([.ref (ad k0), .int p1] : List Value).toArray below meth c H locs 0 0 (zQI below D cy sh ad s [.ref (ad k0), .int p1] r M) (F0 m 34 ls []) := by
    intro  H locs ls hl hw hd
    unfold zjX10_byteAt_34 at hd
    refine lv_iconst (v := (-1 : Int32)) hx hb dX10_byteAt_34 (by decide) ?_
    exact J35 _ _ _ _ (lv_sub hl [] rfl) hw hd
  unfold zX10_byteAt at hd
  refine lv_iload_n hx hb dX10_byteAt_0 rfl (lv_at hl 1 rfl) ?_
  refine lv_if_lt (tgt := 34) hx hb dX10_byteAt_1 (by decide) (fun c_1 => ?_) (fun c_1 => ?_)
  · have hd := zif_pos c_1 hd
    exact J34 _ _ _ (lv_sub hl [] rfl) hw hd
  · have hd := zif_neg c_1 hd
    refine lv_iload_n hx hb dX10_byteAt_4 rfl (lv_at hl 1 rfl) ?_
    refine lv_aload_n hx hb dX10_byteAt_5 rfl (lv_at hl 0 rfl) ?_
    refine z_gI F hw h0 zc10 1 (by decide) rfl zf10_15 dX10_byteAt_6 ?_
    refine lv_icmp_ge (tgt := 34) hx hb dX10_byteAt_9 (by decide) (fun c_2 => ?_) (fun c_2 => ?_)
    · have hd := zif_pos c_2 hd
      exact J34 _ _ _ (lv_sub hl [] rfl) hw hd
    · have hd := zif_neg c_2 hd
      refine lv_iload_n hx hb dX10_byteAt_12 rfl (lv_at hl 1 rfl) ?_
      refine lv_aload_n hx hb dX10_byteAt_13 rfl (lv_at hl 0 rfl) ?_
      refine z_gR F hw h0 zc10 0 (by decide) rfl zf10_9 dX10_byteAt_14 ?_
      have t_3 : zT sh (zR M k0 0) 13 := hw.2.2.2.fld h0 0 13
      refine z_alen F hw t_3 (by decide) (t0 := 0) rfl dX10_byteAt_17 ?_
      refine lv_icmp_ge (tgt := 34) hx hb dX10_byteAt_18 (by decide) (fun c_4 => ?_) (fun c_4 => ?_)
      · have hd := zif_pos c_4 hd
        exact J34 _ _ _ (lv_sub hl [] rfl) hw hd
      · have hd := zif_neg c_4 hd
        refine lv_aload_n hx hb dX10_byteAt_21 rfl (lv_at hl 0 rfl) ?_
        refine z_gR F hw h0 zc10 0 (by decide) rfl zf10_9 dX10_byteAt_22 ?_
        have t_5 : zT sh (zR M k0 0) 13 := hw.2.2.2.fld h0 0 13
        refine lv_iload_n hx hb dX10_byteAt_25 rfl (lv_at hl 1 rfl) ?_
        obtain ⟨g_6, hd⟩ := zgd_some hd
        refine z_bald F hw t_5 g_6 dX10_byteAt_26 ?_
        refine lv_sipush (v := (255 : Int32)) hx hb dX10_byteAt_27 (by decide) ?_
        refine lv_iand hx hb dX10_byteAt_30 ?_
        refine lv_goto (tgt := 35) hx hb dX10_byteAt_31 (by decide) ?_
        exact J35 _ _ _ _ (lv_sub hl [] rfl) hw hd

def zjX6_isBlank_17 (sh : zShp) (p0 : Int32) (M : zMem)  (s0 : Int32) : Option (Int32) :=
  zgd (zisB s0) <|
  some s0
def zjX6_isBlank_12 (sh : zShp) (p0 : Int32) (M : zMem)   : Option (Int32) :=
  zjX6_isBlank_17 sh p0 M (1 : Int32)
def zX6_isBlank (sh : zShp) (p0 : Int32) (M : zMem) : Option (Int32) :=
  if p0 = (32 : Int32) then (
  zjX6_isBlank_12 sh p0 M)
  else (
  if p0 = (10 : Int32) then (
  zjX6_isBlank_12 sh p0 M)
  else (
  zjX6_isBlank_17 sh p0 M (0 : Int32)))
set_option maxHeartbeats 4000000 in
set_option maxRecDepth 100000 in
theorem ztX6_isBlank (l : Launch) (D : va_G) (cy : Nat → ClassId) (sh : zShp) (ad : Nat → Nat) {p0 : Int32}  {M : zMem} {r : Int32} (hd : zX6_isBlank sh p0 M = some r) : zCI l yX6_isBlank cX6_isBlank 1 .boolean { frames := 0, cells := 0, slots := 0, locals := 0 } [.int p0] D cy sh ad M r M := by
  refine zci_of (by decide) (Nat.le_of_ble_eq_true rfl) (fun p e s m below meth c ls F hr hlk hl hw => ?_)
  have hx := F.1.1
  have hb := F.1.2.1
  have hl : lv_has ls 1 [(0, .int p0)] := hl
  have J17 : ∀ (s0 : Int32) (H : Heap) (locs : List Loc) (ls : Array Slot), lv_has ls 1 [] → zWd D cy sh ad s M H locs → zjX6_isBlank_17 sh p0 M  s0 = some r → W p l e { frames := 0, cells := 0, slots := 0, locals := 0 } s m ([.int p0] : List Value).toArray below meth c H locs 0 0 (zQI below D cy sh ad s [.int p0] r M) (F0 m 17 ls [.int s0]) := by
    intro  s0 H locs ls hl hw hd
    unfold zjX6_isBlank_17 at hd
    obtain ⟨g_1, hd⟩ := zgd_some hd
    exact z_zret F hr hlk hw g_1 (Option.some.inj hd) rfl dX6_isBlank_17
  have J12 : ∀  (H : Heap) (locs : List Loc) (ls : Array Slot), lv_has ls 1 [] → zWd D cy sh ad s M H locs → zjX6_isBlank_12 sh p0 M   = some r → W p l e { frames := 0, cells := 0, slots := 0, locals := 0 } s m ([.int p0] : List Value).toArray below meth c H locs 0 0 (zQI below D cy sh ad s [.int p0] r M) (F0 m 12 ls []) := by
    intro  H locs ls hl hw hd
    unfold zjX6_isBlank_12 at hd
    refine lv_iconst (v := (1 : Int32)) hx hb dX6_isBlank_12 (by decide) ?_
    refine lv_goto (tgt := 17) hx hb dX6_isBlank_13 (by decide) ?_
    exact J17 _ _ _ _ (lv_sub hl [] rfl) hw hd
  unfold zX6_isBlank at hd
  refine lv_iload_n hx hb dX6_isBlank_0 rfl (lv_at hl 0 rfl) ?_
  refine lv_bipush (v := (32 : Int32)) hx hb dX6_isBlank_1 (by decide) ?_
  refine lv_icmp_eq (tgt := 12) hx hb dX6_isBlank_3 (by decide) (fun c_2 => ?_) (fun c_2 => ?_)
  · have hd := zif_pos c_2 hd
    exact J12 _ _ _ (lv_sub hl [] rfl) hw hd
  · have hd := zif_neg c_2 hd
    refine lv_iload_n hx hb dX6_isBlank_6 rfl (lv_at hl 0 rfl) ?_
    refine lv_bipush (v := (10 : Int32)) hx hb dX6_isBlank_7 (by decide) ?_
    refine lv_icmp_ne (tgt := 16) hx hb dX6_isBlank_9 (by decide) (fun c_3 => ?_) (fun c_3 => ?_)
    · have hd := zif_neg c_3 hd
      refine lv_iconst (v := (0 : Int32)) hx hb dX6_isBlank_16 (by decide) ?_
      exact J17 _ _ _ _ (lv_sub hl [] rfl) hw hd
    · have hd := zif_pos c_3 hd
      exact J12 _ _ _ (lv_sub hl [] rfl) hw hd

def zjX6_isLetter_17 (sh : zShp) (p0 : Int32) (M : zMem)  (s0 : Int32) : Option (Int32) :=
  zgd (zisB s0) <|
  some s0
def zjX6_isLetter_16 (sh : zShp) (p0 : Int32) (M : zMem)   : Option (Int32) :=
  zjX6_isLetter_17 sh p0 M (0 : Int32)
def zX6_isLetter (sh : zShp) (p0 : Int32) (M : zMem) : Option (Int32) :=
  if p0 < (97 : Int32) then (
  zjX6_isLetter_16 sh p0 M)
  else (
  if (122 : Int32) < p0 then (
  zjX6_isLetter_16 sh p0 M)
  else (
  zjX6_isLetter_17 sh p0 M (1 : Int32)))
set_option maxHeartbeats 4000000 in
set_option maxRecDepth 100000 in
theorem ztX6_isLetter (l : Launch) (D : va_G) (cy : Nat → ClassId) (sh : zShp) (ad : Nat → Nat) {p0 : Int32}  {M : zMem} {r : Int32} (hd : zX6_isLetter sh p0 M = some r) : zCI l yX6_isLetter cX6_isLetter 1 .boolean { frames := 0, cells := 0, slots := 0, locals := 0 } [.int p0] D cy sh ad M r M := by
  refine zci_of (by decide) (Nat.le_of_ble_eq_true rfl) (fun p e s m below meth c ls F hr hlk hl hw => ?_)
  have hx := F.1.1
  have hb := F.1.2.1
  have hl : lv_has ls 1 [(0, .int p0)] := hl
  have J17 : ∀ (s0 : Int32) (H : Heap) (locs : List Loc) (ls : Array Slot), lv_has ls 1 [] → zWd D cy sh ad s M H locs → zjX6_isLetter_17 sh p0 M  s0 = some r → W p l e { frames := 0, cells := 0, slots := 0, locals := 0 } s m ([.int p0] : List Value).toArray below meth c H locs 0 0 (zQI below D cy sh ad s [.int p0] r M) (F0 m 17 ls [.int s0]) := by
    intro  s0 H locs ls hl hw hd
    unfold zjX6_isLetter_17 at hd
    obtain ⟨g_1, hd⟩ := zgd_some hd
    exact z_zret F hr hlk hw g_1 (Option.some.inj hd) rfl dX6_isLetter_17
  have J16 : ∀  (H : Heap) (locs : List Loc) (ls : Array Slot), lv_has ls 1 [] → zWd D cy sh ad s M H locs → zjX6_isLetter_16 sh p0 M   = some r → W p l e { frames := 0, cells := 0, slots := 0, locals := 0 } s m ([.int p0] : List Value).toArray below meth c H locs 0 0 (zQI below D cy sh ad s [.int p0] r M) (F0 m 16 ls []) := by
    intro  H locs ls hl hw hd
    unfold zjX6_isLetter_16 at hd
    refine lv_iconst (v := (0 : Int32)) hx hb dX6_isLetter_16 (by decide) ?_
    exact J17 _ _ _ _ (lv_sub hl [] rfl) hw hd
  unfold zX6_isLetter at hd
  refine lv_iload_n hx hb dX6_isLetter_0 rfl (lv_at hl 0 rfl) ?_
  refine lv_bipush (v := (97 : Int32)) hx hb dX6_isLetter_1 (by decide) ?_
  refine lv_icmp_lt (tgt := 16) hx hb dX6_isLetter_3 (by decide) (fun c_2 => ?_) (fun c_2 => ?_)
  · have hd := zif_pos c_2 hd
    exact J16 _ _ _ (lv_sub hl [] rfl) hw hd
  · have hd := zif_neg c_2 hd
    refine lv_iload_n hx hb dX6_isLetter_6 rfl (lv_at hl 0 rfl) ?_
    refine lv_bipush (v := (122 : Int32)) hx hb dX6_isLetter_7 (by decide) ?_
    refine lv_icmp_gt (tgt := 16) hx hb dX6_isLetter_9 (by decide) (fun c_3 => ?_) (fun c_3 => ?_)
    · have hd := zif_pos c_3 hd
      exact J16 _ _ _ (lv_sub hl [] rfl) hw hd
    · have hd := zif_neg c_3 hd
      refine lv_iconst (v := (1 : Int32)) hx hb dX6_isLetter_12 (by decide) ?_
      refine lv_goto (tgt := 17) hx hb dX6_isLetter_13 (by decide) ?_
      exact J17 _ _ _ _ (lv_sub hl [] rfl) hw hd

def zjX6_stepWord_83 (sh : zShp) (k0 : Nat)  (x1 : Int32) (s0 : Nat) (s1 : Int32) (M : zMem) : Option (zMem) :=
  zbd (zpI M s0 3 s1) fun M_1 =>
  zbd (zpI M_1 k0 2 x1) fun M_2 =>
  some M_2
def zjX6_stepWord_66 (sh : zShp) (k0 : Nat)  (x1 : Int32) (M : zMem) : Option (zMem) :=
  if (6 : Int32) < (x1 - (zI M k0 4)) then (
  zjX6_stepWord_83 sh k0 x1 k0 (5 : Int32) M)
  else (
  zjX6_stepWord_83 sh k0 x1 k0 (1 : Int32) M)
def zbX6_stepWord_10 (sh : zShp) (k0 : Nat)  (kk10 : Int32 → zMem → Option (zMem)) (x1 : Int32) (M : zMem) : Option (zMem) :=
  if (zI M (zR M k0 0) 1) ≤ x1 then (
  zjX6_stepWord_66 sh k0 x1 M)
  else (
  zob (zX10_byteAt sh (zR M k0 0) x1 M) fun r_8 =>
  zob (zX6_isLetter sh r_8 M) fun r_10 =>
  if r_10 = 0 then (
  zjX6_stepWord_66 sh k0 x1 M)
  else (
  zob (zX10_byteAt sh (zR M k0 0) x1 M) fun r_14 =>
  zbd (zpI M k0 5 (((((zI M k0 5) * (27 : Int32)) + r_14) - (97 : Int32)) + (1 : Int32))) fun M_15 =>
  kk10 (x1 + (1 : Int32)) M_15))
def zlX6_stepWord_10 (sh : zShp) (k0 : Nat)  : Nat → Int32 → zMem → Option (zMem)
  | 0 => fun _ _ => none
  | n + 1 => fun x1 M => zbX6_stepWord_10 sh k0  (zlX6_stepWord_10 sh k0  n) x1 M
def zX6_stepWord (sh : zShp) (k0 : Nat) (M : zMem) : Option (zMem) :=
  zbd (zpI M k0 5 (0 : Int32)) fun M_16 =>
  zlX6_stepWord_10 sh k0 zF (zI M k0 4) M_16
set_option maxHeartbeats 4000000 in
set_option maxRecDepth 100000 in
theorem ztX6_stepWord (l : Launch) (D : va_G) (cy : Nat → ClassId) (sh : zShp) (ad : Nat → Nat) {k0 : Nat} (h0 : zT sh k0 6) {M : zMem} {M1 : zMem} (hd : zX6_stepWord sh k0 M = some M1) : zCV l yX6_stepWord cX6_stepWord 2 { frames := 1, cells := 0, slots := 0, locals := 21 } [.ref (ad k0)] D cy sh ad M M1 := by
  refine zcv_of (by decide) (Nat.le_of_ble_eq_true rfl) (fun p e s m below meth c ls F hr hlk hl hw => ?_)
  have hx := F.1.1
  have hb := F.1.2.1
  have hl : lv_has ls 2 [(0, .ref (ad k0))] := hl
  have J83 : ∀ (x1 : Int32) (s0 : Nat) (s1 : Int32) (ts0 : zT sh s0 6) (M : zMem) (H : Heap) (locs : List Loc) (ls : Array Slot), lv_has ls 2 [(0, .ref (ad k0)), (1, .int x1)] → zWd D cy sh ad s M H locs → zjX6_stepWord_83 sh k0  x1 s0 s1 M = some M1 → W p l e { frames := 1, cells := 0, slots := 0, locals := 21 } s m ([.ref (ad k0)] : List Value).toArray below meth c H locs 0 0 (zQV below D cy sh ad s [.ref (ad k0)] M1) (F0 m 83 ls [.int s1, .ref (ad s0)]) := by
    intro  x1 s0 s1 ts0 M H locs ls hl hw hd
    unfold zjX6_stepWord_83 at hd
    refine z_pI F hw ts0 zc6 3 (by decide) rfl zf6_37 rfl rfl rfl dX6_stepWord_83 (fun H locs M_1 eM_1 hw => ?_)
    have hd := zbd_eq eM_1 hd
    refine lv_aload_n hx hb dX6_stepWord_86 rfl (lv_at hl 0 rfl) ?_
    refine lv_iload_n hx hb dX6_stepWord_87 rfl (lv_at hl 1 rfl) ?_
    refine z_pI F hw h0 zc6 2 (by decide) rfl zf6_23 rfl rfl rfl dX6_stepWord_88 (fun H locs M_2 eM_2 hw => ?_)
    have hd := zbd_eq eM_2 hd
    exact z_vret F hr hlk hw (Option.some.inj hd) dX6_stepWord_91
  have J66 : ∀ (x1 : Int32) (M : zMem) (H : Heap) (locs : List Loc) (ls : Array Slot), lv_has ls 2 [(0, .ref (ad k0)), (1, .int x1)] → zWd D cy sh ad s M H locs → zjX6_stepWord_66 sh k0  x1 M = some M1 → W p l e { frames := 1, cells := 0, slots := 0, locals := 21 } s m ([.ref (ad k0)] : List Value).toArray below meth c H locs 0 0 (zQV below D cy sh ad s [.ref (ad k0)] M1) (F0 m 66 ls []) := by
    intro  x1 M H locs ls hl hw hd
    unfold zjX6_stepWord_66 at hd
    refine lv_aload_n hx hb dX6_stepWord_66 rfl (lv_at hl 0 rfl) ?_
    refine lv_iload_n hx hb dX6_stepWord_67 rfl (lv_at hl 1 rfl) ?_
    refine lv_aload_n hx hb dX6_stepWord_68 rfl (lv_at hl 0 rfl) ?_
    refine z_gI F hw h0 zc6 4 (by decide) rfl zf6_188 dX6_stepWord_69 ?_
    refine lv_isub hx hb dX6_stepWord_72 ?_
    refine lv_bipush (v := (6 : Int32)) hx hb dX6_stepWord_73 (by decide) ?_
    refine lv_icmp_gt (tgt := 82) hx hb dX6_stepWord_75 (by decide) (fun c_3 => ?_) (fun c_3 => ?_)
    · have hd := zif_pos c_3 hd
      refine lv_iconst (v := (5 : Int32)) hx hb dX6_stepWord_82 (by decide) ?_
      exact J83 _ _ _ h0 _ _ _ _ (lv_sub hl [0, 1] rfl) hw hd
    · have hd := zif_neg c_3 hd
      refine lv_iconst (v := (1 : Int32)) hx hb dX6_stepWord_78 (by decide) ?_
      refine lv_goto (tgt := 83) hx hb dX6_stepWord_79 (by decide) ?_
      exact J83 _ _ _ h0 _ _ _ _ (lv_sub hl [0, 1] rfl) hw hd
  have L10 : ∀  (n : Nat), ∀ (x1 : Int32) (M : zMem) (H : Heap) (locs : List Loc) (ls : Array Slot), lv_has ls 2 [(0, .ref (ad k0)), (1, .int x1)] → zWd D cy sh ad s M H locs → zlX6_stepWord_10 sh k0  n x1 M = some M1 → W p l e { frames := 1, cells := 0, slots := 0, locals := 21 } s m ([.ref (ad k0)] : List Value).toArray below meth c H locs 0 0 (zQV below D cy sh ad s [.ref (ad k0)] M1) (F0 m 10 ls []) := by
    intro  n
    induction n with
    | zero => intro x1 M H locs ls hl hw hd; exact (znone hd).elim
    | succ n hk10 =>
      intro x1 M H locs ls hl hw hd
      have hd : zbX6_stepWord_10 sh k0  (zlX6_stepWord_10 sh k0  n) x1 M = some M1 := hd
      unfold zbX6_stepWord_10 at hd
      refine lv_iload_n hx hb dX6_stepWord_10 rfl (lv_at hl 1 rfl) ?_
      refine lv_aload_n hx hb dX6_stepWord_11 rfl (lv_at hl 0 rfl) ?_
      refine z_gR F hw h0 zc6 0 (by decide) rfl zf6_15 dX6_stepWord_12 ?_
      have t_4 : zT sh (zR M k0 0) 10 := hw.2.2.2.fld h0 0 10
      refine z_gI F hw t_4 zc10 1 (by decide) rfl zf6_205 dX6_stepWord_15 ?_
      refine lv_icmp_ge (tgt := 66) hx hb dX6_stepWord_18 (by decide) (fun c_5 => ?_) (fun c_5 => ?_)
      · have hd := zif_pos c_5 hd
        exact J66 _ _ _ _ _ (lv_sub hl [0, 1] rfl) hw hd
      · have hd := zif_neg c_5 hd
        refine lv_aload_n hx hb dX6_stepWord_21 rfl (lv_at hl 0 rfl) ?_
        refine z_gR F hw h0 zc6 0 (by decide) rfl zf6_15 dX6_stepWord_22 ?_
        have t_6 : zT sh (zR M k0 0) 10 := hw.2.2.2.fld h0 0 10
        refine lv_iload_n hx hb dX6_stepWord_25 rfl (lv_at hl 1 rfl) ?_
        obtain ⟨r_8, hc_7, hd⟩ := zob_some hd
        refine z_cvI F hw hl.1 (As := [.int x1]) (rest := []) (ztX10_byteAt l D cy sh ad t_6 hc_7) zyX10_byteAt t_6 zc10 zk6_209 ⟨rfl, rfl⟩ ⟨by decide, by decide⟩ rfl rfl (Nat.le_of_ble_eq_true rfl) dX6_stepWord_26 (fun H locs hw => ?_)
        obtain ⟨r_10, hc_9, hd⟩ := zob_some hd
        refine z_csI F hw hl.1 (As := [.int r_8]) (rest := []) (ztX6_isLetter l D cy sh ad  hc_9) zyX6_isLetter zk6_215 ⟨rfl, rfl⟩ ⟨by decide, by decide⟩ rfl rfl (Nat.le_of_ble_eq_true rfl) dX6_stepWord_29 (fun H locs hw => ?_)
        refine lv_if_eq (tgt := 66) hx hb dX6_stepWord_32 (by decide) (fun c_11 => ?_) (fun c_11 => ?_)
        · have hd := zif_pos c_11 hd
          exact J66 _ _ _ _ _ (lv_sub hl [0, 1] rfl) hw hd
        · have hd := zif_neg c_11 hd
          refine lv_aload_n hx hb dX6_stepWord_35 rfl (lv_at hl 0 rfl) ?_
          refine lv_aload_n hx hb dX6_stepWord_36 rfl (lv_at hl 0 rfl) ?_
          refine z_gI F hw h0 zc6 5 (by decide) rfl zf6_80 dX6_stepWord_37 ?_
          refine lv_bipush (v := (27 : Int32)) hx hb dX6_stepWord_40 (by decide) ?_
          refine lv_imul hx hb dX6_stepWord_42 ?_
          refine lv_aload_n hx hb dX6_stepWord_43 rfl (lv_at hl 0 rfl) ?_
          refine z_gR F hw h0 zc6 0 (by decide) rfl zf6_15 dX6_stepWord_44 ?_
          have t_12 : zT sh (zR M k0 0) 10 := hw.2.2.2.fld h0 0 10
          refine lv_iload_n hx hb dX6_stepWord_47 rfl (lv_at hl 1 rfl) ?_
          obtain ⟨r_14, hc_13, hd⟩ := zob_some hd
          refine z_cvI F hw hl.1 (As := [.int x1]) (rest := [.int ((zI M k0 5) * (27 : Int32)), .ref (ad k0)]) (ztX10_byteAt l D cy sh ad t_12 hc_13) zyX10_byteAt t_12 zc10 zk6_209 ⟨rfl, rfl⟩ ⟨by decide, by decide⟩ rfl rfl (Nat.le_of_ble_eq_true rfl) dX6_stepWord_48 (fun H locs hw => ?_)
          refine lv_iadd hx hb dX6_stepWord_51 ?_
          refine lv_bipush (v := (97 : Int32)) hx hb dX6_stepWord_52 (by decide) ?_
          refine lv_isub hx hb dX6_stepWord_54 ?_
          refine lv_iconst (v := (1 : Int32)) hx hb dX6_stepWord_55 (by decide) ?_
          refine lv_iadd hx hb dX6_stepWord_56 ?_
          refine z_pI F hw h0 zc6 5 (by decide) rfl zf6_80 rfl rfl rfl dX6_stepWord_57 (fun H locs M_15 eM_15 hw => ?_)
          have hd := zbd_eq eM_15 hd
          refine lv_iinc (v := (x1 + (1 : Int32))) (lv' := [(1, .int (x1 + (1 : Int32))), (0, .ref (ad k0))]) hx hb dX6_stepWord_60 hl (k := 1) rfl (ziinc (by decide)) (by decide) rfl (fun ls hl => ?_)
          refine lv_goto (tgt := 10) hx hb dX6_stepWord_63 (by decide) ?_
          exact hk10 _ _ _ _ _ (lv_sub hl [1, 0] rfl) hw hd
  unfold zX6_stepWord at hd
  refine lv_aload_n hx hb dX6_stepWord_0 rfl (lv_at hl 0 rfl) ?_
  refine z_gI F hw h0 zc6 4 (by decide) rfl zf6_188 dX6_stepWord_1 ?_
  refine lv_istore_n (lv' := [(1, .int (zI M k0 4)), (0, .ref (ad k0))]) hx hb dX6_stepWord_4 rfl hl (by decide) rfl (fun ls hl => ?_)
  refine lv_aload_n hx hb dX6_stepWord_5 rfl (lv_at hl 1 rfl) ?_
  refine lv_iconst (v := (0 : Int32)) hx hb dX6_stepWord_6 (by decide) ?_
  refine z_pI F hw h0 zc6 5 (by decide) rfl zf6_80 rfl rfl rfl dX6_stepWord_7 (fun H locs M_16 eM_16 hw => ?_)
  have hd := zbd_eq eM_16 hd
  exact L10 zF _ _ _ _ _ (lv_sub hl [1, 0] rfl) hw hd

def zjX6_isDigit_17 (sh : zShp) (p0 : Int32) (M : zMem)  (s0 : Int32) : Option (Int32) :=
  zgd (zisB s0) <|
  some s0
def zjX6_isDigit_16 (sh : zShp) (p0 : Int32) (M : zMem)   : Option (Int32) :=
  zjX6_isDigit_17 sh p0 M (0 : Int32)
def zX6_isDigit (sh : zShp) (p0 : Int32) (M : zMem) : Option (Int32) :=
  if p0 < (48 : Int32) then (
  zjX6_isDigit_16 sh p0 M)
  else (
  if (57 : Int32) < p0 then (
  zjX6_isDigit_16 sh p0 M)
  else (
  zjX6_isDigit_17 sh p0 M (1 : Int32)))
set_option maxHeartbeats 4000000 in
set_option maxRecDepth 100000 in
theorem ztX6_isDigit (l : Launch) (D : va_G) (cy : Nat → ClassId) (sh : zShp) (ad : Nat → Nat) {p0 : Int32}  {M : zMem} {r : Int32} (hd : zX6_isDigit sh p0 M = some r) : zCI l yX6_isDigit cX6_isDigit 1 .boolean { frames := 0, cells := 0, slots := 0, locals := 0 } [.int p0] D cy sh ad M r M := by
  refine zci_of (by decide) (Nat.le_of_ble_eq_true rfl) (fun p e s m below meth c ls F hr hlk hl hw => ?_)
  have hx := F.1.1
  have hb := F.1.2.1
  have hl : lv_has ls 1 [(0, .int p0)] := hl
  have J17 : ∀ (s0 : Int32) (H : Heap) (locs : List Loc) (ls : Array Slot), lv_has ls 1 [] → zWd D cy sh ad s M H locs → zjX6_isDigit_17 sh p0 M  s0 = some r → W p l e { frames := 0, cells := 0, slots := 0, locals := 0 } s m ([.int p0] : List Value).toArray below meth c H locs 0 0 (zQI below D cy sh ad s [.int p0] r M) (F0 m 17 ls [.int s0]) := by
    intro  s0 H locs ls hl hw hd
    unfold zjX6_isDigit_17 at hd
    obtain ⟨g_1, hd⟩ := zgd_some hd
    exact z_zret F hr hlk hw g_1 (Option.some.inj hd) rfl dX6_isDigit_17
  have J16 : ∀  (H : Heap) (locs : List Loc) (ls : Array Slot), lv_has ls 1 [] → zWd D cy sh ad s M H locs → zjX6_isDigit_16 sh p0 M   = some r → W p l e { frames := 0, cells := 0, slots := 0, locals := 0 } s m ([.int p0] : List Value).toArray below meth c H locs 0 0 (zQI below D cy sh ad s [.int p0] r M) (F0 m 16 ls []) := by
    intro  H locs ls hl hw hd
    unfold zjX6_isDigit_16 at hd
    refine lv_iconst (v := (0 : Int32)) hx hb dX6_isDigit_16 (by decide) ?_
    exact J17 _ _ _ _ (lv_sub hl [] rfl) hw hd
  unfold zX6_isDigit at hd
  refine lv_iload_n hx hb dX6_isDigit_0 rfl (lv_at hl 0 rfl) ?_
  refine lv_bipush (v := (48 : Int32)) hx hb dX6_isDigit_1 (by decide) ?_
  refine lv_icmp_lt (tgt := 16) hx hb dX6_isDigit_3 (by decide) (fun c_2 => ?_) (fun c_2 => ?_)
  · have hd := zif_pos c_2 hd
    exact J16 _ _ _ (lv_sub hl [] rfl) hw hd
  · have hd := zif_neg c_2 hd
    refine lv_iload_n hx hb dX6_isDigit_6 rfl (lv_at hl 0 rfl) ?_
    refine lv_bipush (v := (57 : Int32)) hx hb dX6_isDigit_7 (by decide) ?_
    refine lv_icmp_gt (tgt := 16) hx hb dX6_isDigit_9 (by decide) (fun c_3 => ?_) (fun c_3 => ?_)
    · have hd := zif_pos c_3 hd
      exact J16 _ _ _ (lv_sub hl [] rfl) hw hd
    · have hd := zif_neg c_3 hd
      refine lv_iconst (v := (1 : Int32)) hx hb dX6_isDigit_12 (by decide) ?_
      refine lv_goto (tgt := 17) hx hb dX6_isDigit_13 (by decide) ?_
      exact J17 _ _ _ _ (lv_sub hl [] rfl) hw hd

def zjX6_stepNumber_104 (sh : zShp) (k0 : Nat)  (x1 : Int32) (s0 : Nat) (s1 : Int32) (M : zMem) : Option (zMem) :=
  zbd (zpI M s0 3 s1) fun M_1 =>
  zbd (zpI M_1 k0 2 x1) fun M_2 =>
  some M_2
def zjX6_stepNumber_93 (sh : zShp) (k0 : Nat)  (x1 : Int32) (s0 : Int32) (M : zMem) : Option (zMem) :=
  if s0 = 0 then (
  zjX6_stepNumber_104 sh k0 x1 k0 (5 : Int32) M)
  else (
  zjX6_stepNumber_104 sh k0 x1 k0 (2 : Int32) M)
def zjX6_stepNumber_92 (sh : zShp) (k0 : Nat)  (x1 : Int32) (M : zMem) : Option (zMem) :=
  zjX6_stepNumber_93 sh k0 x1 (0 : Int32) M
def zjX6_stepNumber_64 (sh : zShp) (k0 : Nat)  (x1 : Int32) (M : zMem) : Option (zMem) :=
  if (5 : Int32) < (x1 - (zI M k0 4)) then (
  zjX6_stepNumber_92 sh k0 x1 M)
  else (
  zob (zX10_byteAt sh (zR M k0 0) x1 M) fun r_7 =>
  zob (zX6_isLetter sh r_7 M) fun r_9 =>
  if r_9 = 0 then (
  zjX6_stepNumber_93 sh k0 x1 (1 : Int32) M)
  else (
  zjX6_stepNumber_92 sh k0 x1 M))
def zbX6_stepNumber_10 (sh : zShp) (k0 : Nat)  (kk10 : Int32 → zMem → Option (zMem)) (x1 : Int32) (M : zMem) : Option (zMem) :=
  if (zI M (zR M k0 0) 1) ≤ x1 then (
  zjX6_stepNumber_64 sh k0 x1 M)
  else (
  zob (zX10_byteAt sh (zR M k0 0) x1 M) fun r_15 =>
  zob (zX6_isDigit sh r_15 M) fun r_17 =>
  if r_17 = 0 then (
  zjX6_stepNumber_64 sh k0 x1 M)
  else (
  zob (zX10_byteAt sh (zR M k0 0) x1 M) fun r_21 =>
  zbd (zpI M k0 5 ((((zI M k0 5) * (10 : Int32)) + r_21) - (48 : Int32))) fun M_22 =>
  kk10 (x1 + (1 : Int32)) M_22))
def zlX6_stepNumber_10 (sh : zShp) (k0 : Nat)  : Nat → Int32 → zMem → Option (zMem)
  | 0 => fun _ _ => none
  | n + 1 => fun x1 M => zbX6_stepNumber_10 sh k0  (zlX6_stepNumber_10 sh k0  n) x1 M
def zX6_stepNumber (sh : zShp) (k0 : Nat) (M : zMem) : Option (zMem) :=
  zbd (zpI M k0 5 (0 : Int32)) fun M_23 =>
  zlX6_stepNumber_10 sh k0 zF (zI M k0 4) M_23
set_option maxHeartbeats 4000000 in
set_option maxRecDepth 100000 in
theorem ztX6_stepNumber (l : Launch) (D : va_G) (cy : Nat → ClassId) (sh : zShp) (ad : Nat → Nat) {k0 : Nat} (h0 : zT sh k0 6) {M : zMem} {M1 : zMem} (hd : zX6_stepNumber sh k0 M = some M1) : zCV l yX6_stepNumber cX6_stepNumber 3 { frames := 1, cells := 0, slots := 0, locals := 21 } [.ref (ad k0)] D cy sh ad M M1 := by
  refine zcv_of (by decide) (Nat.le_of_ble_eq_true rfl) (fun p e s m below meth c ls F hr hlk hl hw => ?_)
  have hx := F.1.1
  have hb := F.1.2.1
  have hl : lv_has ls 3 [(0, .ref (ad k0))] := hl
  have J104 : ∀ (x1 : Int32) (s0 : Nat) (s1 : Int32) (ts0 : zT sh s0 6) (M : zMem) (H : Heap) (locs : List Loc) (ls : Array Slot), lv_has ls 3 [(0, .ref (ad k0)), (1, .int x1)] → zWd D cy sh ad s M H locs → zjX6_stepNumber_104 sh k0  x1 s0 s1 M = some M1 → W p l e { frames := 1, cells := 0, slots := 0, locals := 21 } s m ([.ref (ad k0)] : List Value).toArray below meth c H locs 0 0 (zQV below D cy sh ad s [.ref (ad k0)] M1) (F0 m 104 ls [.int s1, .ref (ad s0)]) := by
    intro  x1 s0 s1 ts0 M H locs ls hl hw hd
    unfold zjX6_stepNumber_104 at hd
    refine z_pI F hw ts0 zc6 3 (by decide) rfl zf6_37 rfl rfl rfl dX6_stepNumber_104 (fun H locs M_1 eM_1 hw => ?_)
    have hd := zbd_eq eM_1 hd
    refine lv_aload_n hx hb dX6_stepNumber_107 rfl (lv_at hl 0 rfl) ?_
    refine lv_iload_n hx hb dX6_stepNumber_108 rfl (lv_at hl 1 rfl) ?_
    refine z_pI F hw h0 zc6 2 (by decide) rfl zf6_23 rfl rfl rfl dX6_stepNumber_109 (fun H locs M_2 eM_2 hw => ?_)
    have hd := zbd_eq eM_2 hd
    exact z_vret F hr hlk hw (Option.some.inj hd) dX6_stepNumber_112
  have J93 : ∀ (x1 : Int32) (s0 : Int32) (M : zMem) (H : Heap) (locs : List Loc) (ls : Array Slot), lv_has ls 3 [(0, .ref (ad k0)), (1, .int x1)] → zWd D cy sh ad s M H locs → zjX6_stepNumber_93 sh k0  x1 s0 M = some M1 → W p l e { frames := 1, cells := 0, slots := 0, locals := 21 } s m ([.ref (ad k0)] : List Value).toArray below meth c H locs 0 0 (zQV below D cy sh ad s [.ref (ad k0)] M1) (F0 m 93 ls [.int s0]) := by
    intro  x1 s0 M H locs ls hl hw hd
    unfold zjX6_stepNumber_93 at hd
    refine lv_istore_n (lv' := [(2, .int s0), (0, .ref (ad k0)), (1, .int x1)]) hx hb dX6_stepNumber_93 rfl hl (by decide) rfl (fun ls hl => ?_)
    refine lv_aload_n hx hb dX6_stepNumber_94 rfl (lv_at hl 1 rfl) ?_
    refine lv_iload_n hx hb dX6_stepNumber_95 rfl (lv_at hl 0 rfl) ?_
    refine lv_if_eq (tgt := 103) hx hb dX6_stepNumber_96 (by decide) (fun c_3 => ?_) (fun c_3 => ?_)
    · have hd := zif_pos c_3 hd
      refine lv_iconst (v := (5 : Int32)) hx hb dX6_stepNumber_103 (by decide) ?_
      exact J104 _ _ _ h0 _ _ _ _ (lv_sub hl [1, 2] rfl) hw hd
    · have hd := zif_neg c_3 hd
      refine lv_iconst (v := (2 : Int32)) hx hb dX6_stepNumber_99 (by decide) ?_
      refine lv_goto (tgt := 104) hx hb dX6_stepNumber_100 (by decide) ?_
      exact J104 _ _ _ h0 _ _ _ _ (lv_sub hl [1, 2] rfl) hw hd
  have J92 : ∀ (x1 : Int32) (M : zMem) (H : Heap) (locs : List Loc) (ls : Array Slot), lv_has ls 3 [(0, .ref (ad k0)), (1, .int x1)] → zWd D cy sh ad s M H locs → zjX6_stepNumber_92 sh k0  x1 M = some M1 → W p l e { frames := 1, cells := 0, slots := 0, locals := 21 } s m ([.ref (ad k0)] : List Value).toArray below meth c H locs 0 0 (zQV below D cy sh ad s [.ref (ad k0)] M1) (F0 m 92 ls []) := by
    intro  x1 M H locs ls hl hw hd
    unfold zjX6_stepNumber_92 at hd
    refine lv_iconst (v := (0 : Int32)) hx hb dX6_stepNumber_92 (by decide) ?_
    exact J93 _ _ _ _ _ _ (lv_sub hl [0, 1] rfl) hw hd
  have J64 : ∀ (x1 : Int32) (M : zMem) (H : Heap) (locs : List Loc) (ls : Array Slot), lv_has ls 3 [(0, .ref (ad k0)), (1, .int x1)] → zWd D cy sh ad s M H locs → zjX6_stepNumber_64 sh k0  x1 M = some M1 → W p l e { frames := 1, cells := 0, slots := 0, locals := 21 } s m ([.ref (ad k0)] : List Value).toArray below meth c H locs 0 0 (zQV below D cy sh ad s [.ref (ad k0)] M1) (F0 m 64 ls []) := by
    intro  x1 M H locs ls hl hw hd
    unfold zjX6_stepNumber_64 at hd
    refine lv_iload_n hx hb dX6_stepNumber_64 rfl (lv_at hl 1 rfl) ?_
    refine lv_aload_n hx hb dX6_stepNumber_65 rfl (lv_at hl 0 rfl) ?_
    refine z_gI F hw h0 zc6 4 (by decide) rfl zf6_188 dX6_stepNumber_66 ?_
    refine lv_isub hx hb dX6_stepNumber_69 ?_
    refine lv_iconst (v := (5 : Int32)) hx hb dX6_stepNumber_70 (by decide) ?_
    refine lv_icmp_gt (tgt := 92) hx hb dX6_stepNumber_71 (by decide) (fun c_4 => ?_) (fun c_4 => ?_)
    · have hd := zif_pos c_4 hd
      exact J92 _ _ _ _ _ (lv_sub hl [0, 1] rfl) hw hd
    · have hd := zif_neg c_4 hd
      refine lv_aload_n hx hb dX6_stepNumber_74 rfl (lv_at hl 0 rfl) ?_
      refine z_gR F hw h0 zc6 0 (by decide) rfl zf6_15 dX6_stepNumber_75 ?_
      have t_5 : zT sh (zR M k0 0) 10 := hw.2.2.2.fld h0 0 10
      refine lv_iload_n hx hb dX6_stepNumber_78 rfl (lv_at hl 1 rfl) ?_
      obtain ⟨r_7, hc_6, hd⟩ := zob_some hd
      refine z_cvI F hw hl.1 (As := [.int x1]) (rest := []) (ztX10_byteAt l D cy sh ad t_5 hc_6) zyX10_byteAt t_5 zc10 zk6_209 ⟨rfl, rfl⟩ ⟨by decide, by decide⟩ rfl rfl (Nat.le_of_ble_eq_true rfl) dX6_stepNumber_79 (fun H locs hw => ?_)
      obtain ⟨r_9, hc_8, hd⟩ := zob_some hd
      refine z_csI F hw hl.1 (As := [.int r_7]) (rest := []) (ztX6_isLetter l D cy sh ad  hc_8) zyX6_isLetter zk6_215 ⟨rfl, rfl⟩ ⟨by decide, by decide⟩ rfl rfl (Nat.le_of_ble_eq_true rfl) dX6_stepNumber_82 (fun H locs hw => ?_)
      refine lv_if_ne (tgt := 92) hx hb dX6_stepNumber_85 (by decide) (fun c_10 => ?_) (fun c_10 => ?_)
      · have hd := zif_neg c_10 hd
        exact J92 _ _ _ _ _ (lv_sub hl [0, 1] rfl) hw hd
      · have hd := zif_pos c_10 hd
        refine lv_iconst (v := (1 : Int32)) hx hb dX6_stepNumber_88 (by decide) ?_
        refine lv_goto (tgt := 93) hx hb dX6_stepNumber_89 (by decide) ?_
        exact J93 _ _ _ _ _ _ (lv_sub hl [0, 1] rfl) hw hd
  have L10 : ∀  (n : Nat), ∀ (x1 : Int32) (M : zMem) (H : Heap) (locs : List Loc) (ls : Array Slot), lv_has ls 3 [(0, .ref (ad k0)), (1, .int x1)] → zWd D cy sh ad s M H locs → zlX6_stepNumber_10 sh k0  n x1 M = some M1 → W p l e { frames := 1, cells := 0, slots := 0, locals := 21 } s m ([.ref (ad k0)] : List Value).toArray below meth c H locs 0 0 (zQV below D cy sh ad s [.ref (ad k0)] M1) (F0 m 10 ls []) := by
    intro  n
    induction n with
    | zero => intro x1 M H locs ls hl hw hd; exact (znone hd).elim
    | succ n hk10 =>
      intro x1 M H locs ls hl hw hd
      have hd : zbX6_stepNumber_10 sh k0  (zlX6_stepNumber_10 sh k0  n) x1 M = some M1 := hd
      unfold zbX6_stepNumber_10 at hd
      refine lv_iload_n hx hb dX6_stepNumber_10 rfl (lv_at hl 1 rfl) ?_
      refine lv_aload_n hx hb dX6_stepNumber_11 rfl (lv_at hl 0 rfl) ?_
      refine z_gR F hw h0 zc6 0 (by decide) rfl zf6_15 dX6_stepNumber_12 ?_
      have t_11 : zT sh (zR M k0 0) 10 := hw.2.2.2.fld h0 0 10
      refine z_gI F hw t_11 zc10 1 (by decide) rfl zf6_205 dX6_stepNumber_15 ?_
      refine lv_icmp_ge (tgt := 64) hx hb dX6_stepNumber_18 (by decide) (fun c_12 => ?_) (fun c_12 => ?_)
      · have hd := zif_pos c_12 hd
        exact J64 _ _ _ _ _ (lv_sub hl [0, 1] rfl) hw hd
      · have hd := zif_neg c_12 hd
        refine lv_aload_n hx hb dX6_stepNumber_21 rfl (lv_at hl 0 rfl) ?_
        refine z_gR F hw h0 zc6 0 (by decide) rfl zf6_15 dX6_stepNumber_22 ?_
        have t_13 : zT sh (zR M k0 0) 10 := hw.2.2.2.fld h0 0 10
        refine lv_iload_n hx hb dX6_stepNumber_25 rfl (lv_at hl 1 rfl) ?_
        obtain ⟨r_15, hc_14, hd⟩ := zob_some hd
        refine z_cvI F hw hl.1 (As := [.int x1]) (rest := []) (ztX10_byteAt l D cy sh ad t_13 hc_14) zyX10_byteAt t_13 zc10 zk6_209 ⟨rfl, rfl⟩ ⟨by decide, by decide⟩ rfl rfl (Nat.le_of_ble_eq_true rfl) dX6_stepNumber_26 (fun H locs hw => ?_)
        obtain ⟨r_17, hc_16, hd⟩ := zob_some hd
        refine z_csI F hw hl.1 (As := [.int r_15]) (rest := []) (ztX6_isDigit l D cy sh ad  hc_16) zyX6_isDigit zk6_221 ⟨rfl, rfl⟩ ⟨by decide, by decide⟩ rfl rfl (Nat.le_of_ble_eq_true rfl) dX6_stepNumber_29 (fun H locs hw => ?_)
        refine lv_if_eq (tgt := 64) hx hb dX6_stepNumber_32 (by decide) (fun c_18 => ?_) (fun c_18 => ?_)
        · have hd := zif_pos c_18 hd
          exact J64 _ _ _ _ _ (lv_sub hl [0, 1] rfl) hw hd
        · have hd := zif_neg c_18 hd
          refine lv_aload_n hx hb dX6_stepNumber_35 rfl (lv_at hl 0 rfl) ?_
          refine lv_aload_n hx hb dX6_stepNumber_36 rfl (lv_at hl 0 rfl) ?_
          refine z_gI F hw h0 zc6 5 (by decide) rfl zf6_80 dX6_stepNumber_37 ?_
          refine lv_bipush (v := (10 : Int32)) hx hb dX6_stepNumber_40 (by decide) ?_
          refine lv_imul hx hb dX6_stepNumber_42 ?_
          refine lv_aload_n hx hb dX6_stepNumber_43 rfl (lv_at hl 0 rfl) ?_
          refine z_gR F hw h0 zc6 0 (by decide) rfl zf6_15 dX6_stepNumber_44 ?_
          have t_19 : zT sh (zR M k0 0) 10 := hw.2.2.2.fld h0 0 10
          refine lv_iload_n hx hb dX6_stepNumber_47 rfl (lv_at hl 1 rfl) ?_
          obtain ⟨r_21, hc_20, hd⟩ := zob_some hd
          refine z_cvI F hw hl.1 (As := [.int x1]) (rest := [.int ((zI M k0 5) * (10 : Int32)), .ref (ad k0)]) (ztX10_byteAt l D cy sh ad t_19 hc_20) zyX10_byteAt t_19 zc10 zk6_209 ⟨rfl, rfl⟩ ⟨by decide, by decide⟩ rfl rfl (Nat.le_of_ble_eq_true rfl) dX6_stepNumber_48 (fun H locs hw => ?_)
          refine lv_iadd hx hb dX6_stepNumber_51 ?_
          refine lv_bipush (v := (48 : Int32)) hx hb dX6_stepNumber_52 (by decide) ?_
          refine lv_isub hx hb dX6_stepNumber_54 ?_
          refine z_pI F hw h0 zc6 5 (by decide) rfl zf6_80 rfl rfl rfl dX6_stepNumber_55 (fun H locs M_22 eM_22 hw => ?_)
          have hd := zbd_eq eM_22 hd
          refine lv_iinc (v := (x1 + (1 : Int32))) (lv' := [(1, .int (x1 + (1 : Int32))), (0, .ref (ad k0))]) hx hb dX6_stepNumber_58 hl (k := 1) rfl (ziinc (by decide)) (by decide) rfl (fun ls hl => ?_)
          refine lv_goto (tgt := 10) hx hb dX6_stepNumber_61 (by decide) ?_
          exact hk10 _ _ _ _ _ (lv_sub hl [1, 0] rfl) hw hd
  unfold zX6_stepNumber at hd
  refine lv_aload_n hx hb dX6_stepNumber_0 rfl (lv_at hl 0 rfl) ?_
  refine z_gI F hw h0 zc6 4 (by decide) rfl zf6_188 dX6_stepNumber_1 ?_
  refine lv_istore_n (lv' := [(1, .int (zI M k0 4)), (0, .ref (ad k0))]) hx hb dX6_stepNumber_4 rfl hl (by decide) rfl (fun ls hl => ?_)
  refine lv_aload_n hx hb dX6_stepNumber_5 rfl (lv_at hl 1 rfl) ?_
  refine lv_iconst (v := (0 : Int32)) hx hb dX6_stepNumber_6 (by decide) ?_
  refine z_pI F hw h0 zc6 5 (by decide) rfl zf6_80 rfl rfl rfl dX6_stepNumber_7 (fun H locs M_23 eM_23 hw => ?_)
  have hd := zbd_eq eM_23 hd
  exact L10 zF _ _ _ _ _ (lv_sub hl [1, 0] rfl) hw hd

def zjX6_step_128 (sh : zShp) (k0 : Nat)  (M : zMem) : Option (zMem) :=
  some M
def zjX6_step_118 (sh : zShp) (k0 : Nat)  (x1 : Int32) (s0 : Nat) (s1 : Int32) (M : zMem) : Option (zMem) :=
  zbd (zpI M s0 3 s1) fun M_1 =>
  zbd (zpI M_1 k0 2 (x1 + (1 : Int32))) fun M_2 =>
  zjX6_step_128 sh k0 M_2
def zjX6_step_36 (sh : zShp) (k0 : Nat)  (x1 : Int32) (M : zMem) : Option (zMem) :=
  zbd (zpI M k0 4 x1) fun M_3 =>
  zob (zX10_byteAt sh (zR M_3 k0 0) x1 M_3) fun r_6 =>
  if r_6 = (-1 : Int32) then (
  zbd (zpI M_3 k0 3 (0 : Int32)) fun M_20 =>
  zbd (zpI M_20 k0 2 x1) fun M_21 =>
  zjX6_step_128 sh k0 M_21)
  else (
  zob (zX6_isLetter sh r_6 M_3) fun r_9 =>
  if r_9 = 0 then (
  zob (zX6_isDigit sh r_6 M_3) fun r_12 =>
  if r_12 = 0 then (
  if r_6 = (45 : Int32) then (
  zjX6_step_118 sh k0 x1 k0 (3 : Int32) M_3)
  else (
  if r_6 = (59 : Int32) then (
  zjX6_step_118 sh k0 x1 k0 (4 : Int32) M_3)
  else (
  zjX6_step_118 sh k0 x1 k0 (5 : Int32) M_3)))
  else (
  zob (zX6_stepNumber sh k0 M_3) fun M_17 =>
  zjX6_step_128 sh k0 M_17))
  else (
  zob (zX6_stepWord sh k0 M_3) fun M_19 =>
  zjX6_step_128 sh k0 M_19))
def zbX6_step_5 (sh : zShp) (k0 : Nat)  (kk5 : Int32 → zMem → Option (zMem)) (x1 : Int32) (M : zMem) : Option (zMem) :=
  if (zI M (zR M k0 0) 1) ≤ x1 then (
  zjX6_step_36 sh k0 x1 M)
  else (
  zob (zX10_byteAt sh (zR M k0 0) x1 M) fun r_26 =>
  zob (zX6_isBlank sh r_26 M) fun r_28 =>
  if r_28 = 0 then (
  zjX6_step_36 sh k0 x1 M)
  else (
  kk5 (x1 + (1 : Int32)) M))
def zlX6_step_5 (sh : zShp) (k0 : Nat)  : Nat → Int32 → zMem → Option (zMem)
  | 0 => fun _ _ => none
  | n + 1 => fun x1 M => zbX6_step_5 sh k0  (zlX6_step_5 sh k0  n) x1 M
def zX6_step (sh : zShp) (k0 : Nat) (M : zMem) : Option (zMem) :=
  zlX6_step_5 sh k0 zF (zI M k0 2) M
set_option maxHeartbeats 4000000 in
set_option maxRecDepth 100000 in
theorem ztX6_step (l : Launch) (D : va_G) (cy : Nat → ClassId) (sh : zShp) (ad : Nat → Nat) {k0 : Nat} (h0 : zT sh k0 6) {M : zMem} {M1 : zMem} (hd : zX6_step sh k0 M = some M1) : zCV l yX6_step cX6_step 3 { frames := 2, cells := 0, slots := 0, locals := 43 } [.ref (ad k0)] D cy sh ad M M1 := by
  refine zcv_of (by decide) (Nat.le_of_ble_eq_true rfl) (fun p e s m below meth c ls F hr hlk hl hw => ?_)
  have hx := F.1.1
  have hb := F.1.2.1
  have hl : lv_has ls 3 [(0, .ref (ad k0))] := hl
  have J128 : ∀ (M : zMem) (H : Heap) (locs : List Loc) (ls : Array Slot), lv_has ls 3 [] → zWd D cy sh ad s M H locs → zjX6_step_128 sh k0  M = some M1 → W p l e { frames := 2, cells := 0, slots := 0, locals := 43 } s m ([.ref (ad k0)] : List Value).toArray below meth c H locs 0 0 (zQV below D cy sh ad s [.ref (ad k0)] M1) (F0 m 128 ls []) := by
    intro  M H locs ls hl hw hd
    unfold zjX6_step_128 at hd
    exact z_vret F hr hlk hw (Option.some.inj hd) dX6_step_128
  have J118 : ∀ (x1 : Int32) (s0 : Nat) (s1 : Int32) (ts0 : zT sh s0 6) (M : zMem) (H : Heap) (locs : List Loc) (ls : Array Slot), lv_has ls 3 [(0, .ref (ad k0)), (1, .int x1)] → zWd D cy sh ad s M H locs → zjX6_step_118 sh k0  x1 s0 s1 M = some M1 → W p l e { frames := 2, cells := 0, slots := 0, locals := 43 } s m ([.ref (ad k0)] : List Value).toArray below meth c H locs 0 0 (zQV below D cy sh ad s [.ref (ad k0)] M1) (F0 m 118 ls [.int s1, .ref (ad s0)]) := by
    intro  x1 s0 s1 ts0 M H locs ls hl hw hd
    unfold zjX6_step_118 at hd
    refine z_pI F hw ts0 zc6 3 (by decide) rfl zf6_37 rfl rfl rfl dX6_step_118 (fun H locs M_1 eM_1 hw => ?_)
    have hd := zbd_eq eM_1 hd
    refine lv_aload_n hx hb dX6_step_121 rfl (lv_at hl 0 rfl) ?_
    refine lv_iload_n hx hb dX6_step_122 rfl (lv_at hl 1 rfl) ?_
    refine lv_iconst (v := (1 : Int32)) hx hb dX6_step_123 (by decide) ?_
    refine lv_iadd hx hb dX6_step_124 ?_
    refine z_pI F hw h0 zc6 2 (by decide) rfl zf6_23 rfl rfl rfl dX6_step_125 (fun H locs M_2 eM_2 hw => ?_)
    have hd := zbd_eq eM_2 hd
    exact J128 _ _ _ _ (lv_sub hl [] rfl) hw hd
  have J36 : ∀ (x1 : Int32) (M : zMem) (H : Heap) (locs : List Loc) (ls : Array Slot), lv_has ls 3 [(0, .ref (ad k0)), (1, .int x1)] → zWd D cy sh ad s M H locs → zjX6_step_36 sh k0  x1 M = some M1 → W p l e { frames := 2, cells := 0, slots := 0, locals := 43 } s m ([.ref (ad k0)] : List Value).toArray below meth c H locs 0 0 (zQV below D cy sh ad s [.ref (ad k0)] M1) (F0 m 36 ls []) := by
    intro  x1 M H locs ls hl hw hd
    unfold zjX6_step_36 at hd
    refine lv_aload_n hx hb dX6_step_36 rfl (lv_at hl 0 rfl) ?_
    refine lv_iload_n hx hb dX6_step_37 rfl (lv_at hl 1 rfl) ?_
    refine z_pI F hw h0 zc6 4 (by decide) rfl zf6_188 rfl rfl rfl dX6_step_38 (fun H locs M_3 eM_3 hw => ?_)
    have hd := zbd_eq eM_3 hd
    refine lv_aload_n hx hb dX6_step_41 rfl (lv_at hl 0 rfl) ?_
    refine z_gR F hw h0 zc6 0 (by decide) rfl zf6_15 dX6_step_42 ?_
    have t_4 : zT sh (zR M_3 k0 0) 10 := hw.2.2.2.fld h0 0 10
    refine lv_iload_n hx hb dX6_step_45 rfl (lv_at hl 1 rfl) ?_
    obtain ⟨r_6, hc_5, hd⟩ := zob_some hd
    refine z_cvI F hw hl.1 (As := [.int x1]) (rest := []) (ztX10_byteAt l D cy sh ad t_4 hc_5) zyX10_byteAt t_4 zc10 zk6_209 ⟨rfl, rfl⟩ ⟨by decide, by decide⟩ rfl rfl (Nat.le_of_ble_eq_true rfl) dX6_step_46 (fun H locs hw => ?_)
    refine lv_istore_n (lv' := [(2, .int r_6), (0, .ref (ad k0)), (1, .int x1)]) hx hb dX6_step_49 rfl hl (by decide) rfl (fun ls hl => ?_)
    refine lv_iload_n hx hb dX6_step_50 rfl (lv_at hl 0 rfl) ?_
    refine lv_iconst (v := (-1 : Int32)) hx hb dX6_step_51 (by decide) ?_
    refine lv_icmp_ne (tgt := 68) hx hb dX6_step_52 (by decide) (fun c_7 => ?_) (fun c_7 => ?_)
    · have hd := zif_neg c_7 hd
      refine lv_iload_n hx hb dX6_step_68 rfl (lv_at hl 0 rfl) ?_
      obtain ⟨r_9, hc_8, hd⟩ := zob_some hd
      refine z_csI F hw hl.1 (As := [.int r_6]) (rest := []) (ztX6_isLetter l D cy sh ad  hc_8) zyX6_isLetter zk6_215 ⟨rfl, rfl⟩ ⟨by decide, by decide⟩ rfl rfl (Nat.le_of_ble_eq_true rfl) dX6_step_69 (fun H locs hw => ?_)
      refine lv_if_eq (tgt := 82) hx hb dX6_step_72 (by decide) (fun c_10 => ?_) (fun c_10 => ?_)
      · have hd := zif_pos c_10 hd
        refine lv_iload_n hx hb dX6_step_82 rfl (lv_at hl 0 rfl) ?_
        obtain ⟨r_12, hc_11, hd⟩ := zob_some hd
        refine z_csI F hw hl.1 (As := [.int r_6]) (rest := []) (ztX6_isDigit l D cy sh ad  hc_11) zyX6_isDigit zk6_221 ⟨rfl, rfl⟩ ⟨by decide, by decide⟩ rfl rfl (Nat.le_of_ble_eq_true rfl) dX6_step_83 (fun H locs hw => ?_)
        refine lv_if_eq (tgt := 96) hx hb dX6_step_86 (by decide) (fun c_13 => ?_) (fun c_13 => ?_)
        · have hd := zif_pos c_13 hd
          refine lv_aload_n hx hb dX6_step_96 rfl (lv_at hl 1 rfl) ?_
          refine lv_iload_n hx hb dX6_step_97 rfl (lv_at hl 0 rfl) ?_
          refine lv_bipush (v := (45 : Int32)) hx hb dX6_step_98 (by decide) ?_
          refine lv_icmp_ne (tgt := 107) hx hb dX6_step_100 (by decide) (fun c_14 => ?_) (fun c_14 => ?_)
          · have hd := zif_neg c_14 hd
            refine lv_iload_n hx hb dX6_step_107 rfl (lv_at hl 0 rfl) ?_
            refine lv_bipush (v := (59 : Int32)) hx hb dX6_step_108 (by decide) ?_
            refine lv_icmp_ne (tgt := 117) hx hb dX6_step_110 (by decide) (fun c_15 => ?_) (fun c_15 => ?_)
            · have hd := zif_neg c_15 hd
              refine lv_iconst (v := (5 : Int32)) hx hb dX6_step_117 (by decide) ?_
              exact J118 _ _ _ h0 _ _ _ _ (lv_sub hl [1, 2] rfl) hw hd
            · have hd := zif_pos c_15 hd
              refine lv_iconst (v := (4 : Int32)) hx hb dX6_step_113 (by decide) ?_
              refine lv_goto (tgt := 118) hx hb dX6_step_114 (by decide) ?_
              exact J118 _ _ _ h0 _ _ _ _ (lv_sub hl [1, 2] rfl) hw hd
          · have hd := zif_pos c_14 hd
            refine lv_iconst (v := (3 : Int32)) hx hb dX6_step_103 (by decide) ?_
            refine lv_goto (tgt := 118) hx hb dX6_step_104 (by decide) ?_
            exact J118 _ _ _ h0 _ _ _ _ (lv_sub hl [1, 2] rfl) hw hd
        · have hd := zif_neg c_13 hd
          refine lv_aload_n hx hb dX6_step_89 rfl (lv_at hl 1 rfl) ?_
          obtain ⟨M_17, hc_16, hd⟩ := zob_some hd
          refine z_cvV F hw hl.1 (As := []) (rest := []) (ztX6_stepNumber l D cy sh ad h0 hc_16) zyX6_stepNumber h0 zc6 zk6_224 ⟨rfl, rfl⟩ ⟨by decide, by decide⟩ rfl rfl (Nat.le_of_ble_eq_true rfl) dX6_step_90 (fun H locs hw => ?_)
          refine lv_goto (tgt := 128) hx hb dX6_step_93 (by decide) ?_
          exact J128 _ _ _ _ (lv_sub hl [] rfl) hw hd
      · have hd := zif_neg c_10 hd
        refine lv_aload_n hx hb dX6_step_75 rfl (lv_at hl 1 rfl) ?_
        obtain ⟨M_19, hc_18, hd⟩ := zob_some hd
        refine z_cvV F hw hl.1 (As := []) (rest := []) (ztX6_stepWord l D cy sh ad h0 hc_18) zyX6_stepWord h0 zc6 zk6_218 ⟨rfl, rfl⟩ ⟨by decide, by decide⟩ rfl rfl (Nat.le_of_ble_eq_true rfl) dX6_step_76 (fun H locs hw => ?_)
        refine lv_goto (tgt := 128) hx hb dX6_step_79 (by decide) ?_
        exact J128 _ _ _ _ (lv_sub hl [] rfl) hw hd
    · have hd := zif_pos c_7 hd
      refine lv_aload_n hx hb dX6_step_55 rfl (lv_at hl 1 rfl) ?_
      refine lv_iconst (v := (0 : Int32)) hx hb dX6_step_56 (by decide) ?_
      refine z_pI F hw h0 zc6 3 (by decide) rfl zf6_37 rfl rfl rfl dX6_step_57 (fun H locs M_20 eM_20 hw => ?_)
      have hd := zbd_eq eM_20 hd
      refine lv_aload_n hx hb dX6_step_60 rfl (lv_at hl 1 rfl) ?_
      refine lv_iload_n hx hb dX6_step_61 rfl (lv_at hl 2 rfl) ?_
      refine z_pI F hw h0 zc6 2 (by decide) rfl zf6_23 rfl rfl rfl dX6_step_62 (fun H locs M_21 eM_21 hw => ?_)
      have hd := zbd_eq eM_21 hd
      refine lv_goto (tgt := 128) hx hb dX6_step_65 (by decide) ?_
      exact J128 _ _ _ _ (lv_sub hl [] rfl) hw hd
  have L5 : ∀  (n : Nat), ∀ (x1 : Int32) (M : zMem) (H : Heap) (locs : List Loc) (ls : Array Slot), lv_has ls 3 [(0, .ref (ad k0)), (1, .int x1)] → zWd D cy sh ad s M H locs → zlX6_step_5 sh k0  n x1 M = some M1 → W p l e { frames := 2, cells := 0, slots := 0, locals := 43 } s m ([.ref (ad k0)] : List Value).toArray below meth c H locs 0 0 (zQV below D cy sh ad s [.ref (ad k0)] M1) (F0 m 5 ls []) := by
    intro  n
    induction n with
    | zero => intro x1 M H locs ls hl hw hd; exact (znone hd).elim
    | succ n hk5 =>
      intro x1 M H locs ls hl hw hd
      have hd : zbX6_step_5 sh k0  (zlX6_step_5 sh k0  n) x1 M = some M1 := hd
      unfold zbX6_step_5 at hd
      refine lv_iload_n hx hb dX6_step_5 rfl (lv_at hl 1 rfl) ?_
      refine lv_aload_n hx hb dX6_step_6 rfl (lv_at hl 0 rfl) ?_
      refine z_gR F hw h0 zc6 0 (by decide) rfl zf6_15 dX6_step_7 ?_
      have t_22 : zT sh (zR M k0 0) 10 := hw.2.2.2.fld h0 0 10
      refine z_gI F hw t_22 zc10 1 (by decide) rfl zf6_205 dX6_step_10 ?_
      refine lv_icmp_ge (tgt := 36) hx hb dX6_step_13 (by decide) (fun c_23 => ?_) (fun c_23 => ?_)
      · have hd := zif_pos c_23 hd
        exact J36 _ _ _ _ _ (lv_sub hl [0, 1] rfl) hw hd
      · have hd := zif_neg c_23 hd
        refine lv_aload_n hx hb dX6_step_16 rfl (lv_at hl 0 rfl) ?_
        refine z_gR F hw h0 zc6 0 (by decide) rfl zf6_15 dX6_step_17 ?_
        have t_24 : zT sh (zR M k0 0) 10 := hw.2.2.2.fld h0 0 10
        refine lv_iload_n hx hb dX6_step_20 rfl (lv_at hl 1 rfl) ?_
        obtain ⟨r_26, hc_25, hd⟩ := zob_some hd
        refine z_cvI F hw hl.1 (As := [.int x1]) (rest := []) (ztX10_byteAt l D cy sh ad t_24 hc_25) zyX10_byteAt t_24 zc10 zk6_209 ⟨rfl, rfl⟩ ⟨by decide, by decide⟩ rfl rfl (Nat.le_of_ble_eq_true rfl) dX6_step_21 (fun H locs hw => ?_)
        obtain ⟨r_28, hc_27, hd⟩ := zob_some hd
        refine z_csI F hw hl.1 (As := [.int r_26]) (rest := []) (ztX6_isBlank l D cy sh ad  hc_27) zyX6_isBlank zk6_212 ⟨rfl, rfl⟩ ⟨by decide, by decide⟩ rfl rfl (Nat.le_of_ble_eq_true rfl) dX6_step_24 (fun H locs hw => ?_)
        refine lv_if_eq (tgt := 36) hx hb dX6_step_27 (by decide) (fun c_29 => ?_) (fun c_29 => ?_)
        · have hd := zif_pos c_29 hd
          exact J36 _ _ _ _ _ (lv_sub hl [0, 1] rfl) hw hd
        · have hd := zif_neg c_29 hd
          refine lv_iinc (v := (x1 + (1 : Int32))) (lv' := [(1, .int (x1 + (1 : Int32))), (0, .ref (ad k0))]) hx hb dX6_step_30 hl (k := 1) rfl (ziinc (by decide)) (by decide) rfl (fun ls hl => ?_)
          refine lv_goto (tgt := 5) hx hb dX6_step_33 (by decide) ?_
          exact hk5 _ _ _ _ _ (lv_sub hl [1, 0] rfl) hw hd
  unfold zX6_step at hd
  refine lv_aload_n hx hb dX6_step_0 rfl (lv_at hl 0 rfl) ?_
  refine z_gI F hw h0 zc6 2 (by decide) rfl zf6_23 dX6_step_1 ?_
  refine lv_istore_n (lv' := [(1, .int (zI M k0 2)), (0, .ref (ad k0))]) hx hb dX6_step_4 rfl hl (by decide) rfl (fun ls hl => ?_)
  exact L5 zF _ _ _ _ _ (lv_sub hl [1, 0] rfl) hw hd

def zX6_start (sh : zShp) (k0 : Nat) (k1 : Nat) (M : zMem) : Option (zMem) :=
  zbd (zpR M k0 1 k1) fun M_1 =>
  zbd (zpI M_1 k0 2 (0 : Int32)) fun M_2 =>
  zbd (zpI M_2 k0 7 (0 : Int32)) fun M_3 =>
  zbd (zpI M_3 k0 8 (-1 : Int32)) fun M_4 =>
  zob (zX1_clear sh (zR M_4 k0 1) M_4) fun M_7 =>
  zob (zX6_step sh k0 M_7) fun M_9 =>
  some M_9
set_option maxHeartbeats 4000000 in
set_option maxRecDepth 100000 in
theorem ztX6_start (l : Launch) (D : va_G) (cy : Nat → ClassId) (sh : zShp) (ad : Nat → Nat) {k0 : Nat} {k1 : Nat} (h0 : zT sh k0 6) (h1 : zT sh k1 1) {M : zMem} {M1 : zMem} (hd : zX6_start sh k0 k1 M = some M1) : zCV l yX6_start cX6_start 2 { frames := 3, cells := 0, slots := 0, locals := 67 } [.ref (ad k0), .ref (ad k1)] D cy sh ad M M1 := by
  refine zcv_of (by decide) (Nat.le_of_ble_eq_true rfl) (fun p e s m below meth c ls F hr hlk hl hw => ?_)
  have hx := F.1.1
  have hb := F.1.2.1
  have hl : lv_has ls 2 [(0, .ref (ad k0)), (1, .ref (ad k1))] := hl
  unfold zX6_start at hd
  refine lv_aload_n hx hb dX6_start_0 rfl (lv_at hl 0 rfl) ?_
  refine lv_aload_n hx hb dX6_start_1 rfl (lv_at hl 1 rfl) ?_
  refine z_pR F hw h0 zc6 1 (by decide) rfl zf6_19 rfl h1 rfl rfl dX6_start_2 (fun H locs M_1 eM_1 hw => ?_)
  have hd := zbd_eq eM_1 hd
  refine lv_aload_n hx hb dX6_start_5 rfl (lv_at hl 0 rfl) ?_
  refine lv_iconst (v := (0 : Int32)) hx hb dX6_start_6 (by decide) ?_
  refine z_pI F hw h0 zc6 2 (by decide) rfl zf6_23 rfl rfl rfl dX6_start_7 (fun H locs M_2 eM_2 hw => ?_)
  have hd := zbd_eq eM_2 hd
  refine lv_aload_n hx hb dX6_start_10 rfl (lv_at hl 0 rfl) ?_
  refine lv_iconst (v := (0 : Int32)) hx hb dX6_start_11 (by decide) ?_
  refine z_pI F hw h0 zc6 7 (by decide) rfl zf6_26 rfl rfl rfl dX6_start_12 (fun H locs M_3 eM_3 hw => ?_)
  have hd := zbd_eq eM_3 hd
  refine lv_aload_n hx hb dX6_start_15 rfl (lv_at hl 0 rfl) ?_
  refine lv_iconst (v := (-1 : Int32)) hx hb dX6_start_16 (by decide) ?_
  refine z_pI F hw h0 zc6 8 (by decide) rfl zf6_9 rfl rfl rfl dX6_start_17 (fun H locs M_4 eM_4 hw => ?_)
  have hd := zbd_eq eM_4 hd
  refine lv_aload_n hx hb dX6_start_20 rfl (lv_at hl 0 rfl) ?_
  refine z_gR F hw h0 zc6 1 (by decide) rfl zf6_19 dX6_start_21 ?_
  have t_5 : zT sh (zR M_4 k0 1) 1 := hw.2.2.2.fld h0 1 1
  obtain ⟨M_7, hc_6, hd⟩ := zob_some hd
  refine z_cvV F hw hl.1 (As := []) (rest := []) (ztX1_clear l D cy sh ad t_5 hc_6) zyX1_clear t_5 zc1 zk6_29 ⟨rfl, rfl⟩ ⟨by decide, by decide⟩ rfl rfl (Nat.le_of_ble_eq_true rfl) dX6_start_24 (fun H locs hw => ?_)
  refine lv_aload_n hx hb dX6_start_27 rfl (lv_at hl 0 rfl) ?_
  obtain ⟨M_9, hc_8, hd⟩ := zob_some hd
  refine z_cvV F hw hl.1 (As := []) (rest := []) (ztX6_step l D cy sh ad h0 hc_8) zyX6_step h0 zc6 zk6_34 ⟨rfl, rfl⟩ ⟨by decide, by decide⟩ rfl rfl (Nat.le_of_ble_eq_true rfl) dX6_start_28 (fun H locs hw => ?_)
  exact z_vret F hr hlk hw (Option.some.inj hd) dX6_start_31

def zjX6_hasMore_12 (sh : zShp) (k0 : Nat) (M : zMem)  (s0 : Int32) : Option (Int32) :=
  zgd (zisB s0) <|
  some s0
def zX6_hasMore (sh : zShp) (k0 : Nat) (M : zMem) : Option (Int32) :=
  if (zI M k0 3) = 0 then (
  zjX6_hasMore_12 sh k0 M (0 : Int32))
  else (
  zjX6_hasMore_12 sh k0 M (1 : Int32))
set_option maxHeartbeats 4000000 in
set_option maxRecDepth 100000 in
theorem ztX6_hasMore (l : Launch) (D : va_G) (cy : Nat → ClassId) (sh : zShp) (ad : Nat → Nat) {k0 : Nat} (h0 : zT sh k0 6) {M : zMem} {r : Int32} (hd : zX6_hasMore sh k0 M = some r) : zCI l yX6_hasMore cX6_hasMore 1 .boolean { frames := 0, cells := 0, slots := 0, locals := 0 } [.ref (ad k0)] D cy sh ad M r M := by
  refine zci_of (by decide) (Nat.le_of_ble_eq_true rfl) (fun p e s m below meth c ls F hr hlk hl hw => ?_)
  have hx := F.1.1
  have hb := F.1.2.1
  have hl : lv_has ls 1 [(0, .ref (ad k0))] := hl
  have J12 : ∀ (s0 : Int32) (H : Heap) (locs : List Loc) (ls : Array Slot), lv_has ls 1 [] → zWd D cy sh ad s M H locs → zjX6_hasMore_12 sh k0 M  s0 = some r → W p l e { frames := 0, cells := 0, slots := 0, locals := 0 } s m ([.ref (ad k0)] : List Value).toArray below meth c H locs 0 0 (zQI below D cy sh ad s [.ref (ad k0)] r M) (F0 m 12 ls [.int s0]) := by
    intro  s0 H locs ls hl hw hd
    unfold zjX6_hasMore_12 at hd
    obtain ⟨g_1, hd⟩ := zgd_some hd
    exact z_zret F hr hlk hw g_1 (Option.some.inj hd) rfl dX6_hasMore_12
  unfold zX6_hasMore at hd
  refine lv_aload_n hx hb dX6_hasMore_0 rfl (lv_at hl 0 rfl) ?_
  refine z_gI F hw h0 zc6 3 (by decide) rfl zf6_37 dX6_hasMore_1 ?_
  refine lv_if_eq (tgt := 11) hx hb dX6_hasMore_4 (by decide) (fun c_2 => ?_) (fun c_2 => ?_)
  · have hd := zif_pos c_2 hd
    refine lv_iconst (v := (0 : Int32)) hx hb dX6_hasMore_11 (by decide) ?_
    exact J12 _ _ _ _ (lv_sub hl [] rfl) hw hd
  · have hd := zif_neg c_2 hd
    refine lv_iconst (v := (1 : Int32)) hx hb dX6_hasMore_7 (by decide) ?_
    refine lv_goto (tgt := 12) hx hb dX6_hasMore_8 (by decide) ?_
    exact J12 _ _ _ _ (lv_sub hl [] rfl) hw hd

def zjX6_refuse_14 (sh : zShp) (k0 : Nat) (p1 : Int32)  (s0 : Nat) (s1 : Int32) (M : zMem) : Option (Int32 × zMem) :=
  zbd (zpI M s0 7 s1) fun M_1 =>
  zbd (zpI M_1 k0 8 (zI M_1 k0 4)) fun M_2 =>
  some ((0 : Int32), M_2)
def zX6_refuse (sh : zShp) (k0 : Nat) (p1 : Int32) (M : zMem) : Option (Int32 × zMem) :=
  if (zI M k0 3) = (5 : Int32) then (
  zjX6_refuse_14 sh k0 p1 k0 (1 : Int32) M)
  else (
  zjX6_refuse_14 sh k0 p1 k0 p1 M)
set_option maxHeartbeats 4000000 in
set_option maxRecDepth 100000 in
theorem ztX6_refuse (l : Launch) (D : va_G) (cy : Nat → ClassId) (sh : zShp) (ad : Nat → Nat) {k0 : Nat} {p1 : Int32} (h0 : zT sh k0 6) {M : zMem} {r : Int32} {M1 : zMem} (hd : zX6_refuse sh k0 p1 M = some (r, M1)) : zCI l yX6_refuse cX6_refuse 2 .boolean { frames := 0, cells := 0, slots := 0, locals := 0 } [.ref (ad k0), .int p1] D cy sh ad M r M1 := by
  refine zci_of (by decide) (Nat.le_of_ble_eq_true rfl) (fun p e s m below meth c ls F hr hlk hl hw => ?_)
  have hx := F.1.1
  have hb := F.1.2.1
  have hl : lv_has ls 2 [(0, .ref (ad k0)), (1, .int p1)] := hl
  have J14 : ∀ (s0 : Nat) (s1 : Int32) (ts0 : zT sh s0 6) (M : zMem) (H : Heap) (locs : List Loc) (ls : Array Slot), lv_has ls 2 [(0, .ref (ad k0))] → zWd D cy sh ad s M H locs → zjX6_refuse_14 sh k0 p1  s0 s1 M = some (r, M1) → W p l e { frames := 0, cells := 0, slots := 0, locals := 0 } s m ([.ref (ad k0), .int p1] : List Value).toArray below meth c H locs 0 0 (zQI below D cy sh ad s [.ref (ad k0), .int p1] r M1) (F0 m 14 ls [.int s1, .ref (ad s0)]) := by
    intro  s0 s1 ts0 M H locs ls hl hw hd
    unfold zjX6_refuse_14 at hd
    refine z_pI F hw ts0 zc6 7 (by decide) rfl zf6_26 rfl rfl rfl dX6_refuse_14 (fun H locs M_1 eM_1 hw => ?_)
    have hd := zbd_eq eM_1 hd
    refine lv_aload_n hx hb dX6_refuse_17 rfl (lv_at hl 0 rfl) ?_
    refine lv_aload_n hx hb dX6_refuse_18 rfl (lv_at hl 0 rfl) ?_
    refine z_gI F hw h0 zc6 4 (by decide) rfl zf6_188 dX6_refuse_19 ?_
    refine z_pI F hw h0 zc6 8 (by decide) rfl zf6_9 rfl rfl rfl dX6_refuse_22 (fun H locs M_2 eM_2 hw => ?_)
    have hd := zbd_eq eM_2 hd
    refine lv_iconst (v := (0 : Int32)) hx hb dX6_refuse_25 (by decide) ?_
    exact z_zret F hr hlk hw (by decide) (zpr1 hd) (zpr2 hd) dX6_refuse_26
  unfold zX6_refuse at hd
  refine lv_aload_n hx hb dX6_refuse_0 rfl (lv_at hl 0 rfl) ?_
  refine lv_aload_n hx hb dX6_refuse_1 rfl (lv_at hl 0 rfl) ?_
  refine z_gI F hw h0 zc6 3 (by decide) rfl zf6_37 dX6_refuse_2 ?_
  refine lv_iconst (v := (5 : Int32)) hx hb dX6_refuse_5 (by decide) ?_
  refine lv_icmp_ne (tgt := 13) hx hb dX6_refuse_6 (by decide) (fun c_3 => ?_) (fun c_3 => ?_)
  · have hd := zif_neg c_3 hd
    refine lv_iload_n hx hb dX6_refuse_13 rfl (lv_at hl 1 rfl) ?_
    exact J14 _ _ h0 _ _ _ _ (lv_sub hl [0] rfl) hw hd
  · have hd := zif_pos c_3 hd
    refine lv_iconst (v := (1 : Int32)) hx hb dX6_refuse_9 (by decide) ?_
    refine lv_goto (tgt := 14) hx hb dX6_refuse_10 (by decide) ?_
    exact J14 _ _ h0 _ _ _ _ (lv_sub hl [0] rfl) hw hd

def zX6_takeNumber (sh : zShp) (k0 : Nat) (p1 : Int32) (p2 : Int32) (M : zMem) : Option (Int32 × zMem) :=
  if (zI M k0 3) = (2 : Int32) then (
  zob (zX11_isWithin sh (zI M k0 5) p1 p2 M) fun r_3 =>
  if r_3 = 0 then (
  zob2 (zX6_refuse sh k0 (4 : Int32) M) fun r_9 M_10 =>
  zgd (zisB r_9) <|
  some (r_9, M_10))
  else (
  zbd (zpI M k0 6 (zI M k0 5)) fun M_5 =>
  zob (zX6_step sh k0 M_5) fun M_7 =>
  some ((1 : Int32), M_7)))
  else (
  zob2 (zX6_refuse sh k0 (2 : Int32) M) fun r_13 M_14 =>
  zgd (zisB r_13) <|
  some (r_13, M_14))
set_option maxHeartbeats 4000000 in
set_option maxRecDepth 100000 in
theorem ztX6_takeNumber (l : Launch) (D : va_G) (cy : Nat → ClassId) (sh : zShp) (ad : Nat → Nat) {k0 : Nat} {p1 : Int32} {p2 : Int32} (h0 : zT sh k0 6) {M : zMem} {r : Int32} {M1 : zMem} (hd : zX6_takeNumber sh k0 p1 p2 M = some (r, M1)) : zCI l yX6_takeNumber cX6_takeNumber 3 .boolean { frames := 3, cells := 0, slots := 0, locals := 65 } [.ref (ad k0), .int p1, .int p2] D cy sh ad M r M1 := by
  refine zci_of (by decide) (Nat.le_of_ble_eq_true rfl) (fun p e s m below meth c ls F hr hlk hl hw => ?_)
  have hx := F.1.1
  have hb := F.1.2.1
  have hl : lv_has ls 3 [(0, .ref (ad k0)), (1, .int p1), (2, .int p2)] := hl
  unfold zX6_takeNumber at hd
  refine lv_aload_n hx hb dX6_takeNumber_0 rfl (lv_at hl 0 rfl) ?_
  refine z_gI F hw h0 zc6 3 (by decide) rfl zf6_37 dX6_takeNumber_1 ?_
  refine lv_iconst (v := (2 : Int32)) hx hb dX6_takeNumber_4 (by decide) ?_
  refine lv_icmp_eq (tgt := 14) hx hb dX6_takeNumber_5 (by decide) (fun c_1 => ?_) (fun c_1 => ?_)
  · have hd := zif_pos c_1 hd
    refine lv_aload_n hx hb dX6_takeNumber_14 rfl (lv_at hl 0 rfl) ?_
    refine z_gI F hw h0 zc6 5 (by decide) rfl zf6_80 dX6_takeNumber_15 ?_
    refine lv_iload_n hx hb dX6_takeNumber_18 rfl (lv_at hl 1 rfl) ?_
    refine lv_iload_n hx hb dX6_takeNumber_19 rfl (lv_at hl 2 rfl) ?_
    obtain ⟨r_3, hc_2, hd⟩ := zob_some hd
    refine z_cnI F hw hl.1 (As := [.int (zI M k0 5), .int p1, .int p2]) (rest := []) (ztX11_isWithin l D cy sh ad  hc_2) zyX11_isWithin F.2.2.2 ⟨rfl, rfl⟩ ⟨by decide, by decide⟩ rfl rfl (Nat.le_of_ble_eq_true rfl) dX6_takeNumber_20 (fun H locs hw => ?_)
    refine lv_if_ne (tgt := 32) hx hb dX6_takeNumber_23 (by decide) (fun c_4 => ?_) (fun c_4 => ?_)
    · have hd := zif_neg c_4 hd
      refine lv_aload_n hx hb dX6_takeNumber_32 rfl (lv_at hl 0 rfl) ?_
      refine lv_aload_n hx hb dX6_takeNumber_33 rfl (lv_at hl 0 rfl) ?_
      refine z_gI F hw h0 zc6 5 (by decide) rfl zf6_80 dX6_takeNumber_34 ?_
      refine z_pI F hw h0 zc6 6 (by decide) rfl zf6_105 rfl rfl rfl dX6_takeNumber_37 (fun H locs M_5 eM_5 hw => ?_)
      have hd := zbd_eq eM_5 hd
      refine lv_aload_n hx hb dX6_takeNumber_40 rfl (lv_at hl 0 rfl) ?_
      obtain ⟨M_7, hc_6, hd⟩ := zob_some hd
      refine z_cvV F hw hl.1 (As := []) (rest := []) (ztX6_step l D cy sh ad h0 hc_6) zyX6_step h0 zc6 zk6_34 ⟨rfl, rfl⟩ ⟨by decide, by decide⟩ rfl rfl (Nat.le_of_ble_eq_true rfl) dX6_takeNumber_41 (fun H locs hw => ?_)
      refine lv_iconst (v := (1 : Int32)) hx hb dX6_takeNumber_44 (by decide) ?_
      exact z_zret F hr hlk hw (by decide) (zpr1 hd) (zpr2 hd) dX6_takeNumber_45
    · have hd := zif_pos c_4 hd
      refine lv_aload_n hx hb dX6_takeNumber_26 rfl (lv_at hl 0 rfl) ?_
      refine lv_iconst (v := (4 : Int32)) hx hb dX6_takeNumber_27 (by decide) ?_
      obtain ⟨r_9, M_10, hc_8, hd⟩ := zob2_some hd
      refine z_cvI F hw hl.1 (As := [.int (4 : Int32)]) (rest := []) (ztX6_refuse l D cy sh ad h0 hc_8) zyX6_refuse h0 zc6 zk6_70 ⟨rfl, rfl⟩ ⟨by decide, by decide⟩ rfl rfl (Nat.le_of_ble_eq_true rfl) dX6_takeNumber_28 (fun H locs hw => ?_)
      obtain ⟨g_11, hd⟩ := zgd_some hd
      exact z_zret F hr hlk hw g_11 (zpr1 hd) (zpr2 hd) dX6_takeNumber_31
  · have hd := zif_neg c_1 hd
    refine lv_aload_n hx hb dX6_takeNumber_8 rfl (lv_at hl 0 rfl) ?_
    refine lv_iconst (v := (2 : Int32)) hx hb dX6_takeNumber_9 (by decide) ?_
    obtain ⟨r_13, M_14, hc_12, hd⟩ := zob2_some hd
    refine z_cvI F hw hl.1 (As := [.int (2 : Int32)]) (rest := []) (ztX6_refuse l D cy sh ad h0 hc_12) zyX6_refuse h0 zc6 zk6_70 ⟨rfl, rfl⟩ ⟨by decide, by decide⟩ rfl rfl (Nat.le_of_ble_eq_true rfl) dX6_takeNumber_10 (fun H locs hw => ?_)
    obtain ⟨g_15, hd⟩ := zgd_some hd
    exact z_zret F hr hlk hw g_15 (zpr1 hd) (zpr2 hd) dX6_takeNumber_13

def zX6_takeStop (sh : zShp) (k0 : Nat) (M : zMem) : Option (Int32 × zMem) :=
  if (zI M k0 3) = (4 : Int32) then (
  zob (zX6_step sh k0 M) fun M_3 =>
  some ((1 : Int32), M_3))
  else (
  zob2 (zX6_refuse sh k0 (2 : Int32) M) fun r_5 M_6 =>
  zgd (zisB r_5) <|
  some (r_5, M_6))
set_option maxHeartbeats 4000000 in
set_option maxRecDepth 100000 in
theorem ztX6_takeStop (l : Launch) (D : va_G) (cy : Nat → ClassId) (sh : zShp) (ad : Nat → Nat) {k0 : Nat} (h0 : zT sh k0 6) {M : zMem} {r : Int32} {M1 : zMem} (hd : zX6_takeStop sh k0 M = some (r, M1)) : zCI l yX6_takeStop cX6_takeStop 1 .boolean { frames := 3, cells := 0, slots := 0, locals := 65 } [.ref (ad k0)] D cy sh ad M r M1 := by
  refine zci_of (by decide) (Nat.le_of_ble_eq_true rfl) (fun p e s m below meth c ls F hr hlk hl hw => ?_)
  have hx := F.1.1
  have hb := F.1.2.1
  have hl : lv_has ls 1 [(0, .ref (ad k0))] := hl
  unfold zX6_takeStop at hd
  refine lv_aload_n hx hb dX6_takeStop_0 rfl (lv_at hl 0 rfl) ?_
  refine z_gI F hw h0 zc6 3 (by decide) rfl zf6_37 dX6_takeStop_1 ?_
  refine lv_iconst (v := (4 : Int32)) hx hb dX6_takeStop_4 (by decide) ?_
  refine lv_icmp_eq (tgt := 14) hx hb dX6_takeStop_5 (by decide) (fun c_1 => ?_) (fun c_1 => ?_)
  · have hd := zif_pos c_1 hd
    refine lv_aload_n hx hb dX6_takeStop_14 rfl (lv_at hl 0 rfl) ?_
    obtain ⟨M_3, hc_2, hd⟩ := zob_some hd
    refine z_cvV F hw hl.1 (As := []) (rest := []) (ztX6_step l D cy sh ad h0 hc_2) zyX6_step h0 zc6 zk6_34 ⟨rfl, rfl⟩ ⟨by decide, by decide⟩ rfl rfl (Nat.le_of_ble_eq_true rfl) dX6_takeStop_15 (fun H locs hw => ?_)
    refine lv_iconst (v := (1 : Int32)) hx hb dX6_takeStop_18 (by decide) ?_
    exact z_zret F hr hlk hw (by decide) (zpr1 hd) (zpr2 hd) dX6_takeStop_19
  · have hd := zif_neg c_1 hd
    refine lv_aload_n hx hb dX6_takeStop_8 rfl (lv_at hl 0 rfl) ?_
    refine lv_iconst (v := (2 : Int32)) hx hb dX6_takeStop_9 (by decide) ?_
    obtain ⟨r_5, M_6, hc_4, hd⟩ := zob2_some hd
    refine z_cvI F hw hl.1 (As := [.int (2 : Int32)]) (rest := []) (ztX6_refuse l D cy sh ad h0 hc_4) zyX6_refuse h0 zc6 zk6_70 ⟨rfl, rfl⟩ ⟨by decide, by decide⟩ rfl rfl (Nat.le_of_ble_eq_true rfl) dX6_takeStop_10 (fun H locs hw => ?_)
    obtain ⟨g_7, hd⟩ := zgd_some hd
    exact z_zret F hr hlk hw g_7 (zpr1 hd) (zpr2 hd) dX6_takeStop_13

def zjX6_readFix_133 (sh : zShp) (k0 : Nat)  (x1 : Int32) (s0 : Nat) (s1 : Int32) (s2 : Int32) (s3 : Int32) (M : zMem) : Option (Int32 × zMem) :=
  zgd (zin s1 (zlen sh s0)) <|
  zbd (zpI M s0 (s1.toNatClampNeg) (s2 + s3)) fun M_2 =>
  zgd (zin x1 (zlen sh (zR M_2 (zR M_2 k0 1) 5))) <|
  zbd (zpI M_2 (zR M_2 (zR M_2 k0 1) 5) (x1.toNatClampNeg) (vp_nar .boolean (1 : Int32))) fun M_6 =>
  zbd (zpI M_6 (zR M_6 k0 1) 8 ((zI M_6 (zR M_6 k0 1) 8) + (1 : Int32))) fun M_8 =>
  zob2 (zX6_takeStop sh k0 M_8) fun r_10 M_11 =>
  zgd (zisB r_10) <|
  some (r_10, M_11)
def zjX6_readFix_81 (sh : zShp) (k0 : Nat)  (x1 : Int32) (x2 : Int32) (M : zMem) : Option (Int32 × zMem) :=
  zob2 (zX6_takeNumber sh k0 (0 : Int32) (200 : Int32) M) fun r_14 M_15 =>
  if r_14 = 0 then (
  some ((0 : Int32), M_15))
  else (
  zgd (zin x1 (zlen sh (zR M_15 (zR M_15 (zR M_15 k0 1) 4) 0))) <|
  if x2 = 0 then (
  zjX6_readFix_133 sh k0 x1 (zR M_15 (zR M_15 (zR M_15 k0 1) 4) 1) x1 (zI M_15 (zR M_15 (zR M_15 (zR M_15 k0 1) 4) 0) x1.toNatClampNeg) (zI M_15 k0 6) M_15)
  else (
  zjX6_readFix_133 sh k0 x1 (zR M_15 (zR M_15 (zR M_15 k0 1) 4) 1) x1 (zI M_15 (zR M_15 (zR M_15 (zR M_15 k0 1) 4) 0) x1.toNatClampNeg) (-(zI M_15 k0 6)) M_15))
def zjX6_readFix_72 (sh : zShp) (k0 : Nat)  (x1 : Int32) (s0 : Int32) (M : zMem) : Option (Int32 × zMem) :=
  if s0 = 0 then (
  zjX6_readFix_81 sh k0 x1 s0 M)
  else (
  zob (zX6_step sh k0 M) fun M_27 =>
  zjX6_readFix_81 sh k0 x1 s0 M_27)
def zjX6_readFix_42 (sh : zShp) (k0 : Nat)  (M : zMem) : Option (Int32 × zMem) :=
  zob2 (zX6_takeNumber sh k0 (0 : Int32) (64 : Int32) M) fun r_29 M_30 =>
  if r_29 = 0 then (
  some ((0 : Int32), M_30))
  else (
  if (zI M_30 k0 3) = (3 : Int32) then (
  zjX6_readFix_72 sh k0 (zI M_30 k0 6) (1 : Int32) M_30)
  else (
  zjX6_readFix_72 sh k0 (zI M_30 k0 6) (0 : Int32) M_30))
def zX6_readFix (sh : zShp) (k0 : Nat) (M : zMem) : Option (Int32 × zMem) :=
  zob (zX6_step sh k0 M) fun M_34 =>
  if (zI M_34 k0 3) = (2 : Int32) then (
  if (64 : Int32) < (zI M_34 k0 5) then (
  zjX6_readFix_42 sh k0 M_34)
  else (
  zgd (zin (zI M_34 k0 5) (zlen sh (zR M_34 (zR M_34 k0 1) 5))) <|
  if (zI M_34 (zR M_34 (zR M_34 k0 1) 5) ((zI M_34 k0 5).toNatClampNeg)) = 0 then (
  zjX6_readFix_42 sh k0 M_34)
  else (
  zob2 (zX6_refuse sh k0 (5 : Int32) M_34) fun r_42 M_43 =>
  zgd (zisB r_42) <|
  some (r_42, M_43))))
  else (
  zjX6_readFix_42 sh k0 M_34)
set_option maxHeartbeats 4000000 in
set_option maxRecDepth 100000 in
theorem ztX6_readFix (l : Launch) (D : va_G) (cy : Nat → ClassId) (sh : zShp) (ad : Nat → Nat) {k0 : Nat} (h0 : zT sh k0 6) {M : zMem} {r : Int32} {M1 : zMem} (hd : zX6_readFix sh k0 M = some (r, M1)) : zCI l yX6_readFix cX6_readFix 3 .boolean { frames := 4, cells := 0, slots := 0, locals := 87 } [.ref (ad k0)] D cy sh ad M r M1 := by
  refine zci_of (by decide) (Nat.le_of_ble_eq_true rfl) (fun p e s m below meth c ls F hr hlk hl hw => ?_)
  have hx := F.1.1
  have hb := F.1.2.1
  have hl : lv_has ls 3 [(0, .ref (ad k0))] := hl
  have J133 : ∀ (x1 : Int32) (s0 : Nat) (s1 : Int32) (s2 : Int32) (s3 : Int32) (ts0 : zT sh s0 14) (M : zMem) (H : Heap) (locs : List Loc) (ls : Array Slot), lv_has ls 3 [(0, .ref (ad k0)), (1, .int x1)] → zWd D cy sh ad s M H locs → zjX6_readFix_133 sh k0  x1 s0 s1 s2 s3 M = some (r, M1) → W p l e { frames := 4, cells := 0, slots := 0, locals := 87 } s m ([.ref (ad k0)] : List Value).toArray below meth c H locs 0 0 (zQI below D cy sh ad s [.ref (ad k0)] r M1) (F0 m 133 ls [.int s3, .int s2, .int s1, .ref (ad s0)]) := by
    intro  x1 s0 s1 s2 s3 ts0 M H locs ls hl hw hd
    unfold zjX6_readFix_133 at hd
    refine lv_iadd hx hb dX6_readFix_133 ?_
    obtain ⟨g_1, hd⟩ := zgd_some hd
    refine z_iast F hw ts0 g_1 dX6_readFix_134 (fun H locs M_2 eM_2 hw => ?_)
    have hd := zbd_eq eM_2 hd
    refine lv_aload_n hx hb dX6_readFix_135 rfl (lv_at hl 0 rfl) ?_
    refine z_gR F hw h0 zc6 1 (by decide) rfl zf6_19 dX6_readFix_136 ?_
    have t_3 : zT sh (zR M_2 k0 1) 1 := hw.2.2.2.fld h0 1 1
    refine z_gR F hw t_3 zc1 5 (by decide) rfl zf6_154 dX6_readFix_139 ?_
    have t_4 : zT sh (zR M_2 (zR M_2 k0 1) 5) 16 := hw.2.2.2.fld t_3 5 16
    refine lv_iload_n hx hb dX6_readFix_142 rfl (lv_at hl 1 rfl) ?_
    refine lv_iconst (v := (1 : Int32)) hx hb dX6_readFix_143 (by decide) ?_
    obtain ⟨g_5, hd⟩ := zgd_some hd
    refine z_zast F hw t_4 g_5 dX6_readFix_144 (fun H locs M_6 eM_6 hw => ?_)
    have hd := zbd_eq eM_6 hd
    refine lv_aload_n hx hb dX6_readFix_145 rfl (lv_at hl 0 rfl) ?_
    refine z_gR F hw h0 zc6 1 (by decide) rfl zf6_19 dX6_readFix_146 ?_
    have t_7 : zT sh (zR M_6 k0 1) 1 := hw.2.2.2.fld h0 1 1
    refine lv_dup hx hb dX6_readFix_149 rfl ?_
    refine z_gI F hw t_7 zc1 8 (by decide) rfl zf6_170 dX6_readFix_150 ?_
    refine lv_iconst (v := (1 : Int32)) hx hb dX6_readFix_153 (by decide) ?_
    refine lv_iadd hx hb dX6_readFix_154 ?_
    refine z_pI F hw t_7 zc1 8 (by decide) rfl zf6_170 rfl rfl rfl dX6_readFix_155 (fun H locs M_8 eM_8 hw => ?_)
    have hd := zbd_eq eM_8 hd
    refine lv_aload_n hx hb dX6_readFix_158 rfl (lv_at hl 0 rfl) ?_
    obtain ⟨r_10, M_11, hc_9, hd⟩ := zob2_some hd
    refine z_cvI F hw hl.1 (As := []) (rest := []) (ztX6_takeStop l D cy sh ad h0 hc_9) zyX6_takeStop h0 zc6 zk6_118 ⟨rfl, rfl⟩ ⟨by decide, by decide⟩ rfl rfl (Nat.le_of_ble_eq_true rfl) dX6_readFix_159 (fun H locs hw => ?_)
    obtain ⟨g_12, hd⟩ := zgd_some hd
    exact z_zret F hr hlk hw g_12 (zpr1 hd) (zpr2 hd) dX6_readFix_162
  have J81 : ∀ (x1 : Int32) (x2 : Int32) (M : zMem) (H : Heap) (locs : List Loc) (ls : Array Slot), lv_has ls 3 [(0, .ref (ad k0)), (1, .int x1), (2, .int x2)] → zWd D cy sh ad s M H locs → zjX6_readFix_81 sh k0  x1 x2 M = some (r, M1) → W p l e { frames := 4, cells := 0, slots := 0, locals := 87 } s m ([.ref (ad k0)] : List Value).toArray below meth c H locs 0 0 (zQI below D cy sh ad s [.ref (ad k0)] r M1) (F0 m 81 ls []) := by
    intro  x1 x2 M H locs ls hl hw hd
    unfold zjX6_readFix_81 at hd
    refine lv_aload_n hx hb dX6_readFix_81 rfl (lv_at hl 0 rfl) ?_
    refine lv_iconst (v := (0 : Int32)) hx hb dX6_readFix_82 (by decide) ?_
    refine lv_sipush (v := (200 : Int32)) hx hb dX6_readFix_83 (by decide) ?_
    obtain ⟨r_14, M_15, hc_13, hd⟩ := zob2_some hd
    refine z_cvI F hw hl.1 (As := [.int (0 : Int32), .int (200 : Int32)]) (rest := []) (ztX6_takeNumber l D cy sh ad h0 hc_13) zyX6_takeNumber h0 zc6 zk6_101 ⟨rfl, rfl⟩ ⟨by decide, by decide⟩ rfl rfl (Nat.le_of_ble_eq_true rfl) dX6_readFix_86 (fun H locs hw => ?_)
    refine lv_if_ne (tgt := 94) hx hb dX6_readFix_89 (by decide) (fun c_16 => ?_) (fun c_16 => ?_)
    · have hd := zif_neg c_16 hd
      refine lv_aload_n hx hb dX6_readFix_94 rfl (lv_at hl 0 rfl) ?_
      refine z_gR F hw h0 zc6 1 (by decide) rfl zf6_19 dX6_readFix_95 ?_
      have t_17 : zT sh (zR M_15 k0 1) 1 := hw.2.2.2.fld h0 1 1
      refine z_gR F hw t_17 zc1 4 (by decide) rfl zf6_158 dX6_readFix_98 ?_
      have t_18 : zT sh (zR M_15 (zR M_15 k0 1) 4) 9 := hw.2.2.2.fld t_17 4 9
      refine z_gR F hw t_18 zc9 1 (by decide) rfl zf6_162 dX6_readFix_101 ?_
      have t_19 : zT sh (zR M_15 (zR M_15 (zR M_15 k0 1) 4) 1) 14 := hw.2.2.2.fld t_18 1 14
      refine lv_iload_n hx hb dX6_readFix_104 rfl (lv_at hl 1 rfl) ?_
      refine lv_aload_n hx hb dX6_readFix_105 rfl (lv_at hl 0 rfl) ?_
      refine z_gR F hw h0 zc6 1 (by decide) rfl zf6_19 dX6_readFix_106 ?_
      have t_20 : zT sh (zR M_15 k0 1) 1 := hw.2.2.2.fld h0 1 1
      refine z_gR F hw t_20 zc1 4 (by decide) rfl zf6_158 dX6_readFix_109 ?_
      have t_21 : zT sh (zR M_15 (zR M_15 k0 1) 4) 9 := hw.2.2.2.fld t_20 4 9
      refine z_gR F hw t_21 zc9 0 (by decide) rfl zf6_167 dX6_readFix_112 ?_
      have t_22 : zT sh (zR M_15 (zR M_15 (zR M_15 k0 1) 4) 0) 14 := hw.2.2.2.fld t_21 0 14
      refine lv_iload_n hx hb dX6_readFix_115 rfl (lv_at hl 1 rfl) ?_
      obtain ⟨g_23, hd⟩ := zgd_some hd
      refine z_iald F hw t_22 g_23 dX6_readFix_116 ?_
      refine lv_iload_n hx hb dX6_readFix_117 rfl (lv_at hl 2 rfl) ?_
      refine lv_if_eq (tgt := 129) hx hb dX6_readFix_118 (by decide) (fun c_24 => ?_) (fun c_24 => ?_)
      · have hd := zif_pos c_24 hd
        refine lv_aload_n hx hb dX6_readFix_129 rfl (lv_at hl 0 rfl) ?_
        refine z_gI F hw h0 zc6 6 (by decide) rfl zf6_105 dX6_readFix_130 ?_
        exact J133 _ _ _ _ _ t_19 _ _ _ _ (lv_sub hl [0, 1] rfl) hw hd
      · have hd := zif_neg c_24 hd
        refine lv_aload_n hx hb dX6_readFix_121 rfl (lv_at hl 0 rfl) ?_
        refine z_gI F hw h0 zc6 6 (by decide) rfl zf6_105 dX6_readFix_122 ?_
        refine lv_ineg hx hb dX6_readFix_125 ?_
        refine lv_goto (tgt := 133) hx hb dX6_readFix_126 (by decide) ?_
        exact J133 _ _ _ _ _ t_19 _ _ _ _ (lv_sub hl [0, 1] rfl) hw hd
    · have hd := zif_pos c_16 hd
      refine lv_iconst (v := (0 : Int32)) hx hb dX6_readFix_92 (by decide) ?_
      exact z_zret F hr hlk hw (by decide) (zpr1 hd) (zpr2 hd) dX6_readFix_93
  have J72 : ∀ (x1 : Int32) (s0 : Int32) (M : zMem) (H : Heap) (locs : List Loc) (ls : Array Slot), lv_has ls 3 [(0, .ref (ad k0)), (1, .int x1)] → zWd D cy sh ad s M H locs → zjX6_readFix_72 sh k0  x1 s0 M = some (r, M1) → W p l e { frames := 4, cells := 0, slots := 0, locals := 87 } s m ([.ref (ad k0)] : List Value).toArray below meth c H locs 0 0 (zQI below D cy sh ad s [.ref (ad k0)] r M1) (F0 m 72 ls [.int s0]) := by
    intro  x1 s0 M H locs ls hl hw hd
    unfold zjX6_readFix_72 at hd
    refine lv_istore_n (lv' := [(2, .int s0), (0, .ref (ad k0)), (1, .int x1)]) hx hb dX6_readFix_72 rfl hl (by decide) rfl (fun ls hl => ?_)
    refine lv_iload_n hx hb dX6_readFix_73 rfl (lv_at hl 0 rfl) ?_
    refine lv_if_eq (tgt := 81) hx hb dX6_readFix_74 (by decide) (fun c_25 => ?_) (fun c_25 => ?_)
    · have hd := zif_pos c_25 hd
      exact J81 _ _ _ _ _ _ (lv_sub hl [1, 2, 0] rfl) hw hd
    · have hd := zif_neg c_25 hd
      refine lv_aload_n hx hb dX6_readFix_77 rfl (lv_at hl 1 rfl) ?_
      obtain ⟨M_27, hc_26, hd⟩ := zob_some hd
      refine z_cvV F hw hl.1 (As := []) (rest := []) (ztX6_step l D cy sh ad h0 hc_26) zyX6_step h0 zc6 zk6_34 ⟨rfl, rfl⟩ ⟨by decide, by decide⟩ rfl rfl (Nat.le_of_ble_eq_true rfl) dX6_readFix_78 (fun H locs hw => ?_)
      exact J81 _ _ _ _ _ _ (lv_sub hl [1, 2, 0] rfl) hw hd
  have J42 : ∀ (M : zMem) (H : Heap) (locs : List Loc) (ls : Array Slot), lv_has ls 3 [(0, .ref (ad k0))] → zWd D cy sh ad s M H locs → zjX6_readFix_42 sh k0  M = some (r, M1) → W p l e { frames := 4, cells := 0, slots := 0, locals := 87 } s m ([.ref (ad k0)] : List Value).toArray below meth c H locs 0 0 (zQI below D cy sh ad s [.ref (ad k0)] r M1) (F0 m 42 ls []) := by
    intro  M H locs ls hl hw hd
    unfold zjX6_readFix_42 at hd
    refine lv_aload_n hx hb dX6_readFix_42 rfl (lv_at hl 0 rfl) ?_
    refine lv_iconst (v := (0 : Int32)) hx hb dX6_readFix_43 (by decide) ?_
    refine lv_bipush (v := (64 : Int32)) hx hb dX6_readFix_44 (by decide) ?_
    obtain ⟨r_29, M_30, hc_28, hd⟩ := zob2_some hd
    refine z_cvI F hw hl.1 (As := [.int (0 : Int32), .int (64 : Int32)]) (rest := []) (ztX6_takeNumber l D cy sh ad h0 hc_28) zyX6_takeNumber h0 zc6 zk6_101 ⟨rfl, rfl⟩ ⟨by decide, by decide⟩ rfl rfl (Nat.le_of_ble_eq_true rfl) dX6_readFix_46 (fun H locs hw => ?_)
    refine lv_if_ne (tgt := 54) hx hb dX6_readFix_49 (by decide) (fun c_31 => ?_) (fun c_31 => ?_)
    · have hd := zif_neg c_31 hd
      refine lv_aload_n hx hb dX6_readFix_54 rfl (lv_at hl 0 rfl) ?_
      refine z_gI F hw h0 zc6 6 (by decide) rfl zf6_105 dX6_readFix_55 ?_
      refine lv_istore_n (lv' := [(1, .int (zI M_30 k0 6)), (0, .ref (ad k0))]) hx hb dX6_readFix_58 rfl hl (by decide) rfl (fun ls hl => ?_)
      refine lv_aload_n hx hb dX6_readFix_59 rfl (lv_at hl 1 rfl) ?_
      refine z_gI F hw h0 zc6 3 (by decide) rfl zf6_37 dX6_readFix_60 ?_
      refine lv_iconst (v := (3 : Int32)) hx hb dX6_readFix_63 (by decide) ?_
      refine lv_icmp_ne (tgt := 71) hx hb dX6_readFix_64 (by decide) (fun c_32 => ?_) (fun c_32 => ?_)
      · have hd := zif_neg c_32 hd
        refine lv_iconst (v := (0 : Int32)) hx hb dX6_readFix_71 (by decide) ?_
        exact J72 _ _ _ _ _ _ (lv_sub hl [1, 0] rfl) hw hd
      · have hd := zif_pos c_32 hd
        refine lv_iconst (v := (1 : Int32)) hx hb dX6_readFix_67 (by decide) ?_
        refine lv_goto (tgt := 72) hx hb dX6_readFix_68 (by decide) ?_
        exact J72 _ _ _ _ _ _ (lv_sub hl [1, 0] rfl) hw hd
    · have hd := zif_pos c_31 hd
      refine lv_iconst (v := (0 : Int32)) hx hb dX6_readFix_52 (by decide) ?_
      exact z_zret F hr hlk hw (by decide) (zpr1 hd) (zpr2 hd) dX6_readFix_53
  unfold zX6_readFix at hd
  refine lv_aload_n hx hb dX6_readFix_0 rfl (lv_at hl 0 rfl) ?_
  obtain ⟨M_34, hc_33, hd⟩ := zob_some hd
  refine z_cvV F hw hl.1 (As := []) (rest := []) (ztX6_step l D cy sh ad h0 hc_33) zyX6_step h0 zc6 zk6_34 ⟨rfl, rfl⟩ ⟨by decide, by decide⟩ rfl rfl (Nat.le_of_ble_eq_true rfl) dX6_readFix_1 (fun H locs hw => ?_)
  refine lv_aload_n hx hb dX6_readFix_4 rfl (lv_at hl 0 rfl) ?_
  refine z_gI F hw h0 zc6 3 (by decide) rfl zf6_37 dX6_readFix_5 ?_
  refine lv_iconst (v := (2 : Int32)) hx hb dX6_readFix_8 (by decide) ?_
  refine lv_icmp_ne (tgt := 42) hx hb dX6_readFix_9 (by decide) (fun c_35 => ?_) (fun c_35 => ?_)
  · have hd := zif_neg c_35 hd
    exact J42 _ _ _ _ (lv_sub hl [0] rfl) hw hd
  · have hd := zif_pos c_35 hd
    refine lv_aload_n hx hb dX6_readFix_12 rfl (lv_at hl 0 rfl) ?_
    refine z_gI F hw h0 zc6 5 (by decide) rfl zf6_80 dX6_readFix_13 ?_
    refine lv_bipush (v := (64 : Int32)) hx hb dX6_readFix_16 (by decide) ?_
    refine lv_icmp_gt (tgt := 42) hx hb dX6_readFix_18 (by decide) (fun c_36 => ?_) (fun c_36 => ?_)
    · have hd := zif_pos c_36 hd
      exact J42 _ _ _ _ (lv_sub hl [0] rfl) hw hd
    · have hd := zif_neg c_36 hd
      refine lv_aload_n hx hb dX6_readFix_21 rfl (lv_at hl 0 rfl) ?_
      refine z_gR F hw h0 zc6 1 (by decide) rfl zf6_19 dX6_readFix_22 ?_
      have t_37 : zT sh (zR M_34 k0 1) 1 := hw.2.2.2.fld h0 1 1
      refine z_gR F hw t_37 zc1 5 (by decide) rfl zf6_154 dX6_readFix_25 ?_
      have t_38 : zT sh (zR M_34 (zR M_34 k0 1) 5) 16 := hw.2.2.2.fld t_37 5 16
      refine lv_aload_n hx hb dX6_readFix_28 rfl (lv_at hl 0 rfl) ?_
      refine z_gI F hw h0 zc6 5 (by decide) rfl zf6_80 dX6_readFix_29 ?_
      obtain ⟨g_39, hd⟩ := zgd_some hd
      refine z_zald F hw t_38 g_39 dX6_readFix_32 ?_
      refine lv_if_eq (tgt := 42) hx hb dX6_readFix_33 (by decide) (fun c_40 => ?_) (fun c_40 => ?_)
      · have hd := zif_pos c_40 hd
        exact J42 _ _ _ _ (lv_sub hl [0] rfl) hw hd
      · have hd := zif_neg c_40 hd
        refine lv_aload_n hx hb dX6_readFix_36 rfl (lv_at hl 0 rfl) ?_
        refine lv_iconst (v := (5 : Int32)) hx hb dX6_readFix_37 (by decide) ?_
        obtain ⟨r_42, M_43, hc_41, hd⟩ := zob2_some hd
        refine z_cvI F hw hl.1 (As := [.int (5 : Int32)]) (rest := []) (ztX6_refuse l D cy sh ad h0 hc_41) zyX6_refuse h0 zc6 zk6_70 ⟨rfl, rfl⟩ ⟨by decide, by decide⟩ rfl rfl (Nat.le_of_ble_eq_true rfl) dX6_readFix_38 (fun H locs hw => ?_)
        obtain ⟨g_44, hd⟩ := zgd_some hd
        exact z_zret F hr hlk hw g_44 (zpr1 hd) (zpr2 hd) dX6_readFix_41
