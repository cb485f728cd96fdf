theorem dX11_shakeBy_0 : decode cX11_shakeBy 0 = .ok (.iconst 0, 1) := by decide +kernel
theorem dX11_shakeBy_1 : decode cX11_shakeBy 1 = .ok (.istore 4, 2) := by decide +kernel
theorem dX11_shakeBy_3 : decode cX11_shakeBy 3 = .ok (.aload_n 0, 1) := by decide +kernel
theorem dX11_shakeBy_4 : decode cX11_shakeBy 4 = .ok (.getfield 71, 3) := by decide +kernel
theorem dX11_shakeBy_7 : decode cX11_shakeBy 7 = .ok (.aload_n 0, 1) := by decide +kernel
theorem dX11_shakeBy_8 : decode cX11_shakeBy 8 = .ok (.getfield 40, 3) := by decide +kernel
theorem dX11_shakeBy_11 : decode cX11_shakeBy 11 = .ok (.getfield 308, 3) := by decide +kernel
theorem dX11_shakeBy_14 : decode cX11_shakeBy 14 = .ok (.iload_n 1, 1) := by decide +kernel
theorem dX11_shakeBy_15 : decode cX11_shakeBy 15 = .ok (.aaload, 1) := by decide +kernel
theorem dX11_shakeBy_16 : decode cX11_shakeBy 16 = .ok (.getfield 315, 3) := by decide +kernel
theorem dX11_shakeBy_19 : decode cX11_shakeBy 19 = .ok (.iconst 0, 1) := by decide +kernel
theorem dX11_shakeBy_20 : decode cX11_shakeBy 20 = .ok (.invokevirtual 371, 3) := by decide +kernel
theorem dX11_shakeBy_23 : decode cX11_shakeBy 23 = .ok (.iconst 0, 1) := by decide +kernel
theorem dX11_shakeBy_24 : decode cX11_shakeBy 24 = .ok (.istore 5, 2) := by decide +kernel
theorem dX11_shakeBy_26 : decode cX11_shakeBy 26 = .ok (.iload 5, 2) := by decide +kernel
theorem dX11_shakeBy_28 : decode cX11_shakeBy 28 = .ok (.iload_n 3, 1) := by decide +kernel
theorem dX11_shakeBy_29 : decode cX11_shakeBy 29 = .ok (.if_icmp .ge 62, 3) := by decide +kernel
theorem dX11_shakeBy_32 : decode cX11_shakeBy 32 = .ok (.aload_n 0, 1) := by decide +kernel
theorem dX11_shakeBy_33 : decode cX11_shakeBy 33 = .ok (.getfield 71, 3) := by decide +kernel
theorem dX11_shakeBy_36 : decode cX11_shakeBy 36 = .ok (.dup, 1) := by decide +kernel
theorem dX11_shakeBy_37 : decode cX11_shakeBy 37 = .ok (.getfield 321, 3) := by decide +kernel
theorem dX11_shakeBy_40 : decode cX11_shakeBy 40 = .ok (.iload_n 2, 1) := by decide +kernel
theorem dX11_shakeBy_41 : decode cX11_shakeBy 41 = .ok (.iadd, 1) := by decide +kernel
theorem dX11_shakeBy_42 : decode cX11_shakeBy 42 = .ok (.putfield 321, 3) := by decide +kernel
theorem dX11_shakeBy_45 : decode cX11_shakeBy 45 = .ok (.aload_n 0, 1) := by decide +kernel
theorem dX11_shakeBy_46 : decode cX11_shakeBy 46 = .ok (.getfield 71, 3) := by decide +kernel
theorem dX11_shakeBy_49 : decode cX11_shakeBy 49 = .ok (.aload_n 0, 1) := by decide +kernel
theorem dX11_shakeBy_50 : decode cX11_shakeBy 50 = .ok (.getfield 12, 3) := by decide +kernel
theorem dX11_shakeBy_53 : decode cX11_shakeBy 53 = .ok (.getfield 330, 3) := by decide +kernel
theorem dX11_shakeBy_56 : decode cX11_shakeBy 56 = .ok (.iload_n 1, 1) := by decide +kernel
theorem dX11_shakeBy_57 : decode cX11_shakeBy 57 = .ok (.aaload, 1) := by decide +kernel
theorem dX11_shakeBy_58 : decode cX11_shakeBy 58 = .ok (.aload_n 0, 1) := by decide +kernel
theorem dX11_shakeBy_59 : decode cX11_shakeBy 59 = .ok (.getfield 12, 3) := by decide +kernel
theorem dX11_shakeBy_62 : decode cX11_shakeBy 62 = .ok (.getfield 128, 3) := by decide +kernel
theorem dX11_shakeBy_65 : decode cX11_shakeBy 65 = .ok (.invokevirtual 375, 3) := by decide +kernel
theorem dX11_shakeBy_68 : decode cX11_shakeBy 68 = .ok (.iload 4, 2) := by decide +kernel
theorem dX11_shakeBy_70 : decode cX11_shakeBy 70 = .ok (.aload_n 0, 1) := by decide +kernel
theorem dX11_shakeBy_71 : decode cX11_shakeBy 71 = .ok (.getfield 71, 3) := by decide +kernel
theorem dX11_shakeBy_74 : decode cX11_shakeBy 74 = .ok (.invokevirtual 352, 3) := by decide +kernel
theorem dX11_shakeBy_77 : decode cX11_shakeBy 77 = .ok (.invokestatic 230, 3) := by decide +kernel
theorem dX11_shakeBy_80 : decode cX11_shakeBy 80 = .ok (.invokestatic 235, 3) := by decide +kernel
theorem dX11_shakeBy_83 : decode cX11_shakeBy 83 = .ok (.istore 4, 2) := by decide +kernel
theorem dX11_shakeBy_85 : decode cX11_shakeBy 85 = .ok (.iinc 5 1, 3) := by decide +kernel
theorem dX11_shakeBy_88 : decode cX11_shakeBy 88 = .ok (.goto (-62), 3) := by decide +kernel
theorem dX11_shakeBy_91 : decode cX11_shakeBy 91 = .ok (.iload 4, 2) := by decide +kernel
theorem dX11_shakeBy_93 : decode cX11_shakeBy 93 = .ok (.ireturn, 1) := by decide +kernel
theorem dX11_shake_0 : decode cX11_shake 0 = .ok (.aload_n 0, 1) := by decide +kernel
theorem dX11_shake_1 : decode cX11_shake 1 = .ok (.iload_n 1, 1) := by decide +kernel
theorem dX11_shake_2 : decode cX11_shake 2 = .ok (.invokevirtual 194, 3) := by decide +kernel
theorem dX11_shake_5 : decode cX11_shake 5 = .ok (.ifCond .eq 24, 3) := by decide +kernel
theorem dX11_shake_8 : decode cX11_shake 8 = .ok (.iload_n 2, 1) := by decide +kernel
theorem dX11_shake_9 : decode cX11_shake 9 = .ok (.iconst 0, 1) := by decide +kernel
theorem dX11_shake_10 : decode cX11_shake 10 = .ok (.bipush 60, 2) := by decide +kernel
theorem dX11_shake_12 : decode cX11_shake 12 = .ok (.invokestatic 123, 3) := by decide +kernel
theorem dX11_shake_15 : decode cX11_shake 15 = .ok (.ifCond .eq 14, 3) := by decide +kernel
theorem dX11_shake_18 : decode cX11_shake 18 = .ok (.iload_n 3, 1) := by decide +kernel
theorem dX11_shake_19 : decode cX11_shake 19 = .ok (.iconst 1, 1) := by decide +kernel
theorem dX11_shake_20 : decode cX11_shake 20 = .ok (.sipush 500, 3) := by decide +kernel
theorem dX11_shake_23 : decode cX11_shake 23 = .ok (.invokestatic 123, 3) := by decide +kernel
theorem dX11_shake_26 : decode cX11_shake 26 = .ok (.ifCond .ne 5, 3) := by decide +kernel
theorem dX11_shake_29 : decode cX11_shake 29 = .ok (.iconst (-1), 1) := by decide +kernel
theorem dX11_shake_30 : decode cX11_shake 30 = .ok (.ireturn, 1) := by decide +kernel
theorem dX11_shake_31 : decode cX11_shake 31 = .ok (.aload_n 0, 1) := by decide +kernel
theorem dX11_shake_32 : decode cX11_shake 32 = .ok (.iload_n 1, 1) := by decide +kernel
theorem dX11_shake_33 : decode cX11_shake 33 = .ok (.iload_n 2, 1) := by decide +kernel
theorem dX11_shake_34 : decode cX11_shake 34 = .ok (.iload_n 3, 1) := by decide +kernel
theorem dX11_shake_35 : decode cX11_shake 35 = .ok (.invokevirtual 386, 3) := by decide +kernel
theorem dX11_shake_38 : decode cX11_shake 38 = .ok (.ireturn, 1) := by decide +kernel
theorem dX11_worst_0 : decode cX11_worst 0 = .ok (.aload_n 0, 1) := by decide +kernel
theorem dX11_worst_1 : decode cX11_worst 1 = .ok (.iload_n 1, 1) := by decide +kernel
theorem dX11_worst_2 : decode cX11_worst 2 = .ok (.invokevirtual 194, 3) := by decide +kernel
theorem dX11_worst_5 : decode cX11_worst 5 = .ok (.ifCond .eq 13, 3) := by decide +kernel
theorem dX11_worst_8 : decode cX11_worst 8 = .ok (.iload_n 2, 1) := by decide +kernel
theorem dX11_worst_9 : decode cX11_worst 9 = .ok (.iconst 1, 1) := by decide +kernel
theorem dX11_worst_10 : decode cX11_worst 10 = .ok (.bipush 100, 2) := by decide +kernel
theorem dX11_worst_12 : decode cX11_worst 12 = .ok (.invokestatic 123, 3) := by decide +kernel
theorem dX11_worst_15 : decode cX11_worst 15 = .ok (.ifCond .ne 5, 3) := by decide +kernel
theorem dX11_worst_18 : decode cX11_worst 18 = .ok (.iconst (-1), 1) := by decide +kernel
theorem dX11_worst_19 : decode cX11_worst 19 = .ok (.ireturn, 1) := by decide +kernel
theorem dX11_worst_20 : decode cX11_worst 20 = .ok (.iconst (-1), 1) := by decide +kernel
theorem dX11_worst_21 : decode cX11_worst 21 = .ok (.istore_n 3, 1) := by decide +kernel
theorem dX11_worst_22 : decode cX11_worst 22 = .ok (.iconst (-1), 1) := by decide +kernel
theorem dX11_worst_23 : decode cX11_worst 23 = .ok (.istore 4, 2) := by decide +kernel
theorem dX11_worst_25 : decode cX11_worst 25 = .ok (.iconst 1, 1) := by decide +kernel
theorem dX11_worst_26 : decode cX11_worst 26 = .ok (.istore 5, 2) := by decide +kernel
theorem dX11_worst_28 : decode cX11_worst 28 = .ok (.iload 5, 2) := by decide +kernel
theorem dX11_worst_30 : decode cX11_worst 30 = .ok (.aload_n 0, 1) := by decide +kernel
theorem dX11_worst_31 : decode cX11_worst 31 = .ok (.getfield 12, 3) := by decide +kernel
theorem dX11_worst_34 : decode cX11_worst 34 = .ok (.getfield 330, 3) := by decide +kernel
theorem dX11_worst_37 : decode cX11_worst 37 = .ok (.iload_n 1, 1) := by decide +kernel
theorem dX11_worst_38 : decode cX11_worst 38 = .ok (.aaload, 1) := by decide +kernel
theorem dX11_worst_39 : decode cX11_worst 39 = .ok (.getfield 334, 3) := by decide +kernel
theorem dX11_worst_42 : decode cX11_worst 42 = .ok (.if_icmp .gt 33, 3) := by decide +kernel
theorem dX11_worst_45 : decode cX11_worst 45 = .ok (.aload_n 0, 1) := by decide +kernel
theorem dX11_worst_46 : decode cX11_worst 46 = .ok (.iload_n 1, 1) := by decide +kernel
theorem dX11_worst_47 : decode cX11_worst 47 = .ok (.iload 5, 2) := by decide +kernel
theorem dX11_worst_49 : decode cX11_worst 49 = .ok (.iload_n 2, 1) := by decide +kernel
theorem dX11_worst_50 : decode cX11_worst 50 = .ok (.invokevirtual 386, 3) := by decide +kernel
theorem dX11_worst_53 : decode cX11_worst 53 = .ok (.istore 6, 2) := by decide +kernel
theorem dX11_worst_55 : decode cX11_worst 55 = .ok (.iload 6, 2) := by decide +kernel
theorem dX11_worst_57 : decode cX11_worst 57 = .ok (.iload 4, 2) := by decide +kernel
theorem dX11_worst_59 : decode cX11_worst 59 = .ok (.if_icmp .le 10, 3) := by decide +kernel
theorem dX11_worst_62 : decode cX11_worst 62 = .ok (.iload 6, 2) := by decide +kernel
theorem dX11_worst_64 : decode cX11_worst 64 = .ok (.istore 4, 2) := by decide +kernel
theorem dX11_worst_66 : decode cX11_worst 66 = .ok (.iload 5, 2) := by decide +kernel
theorem dX11_worst_68 : decode cX11_worst 68 = .ok (.istore_n 3, 1) := by decide +kernel
theorem dX11_worst_69 : decode cX11_worst 69 = .ok (.iinc 5 1, 3) := by decide +kernel
theorem dX11_worst_72 : decode cX11_worst 72 = .ok (.goto (-44), 3) := by decide +kernel
theorem dX11_worst_75 : decode cX11_worst 75 = .ok (.iload_n 3, 1) := by decide +kernel
theorem dX11_worst_76 : decode cX11_worst 76 = .ok (.ireturn, 1) := by decide +kernel
theorem dX11_unsafe_0 : decode cX11_unsafe 0 = .ok (.aload_n 0, 1) := by decide +kernel
theorem dX11_unsafe_1 : decode cX11_unsafe 1 = .ok (.iload_n 1, 1) := by decide +kernel
theorem dX11_unsafe_2 : decode cX11_unsafe 2 = .ok (.invokevirtual 194, 3) := by decide +kernel
theorem dX11_unsafe_5 : decode cX11_unsafe 5 = .ok (.ifCond .eq 13, 3) := by decide +kernel
theorem dX11_unsafe_8 : decode cX11_unsafe 8 = .ok (.iload_n 2, 1) := by decide +kernel
theorem dX11_unsafe_9 : decode cX11_unsafe 9 = .ok (.iconst 1, 1) := by decide +kernel
theorem dX11_unsafe_10 : decode cX11_unsafe 10 = .ok (.bipush 100, 2) := by decide +kernel
theorem dX11_unsafe_12 : decode cX11_unsafe 12 = .ok (.invokestatic 123, 3) := by decide +kernel
theorem dX11_unsafe_15 : decode cX11_unsafe 15 = .ok (.ifCond .ne 5, 3) := by decide +kernel
theorem dX11_unsafe_18 : decode cX11_unsafe 18 = .ok (.iconst (-1), 1) := by decide +kernel
theorem dX11_unsafe_19 : decode cX11_unsafe 19 = .ok (.ireturn, 1) := by decide +kernel
theorem dX11_unsafe_20 : decode cX11_unsafe 20 = .ok (.iconst 0, 1) := by decide +kernel
theorem dX11_unsafe_21 : decode cX11_unsafe 21 = .ok (.istore_n 3, 1) := by decide +kernel
theorem dX11_unsafe_22 : decode cX11_unsafe 22 = .ok (.iconst 1, 1) := by decide +kernel
theorem dX11_unsafe_23 : decode cX11_unsafe 23 = .ok (.istore 4, 2) := by decide +kernel
theorem dX11_unsafe_25 : decode cX11_unsafe 25 = .ok (.iload 4, 2) := by decide +kernel
theorem dX11_unsafe_27 : decode cX11_unsafe 27 = .ok (.aload_n 0, 1) := by decide +kernel
theorem dX11_unsafe_28 : decode cX11_unsafe 28 = .ok (.getfield 12, 3) := by decide +kernel
theorem dX11_unsafe_31 : decode cX11_unsafe 31 = .ok (.getfield 330, 3) := by decide +kernel
theorem dX11_unsafe_34 : decode cX11_unsafe 34 = .ok (.iload_n 1, 1) := by decide +kernel
theorem dX11_unsafe_35 : decode cX11_unsafe 35 = .ok (.aaload, 1) := by decide +kernel
theorem dX11_unsafe_36 : decode cX11_unsafe 36 = .ok (.getfield 334, 3) := by decide +kernel
theorem dX11_unsafe_39 : decode cX11_unsafe 39 = .ok (.if_icmp .gt 39, 3) := by decide +kernel
theorem dX11_unsafe_42 : decode cX11_unsafe 42 = .ok (.aload_n 0, 1) := by decide +kernel
theorem dX11_unsafe_43 : decode cX11_unsafe 43 = .ok (.getfield 12, 3) := by decide +kernel
theorem dX11_unsafe_46 : decode cX11_unsafe 46 = .ok (.iload_n 1, 1) := by decide +kernel
theorem dX11_unsafe_47 : decode cX11_unsafe 47 = .ok (.iload 4, 2) := by decide +kernel
theorem dX11_unsafe_49 : decode cX11_unsafe 49 = .ok (.invokevirtual 358, 3) := by decide +kernel
theorem dX11_unsafe_52 : decode cX11_unsafe 52 = .ok (.ifCond .ne 20, 3) := by decide +kernel
theorem dX11_unsafe_55 : decode cX11_unsafe 55 = .ok (.aload_n 0, 1) := by decide +kernel
theorem dX11_unsafe_56 : decode cX11_unsafe 56 = .ok (.iload_n 1, 1) := by decide +kernel
theorem dX11_unsafe_57 : decode cX11_unsafe 57 = .ok (.iload 4, 2) := by decide +kernel
theorem dX11_unsafe_59 : decode cX11_unsafe 59 = .ok (.iload_n 2, 1) := by decide +kernel
theorem dX11_unsafe_60 : decode cX11_unsafe 60 = .ok (.invokevirtual 386, 3) := by decide +kernel
theorem dX11_unsafe_63 : decode cX11_unsafe 63 = .ok (.sipush 1024, 3) := by decide +kernel
theorem dX11_unsafe_66 : decode cX11_unsafe 66 = .ok (.if_icmp .lt 6, 3) := by decide +kernel
theorem dX11_unsafe_69 : decode cX11_unsafe 69 = .ok (.iinc 3 1, 3) := by decide +kernel
theorem dX11_unsafe_72 : decode cX11_unsafe 72 = .ok (.iinc 4 1, 3) := by decide +kernel
theorem dX11_unsafe_75 : decode cX11_unsafe 75 = .ok (.goto (-50), 3) := by decide +kernel
theorem dX11_unsafe_78 : decode cX11_unsafe 78 = .ok (.iload_n 3, 1) := by decide +kernel
theorem dX11_unsafe_79 : decode cX11_unsafe 79 = .ok (.ireturn, 1) := by decide +kernel
theorem dX11_coil_0 : decode cX11_coil 0 = .ok (.iload_n 1, 1) := by decide +kernel
theorem dX11_coil_1 : decode cX11_coil 1 = .ok (.iconst 0, 1) := by decide +kernel
theorem dX11_coil_2 : decode cX11_coil 2 = .ok (.sipush 2000, 3) := by decide +kernel
theorem dX11_coil_5 : decode cX11_coil 5 = .ok (.invokestatic 123, 3) := by decide +kernel
theorem dX11_coil_8 : decode cX11_coil 8 = .ok (.ifCond .eq 21, 3) := by decide +kernel
theorem dX11_coil_11 : decode cX11_coil 11 = .ok (.iload_n 2, 1) := by decide +kernel
theorem dX11_coil_12 : decode cX11_coil 12 = .ok (.invokestatic 238, 3) := by decide +kernel
theorem dX11_coil_15 : decode cX11_coil 15 = .ok (.ifCond .eq 14, 3) := by decide +kernel
theorem dX11_coil_18 : decode cX11_coil 18 = .ok (.iload_n 3, 1) := by decide +kernel
theorem dX11_coil_19 : decode cX11_coil 19 = .ok (.iconst 0, 1) := by decide +kernel
theorem dX11_coil_20 : decode cX11_coil 20 = .ok (.sipush 1000, 3) := by decide +kernel
theorem dX11_coil_23 : decode cX11_coil 23 = .ok (.invokestatic 123, 3) := by decide +kernel
theorem dX11_coil_26 : decode cX11_coil 26 = .ok (.ifCond .ne 5, 3) := by decide +kernel
theorem dX11_coil_29 : decode cX11_coil 29 = .ok (.iconst (-1), 1) := by decide +kernel
theorem dX11_coil_30 : decode cX11_coil 30 = .ok (.ireturn, 1) := by decide +kernel
theorem dX11_coil_31 : decode cX11_coil 31 = .ok (.aload_n 0, 1) := by decide +kernel
theorem dX11_coil_32 : decode cX11_coil 32 = .ok (.getfield 78, 3) := by decide +kernel
theorem dX11_coil_35 : decode cX11_coil 35 = .ok (.aload_n 0, 1) := by decide +kernel
theorem dX11_coil_36 : decode cX11_coil 36 = .ok (.getfield 12, 3) := by decide +kernel
theorem dX11_coil_39 : decode cX11_coil 39 = .ok (.iload_n 2, 1) := by decide +kernel
theorem dX11_coil_40 : decode cX11_coil 40 = .ok (.invokevirtual 241, 3) := by decide +kernel
theorem dX11_coil_43 : decode cX11_coil 43 = .ok (.iconst 0, 1) := by decide +kernel
theorem dX11_coil_44 : decode cX11_coil 44 = .ok (.istore 4, 2) := by decide +kernel
theorem dX11_coil_46 : decode cX11_coil 46 = .ok (.iload 4, 2) := by decide +kernel
theorem dX11_coil_48 : decode cX11_coil 48 = .ok (.iload_n 3, 1) := by decide +kernel
theorem dX11_coil_49 : decode cX11_coil 49 = .ok (.if_icmp .ge 17, 3) := by decide +kernel
theorem dX11_coil_52 : decode cX11_coil 52 = .ok (.aload_n 0, 1) := by decide +kernel
theorem dX11_coil_53 : decode cX11_coil 53 = .ok (.getfield 78, 3) := by decide +kernel
theorem dX11_coil_56 : decode cX11_coil 56 = .ok (.iload_n 1, 1) := by decide +kernel
theorem dX11_coil_57 : decode cX11_coil 57 = .ok (.invokevirtual 244, 3) := by decide +kernel
theorem dX11_coil_60 : decode cX11_coil 60 = .ok (.iinc 4 1, 3) := by decide +kernel
theorem dX11_coil_63 : decode cX11_coil 63 = .ok (.goto (-17), 3) := by decide +kernel
theorem dX11_coil_66 : decode cX11_coil 66 = .ok (.aload_n 0, 1) := by decide +kernel
theorem dX11_coil_67 : decode cX11_coil 67 = .ok (.getfield 78, 3) := by decide +kernel
theorem dX11_coil_70 : decode cX11_coil 70 = .ok (.getfield 247, 3) := by decide +kernel
theorem dX11_coil_73 : decode cX11_coil 73 = .ok (.ireturn, 1) := by decide +kernel
theorem dX11_offWhileFollowing_0 : decode cX11_offWhileFollowing 0 = .ok (.iconst 0, 1) := by decide +kernel
theorem dX11_offWhileFollowing_1 : decode cX11_offWhileFollowing 1 = .ok (.istore 4, 2) := by decide +kernel
theorem dX11_offWhileFollowing_3 : decode cX11_offWhileFollowing 3 = .ok (.iconst 0, 1) := by decide +kernel
theorem dX11_offWhileFollowing_4 : decode cX11_offWhileFollowing 4 = .ok (.istore 5, 2) := by decide +kernel
theorem dX11_offWhileFollowing_6 : decode cX11_offWhileFollowing 6 = .ok (.iconst 0, 1) := by decide +kernel
theorem dX11_offWhileFollowing_7 : decode cX11_offWhileFollowing 7 = .ok (.istore 6, 2) := by decide +kernel
theorem dX11_offWhileFollowing_9 : decode cX11_offWhileFollowing 9 = .ok (.aload_n 0, 1) := by decide +kernel
theorem dX11_offWhileFollowing_10 : decode cX11_offWhileFollowing 10 = .ok (.getfield 78, 3) := by decide +kernel
theorem dX11_offWhileFollowing_13 : decode cX11_offWhileFollowing 13 = .ok (.aload_n 0, 1) := by decide +kernel
theorem dX11_offWhileFollowing_14 : decode cX11_offWhileFollowing 14 = .ok (.getfield 12, 3) := by decide +kernel
theorem dX11_offWhileFollowing_17 : decode cX11_offWhileFollowing 17 = .ok (.iload_n 2, 1) := by decide +kernel
theorem dX11_offWhileFollowing_18 : decode cX11_offWhileFollowing 18 = .ok (.invokevirtual 241, 3) := by decide +kernel
theorem dX11_offWhileFollowing_21 : decode cX11_offWhileFollowing 21 = .ok (.iconst 0, 1) := by decide +kernel
theorem dX11_offWhileFollowing_22 : decode cX11_offWhileFollowing 22 = .ok (.istore 7, 2) := by decide +kernel
theorem dX11_offWhileFollowing_24 : decode cX11_offWhileFollowing 24 = .ok (.iload 7, 2) := by decide +kernel
theorem dX11_offWhileFollowing_26 : decode cX11_offWhileFollowing 26 = .ok (.sipush 128, 3) := by decide +kernel
theorem dX11_offWhileFollowing_29 : decode cX11_offWhileFollowing 29 = .ok (.if_icmp .gt 119, 3) := by decide +kernel
theorem dX11_offWhileFollowing_32 : decode cX11_offWhileFollowing 32 = .ok (.iload 7, 2) := by decide +kernel
theorem dX11_offWhileFollowing_34 : decode cX11_offWhileFollowing 34 = .ok (.bipush 64, 2) := by decide +kernel
theorem dX11_offWhileFollowing_36 : decode cX11_offWhileFollowing 36 = .ok (.if_icmp .gt 8, 3) := by decide +kernel
theorem dX11_offWhileFollowing_39 : decode cX11_offWhileFollowing 39 = .ok (.iload 7, 2) := by decide +kernel
theorem dX11_offWhileFollowing_41 : decode cX11_offWhileFollowing 41 = .ok (.goto 9, 3) := by decide +kernel
theorem dX11_offWhileFollowing_44 : decode cX11_offWhileFollowing 44 = .ok (.sipush 128, 3) := by decide +kernel
theorem dX11_offWhileFollowing_47 : decode cX11_offWhileFollowing 47 = .ok (.iload 7, 2) := by decide +kernel
theorem dX11_offWhileFollowing_49 : decode cX11_offWhileFollowing 49 = .ok (.isub, 1) := by decide +kernel
theorem dX11_offWhileFollowing_50 : decode cX11_offWhileFollowing 50 = .ok (.istore 8, 2) := by decide +kernel
theorem dX11_offWhileFollowing_52 : decode cX11_offWhileFollowing 52 = .ok (.aload_n 0, 1) := by decide +kernel
theorem dX11_offWhileFollowing_53 : decode cX11_offWhileFollowing 53 = .ok (.getfield 12, 3) := by decide +kernel
theorem dX11_offWhileFollowing_56 : decode cX11_offWhileFollowing 56 = .ok (.getfield 128, 3) := by decide +kernel
theorem dX11_offWhileFollowing_59 : decode cX11_offWhileFollowing 59 = .ok (.getfield 137, 3) := by decide +kernel
theorem dX11_offWhileFollowing_62 : decode cX11_offWhileFollowing 62 = .ok (.iload 8, 2) := by decide +kernel
theorem dX11_offWhileFollowing_64 : decode cX11_offWhileFollowing 64 = .ok (.invokestatic 140, 3) := by decide +kernel
theorem dX11_offWhileFollowing_67 : decode cX11_offWhileFollowing 67 = .ok (.istore 9, 2) := by decide +kernel
theorem dX11_offWhileFollowing_69 : decode cX11_offWhileFollowing 69 = .ok (.iconst 0, 1) := by decide +kernel
theorem dX11_offWhileFollowing_70 : decode cX11_offWhileFollowing 70 = .ok (.istore 10, 2) := by decide +kernel
theorem dX11_offWhileFollowing_72 : decode cX11_offWhileFollowing 72 = .ok (.iload 10, 2) := by decide +kernel
theorem dX11_offWhileFollowing_74 : decode cX11_offWhileFollowing 74 = .ok (.iload_n 1, 1) := by decide +kernel
theorem dX11_offWhileFollowing_75 : decode cX11_offWhileFollowing 75 = .ok (.if_icmp .ge 67, 3) := by decide +kernel
theorem dX11_offWhileFollowing_78 : decode cX11_offWhileFollowing 78 = .ok (.aload_n 0, 1) := by decide +kernel
theorem dX11_offWhileFollowing_79 : decode cX11_offWhileFollowing 79 = .ok (.getfield 78, 3) := by decide +kernel
theorem dX11_offWhileFollowing_82 : decode cX11_offWhileFollowing 82 = .ok (.iload 9, 2) := by decide +kernel
theorem dX11_offWhileFollowing_84 : decode cX11_offWhileFollowing 84 = .ok (.invokevirtual 244, 3) := by decide +kernel
theorem dX11_offWhileFollowing_87 : decode cX11_offWhileFollowing 87 = .ok (.aload_n 0, 1) := by decide +kernel
theorem dX11_offWhileFollowing_88 : decode cX11_offWhileFollowing 88 = .ok (.getfield 78, 3) := by decide +kernel
theorem dX11_offWhileFollowing_91 : decode cX11_offWhileFollowing 91 = .ok (.getfield 247, 3) := by decide +kernel
theorem dX11_offWhileFollowing_94 : decode cX11_offWhileFollowing 94 = .ok (.iload 9, 2) := by decide +kernel
theorem dX11_offWhileFollowing_96 : decode cX11_offWhileFollowing 96 = .ok (.isub, 1) := by decide +kernel
theorem dX11_offWhileFollowing_97 : decode cX11_offWhileFollowing 97 = .ok (.istore 11, 2) := by decide +kernel
theorem dX11_offWhileFollowing_99 : decode cX11_offWhileFollowing 99 = .ok (.iload 5, 2) := by decide +kernel
theorem dX11_offWhileFollowing_101 : decode cX11_offWhileFollowing 101 = .ok (.iload 11, 2) := by decide +kernel
theorem dX11_offWhileFollowing_103 : decode cX11_offWhileFollowing 103 = .ok (.ifCond .le 7, 3) := by decide +kernel
theorem dX11_offWhileFollowing_106 : decode cX11_offWhileFollowing 106 = .ok (.iconst 1, 1) := by decide +kernel
theorem dX11_offWhileFollowing_107 : decode cX11_offWhileFollowing 107 = .ok (.goto 4, 3) := by decide +kernel
theorem dX11_offWhileFollowing_110 : decode cX11_offWhileFollowing 110 = .ok (.iconst 0, 1) := by decide +kernel
theorem dX11_offWhileFollowing_111 : decode cX11_offWhileFollowing 111 = .ok (.iadd, 1) := by decide +kernel
theorem dX11_offWhileFollowing_112 : decode cX11_offWhileFollowing 112 = .ok (.istore 5, 2) := by decide +kernel
theorem dX11_offWhileFollowing_114 : decode cX11_offWhileFollowing 114 = .ok (.iload 4, 2) := by decide +kernel
theorem dX11_offWhileFollowing_116 : decode cX11_offWhileFollowing 116 = .ok (.iload 11, 2) := by decide +kernel
theorem dX11_offWhileFollowing_118 : decode cX11_offWhileFollowing 118 = .ok (.invokestatic 230, 3) := by decide +kernel
theorem dX11_offWhileFollowing_121 : decode cX11_offWhileFollowing 121 = .ok (.invokestatic 235, 3) := by decide +kernel
theorem dX11_offWhileFollowing_124 : decode cX11_offWhileFollowing 124 = .ok (.istore 4, 2) := by decide +kernel
theorem dX11_offWhileFollowing_126 : decode cX11_offWhileFollowing 126 = .ok (.iload 6, 2) := by decide +kernel
theorem dX11_offWhileFollowing_128 : decode cX11_offWhileFollowing 128 = .ok (.iload 11, 2) := by decide +kernel
theorem dX11_offWhileFollowing_130 : decode cX11_offWhileFollowing 130 = .ok (.invokestatic 230, 3) := by decide +kernel
theorem dX11_offWhileFollowing_133 : decode cX11_offWhileFollowing 133 = .ok (.iadd, 1) := by decide +kernel
theorem dX11_offWhileFollowing_134 : decode cX11_offWhileFollowing 134 = .ok (.istore 6, 2) := by decide +kernel
theorem dX11_offWhileFollowing_136 : decode cX11_offWhileFollowing 136 = .ok (.iinc 10 1, 3) := by decide +kernel
theorem dX11_offWhileFollowing_139 : decode cX11_offWhileFollowing 139 = .ok (.goto (-67), 3) := by decide +kernel
theorem dX11_offWhileFollowing_142 : decode cX11_offWhileFollowing 142 = .ok (.iinc 7 1, 3) := by decide +kernel
theorem dX11_offWhileFollowing_145 : decode cX11_offWhileFollowing 145 = .ok (.goto (-121), 3) := by decide +kernel
theorem dX11_offWhileFollowing_148 : decode cX11_offWhileFollowing 148 = .ok (.iload_n 3, 1) := by decide +kernel
theorem dX11_offWhileFollowing_149 : decode cX11_offWhileFollowing 149 = .ok (.lookupswitch 33 #[(0, 27), (1, 30)], 27) := by decide +kernel
theorem dX11_offWhileFollowing_176 : decode cX11_offWhileFollowing 176 = .ok (.iload 4, 2) := by decide +kernel
theorem dX11_offWhileFollowing_178 : decode cX11_offWhileFollowing 178 = .ok (.ireturn, 1) := by decide +kernel
theorem dX11_offWhileFollowing_179 : decode cX11_offWhileFollowing 179 = .ok (.iload 5, 2) := by decide +kernel
theorem dX11_offWhileFollowing_181 : decode cX11_offWhileFollowing 181 = .ok (.ireturn, 1) := by decide +kernel
theorem dX11_offWhileFollowing_182 : decode cX11_offWhileFollowing 182 = .ok (.iload 6, 2) := by decide +kernel
theorem dX11_offWhileFollowing_184 : decode cX11_offWhileFollowing 184 = .ok (.ireturn, 1) := by decide +kernel
theorem dX11_follows_0 : decode cX11_follows 0 = .ok (.iload_n 1, 1) := by decide +kernel
theorem dX11_follows_1 : decode cX11_follows 1 = .ok (.iconst 1, 1) := by decide +kernel
theorem dX11_follows_2 : decode cX11_follows 2 = .ok (.bipush 50, 2) := by decide +kernel
theorem dX11_follows_4 : decode cX11_follows 4 = .ok (.invokestatic 123, 3) := by decide +kernel
theorem dX11_follows_7 : decode cX11_follows 7 = .ok (.ifCond .eq 19, 3) := by decide +kernel
theorem dX11_follows_10 : decode cX11_follows 10 = .ok (.iload_n 2, 1) := by decide +kernel
theorem dX11_follows_11 : decode cX11_follows 11 = .ok (.invokestatic 238, 3) := by decide +kernel
theorem dX11_follows_14 : decode cX11_follows 14 = .ok (.ifCond .eq 12, 3) := by decide +kernel
theorem dX11_follows_17 : decode cX11_follows 17 = .ok (.iload_n 3, 1) := by decide +kernel
theorem dX11_follows_18 : decode cX11_follows 18 = .ok (.iconst 0, 1) := by decide +kernel
theorem dX11_follows_19 : decode cX11_follows 19 = .ok (.iconst 2, 1) := by decide +kernel
theorem dX11_follows_20 : decode cX11_follows 20 = .ok (.invokestatic 123, 3) := by decide +kernel
theorem dX11_follows_23 : decode cX11_follows 23 = .ok (.ifCond .ne 5, 3) := by decide +kernel
theorem dX11_follows_26 : decode cX11_follows 26 = .ok (.iconst (-1), 1) := by decide +kernel
theorem dX11_follows_27 : decode cX11_follows 27 = .ok (.ireturn, 1) := by decide +kernel
theorem dX11_follows_28 : decode cX11_follows 28 = .ok (.aload_n 0, 1) := by decide +kernel
theorem dX11_follows_29 : decode cX11_follows 29 = .ok (.iload_n 1, 1) := by decide +kernel
theorem dX11_follows_30 : decode cX11_follows 30 = .ok (.iload_n 2, 1) := by decide +kernel
theorem dX11_follows_31 : decode cX11_follows 31 = .ok (.iload_n 3, 1) := by decide +kernel
theorem dX11_follows_32 : decode cX11_follows 32 = .ok (.invokevirtual 390, 3) := by decide +kernel
theorem dX11_follows_35 : decode cX11_follows 35 = .ok (.ireturn, 1) := by decide +kernel
theorem dX11_ripple_0 : decode cX11_ripple 0 = .ok (.iload_n 1, 1) := by decide +kernel
theorem dX11_ripple_1 : decode cX11_ripple 1 = .ok (.iconst 0, 1) := by decide +kernel
theorem dX11_ripple_2 : decode cX11_ripple 2 = .ok (.sipush 2000, 3) := by decide +kernel
theorem dX11_ripple_5 : decode cX11_ripple 5 = .ok (.invokestatic 123, 3) := by decide +kernel
theorem dX11_ripple_8 : decode cX11_ripple 8 = .ok (.ifCond .eq 10, 3) := by decide +kernel
theorem dX11_ripple_11 : decode cX11_ripple 11 = .ok (.iload_n 2, 1) := by decide +kernel
theorem dX11_ripple_12 : decode cX11_ripple 12 = .ok (.invokestatic 238, 3) := by decide +kernel
theorem dX11_ripple_15 : decode cX11_ripple 15 = .ok (.ifCond .ne 5, 3) := by decide +kernel
theorem dX11_ripple_18 : decode cX11_ripple 18 = .ok (.iconst (-1), 1) := by decide +kernel
theorem dX11_ripple_19 : decode cX11_ripple 19 = .ok (.ireturn, 1) := by decide +kernel
theorem dX11_ripple_20 : decode cX11_ripple 20 = .ok (.ldc 250, 2) := by decide +kernel
theorem dX11_ripple_22 : decode cX11_ripple 22 = .ok (.istore_n 3, 1) := by decide +kernel
theorem dX11_ripple_23 : decode cX11_ripple 23 = .ok (.iconst 0, 1) := by decide +kernel
theorem dX11_ripple_24 : decode cX11_ripple 24 = .ok (.istore 4, 2) := by decide +kernel
theorem dX11_ripple_26 : decode cX11_ripple 26 = .ok (.aload_n 0, 1) := by decide +kernel
theorem dX11_ripple_27 : decode cX11_ripple 27 = .ok (.getfield 78, 3) := by decide +kernel
theorem dX11_ripple_30 : decode cX11_ripple 30 = .ok (.aload_n 0, 1) := by decide +kernel
theorem dX11_ripple_31 : decode cX11_ripple 31 = .ok (.getfield 12, 3) := by decide +kernel
theorem dX11_ripple_34 : decode cX11_ripple 34 = .ok (.iload_n 2, 1) := by decide +kernel
theorem dX11_ripple_35 : decode cX11_ripple 35 = .ok (.invokevirtual 241, 3) := by decide +kernel
theorem dX11_ripple_38 : decode cX11_ripple 38 = .ok (.iconst 1, 1) := by decide +kernel
theorem dX11_ripple_39 : decode cX11_ripple 39 = .ok (.istore 5, 2) := by decide +kernel
theorem dX11_ripple_41 : decode cX11_ripple 41 = .ok (.iload 5, 2) := by decide +kernel
theorem dX11_ripple_43 : decode cX11_ripple 43 = .ok (.sipush 264, 3) := by decide +kernel
theorem dX11_ripple_46 : decode cX11_ripple 46 = .ok (.if_icmp .gt 51, 3) := by decide +kernel
theorem dX11_ripple_49 : decode cX11_ripple 49 = .ok (.aload_n 0, 1) := by decide +kernel
theorem dX11_ripple_50 : decode cX11_ripple 50 = .ok (.getfield 78, 3) := by decide +kernel
theorem dX11_ripple_53 : decode cX11_ripple 53 = .ok (.iload_n 1, 1) := by decide +kernel
theorem dX11_ripple_54 : decode cX11_ripple 54 = .ok (.invokevirtual 244, 3) := by decide +kernel
theorem dX11_ripple_57 : decode cX11_ripple 57 = .ok (.iload 5, 2) := by decide +kernel
theorem dX11_ripple_59 : decode cX11_ripple 59 = .ok (.sipush 200, 3) := by decide +kernel
theorem dX11_ripple_62 : decode cX11_ripple 62 = .ok (.if_icmp .le 29, 3) := by decide +kernel
theorem dX11_ripple_65 : decode cX11_ripple 65 = .ok (.iload_n 3, 1) := by decide +kernel
theorem dX11_ripple_66 : decode cX11_ripple 66 = .ok (.aload_n 0, 1) := by decide +kernel
theorem dX11_ripple_67 : decode cX11_ripple 67 = .ok (.getfield 78, 3) := by decide +kernel
theorem dX11_ripple_70 : decode cX11_ripple 70 = .ok (.getfield 247, 3) := by decide +kernel
theorem dX11_ripple_73 : decode cX11_ripple 73 = .ok (.invokestatic 393, 3) := by decide +kernel
theorem dX11_ripple_76 : decode cX11_ripple 76 = .ok (.istore_n 3, 1) := by decide +kernel
theorem dX11_ripple_77 : decode cX11_ripple 77 = .ok (.iload 4, 2) := by decide +kernel
theorem dX11_ripple_79 : decode cX11_ripple 79 = .ok (.aload_n 0, 1) := by decide +kernel
theorem dX11_ripple_80 : decode cX11_ripple 80 = .ok (.getfield 78, 3) := by decide +kernel
theorem dX11_ripple_83 : decode cX11_ripple 83 = .ok (.getfield 247, 3) := by decide +kernel
theorem dX11_ripple_86 : decode cX11_ripple 86 = .ok (.invokestatic 235, 3) := by decide +kernel
theorem dX11_ripple_89 : decode cX11_ripple 89 = .ok (.istore 4, 2) := by decide +kernel
theorem dX11_ripple_91 : decode cX11_ripple 91 = .ok (.iinc 5 1, 3) := by decide +kernel
theorem dX11_ripple_94 : decode cX11_ripple 94 = .ok (.goto (-53), 3) := by decide +kernel
theorem dX11_ripple_97 : decode cX11_ripple 97 = .ok (.iload 4, 2) := by decide +kernel
theorem dX11_ripple_99 : decode cX11_ripple 99 = .ok (.iload_n 3, 1) := by decide +kernel
theorem dX11_ripple_100 : decode cX11_ripple 100 = .ok (.isub, 1) := by decide +kernel
theorem dX11_ripple_101 : decode cX11_ripple 101 = .ok (.ireturn, 1) := by decide +kernel
theorem dX11_mode_0 : decode cX11_mode 0 = .ok (.iload_n 1, 1) := by decide +kernel
theorem dX11_mode_1 : decode cX11_mode 1 = .ok (.iconst 1, 1) := by decide +kernel
theorem dX11_mode_2 : decode cX11_mode 2 = .ok (.bipush 50, 2) := by decide +kernel
theorem dX11_mode_4 : decode cX11_mode 4 = .ok (.invokestatic 123, 3) := by decide +kernel
theorem dX11_mode_7 : decode cX11_mode 7 = .ok (.ifCond .ne 5, 3) := by decide +kernel
theorem dX11_mode_10 : decode cX11_mode 10 = .ok (.iconst (-1), 1) := by decide +kernel
theorem dX11_mode_11 : decode cX11_mode 11 = .ok (.ireturn, 1) := by decide +kernel
theorem dX11_mode_12 : decode cX11_mode 12 = .ok (.iconst 0, 1) := by decide +kernel
theorem dX11_mode_13 : decode cX11_mode 13 = .ok (.istore_n 2, 1) := by decide +kernel
theorem dX11_mode_14 : decode cX11_mode 14 = .ok (.ldc 250, 2) := by decide +kernel
theorem dX11_mode_16 : decode cX11_mode 16 = .ok (.istore_n 3, 1) := by decide +kernel
theorem dX11_mode_17 : decode cX11_mode 17 = .ok (.iconst 0, 1) := by decide +kernel
theorem dX11_mode_18 : decode cX11_mode 18 = .ok (.istore 4, 2) := by decide +kernel
theorem dX11_mode_20 : decode cX11_mode 20 = .ok (.iload 4, 2) := by decide +kernel
theorem dX11_mode_22 : decode cX11_mode 22 = .ok (.bipush 8, 2) := by decide +kernel
theorem dX11_mode_24 : decode cX11_mode 24 = .ok (.if_icmp .gt 31, 3) := by decide +kernel
theorem dX11_mode_27 : decode cX11_mode 27 = .ok (.aload_n 0, 1) := by decide +kernel
theorem dX11_mode_28 : decode cX11_mode 28 = .ok (.iload_n 1, 1) := by decide +kernel
theorem dX11_mode_29 : decode cX11_mode 29 = .ok (.iload 4, 2) := by decide +kernel
theorem dX11_mode_31 : decode cX11_mode 31 = .ok (.iconst 2, 1) := by decide +kernel
theorem dX11_mode_32 : decode cX11_mode 32 = .ok (.invokevirtual 390, 3) := by decide +kernel
theorem dX11_mode_35 : decode cX11_mode 35 = .ok (.istore 5, 2) := by decide +kernel
theorem dX11_mode_37 : decode cX11_mode 37 = .ok (.iload 5, 2) := by decide +kernel
theorem dX11_mode_39 : decode cX11_mode 39 = .ok (.iload_n 3, 1) := by decide +kernel
theorem dX11_mode_40 : decode cX11_mode 40 = .ok (.if_icmp .ge 9, 3) := by decide +kernel
theorem dX11_mode_43 : decode cX11_mode 43 = .ok (.iload 5, 2) := by decide +kernel
theorem dX11_mode_45 : decode cX11_mode 45 = .ok (.istore_n 3, 1) := by decide +kernel
theorem dX11_mode_46 : decode cX11_mode 46 = .ok (.iload 4, 2) := by decide +kernel
theorem dX11_mode_48 : decode cX11_mode 48 = .ok (.istore_n 2, 1) := by decide +kernel
theorem dX11_mode_49 : decode cX11_mode 49 = .ok (.iinc 4 1, 3) := by decide +kernel
theorem dX11_mode_52 : decode cX11_mode 52 = .ok (.goto (-32), 3) := by decide +kernel
theorem dX11_mode_55 : decode cX11_mode 55 = .ok (.iload_n 2, 1) := by decide +kernel
theorem dX11_mode_56 : decode cX11_mode 56 = .ok (.ireturn, 1) := by decide +kernel
theorem dX11_about_0 : decode cX11_about 0 = .ok (.iload_n 1, 1) := by decide +kernel
theorem dX11_about_1 : decode cX11_about 1 = .ok (.tableswitch 179 0 12 #[67, 75, 83, 91, 99, 107, 115, 131, 139, 147, 155, 163, 171], 67) := by decide +kernel
theorem dX11_about_68 : decode cX11_about 68 = .ok (.aload_n 0, 1) := by decide +kernel
theorem dX11_about_69 : decode cX11_about 69 = .ok (.getfield 12, 3) := by decide +kernel
theorem dX11_about_72 : decode cX11_about 72 = .ok (.getfield 114, 3) := by decide +kernel
theorem dX11_about_75 : decode cX11_about 75 = .ok (.ireturn, 1) := by decide +kernel
theorem dX11_about_76 : decode cX11_about 76 = .ok (.aload_n 0, 1) := by decide +kernel
theorem dX11_about_77 : decode cX11_about 77 = .ok (.getfield 12, 3) := by decide +kernel
theorem dX11_about_80 : decode cX11_about 80 = .ok (.getfield 396, 3) := by decide +kernel
theorem dX11_about_83 : decode cX11_about 83 = .ok (.ireturn, 1) := by decide +kernel
theorem dX11_about_84 : decode cX11_about 84 = .ok (.aload_n 0, 1) := by decide +kernel
theorem dX11_about_85 : decode cX11_about 85 = .ok (.getfield 12, 3) := by decide +kernel
theorem dX11_about_88 : decode cX11_about 88 = .ok (.getfield 399, 3) := by decide +kernel
theorem dX11_about_91 : decode cX11_about 91 = .ok (.ireturn, 1) := by decide +kernel
theorem dX11_about_92 : decode cX11_about 92 = .ok (.aload_n 0, 1) := by decide +kernel
theorem dX11_about_93 : decode cX11_about 93 = .ok (.getfield 12, 3) := by decide +kernel
theorem dX11_about_96 : decode cX11_about 96 = .ok (.getfield 402, 3) := by decide +kernel
theorem dX11_about_99 : decode cX11_about 99 = .ok (.ireturn, 1) := by decide +kernel
theorem dX11_about_100 : decode cX11_about 100 = .ok (.aload_n 0, 1) := by decide +kernel
theorem dX11_about_101 : decode cX11_about 101 = .ok (.getfield 12, 3) := by decide +kernel
theorem dX11_about_104 : decode cX11_about 104 = .ok (.getfield 405, 3) := by decide +kernel
theorem dX11_about_107 : decode cX11_about 107 = .ok (.ireturn, 1) := by decide +kernel
theorem dX11_about_108 : decode cX11_about 108 = .ok (.aload_n 0, 1) := by decide +kernel
theorem dX11_about_109 : decode cX11_about 109 = .ok (.getfield 40, 3) := by decide +kernel
theorem dX11_about_112 : decode cX11_about 112 = .ok (.getfield 408, 3) := by decide +kernel
theorem dX11_about_115 : decode cX11_about 115 = .ok (.ireturn, 1) := by decide +kernel
theorem dX11_about_116 : decode cX11_about 116 = .ok (.aload_n 0, 1) := by decide +kernel
theorem dX11_about_117 : decode cX11_about 117 = .ok (.getfield 40, 3) := by decide +kernel
theorem dX11_about_120 : decode cX11_about 120 = .ok (.getfield 251, 3) := by decide +kernel
theorem dX11_about_123 : decode cX11_about 123 = .ok (.ifCond .eq 7, 3) := by decide +kernel
theorem dX11_about_126 : decode cX11_about 126 = .ok (.iconst 1, 1) := by decide +kernel
theorem dX11_about_127 : decode cX11_about 127 = .ok (.goto 4, 3) := by decide +kernel
theorem dX11_about_130 : decode cX11_about 130 = .ok (.iconst 0, 1) := by decide +kernel
theorem dX11_about_131 : decode cX11_about 131 = .ok (.ireturn, 1) := by decide +kernel
theorem dX11_about_132 : decode cX11_about 132 = .ok (.aload_n 0, 1) := by decide +kernel
theorem dX11_about_133 : decode cX11_about 133 = .ok (.getfield 40, 3) := by decide +kernel
theorem dX11_about_136 : decode cX11_about 136 = .ok (.getfield 263, 3) := by decide +kernel
theorem dX11_about_139 : decode cX11_about 139 = .ok (.ireturn, 1) := by decide +kernel
theorem dX11_about_140 : decode cX11_about 140 = .ok (.aload_n 0, 1) := by decide +kernel
theorem dX11_about_141 : decode cX11_about 141 = .ok (.getfield 50, 3) := by decide +kernel
theorem dX11_about_144 : decode cX11_about 144 = .ok (.getfield 111, 3) := by decide +kernel
theorem dX11_about_147 : decode cX11_about 147 = .ok (.ireturn, 1) := by decide +kernel
theorem dX11_about_148 : decode cX11_about 148 = .ok (.aload_n 0, 1) := by decide +kernel
theorem dX11_about_149 : decode cX11_about 149 = .ok (.getfield 24, 3) := by decide +kernel
theorem dX11_about_152 : decode cX11_about 152 = .ok (.getfield 89, 3) := by decide +kernel
theorem dX11_about_155 : decode cX11_about 155 = .ok (.ireturn, 1) := by decide +kernel
theorem dX11_about_156 : decode cX11_about 156 = .ok (.aload_n 0, 1) := by decide +kernel
theorem dX11_about_157 : decode cX11_about 157 = .ok (.getfield 40, 3) := by decide +kernel
theorem dX11_about_160 : decode cX11_about 160 = .ok (.getfield 298, 3) := by decide +kernel
theorem dX11_about_163 : decode cX11_about 163 = .ok (.ireturn, 1) := by decide +kernel
theorem dX11_about_164 : decode cX11_about 164 = .ok (.aload_n 0, 1) := by decide +kernel
theorem dX11_about_165 : decode cX11_about 165 = .ok (.getfield 40, 3) := by decide +kernel
theorem dX11_about_168 : decode cX11_about 168 = .ok (.getfield 409, 3) := by decide +kernel
theorem dX11_about_171 : decode cX11_about 171 = .ok (.ireturn, 1) := by decide +kernel
theorem dX11_about_172 : decode cX11_about 172 = .ok (.aload_n 0, 1) := by decide +kernel
theorem dX11_about_173 : decode cX11_about 173 = .ok (.getfield 40, 3) := by decide +kernel
theorem dX11_about_176 : decode cX11_about 176 = .ok (.getfield 412, 3) := by decide +kernel
theorem dX11_about_179 : decode cX11_about 179 = .ok (.ireturn, 1) := by decide +kernel
theorem dX11_about_180 : decode cX11_about 180 = .ok (.iconst (-1), 1) := by decide +kernel
theorem dX11_about_181 : decode cX11_about 181 = .ok (.ireturn, 1) := by decide +kernel
def zbX11_shakeBy_26 (sh : zShp) (k0 : Nat) (p1 : Int32) (p2 : Int32) (p3 : Int32)  (kk26 : Int32 → Int32 → zMem → Option (Int32 × zMem)) (x4 : Int32) (x5 : Int32) (M : zMem) : Option (Int32 × zMem) :=
  if p3 ≤ x5 then (
  some (x4, M))
  else (
  zbd (zpI M (zR M k0 7) 0 ((zI M (zR M k0 7) 0) + p2)) fun M_3 =>
  zgd (zin p1 (zlen sh (zR M_3 (zR M_3 k0 11) 0))) <|
  zob (zX7_turn sh (zR M_3 k0 7) (zR M_3 (zR M_3 (zR M_3 k0 11) 0) p1.toNatClampNeg) (zR M_3 (zR M_3 k0 11) 4) M_3) fun M_12 =>
  zob (zX7_angle sh (zR M_12 k0 7) M_12) fun r_15 =>
  kk26 (zmax x4 (zabs r_15)) (x5 + (1 : Int32)) M_12)
def zlX11_shakeBy_26 (sh : zShp) (k0 : Nat) (p1 : Int32) (p2 : Int32) (p3 : Int32)  : Nat → Int32 → Int32 → zMem → Option (Int32 × zMem)
  | 0 => fun _ _ _ => none
  | n + 1 => fun x4 x5 M => zbX11_shakeBy_26 sh k0 p1 p2 p3  (zlX11_shakeBy_26 sh k0 p1 p2 p3  n) x4 x5 M
def zX11_shakeBy (sh : zShp) (k0 : Nat) (p1 : Int32) (p2 : Int32) (p3 : Int32) (M : zMem) : Option (Int32 × zMem) :=
  zgd (zin p1 (zlen sh (zR M (zR M k0 2) 0))) <|
  zob (zX7_letGo sh (zR M k0 7) (zI M (zR M (zR M (zR M k0 2) 0) p1.toNatClampNeg) 3) (0 : Int32) M) fun M_22 =>
  zlX11_shakeBy_26 sh k0 p1 p2 p3 zF (0 : Int32) (0 : Int32) M_22
set_option maxHeartbeats 4000000 in
set_option maxRecDepth 100000 in
theorem ztX11_shakeBy (l : Launch) (D : va_G) (cy : Nat → ClassId) (sh : zShp) (ad : Nat → Nat) {k0 : Nat} {p1 : Int32} {p2 : Int32} {p3 : Int32} (h0 : zT sh k0 11) {M : zMem} {r : Int32} {M1 : zMem} (hd : zX11_shakeBy sh k0 p1 p2 p3 M = some (r, M1)) : zCI l yX11_shakeBy cX11_shakeBy 6 .int { frames := 3, cells := 0, slots := 0, locals := 68 } [.ref (ad k0), .int p1, .int p2, .int p3] D cy sh ad M r M1 := by
  refine zci_of (by decide) (Nat.le_of_ble_eq_true rfl) (fun p e s m below meth c ls F hr hlk hl hw => ?_)
  have hx := F.1.1
  have hb := F.1.2.1
  have hl : lv_has ls 6 [(0, .ref (ad k0)), (1, .int p1), (2, .int p2), (3, .int p3)] := hl
  have L26 : ∀  (n : Nat), ∀ (x4 : Int32) (x5 : Int32) (M : zMem) (H : Heap) (locs : List Loc) (ls : Array Slot), lv_has ls 6 [(0, .ref (ad k0)), (1, .int p1), (2, .int p2), (3, .int p3), (4, .int x4), (5, .int x5)] → zWd D cy sh ad s M H locs → zlX11_shakeBy_26 sh k0 p1 p2 p3  n x4 x5 M = some (r, M1) → W p l e { frames := 3, cells := 0, slots := 0, locals := 68 } s m ([.ref (ad k0), .int p1, .int p2, .int p3] : List Value).toArray below meth c H locs 0 0 (zQI below D cy sh ad s [.ref (ad k0), .int p1, .int p2, .int p3] r M1) (F0 m 26 ls []) := by
    intro  n
    induction n with
    | zero => intro x4 x5 M H locs ls hl hw hd; exact (znone hd).elim
    | succ n hk26 =>
      intro x4 x5 M H locs ls hl hw hd
      have hd : zbX11_shakeBy_26 sh k0 p1 p2 p3  (zlX11_shakeBy_26 sh k0 p1 p2 p3  n) x4 x5 M = some (r, M1) := hd
      unfold zbX11_shakeBy_26 at hd
      refine lv_iload hx hb dX11_shakeBy_26 (lv_at hl 5 rfl) ?_
      refine lv_iload_n hx hb dX11_shakeBy_28 rfl (lv_at hl 3 rfl) ?_
      refine lv_icmp_ge (tgt := 91) hx hb dX11_shakeBy_29 (by decide) (fun c_1 => ?_) (fun c_1 => ?_)
      · have hd := zif_pos c_1 hd
        refine lv_iload hx hb dX11_shakeBy_91 (lv_at hl 4 rfl) ?_
        exact z_iret F hr hlk hw (zpr1 hd) (zpr2 hd) dX11_shakeBy_93
      · have hd := zif_neg c_1 hd
        refine lv_aload_n hx hb dX11_shakeBy_32 rfl (lv_at hl 0 rfl) ?_
        refine z_gR F hw h0 zc11 7 (by decide) rfl zf11_71 dX11_shakeBy_33 ?_
        have t_2 : zT sh (zR M k0 7) 7 := hw.2.2.2.fld h0 7 7
        refine lv_dup hx hb dX11_shakeBy_36 rfl ?_
        refine z_gI F hw t_2 zc7 0 (by decide) rfl zf11_321 dX11_shakeBy_37 ?_
        refine lv_iload_n hx hb dX11_shakeBy_40 rfl (lv_at hl 2 rfl) ?_
        refine lv_iadd hx hb dX11_shakeBy_41 ?_
        refine z_pI F hw t_2 zc7 0 (by decide) rfl zf11_321 rfl rfl rfl dX11_shakeBy_42 (fun H locs M_3 eM_3 hw => ?_)
        have hd := zbd_eq eM_3 hd
        refine lv_aload_n hx hb dX11_shakeBy_45 rfl (lv_at hl 0 rfl) ?_
        refine z_gR F hw h0 zc11 7 (by decide) rfl zf11_71 dX11_shakeBy_46 ?_
        have t_4 : zT sh (zR M_3 k0 7) 7 := hw.2.2.2.fld h0 7 7
        refine lv_aload_n hx hb dX11_shakeBy_49 rfl (lv_at hl 0 rfl) ?_
        refine z_gR F hw h0 zc11 11 (by decide) rfl zf11_12 dX11_shakeBy_50 ?_
        have t_5 : zT sh (zR M_3 k0 11) 1 := hw.2.2.2.fld h0 11 1
        refine z_gR F hw t_5 zc1 0 (by decide) rfl zf11_330 dX11_shakeBy_53 ?_
        have t_6 : zT sh (zR M_3 (zR M_3 k0 11) 0) 17 := hw.2.2.2.fld t_5 0 17
        refine lv_iload_n hx hb dX11_shakeBy_56 rfl (lv_at hl 1 rfl) ?_
        obtain ⟨g_7, hd⟩ := zgd_some hd
        refine z_aald F hw t_6 (by decide) 4 rfl g_7 dX11_shakeBy_57 ?_
        have t_8 : zT sh (zR M_3 (zR M_3 (zR M_3 k0 11) 0) p1.toNatClampNeg) 0 := hw.2.2.2.arr t_6 _ 0 (zin_lt g_7)
        refine lv_aload_n hx hb dX11_shakeBy_58 rfl (lv_at hl 0 rfl) ?_
        refine z_gR F hw h0 zc11 11 (by decide) rfl zf11_12 dX11_shakeBy_59 ?_
        have t_9 : zT sh (zR M_3 k0 11) 1 := hw.2.2.2.fld h0 11 1
        refine z_gR F hw t_9 zc1 4 (by decide) rfl zf11_128 dX11_shakeBy_62 ?_
        have t_10 : zT sh (zR M_3 (zR M_3 k0 11) 4) 9 := hw.2.2.2.fld t_9 4 9
        obtain ⟨M_12, hc_11, hd⟩ := zob_some hd
        refine z_cvV F hw hl.1 (As := [.ref (ad (zR M_3 (zR M_3 (zR M_3 k0 11) 0) p1.toNatClampNeg)), .ref (ad (zR M_3 (zR M_3 k0 11) 4))]) (rest := []) (ztX7_turn l D cy sh ad t_4 t_8 t_10 hc_11) zyX7_turn t_4 zc7 zk11_375 ⟨rfl, rfl⟩ ⟨by decide, by decide⟩ rfl rfl (Nat.le_of_ble_eq_true rfl) dX11_shakeBy_65 (fun H locs hw => ?_)
        refine lv_iload hx hb dX11_shakeBy_68 (lv_at hl 4 rfl) ?_
        refine lv_aload_n hx hb dX11_shakeBy_70 rfl (lv_at hl 0 rfl) ?_
        refine z_gR F hw h0 zc11 7 (by decide) rfl zf11_71 dX11_shakeBy_71 ?_
        have t_13 : zT sh (zR M_12 k0 7) 7 := hw.2.2.2.fld h0 7 7
        obtain ⟨r_15, hc_14, hd⟩ := zob_some hd
        refine z_cvI F hw hl.1 (As := []) (rest := [.int x4]) (ztX7_angle l D cy sh ad t_13 hc_14) zyX7_angle t_13 zc7 zk11_352 ⟨rfl, rfl⟩ ⟨by decide, by decide⟩ rfl rfl (Nat.le_of_ble_eq_true rfl) dX11_shakeBy_74 (fun H locs hw => ?_)
        refine z_mabs F hl.1 zk11_230 (by decide) (Nat.le_of_ble_eq_true rfl) dX11_shakeBy_77 ?_
        refine z_mmax F hl.1 zk11_235 (by decide) (Nat.le_of_ble_eq_true rfl) dX11_shakeBy_80 ?_
        refine lv_istore (lv' := [(4, .int (zmax x4 (zabs r_15))), (0, .ref (ad k0)), (1, .int p1), (2, .int p2), (3, .int p3), (5, .int x5)]) hx hb dX11_shakeBy_83 hl (by decide) rfl (fun ls hl => ?_)
        refine lv_iinc (v := (x5 + (1 : Int32))) (lv' := [(5, .int (x5 + (1 : Int32))), (4, .int (zmax x4 (zabs r_15))), (0, .ref (ad k0)), (1, .int p1), (2, .int p2), (3, .int p3)]) hx hb dX11_shakeBy_85 hl (k := 5) rfl (ziinc (by decide)) (by decide) rfl (fun ls hl => ?_)
        refine lv_goto (tgt := 26) hx hb dX11_shakeBy_88 (by decide) ?_
        exact hk26 _ _ _ _ _ _ (lv_sub hl [2, 3, 4, 5, 1, 0] rfl) hw hd
  unfold zX11_shakeBy at hd
  refine lv_iconst (v := (0 : Int32)) hx hb dX11_shakeBy_0 (by decide) ?_
  refine lv_istore (lv' := [(4, .int (0 : Int32)), (0, .ref (ad k0)), (1, .int p1), (2, .int p2), (3, .int p3)]) hx hb dX11_shakeBy_1 hl (by decide) rfl (fun ls hl => ?_)
  refine lv_aload_n hx hb dX11_shakeBy_3 rfl (lv_at hl 1 rfl) ?_
  refine z_gR F hw h0 zc11 7 (by decide) rfl zf11_71 dX11_shakeBy_4 ?_
  have t_16 : zT sh (zR M k0 7) 7 := hw.2.2.2.fld h0 7 7
  refine lv_aload_n hx hb dX11_shakeBy_7 rfl (lv_at hl 1 rfl) ?_
  refine z_gR F hw h0 zc11 2 (by decide) rfl zf11_40 dX11_shakeBy_8 ?_
  have t_17 : zT sh (zR M k0 2) 8 := hw.2.2.2.fld h0 2 8
  refine z_gR F hw t_17 zc8 0 (by decide) rfl zf11_308 dX11_shakeBy_11 ?_
  have t_18 : zT sh (zR M (zR M k0 2) 0) 18 := hw.2.2.2.fld t_17 0 18
  refine lv_iload_n hx hb dX11_shakeBy_14 rfl (lv_at hl 2 rfl) ?_
  obtain ⟨g_19, hd⟩ := zgd_some hd
  refine z_aald F hw t_18 (by decide) 5 rfl g_19 dX11_shakeBy_15 ?_
  have t_20 : zT sh (zR M (zR M (zR M k0 2) 0) p1.toNatClampNeg) 7 := hw.2.2.2.arr t_18 _ 7 (zin_lt g_19)
  refine z_gI F hw t_20 zc7 3 (by decide) rfl zf11_315 dX11_shakeBy_16 ?_
  refine lv_iconst (v := (0 : Int32)) hx hb dX11_shakeBy_19 (by decide) ?_
  obtain ⟨M_22, hc_21, hd⟩ := zob_some hd
  refine z_cvV F hw hl.1 (As := [.int (zI M (zR M (zR M (zR M k0 2) 0) p1.toNatClampNeg) 3), .int (0 : Int32)]) (rest := []) (ztX7_letGo l D cy sh ad t_16 hc_21) zyX7_letGo t_16 zc7 zk11_371 ⟨rfl, rfl⟩ ⟨by decide, by decide⟩ rfl rfl (Nat.le_of_ble_eq_true rfl) dX11_shakeBy_20 (fun H locs hw => ?_)
  refine lv_iconst (v := (0 : Int32)) hx hb dX11_shakeBy_23 (by decide) ?_
  refine lv_istore (lv' := [(5, .int (0 : Int32)), (4, .int (0 : Int32)), (0, .ref (ad k0)), (1, .int p1), (2, .int p2), (3, .int p3)]) hx hb dX11_shakeBy_24 hl (by decide) rfl (fun ls hl => ?_)
  exact L26 zF _ _ _ _ _ _ (lv_sub hl [2, 3, 4, 5, 1, 0] rfl) hw hd

def zjX11_shake_29 (sh : zShp) (k0 : Nat) (p1 : Int32) (p2 : Int32) (p3 : Int32)  (M : zMem) : Option (Int32 × zMem) :=
  some ((-1 : Int32), M)
def zX11_shake (sh : zShp) (k0 : Nat) (p1 : Int32) (p2 : Int32) (p3 : Int32) (M : zMem) : Option (Int32 × zMem) :=
  zob (zX11_isAxis sh k0 p1 M) fun r_2 =>
  if r_2 = 0 then (
  zjX11_shake_29 sh k0 p1 p2 p3 M)
  else (
  zob (zX11_isWithin sh p2 (0 : Int32) (60 : Int32) M) fun r_5 =>
  if r_5 = 0 then (
  zjX11_shake_29 sh k0 p1 p2 p3 M)
  else (
  zob (zX11_isWithin sh p3 (1 : Int32) (500 : Int32) M) fun r_8 =>
  if r_8 = 0 then (
  zjX11_shake_29 sh k0 p1 p2 p3 M)
  else (
  zob2 (zX11_shakeBy sh k0 p1 p2 p3 M) fun r_11 M_12 =>
  some (r_11, M_12))))
set_option maxHeartbeats 4000000 in
set_option maxRecDepth 100000 in
theorem ztX11_shake (l : Launch) (D : va_G) (cy : Nat → ClassId) (sh : zShp) (ad : Nat → Nat) {k0 : Nat} {p1 : Int32} {p2 : Int32} {p3 : Int32} (h0 : zT sh k0 11) {M : zMem} {r : Int32} {M1 : zMem} (hd : zX11_shake sh k0 p1 p2 p3 M = some (r, M1)) : zCI l yX11_shake cX11_shake 4 .int { frames := 4, cells := 0, slots := 0, locals := 93 } [.ref (ad k0), .int p1, .int p2, .int p3] D cy sh ad M r M1 := by
  refine zci_of (by decide) (Nat.le_of_ble_eq_true rfl) (fun p e s m below meth c ls F hr hlk hl hw => ?_)
  have hx := F.1.1
  have hb := F.1.2.1
  have hl : lv_has ls 4 [(0, .ref (ad k0)), (1, .int p1), (2, .int p2), (3, .int p3)] := hl
  have J29 : ∀ (M : zMem) (H : Heap) (locs : List Loc) (ls : Array Slot), lv_has ls 4 [] → zWd D cy sh ad s M H locs → zjX11_shake_29 sh k0 p1 p2 p3  M = some (r, M1) → W p l e { frames := 4, cells := 0, slots := 0, locals := 93 } s m ([.ref (ad k0), .int p1, .int p2, .int p3] : List Value).toArray below meth c H locs 0 0 (zQI below D cy sh ad s [.ref (ad k0), .int p1, .int p2, .int p3] r M1) (F0 m 29 ls []) := by
    intro  M H locs ls hl hw hd
    unfold zjX11_shake_29 at hd
    refine lv_iconst (v := (-1 : Int32)) hx hb dX11_shake_29 (by decide) ?_
    exact z_iret F hr hlk hw (zpr1 hd) (zpr2 hd) dX11_shake_30
  unfold zX11_shake at hd
  refine lv_aload_n hx hb dX11_shake_0 rfl (lv_at hl 0 rfl) ?_
  refine lv_iload_n hx hb dX11_shake_1 rfl (lv_at hl 1 rfl) ?_
  obtain ⟨r_2, hc_1, hd⟩ := zob_some hd
  refine z_cvI F hw hl.1 (As := [.int p1]) (rest := []) (ztX11_isAxis l D cy sh ad h0 hc_1) zyX11_isAxis h0 zc11 zk11_194 ⟨rfl, rfl⟩ ⟨by decide, by decide⟩ rfl rfl (Nat.le_of_ble_eq_true rfl) dX11_shake_2 (fun H locs hw => ?_)
  refine lv_if_eq (tgt := 29) hx hb dX11_shake_5 (by decide) (fun c_3 => ?_) (fun c_3 => ?_)
  · have hd := zif_pos c_3 hd
    exact J29 _ _ _ _ (lv_sub hl [] rfl) hw hd
  · have hd := zif_neg c_3 hd
    refine lv_iload_n hx hb dX11_shake_8 rfl (lv_at hl 2 rfl) ?_
    refine lv_iconst (v := (0 : Int32)) hx hb dX11_shake_9 (by decide) ?_
    refine lv_bipush (v := (60 : Int32)) hx hb dX11_shake_10 (by decide) ?_
    obtain ⟨r_5, hc_4, hd⟩ := zob_some hd
    refine z_csI F hw hl.1 (As := [.int p2, .int (0 : Int32), .int (60 : Int32)]) (rest := []) (ztX11_isWithin l D cy sh ad  hc_4) zyX11_isWithin zk11_123 ⟨rfl, rfl⟩ ⟨by decide, by decide⟩ rfl rfl (Nat.le_of_ble_eq_true rfl) dX11_shake_12 (fun H locs hw => ?_)
    refine lv_if_eq (tgt := 29) hx hb dX11_shake_15 (by decide) (fun c_6 => ?_) (fun c_6 => ?_)
    · have hd := zif_pos c_6 hd
      exact J29 _ _ _ _ (lv_sub hl [] rfl) hw hd
    · have hd := zif_neg c_6 hd
      refine lv_iload_n hx hb dX11_shake_18 rfl (lv_at hl 3 rfl) ?_
      refine lv_iconst (v := (1 : Int32)) hx hb dX11_shake_19 (by decide) ?_
      refine lv_sipush (v := (500 : Int32)) hx hb dX11_shake_20 (by decide) ?_
      obtain ⟨r_8, hc_7, hd⟩ := zob_some hd
      refine z_csI F hw hl.1 (As := [.int p3, .int (1 : Int32), .int (500 : Int32)]) (rest := []) (ztX11_isWithin l D cy sh ad  hc_7) zyX11_isWithin zk11_123 ⟨rfl, rfl⟩ ⟨by decide, by decide⟩ rfl rfl (Nat.le_of_ble_eq_true rfl) dX11_shake_23 (fun H locs hw => ?_)
      refine lv_if_ne (tgt := 31) hx hb dX11_shake_26 (by decide) (fun c_9 => ?_) (fun c_9 => ?_)
      · have hd := zif_neg c_9 hd
        refine lv_aload_n hx hb dX11_shake_31 rfl (lv_at hl 0 rfl) ?_
        refine lv_iload_n hx hb dX11_shake_32 rfl (lv_at hl 1 rfl) ?_
        refine lv_iload_n hx hb dX11_shake_33 rfl (lv_at hl 2 rfl) ?_
        refine lv_iload_n hx hb dX11_shake_34 rfl (lv_at hl 3 rfl) ?_
        obtain ⟨r_11, M_12, hc_10, hd⟩ := zob2_some hd
        refine z_cvI F hw hl.1 (As := [.int p1, .int p2, .int p3]) (rest := []) (ztX11_shakeBy l D cy sh ad h0 hc_10) zyX11_shakeBy h0 zc11 zk11_386 ⟨rfl, rfl⟩ ⟨by decide, by decide⟩ rfl rfl (Nat.le_of_ble_eq_true rfl) dX11_shake_35 (fun H locs hw => ?_)
        exact z_iret F hr hlk hw (zpr1 hd) (zpr2 hd) dX11_shake_38
      · have hd := zif_pos c_9 hd
        exact J29 _ _ _ _ (lv_sub hl [] rfl) hw hd

def zjX11_worst_18 (sh : zShp) (k0 : Nat) (p1 : Int32) (p2 : Int32)  (M : zMem) : Option (Int32 × zMem) :=
  some ((-1 : Int32), M)
def zjX11_worst_69 (sh : zShp) (k0 : Nat) (p1 : Int32) (p2 : Int32) (kk28 : Int32 → Int32 → Int32 → zMem → Option (Int32 × zMem)) (x3 : Int32) (x4 : Int32) (x5 : Int32) (M : zMem) : Option (Int32 × zMem) :=
  kk28 x3 x4 (x5 + (1 : Int32)) M
def zbX11_worst_28 (sh : zShp) (k0 : Nat) (p1 : Int32) (p2 : Int32)  (kk28 : Int32 → Int32 → Int32 → zMem → Option (Int32 × zMem)) (x3 : Int32) (x4 : Int32) (x5 : Int32) (M : zMem) : Option (Int32 × zMem) :=
  zgd (zin p1 (zlen sh (zR M (zR M k0 11) 0))) <|
  if (zI M (zR M (zR M (zR M k0 11) 0) p1.toNatClampNeg) 1) < x5 then (
  some (x3, M))
  else (
  zob2 (zX11_shakeBy sh k0 p1 x5 p2 M) fun r_7 M_8 =>
  if r_7 ≤ x4 then (
  zjX11_worst_69 sh k0 p1 p2 kk28 x3 x4 x5 M_8)
  else (
  zjX11_worst_69 sh k0 p1 p2 kk28 x5 r_7 x5 M_8))
def zlX11_worst_28 (sh : zShp) (k0 : Nat) (p1 : Int32) (p2 : Int32)  : Nat → Int32 → Int32 → Int32 → zMem → Option (Int32 × zMem)
  | 0 => fun _ _ _ _ => none
  | n + 1 => fun x3 x4 x5 M => zbX11_worst_28 sh k0 p1 p2  (zlX11_worst_28 sh k0 p1 p2  n) x3 x4 x5 M
def zX11_worst (sh : zShp) (k0 : Nat) (p1 : Int32) (p2 : Int32) (M : zMem) : Option (Int32 × zMem) :=
  zob (zX11_isAxis sh k0 p1 M) fun r_11 =>
  if r_11 = 0 then (
  zjX11_worst_18 sh k0 p1 p2 M)
  else (
  zob (zX11_isWithin sh p2 (1 : Int32) (100 : Int32) M) fun r_14 =>
  if r_14 = 0 then (
  zjX11_worst_18 sh k0 p1 p2 M)
  else (
  zlX11_worst_28 sh k0 p1 p2 zF (-1 : Int32) (-1 : Int32) (1 : Int32) M))
set_option maxHeartbeats 4000000 in
set_option maxRecDepth 100000 in
theorem ztX11_worst (l : Launch) (D : va_G) (cy : Nat → ClassId) (sh : zShp) (ad : Nat → Nat) {k0 : Nat} {p1 : Int32} {p2 : Int32} (h0 : zT sh k0 11) {M : zMem} {r : Int32} {M1 : zMem} (hd : zX11_worst sh k0 p1 p2 M = some (r, M1)) : zCI l yX11_worst cX11_worst 7 .int { frames := 4, cells := 0, slots := 0, locals := 93 } [.ref (ad k0), .int p1, .int p2] D cy sh ad M r M1 := by
  refine zci_of (by decide) (Nat.le_of_ble_eq_true rfl) (fun p e s m below meth c ls F hr hlk hl hw => ?_)
  have hx := F.1.1
  have hb := F.1.2.1
  have hl : lv_has ls 7 [(0, .ref (ad k0)), (1, .int p1), (2, .int p2)] := hl
  have J18 : ∀ (M : zMem) (H : Heap) (locs : List Loc) (ls : Array Slot), lv_has ls 7 [] → zWd D cy sh ad s M H locs → zjX11_worst_18 sh k0 p1 p2  M = some (r, M1) → W p l e { frames := 4, cells := 0, slots := 0, locals := 93 } s m ([.ref (ad k0), .int p1, .int p2] : List Value).toArray below meth c H locs 0 0 (zQI below D cy sh ad s [.ref (ad k0), .int p1, .int p2] r M1) (F0 m 18 ls []) := by
    intro  M H locs ls hl hw hd
    unfold zjX11_worst_18 at hd
    refine lv_iconst (v := (-1 : Int32)) hx hb dX11_worst_18 (by decide) ?_
    exact z_iret F hr hlk hw (zpr1 hd) (zpr2 hd) dX11_worst_19
  have J69 : ∀ (kk28 : Int32 → Int32 → Int32 → zMem → Option (Int32 × zMem)) (hk28 : ∀ (x3 : Int32) (x4 : Int32) (x5 : Int32) (M : zMem) (H : Heap) (locs : List Loc) (ls : Array Slot), lv_has ls 7 [(0, .ref (ad k0)), (1, .int p1), (2, .int p2), (3, .int x3), (4, .int x4), (5, .int x5)] → zWd D cy sh ad s M H locs → kk28 x3 x4 x5 M = some (r, M1) → W p l e { frames := 4, cells := 0, slots := 0, locals := 93 } s m ([.ref (ad k0), .int p1, .int p2] : List Value).toArray below meth c H locs 0 0 (zQI below D cy sh ad s [.ref (ad k0), .int p1, .int p2] r M1) (F0 m 28 ls [])), ∀ (x3 : Int32) (x4 : Int32) (x5 : Int32) (M : zMem) (H : Heap) (locs : List Loc) (ls : Array Slot), lv_has ls 7 [(0, .ref (ad k0)), (1, .int p1), (2, .int p2), (3, .int x3), (4, .int x4), (5, .int x5)] → zWd D cy sh ad s M H locs → zjX11_worst_69 sh k0 p1 p2 kk28 x3 x4 x5 M = some (r, M1) → W p l e { frames := 4, cells := 0, slots := 0, locals := 93 } s m ([.ref (ad k0), .int p1, .int p2] : List Value).toArray below meth c H locs 0 0 (zQI below D cy sh ad s [.ref (ad k0), .int p1, .int p2] r M1) (F0 m 69 ls []) := by
    intro kk28 hk28 x3 x4 x5 M H locs ls hl hw hd
    unfold zjX11_worst_69 at hd
    refine lv_iinc (v := (x5 + (1 : Int32))) (lv' := [(5, .int (x5 + (1 : Int32))), (0, .ref (ad k0)), (1, .int p1), (2, .int p2), (3, .int x3), (4, .int x4)]) hx hb dX11_worst_69 hl (k := 5) rfl (ziinc (by decide)) (by decide) rfl (fun ls hl => ?_)
    refine lv_goto (tgt := 28) hx hb dX11_worst_72 (by decide) ?_
    exact hk28 _ _ _ _ _ _ _ (lv_sub hl [1, 2, 3, 4, 5, 0] rfl) hw hd
  have L28 : ∀  (n : Nat), ∀ (x3 : Int32) (x4 : Int32) (x5 : Int32) (M : zMem) (H : Heap) (locs : List Loc) (ls : Array Slot), lv_has ls 7 [(0, .ref (ad k0)), (1, .int p1), (2, .int p2), (3, .int x3), (4, .int x4), (5, .int x5)] → zWd D cy sh ad s M H locs → zlX11_worst_28 sh k0 p1 p2  n x3 x4 x5 M = some (r, M1) → W p l e { frames := 4, cells := 0, slots := 0, locals := 93 } s m ([.ref (ad k0), .int p1, .int p2] : List Value).toArray below meth c H locs 0 0 (zQI below D cy sh ad s [.ref (ad k0), .int p1, .int p2] r M1) (F0 m 28 ls []) := by
    intro  n
    induction n with
    | zero => intro x3 x4 x5 M H locs ls hl hw hd; exact (znone hd).elim
    | succ n hk28 =>
      intro x3 x4 x5 M H locs ls hl hw hd
      have hd : zbX11_worst_28 sh k0 p1 p2  (zlX11_worst_28 sh k0 p1 p2  n) x3 x4 x5 M = some (r, M1) := hd
      unfold zbX11_worst_28 at hd
      refine lv_iload hx hb dX11_worst_28 (lv_at hl 5 rfl) ?_
      refine lv_aload_n hx hb dX11_worst_30 rfl (lv_at hl 0 rfl) ?_
      refine z_gR F hw h0 zc11 11 (by decide) rfl zf11_12 dX11_worst_31 ?_
      have t_1 : zT sh (zR M k0 11) 1 := hw.2.2.2.fld h0 11 1
      refine z_gR F hw t_1 zc1 0 (by decide) rfl zf11_330 dX11_worst_34 ?_
      have t_2 : zT sh (zR M (zR M k0 11) 0) 17 := hw.2.2.2.fld t_1 0 17
      refine lv_iload_n hx hb dX11_worst_37 rfl (lv_at hl 1 rfl) ?_
      obtain ⟨g_3, hd⟩ := zgd_some hd
      refine z_aald F hw t_2 (by decide) 4 rfl g_3 dX11_worst_38 ?_
      have t_4 : zT sh (zR M (zR M (zR M k0 11) 0) p1.toNatClampNeg) 0 := hw.2.2.2.arr t_2 _ 0 (zin_lt g_3)
      refine z_gI F hw t_4 zc0 1 (by decide) rfl zf11_334 dX11_worst_39 ?_
      refine lv_icmp_gt (tgt := 75) hx hb dX11_worst_42 (by decide) (fun c_5 => ?_) (fun c_5 => ?_)
      · have hd := zif_pos c_5 hd
        refine lv_iload_n hx hb dX11_worst_75 rfl (lv_at hl 3 rfl) ?_
        exact z_iret F hr hlk hw (zpr1 hd) (zpr2 hd) dX11_worst_76
      · have hd := zif_neg c_5 hd
        refine lv_aload_n hx hb dX11_worst_45 rfl (lv_at hl 0 rfl) ?_
        refine lv_iload_n hx hb dX11_worst_46 rfl (lv_at hl 1 rfl) ?_
        refine lv_iload hx hb dX11_worst_47 (lv_at hl 5 rfl) ?_
        refine lv_iload_n hx hb dX11_worst_49 rfl (lv_at hl 2 rfl) ?_
        obtain ⟨r_7, M_8, hc_6, hd⟩ := zob2_some hd
        refine z_cvI F hw hl.1 (As := [.int p1, .int x5, .int p2]) (rest := []) (ztX11_shakeBy l D cy sh ad h0 hc_6) zyX11_shakeBy h0 zc11 zk11_386 ⟨rfl, rfl⟩ ⟨by decide, by decide⟩ rfl rfl (Nat.le_of_ble_eq_true rfl) dX11_worst_50 (fun H locs hw => ?_)
        refine lv_istore (lv' := [(6, .int r_7), (0, .ref (ad k0)), (1, .int p1), (2, .int p2), (3, .int x3), (4, .int x4), (5, .int x5)]) hx hb dX11_worst_53 hl (by decide) rfl (fun ls hl => ?_)
        refine lv_iload hx hb dX11_worst_55 (lv_at hl 0 rfl) ?_
        refine lv_iload hx hb dX11_worst_57 (lv_at hl 5 rfl) ?_
        refine lv_icmp_le (tgt := 69) hx hb dX11_worst_59 (by decide) (fun c_9 => ?_) (fun c_9 => ?_)
        · have hd := zif_pos c_9 hd
          exact J69 _ hk28 _ _ _ _ _ _ _ (lv_sub hl [1, 2, 3, 4, 5, 6] rfl) hw hd
        · have hd := zif_neg c_9 hd
          refine lv_iload hx hb dX11_worst_62 (lv_at hl 0 rfl) ?_
          refine lv_istore (lv' := [(4, .int r_7), (6, .int r_7), (0, .ref (ad k0)), (1, .int p1), (2, .int p2), (3, .int x3), (5, .int x5)]) hx hb dX11_worst_64 hl (by decide) rfl (fun ls hl => ?_)
          refine lv_iload hx hb dX11_worst_66 (lv_at hl 6 rfl) ?_
          refine lv_istore_n (lv' := [(3, .int x5), (4, .int r_7), (6, .int r_7), (0, .ref (ad k0)), (1, .int p1), (2, .int p2), (5, .int x5)]) hx hb dX11_worst_68 rfl hl (by decide) rfl (fun ls hl => ?_)
          exact J69 _ hk28 _ _ _ _ _ _ _ (lv_sub hl [3, 4, 5, 0, 1, 6] rfl) hw hd
  unfold zX11_worst at hd
  refine lv_aload_n hx hb dX11_worst_0 rfl (lv_at hl 0 rfl) ?_
  refine lv_iload_n hx hb dX11_worst_1 rfl (lv_at hl 1 rfl) ?_
  obtain ⟨r_11, hc_10, hd⟩ := zob_some hd
  refine z_cvI F hw hl.1 (As := [.int p1]) (rest := []) (ztX11_isAxis l D cy sh ad h0 hc_10) zyX11_isAxis h0 zc11 zk11_194 ⟨rfl, rfl⟩ ⟨by decide, by decide⟩ rfl rfl (Nat.le_of_ble_eq_true rfl) dX11_worst_2 (fun H locs hw => ?_)
  refine lv_if_eq (tgt := 18) hx hb dX11_worst_5 (by decide) (fun c_12 => ?_) (fun c_12 => ?_)
  · have hd := zif_pos c_12 hd
    exact J18 _ _ _ _ (lv_sub hl [] rfl) hw hd
  · have hd := zif_neg c_12 hd
    refine lv_iload_n hx hb dX11_worst_8 rfl (lv_at hl 2 rfl) ?_
    refine lv_iconst (v := (1 : Int32)) hx hb dX11_worst_9 (by decide) ?_
    refine lv_bipush (v := (100 : Int32)) hx hb dX11_worst_10 (by decide) ?_
    obtain ⟨r_14, hc_13, hd⟩ := zob_some hd
    refine z_csI F hw hl.1 (As := [.int p2, .int (1 : Int32), .int (100 : Int32)]) (rest := []) (ztX11_isWithin l D cy sh ad  hc_13) zyX11_isWithin zk11_123 ⟨rfl, rfl⟩ ⟨by decide, by decide⟩ rfl rfl (Nat.le_of_ble_eq_true rfl) dX11_worst_12 (fun H locs hw => ?_)
    refine lv_if_ne (tgt := 20) hx hb dX11_worst_15 (by decide) (fun c_15 => ?_) (fun c_15 => ?_)
    · have hd := zif_neg c_15 hd
      refine lv_iconst (v := (-1 : Int32)) hx hb dX11_worst_20 (by decide) ?_
      refine lv_istore_n (lv' := [(3, .int (-1 : Int32)), (0, .ref (ad k0)), (1, .int p1), (2, .int p2)]) hx hb dX11_worst_21 rfl hl (by decide) rfl (fun ls hl => ?_)
      refine lv_iconst (v := (-1 : Int32)) hx hb dX11_worst_22 (by decide) ?_
      refine lv_istore (lv' := [(4, .int (-1 : Int32)), (3, .int (-1 : Int32)), (0, .ref (ad k0)), (1, .int p1), (2, .int p2)]) hx hb dX11_worst_23 hl (by decide) rfl (fun ls hl => ?_)
      refine lv_iconst (v := (1 : Int32)) hx hb dX11_worst_25 (by decide) ?_
      refine lv_istore (lv' := [(5, .int (1 : Int32)), (4, .int (-1 : Int32)), (3, .int (-1 : Int32)), (0, .ref (ad k0)), (1, .int p1), (2, .int p2)]) hx hb dX11_worst_26 hl (by decide) rfl (fun ls hl => ?_)
      exact L28 zF _ _ _ _ _ _ _ (lv_sub hl [3, 4, 5, 2, 1, 0] rfl) hw hd
    · have hd := zif_pos c_15 hd
      exact J18 _ _ _ _ (lv_sub hl [] rfl) hw hd

def zjX11_unsafe_18 (sh : zShp) (k0 : Nat) (p1 : Int32) (p2 : Int32)  (M : zMem) : Option (Int32 × zMem) :=
  some ((-1 : Int32), M)
def zjX11_unsafe_72 (sh : zShp) (k0 : Nat) (p1 : Int32) (p2 : Int32) (kk25 : Int32 → Int32 → zMem → Option (Int32 × zMem)) (x3 : Int32) (x4 : Int32) (M : zMem) : Option (Int32 × zMem) :=
  kk25 x3 (x4 + (1 : Int32)) M
def zbX11_unsafe_25 (sh : zShp) (k0 : Nat) (p1 : Int32) (p2 : Int32)  (kk25 : Int32 → Int32 → zMem → Option (Int32 × zMem)) (x3 : Int32) (x4 : Int32) (M : zMem) : Option (Int32 × zMem) :=
  zgd (zin p1 (zlen sh (zR M (zR M k0 11) 0))) <|
  if (zI M (zR M (zR M (zR M k0 11) 0) p1.toNatClampNeg) 1) < x4 then (
  some (x3, M))
  else (
  zob (zX1_bandsOver sh (zR M k0 11) p1 x4 M) fun r_8 =>
  if r_8 = 0 then (
  zob2 (zX11_shakeBy sh k0 p1 x4 p2 M) fun r_11 M_12 =>
  if r_11 < (1024 : Int32) then (
  zjX11_unsafe_72 sh k0 p1 p2 kk25 x3 x4 M_12)
  else (
  zjX11_unsafe_72 sh k0 p1 p2 kk25 (x3 + (1 : Int32)) x4 M_12))
  else (
  zjX11_unsafe_72 sh k0 p1 p2 kk25 x3 x4 M))
def zlX11_unsafe_25 (sh : zShp) (k0 : Nat) (p1 : Int32) (p2 : Int32)  : Nat → Int32 → Int32 → zMem → Option (Int32 × zMem)
  | 0 => fun _ _ _ => none
  | n + 1 => fun x3 x4 M => zbX11_unsafe_25 sh k0 p1 p2  (zlX11_unsafe_25 sh k0 p1 p2  n) x3 x4 M
def zX11_unsafe (sh : zShp) (k0 : Nat) (p1 : Int32) (p2 : Int32) (M : zMem) : Option (Int32 × zMem) :=
  zob (zX11_isAxis sh k0 p1 M) fun r_15 =>
  if r_15 = 0 then (
  zjX11_unsafe_18 sh k0 p1 p2 M)
  else (
  zob (zX11_isWithin sh p2 (1 : Int32) (100 : Int32) M) fun r_18 =>
  if r_18 = 0 then (
  zjX11_unsafe_18 sh k0 p1 p2 M)
  else (
  zlX11_unsafe_25 sh k0 p1 p2 zF (0 : Int32) (1 : Int32) M))
set_option maxHeartbeats 4000000 in
set_option maxRecDepth 100000 in
theorem ztX11_unsafe (l : Launch) (D : va_G) (cy : Nat → ClassId) (sh : zShp) (ad : Nat → Nat) {k0 : Nat} {p1 : Int32} {p2 : Int32} (h0 : zT sh k0 11) {M : zMem} {r : Int32} {M1 : zMem} (hd : zX11_unsafe sh k0 p1 p2 M = some (r, M1)) : zCI l yX11_unsafe cX11_unsafe 5 .int { frames := 4, cells := 0, slots := 0, locals := 93 } [.ref (ad k0), .int p1, .int p2] D cy sh ad M r M1 := by
  refine zci_of (by decide) (Nat.le_of_ble_eq_true rfl) (fun p e s m below meth c ls F hr hlk hl hw => ?_)
  have hx := F.1.1
  have hb := F.1.2.1
  have hl : lv_has ls 5 [(0, .ref (ad k0)), (1, .int p1), (2, .int p2)] := hl
  have J18 : ∀ (M : zMem) (H : Heap) (locs : List Loc) (ls : Array Slot), lv_has ls 5 [] → zWd D cy sh ad s M H locs → zjX11_unsafe_18 sh k0 p1 p2  M = some (r, M1) → W p l e { frames := 4, cells := 0, slots := 0, locals := 93 } s m ([.ref (ad k0), .int p1, .int p2] : List Value).toArray below meth c H locs 0 0 (zQI below D cy sh ad s [.ref (ad k0), .int p1, .int p2] r M1) (F0 m 18 ls []) := by
    intro  M H locs ls hl hw hd
    unfold zjX11_unsafe_18 at hd
    refine lv_iconst (v := (-1 : Int32)) hx hb dX11_unsafe_18 (by decide) ?_
    exact z_iret F hr hlk hw (zpr1 hd) (zpr2 hd) dX11_unsafe_19
  have J72 : ∀ (kk25 : Int32 → Int32 → zMem → Option (Int32 × zMem)) (hk25 : ∀ (x3 : Int32) (x4 : Int32) (M : zMem) (H : Heap) (locs : List Loc) (ls : Array Slot), lv_has ls 5 [(0, .ref (ad k0)), (1, .int p1), (2, .int p2), (3, .int x3), (4, .int x4)] → zWd D cy sh ad s M H locs → kk25 x3 x4 M = some (r, M1) → W p l e { frames := 4, cells := 0, slots := 0, locals := 93 } s m ([.ref (ad k0), .int p1, .int p2] : List Value).toArray below meth c H locs 0 0 (zQI below D cy sh ad s [.ref (ad k0), .int p1, .int p2] r M1) (F0 m 25 ls [])), ∀ (x3 : Int32) (x4 : Int32) (M : zMem) (H : Heap) (locs : List Loc) (ls : Array Slot), lv_has ls 5 [(0, .ref (ad k0)), (1, .int p1), (2, .int p2), (3, .int x3), (4, .int x4)] → zWd D cy sh ad s M H locs → zjX11_unsafe_72 sh k0 p1 p2 kk25 x3 x4 M = some (r, M1) → W p l e { frames := 4, cells := 0, slots := 0, locals := 93 } s m ([.ref (ad k0), .int p1, .int p2] : List Value).toArray below meth c H locs 0 0 (zQI below D cy sh ad s [.ref (ad k0), .int p1, .int p2] r M1) (F0 m 72 ls []) := by
    intro kk25 hk25 x3 x4 M H locs ls hl hw hd
    unfold zjX11_unsafe_72 at hd
    refine lv_iinc (v := (x4 + (1 : Int32))) (lv' := [(4, .int (x4 + (1 : Int32))), (0, .ref (ad k0)), (1, .int p1), (2, .int p2), (3, .int x3)]) hx hb dX11_unsafe_72 hl (k := 4) rfl (ziinc (by decide)) (by decide) rfl (fun ls hl => ?_)
    refine lv_goto (tgt := 25) hx hb dX11_unsafe_75 (by decide) ?_
    exact hk25 _ _ _ _ _ _ (lv_sub hl [1, 2, 3, 4, 0] rfl) hw hd
  have L25 : ∀  (n : Nat), ∀ (x3 : Int32) (x4 : Int32) (M : zMem) (H : Heap) (locs : List Loc) (ls : Array Slot), lv_has ls 5 [(0, .ref (ad k0)), (1, .int p1), (2, .int p2), (3, .int x3), (4, .int x4)] → zWd D cy sh ad s M H locs → zlX11_unsafe_25 sh k0 p1 p2  n x3 x4 M = some (r, M1) → W p l e { frames := 4, cells := 0, slots := 0, locals := 93 } s m ([.ref (ad k0), .int p1, .int p2] : List Value).toArray below meth c H locs 0 0 (zQI below D cy sh ad s [.ref (ad k0), .int p1, .int p2] r M1) (F0 m 25 ls []) := by
    intro  n
    induction n with
    | zero => intro x3 x4 M H locs ls hl hw hd; exact (znone hd).elim
    | succ n hk25 =>
      intro x3 x4 M H locs ls hl hw hd
      have hd : zbX11_unsafe_25 sh k0 p1 p2  (zlX11_unsafe_25 sh k0 p1 p2  n) x3 x4 M = some (r, M1) := hd
      unfold zbX11_unsafe_25 at hd
      refine lv_iload hx hb dX11_unsafe_25 (lv_at hl 4 rfl) ?_
      refine lv_aload_n hx hb dX11_unsafe_27 rfl (lv_at hl 0 rfl) ?_
      refine z_gR F hw h0 zc11 11 (by decide) rfl zf11_12 dX11_unsafe_28 ?_
      have t_1 : zT sh (zR M k0 11) 1 := hw.2.2.2.fld h0 11 1
      refine z_gR F hw t_1 zc1 0 (by decide) rfl zf11_330 dX11_unsafe_31 ?_
      have t_2 : zT sh (zR M (zR M k0 11) 0) 17 := hw.2.2.2.fld t_1 0 17
      refine lv_iload_n hx hb dX11_unsafe_34 rfl (lv_at hl 1 rfl) ?_
      obtain ⟨g_3, hd⟩ := zgd_some hd
      refine z_aald F hw t_2 (by decide) 4 rfl g_3 dX11_unsafe_35 ?_
      have t_4 : zT sh (zR M (zR M (zR M k0 11) 0) p1.toNatClampNeg) 0 := hw.2.2.2.arr t_2 _ 0 (zin_lt g_3)
      refine z_gI F hw t_4 zc0 1 (by decide) rfl zf11_334 dX11_unsafe_36 ?_
      refine lv_icmp_gt (tgt := 78) hx hb dX11_unsafe_39 (by decide) (fun c_5 => ?_) (fun c_5 => ?_)
      · have hd := zif_pos c_5 hd
        refine lv_iload_n hx hb dX11_unsafe_78 rfl (lv_at hl 3 rfl) ?_
        exact z_iret F hr hlk hw (zpr1 hd) (zpr2 hd) dX11_unsafe_79
      · have hd := zif_neg c_5 hd
        refine lv_aload_n hx hb dX11_unsafe_42 rfl (lv_at hl 0 rfl) ?_
        refine z_gR F hw h0 zc11 11 (by decide) rfl zf11_12 dX11_unsafe_43 ?_
        have t_6 : zT sh (zR M k0 11) 1 := hw.2.2.2.fld h0 11 1
        refine lv_iload_n hx hb dX11_unsafe_46 rfl (lv_at hl 1 rfl) ?_
        refine lv_iload hx hb dX11_unsafe_47 (lv_at hl 4 rfl) ?_
        obtain ⟨r_8, hc_7, hd⟩ := zob_some hd
        refine z_cvI F hw hl.1 (As := [.int p1, .int x4]) (rest := []) (ztX1_bandsOver l D cy sh ad t_6 hc_7) zyX1_bandsOver t_6 zc1 zk11_358 ⟨rfl, rfl⟩ ⟨by decide, by decide⟩ rfl rfl (Nat.le_of_ble_eq_true rfl) dX11_unsafe_49 (fun H locs hw => ?_)
        refine lv_if_ne (tgt := 72) hx hb dX11_unsafe_52 (by decide) (fun c_9 => ?_) (fun c_9 => ?_)
        · have hd := zif_neg c_9 hd
          exact J72 _ hk25 _ _ _ _ _ _ (lv_sub hl [0, 1, 2, 3, 4] rfl) hw hd
        · have hd := zif_pos c_9 hd
          refine lv_aload_n hx hb dX11_unsafe_55 rfl (lv_at hl 0 rfl) ?_
          refine lv_iload_n hx hb dX11_unsafe_56 rfl (lv_at hl 1 rfl) ?_
          refine lv_iload hx hb dX11_unsafe_57 (lv_at hl 4 rfl) ?_
          refine lv_iload_n hx hb dX11_unsafe_59 rfl (lv_at hl 2 rfl) ?_
          obtain ⟨r_11, M_12, hc_10, hd⟩ := zob2_some hd
          refine z_cvI F hw hl.1 (As := [.int p1, .int x4, .int p2]) (rest := []) (ztX11_shakeBy l D cy sh ad h0 hc_10) zyX11_shakeBy h0 zc11 zk11_386 ⟨rfl, rfl⟩ ⟨by decide, by decide⟩ rfl rfl (Nat.le_of_ble_eq_true rfl) dX11_unsafe_60 (fun H locs hw => ?_)
          refine lv_sipush (v := (1024 : Int32)) hx hb dX11_unsafe_63 (by decide) ?_
          refine lv_icmp_lt (tgt := 72) hx hb dX11_unsafe_66 (by decide) (fun c_13 => ?_) (fun c_13 => ?_)
          · have hd := zif_pos c_13 hd
            exact J72 _ hk25 _ _ _ _ _ _ (lv_sub hl [0, 1, 2, 3, 4] rfl) hw hd
          · have hd := zif_neg c_13 hd
            refine lv_iinc (v := (x3 + (1 : Int32))) (lv' := [(3, .int (x3 + (1 : Int32))), (0, .ref (ad k0)), (1, .int p1), (2, .int p2), (4, .int x4)]) hx hb dX11_unsafe_69 hl (k := 3) rfl (ziinc (by decide)) (by decide) rfl (fun ls hl => ?_)
            exact J72 _ hk25 _ _ _ _ _ _ (lv_sub hl [1, 2, 3, 0, 4] rfl) hw hd
  unfold zX11_unsafe at hd
  refine lv_aload_n hx hb dX11_unsafe_0 rfl (lv_at hl 0 rfl) ?_
  refine lv_iload_n hx hb dX11_unsafe_1 rfl (lv_at hl 1 rfl) ?_
  obtain ⟨r_15, hc_14, hd⟩ := zob_some hd
  refine z_cvI F hw hl.1 (As := [.int p1]) (rest := []) (ztX11_isAxis l D cy sh ad h0 hc_14) zyX11_isAxis h0 zc11 zk11_194 ⟨rfl, rfl⟩ ⟨by decide, by decide⟩ rfl rfl (Nat.le_of_ble_eq_true rfl) dX11_unsafe_2 (fun H locs hw => ?_)
  refine lv_if_eq (tgt := 18) hx hb dX11_unsafe_5 (by decide) (fun c_16 => ?_) (fun c_16 => ?_)
  · have hd := zif_pos c_16 hd
    exact J18 _ _ _ _ (lv_sub hl [] rfl) hw hd
  · have hd := zif_neg c_16 hd
    refine lv_iload_n hx hb dX11_unsafe_8 rfl (lv_at hl 2 rfl) ?_
    refine lv_iconst (v := (1 : Int32)) hx hb dX11_unsafe_9 (by decide) ?_
    refine lv_bipush (v := (100 : Int32)) hx hb dX11_unsafe_10 (by decide) ?_
    obtain ⟨r_18, hc_17, hd⟩ := zob_some hd
    refine z_csI F hw hl.1 (As := [.int p2, .int (1 : Int32), .int (100 : Int32)]) (rest := []) (ztX11_isWithin l D cy sh ad  hc_17) zyX11_isWithin zk11_123 ⟨rfl, rfl⟩ ⟨by decide, by decide⟩ rfl rfl (Nat.le_of_ble_eq_true rfl) dX11_unsafe_12 (fun H locs hw => ?_)
    refine lv_if_ne (tgt := 20) hx hb dX11_unsafe_15 (by decide) (fun c_19 => ?_) (fun c_19 => ?_)
    · have hd := zif_neg c_19 hd
      refine lv_iconst (v := (0 : Int32)) hx hb dX11_unsafe_20 (by decide) ?_
      refine lv_istore_n (lv' := [(3, .int (0 : Int32)), (0, .ref (ad k0)), (1, .int p1), (2, .int p2)]) hx hb dX11_unsafe_21 rfl hl (by decide) rfl (fun ls hl => ?_)
      refine lv_iconst (v := (1 : Int32)) hx hb dX11_unsafe_22 (by decide) ?_
      refine lv_istore (lv' := [(4, .int (1 : Int32)), (3, .int (0 : Int32)), (0, .ref (ad k0)), (1, .int p1), (2, .int p2)]) hx hb dX11_unsafe_23 hl (by decide) rfl (fun ls hl => ?_)
      exact L25 zF _ _ _ _ _ _ (lv_sub hl [2, 3, 4, 1, 0] rfl) hw hd
    · have hd := zif_pos c_19 hd
      exact J18 _ _ _ _ (lv_sub hl [] rfl) hw hd

def zjX11_coil_29 (sh : zShp) (k0 : Nat) (p1 : Int32) (p2 : Int32) (p3 : Int32)  (M : zMem) : Option (Int32 × zMem) :=
  some ((-1 : Int32), M)
def zbX11_coil_46 (sh : zShp) (k0 : Nat) (p1 : Int32) (p2 : Int32) (p3 : Int32)  (kk46 : Int32 → zMem → Option (Int32 × zMem)) (x4 : Int32) (M : zMem) : Option (Int32 × zMem) :=
  if p3 ≤ x4 then (
  some ((zI M (zR M k0 8) 0), M))
  else (
  zob (zX2_step sh (zR M k0 8) p1 M) fun M_5 =>
  kk46 (x4 + (1 : Int32)) M_5)
def zlX11_coil_46 (sh : zShp) (k0 : Nat) (p1 : Int32) (p2 : Int32) (p3 : Int32)  : Nat → Int32 → zMem → Option (Int32 × zMem)
  | 0 => fun _ _ => none
  | n + 1 => fun x4 M => zbX11_coil_46 sh k0 p1 p2 p3  (zlX11_coil_46 sh k0 p1 p2 p3  n) x4 M
def zX11_coil (sh : zShp) (k0 : Nat) (p1 : Int32) (p2 : Int32) (p3 : Int32) (M : zMem) : Option (Int32 × zMem) :=
  zob (zX11_isWithin sh p1 (0 : Int32) (2000 : Int32) M) fun r_7 =>
  if r_7 = 0 then (
  zjX11_coil_29 sh k0 p1 p2 p3 M)
  else (
  zob (zX11_isMode sh p2 M) fun r_10 =>
  if r_10 = 0 then (
  zjX11_coil_29 sh k0 p1 p2 p3 M)
  else (
  zob (zX11_isWithin sh p3 (0 : Int32) (1000 : Int32) M) fun r_13 =>
  if r_13 = 0 then (
  zjX11_coil_29 sh k0 p1 p2 p3 M)
  else (
  zob (zX2_start sh (zR M k0 8) (zR M k0 11) p2 M) fun M_18 =>
  zlX11_coil_46 sh k0 p1 p2 p3 zF (0 : Int32) M_18)))
set_option maxHeartbeats 4000000 in
set_option maxRecDepth 100000 in
theorem ztX11_coil (l : Launch) (D : va_G) (cy : Nat → ClassId) (sh : zShp) (ad : Nat → Nat) {k0 : Nat} {p1 : Int32} {p2 : Int32} {p3 : Int32} (h0 : zT sh k0 11) {M : zMem} {r : Int32} {M1 : zMem} (hd : zX11_coil sh k0 p1 p2 p3 M = some (r, M1)) : zCI l yX11_coil cX11_coil 5 .int { frames := 2, cells := 0, slots := 0, locals := 44 } [.ref (ad k0), .int p1, .int p2, .int p3] D cy sh ad M r M1 := by
  refine zci_of (by decide) (Nat.le_of_ble_eq_true rfl) (fun p e s m below meth c ls F hr hlk hl hw => ?_)
  have hx := F.1.1
  have hb := F.1.2.1
  have hl : lv_has ls 5 [(0, .ref (ad k0)), (1, .int p1), (2, .int p2), (3, .int p3)] := hl
  have J29 : ∀ (M : zMem) (H : Heap) (locs : List Loc) (ls : Array Slot), lv_has ls 5 [] → zWd D cy sh ad s M H locs → zjX11_coil_29 sh k0 p1 p2 p3  M = some (r, M1) → W p l e { frames := 2, cells := 0, slots := 0, locals := 44 } s m ([.ref (ad k0), .int p1, .int p2, .int p3] : List Value).toArray below meth c H locs 0 0 (zQI below D cy sh ad s [.ref (ad k0), .int p1, .int p2, .int p3] r M1) (F0 m 29 ls []) := by
    intro  M H locs ls hl hw hd
    unfold zjX11_coil_29 at hd
    refine lv_iconst (v := (-1 : Int32)) hx hb dX11_coil_29 (by decide) ?_
    exact z_iret F hr hlk hw (zpr1 hd) (zpr2 hd) dX11_coil_30
  have L46 : ∀  (n : Nat), ∀ (x4 : Int32) (M : zMem) (H : Heap) (locs : List Loc) (ls : Array Slot), lv_has ls 5 [(0, .ref (ad k0)), (1, .int p1), (3, .int p3), (4, .int x4)] → zWd D cy sh ad s M H locs → zlX11_coil_46 sh k0 p1 p2 p3  n x4 M = some (r, M1) → W p l e { frames := 2, cells := 0, slots := 0, locals := 44 } s m ([.ref (ad k0), .int p1, .int p2, .int p3] : List Value).toArray below meth c H locs 0 0 (zQI below D cy sh ad s [.ref (ad k0), .int p1, .int p2, .int p3] r M1) (F0 m 46 ls []) := by
    intro  n
    induction n with
    | zero => intro x4 M H locs ls hl hw hd; exact (znone hd).elim
    | succ n hk46 =>
      intro x4 M H locs ls hl hw hd
      have hd : zbX11_coil_46 sh k0 p1 p2 p3  (zlX11_coil_46 sh k0 p1 p2 p3  n) x4 M = some (r, M1) := hd
      unfold zbX11_coil_46 at hd
      refine lv_iload hx hb dX11_coil_46 (lv_at hl 3 rfl) ?_
      refine lv_iload_n hx hb dX11_coil_48 rfl (lv_at hl 2 rfl) ?_
      refine lv_icmp_ge (tgt := 66) hx hb dX11_coil_49 (by decide) (fun c_1 => ?_) (fun c_1 => ?_)
      · have hd := zif_pos c_1 hd
        refine lv_aload_n hx hb dX11_coil_66 rfl (lv_at hl 0 rfl) ?_
        refine z_gR F hw h0 zc11 8 (by decide) rfl zf11_78 dX11_coil_67 ?_
        have t_2 : zT sh (zR M k0 8) 2 := hw.2.2.2.fld h0 8 2
        refine z_gI F hw t_2 zc2 0 (by decide) rfl zf11_247 dX11_coil_70 ?_
        exact z_iret F hr hlk hw (zpr1 hd) (zpr2 hd) dX11_coil_73
      · have hd := zif_neg c_1 hd
        refine lv_aload_n hx hb dX11_coil_52 rfl (lv_at hl 0 rfl) ?_
        refine z_gR F hw h0 zc11 8 (by decide) rfl zf11_78 dX11_coil_53 ?_
        have t_3 : zT sh (zR M k0 8) 2 := hw.2.2.2.fld h0 8 2
        refine lv_iload_n hx hb dX11_coil_56 rfl (lv_at hl 1 rfl) ?_
        obtain ⟨M_5, hc_4, hd⟩ := zob_some hd
        refine z_cvV F hw hl.1 (As := [.int p1]) (rest := []) (ztX2_step l D cy sh ad t_3 hc_4) zyX2_step t_3 zc2 zk11_244 ⟨rfl, rfl⟩ ⟨by decide, by decide⟩ rfl rfl (Nat.le_of_ble_eq_true rfl) dX11_coil_57 (fun H locs hw => ?_)
        refine lv_iinc (v := (x4 + (1 : Int32))) (lv' := [(4, .int (x4 + (1 : Int32))), (0, .ref (ad k0)), (1, .int p1), (3, .int p3)]) hx hb dX11_coil_60 hl (k := 3) rfl (ziinc (by decide)) (by decide) rfl (fun ls hl => ?_)
        refine lv_goto (tgt := 46) hx hb dX11_coil_63 (by decide) ?_
        exact hk46 _ _ _ _ _ (lv_sub hl [1, 2, 3, 0] rfl) hw hd
  unfold zX11_coil at hd
  refine lv_iload_n hx hb dX11_coil_0 rfl (lv_at hl 1 rfl) ?_
  refine lv_iconst (v := (0 : Int32)) hx hb dX11_coil_1 (by decide) ?_
  refine lv_sipush (v := (2000 : Int32)) hx hb dX11_coil_2 (by decide) ?_
  obtain ⟨r_7, hc_6, hd⟩ := zob_some hd
  refine z_csI F hw hl.1 (As := [.int p1, .int (0 : Int32), .int (2000 : Int32)]) (rest := []) (ztX11_isWithin l D cy sh ad  hc_6) zyX11_isWithin zk11_123 ⟨rfl, rfl⟩ ⟨by decide, by decide⟩ rfl rfl (Nat.le_of_ble_eq_true rfl) dX11_coil_5 (fun H locs hw => ?_)
  refine lv_if_eq (tgt := 29) hx hb dX11_coil_8 (by decide) (fun c_8 => ?_) (fun c_8 => ?_)
  · have hd := zif_pos c_8 hd
    exact J29 _ _ _ _ (lv_sub hl [] rfl) hw hd
  · have hd := zif_neg c_8 hd
    refine lv_iload_n hx hb dX11_coil_11 rfl (lv_at hl 2 rfl) ?_
    obtain ⟨r_10, hc_9, hd⟩ := zob_some hd
    refine z_csI F hw hl.1 (As := [.int p2]) (rest := []) (ztX11_isMode l D cy sh ad  hc_9) zyX11_isMode zk11_238 ⟨rfl, rfl⟩ ⟨by decide, by decide⟩ rfl rfl (Nat.le_of_ble_eq_true rfl) dX11_coil_12 (fun H locs hw => ?_)
    refine lv_if_eq (tgt := 29) hx hb dX11_coil_15 (by decide) (fun c_11 => ?_) (fun c_11 => ?_)
    · have hd := zif_pos c_11 hd
      exact J29 _ _ _ _ (lv_sub hl [] rfl) hw hd
    · have hd := zif_neg c_11 hd
      refine lv_iload_n hx hb dX11_coil_18 rfl (lv_at hl 3 rfl) ?_
      refine lv_iconst (v := (0 : Int32)) hx hb dX11_coil_19 (by decide) ?_
      refine lv_sipush (v := (1000 : Int32)) hx hb dX11_coil_20 (by decide) ?_
      obtain ⟨r_13, hc_12, hd⟩ := zob_some hd
      refine z_csI F hw hl.1 (As := [.int p3, .int (0 : Int32), .int (1000 : Int32)]) (rest := []) (ztX11_isWithin l D cy sh ad  hc_12) zyX11_isWithin zk11_123 ⟨rfl, rfl⟩ ⟨by decide, by decide⟩ rfl rfl (Nat.le_of_ble_eq_true rfl) dX11_coil_23 (fun H locs hw => ?_)
      refine lv_if_ne (tgt := 31) hx hb dX11_coil_26 (by decide) (fun c_14 => ?_) (fun c_14 => ?_)
      · have hd := zif_neg c_14 hd
        refine lv_aload_n hx hb dX11_coil_31 rfl (lv_at hl 0 rfl) ?_
        refine z_gR F hw h0 zc11 8 (by decide) rfl zf11_78 dX11_coil_32 ?_
        have t_15 : zT sh (zR M k0 8) 2 := hw.2.2.2.fld h0 8 2
        refine lv_aload_n hx hb dX11_coil_35 rfl (lv_at hl 0 rfl) ?_
        refine z_gR F hw h0 zc11 11 (by decide) rfl zf11_12 dX11_coil_36 ?_
        have t_16 : zT sh (zR M k0 11) 1 := hw.2.2.2.fld h0 11 1
        refine lv_iload_n hx hb dX11_coil_39 rfl (lv_at hl 2 rfl) ?_
        obtain ⟨M_18, hc_17, hd⟩ := zob_some hd
        refine z_cvV F hw hl.1 (As := [.ref (ad (zR M k0 11)), .int p2]) (rest := []) (ztX2_start l D cy sh ad t_15 t_16 hc_17) zyX2_start t_15 zc2 zk11_241 ⟨rfl, rfl⟩ ⟨by decide, by decide⟩ rfl rfl (Nat.le_of_ble_eq_true rfl) dX11_coil_40 (fun H locs hw => ?_)
        refine lv_iconst (v := (0 : Int32)) hx hb dX11_coil_43 (by decide) ?_
        refine lv_istore (lv' := [(4, .int (0 : Int32)), (0, .ref (ad k0)), (1, .int p1), (2, .int p2), (3, .int p3)]) hx hb dX11_coil_44 hl (by decide) rfl (fun ls hl => ?_)
        exact L46 zF _ _ _ _ _ (lv_sub hl [1, 2, 4, 0] rfl) hw hd
      · have hd := zif_pos c_14 hd
        exact J29 _ _ _ _ (lv_sub hl [] rfl) hw hd

def zjX11_offWhileFollowing_111 (sh : zShp) (k0 : Nat) (p1 : Int32) (p2 : Int32) (p3 : Int32) (kk24 : Int32 → Int32 → Int32 → Int32 → zMem → Option (Int32 × zMem)) (kk72 : Int32 → Int32 → Int32 → Int32 → Int32 → Int32 → zMem → Option (Int32 × zMem)) (x4 : Int32) (x6 : Int32) (x7 : Int32) (x9 : Int32) (x10 : Int32) (x11 : Int32) (s0 : Int32) (s1 : Int32) (M : zMem) : Option (Int32 × zMem) :=
  kk72 (zmax x4 (zabs x11)) (s0 + s1) (x6 + (zabs x11)) x7 x9 (x10 + (1 : Int32)) M
def zbX11_offWhileFollowing_72 (sh : zShp) (k0 : Nat) (p1 : Int32) (p2 : Int32) (p3 : Int32) (kk24 : Int32 → Int32 → Int32 → Int32 → zMem → Option (Int32 × zMem)) (kk72 : Int32 → Int32 → Int32 → Int32 → Int32 → Int32 → zMem → Option (Int32 × zMem)) (x4 : Int32) (x5 : Int32) (x6 : Int32) (x7 : Int32) (x9 : Int32) (x10 : Int32) (M : zMem) : Option (Int32 × zMem) :=
  if p1 ≤ x10 then (
  kk24 x4 x5 x6 (x7 + (1 : Int32)) M)
  else (
  zob (zX2_step sh (zR M k0 8) x9 M) fun M_4 =>
  zbd (((zI M_4 (zR M_4 k0 8) 0) - x9)) fun v_6 =>
  if v_6 ≤ 0 then (
  zjX11_offWhileFollowing_111 sh k0 p1 p2 p3 kk24 kk72 x4 x6 x7 x9 x10 v_6 x5 (0 : Int32) M_4)
  else (
  zjX11_offWhileFollowing_111 sh k0 p1 p2 p3 kk24 kk72 x4 x6 x7 x9 x10 v_6 x5 (1 : Int32) M_4))
def zlX11_offWhileFollowing_72 (sh : zShp) (k0 : Nat) (p1 : Int32) (p2 : Int32) (p3 : Int32) (kk24 : Int32 → Int32 → Int32 → Int32 → zMem → Option (Int32 × zMem)) : Nat → Int32 → Int32 → Int32 → Int32 → Int32 → Int32 → zMem → Option (Int32 × zMem)
  | 0 => fun _ _ _ _ _ _ _ => none
  | n + 1 => fun x4 x5 x6 x7 x9 x10 M => zbX11_offWhileFollowing_72 sh k0 p1 p2 p3 kk24 (zlX11_offWhileFollowing_72 sh k0 p1 p2 p3 kk24 n) x4 x5 x6 x7 x9 x10 M
def zjX11_offWhileFollowing_50 (sh : zShp) (k0 : Nat) (p1 : Int32) (p2 : Int32) (p3 : Int32) (kk24 : Int32 → Int32 → Int32 → Int32 → zMem → Option (Int32 × zMem)) (x4 : Int32) (x5 : Int32) (x6 : Int32) (x7 : Int32) (s0 : Int32) (M : zMem) : Option (Int32 × zMem) :=
  zob (zX9_wave sh (zR M (zR M (zR M k0 11) 4) 1) s0 M) fun r_12 =>
  zlX11_offWhileFollowing_72 sh k0 p1 p2 p3 kk24 zF x4 x5 x6 x7 r_12 (0 : Int32) M
def zbX11_offWhileFollowing_24 (sh : zShp) (k0 : Nat) (p1 : Int32) (p2 : Int32) (p3 : Int32)  (kk24 : Int32 → Int32 → Int32 → Int32 → zMem → Option (Int32 × zMem)) (x4 : Int32) (x5 : Int32) (x6 : Int32) (x7 : Int32) (M : zMem) : Option (Int32 × zMem) :=
  if (128 : Int32) < x7 then (
  if p3 = (0 : Int32) then (
  some (x4, M))
  else if p3 = (1 : Int32) then (
  some (x5, M))
  else (
  some (x6, M)))
  else (
  if (64 : Int32) < x7 then (
  zjX11_offWhileFollowing_50 sh k0 p1 p2 p3 kk24 x4 x5 x6 x7 ((128 : Int32) - x7) M)
  else (
  zjX11_offWhileFollowing_50 sh k0 p1 p2 p3 kk24 x4 x5 x6 x7 x7 M))
def zlX11_offWhileFollowing_24 (sh : zShp) (k0 : Nat) (p1 : Int32) (p2 : Int32) (p3 : Int32)  : Nat → Int32 → Int32 → Int32 → Int32 → zMem → Option (Int32 × zMem)
  | 0 => fun _ _ _ _ _ => none
  | n + 1 => fun x4 x5 x6 x7 M => zbX11_offWhileFollowing_24 sh k0 p1 p2 p3  (zlX11_offWhileFollowing_24 sh k0 p1 p2 p3  n) x4 x5 x6 x7 M
def zX11_offWhileFollowing (sh : zShp) (k0 : Nat) (p1 : Int32) (p2 : Int32) (p3 : Int32) (M : zMem) : Option (Int32 × zMem) :=
  zob (zX2_start sh (zR M k0 8) (zR M k0 11) p2 M) fun M_20 =>
  zlX11_offWhileFollowing_24 sh k0 p1 p2 p3 zF (0 : Int32) (0 : Int32) (0 : Int32) (0 : Int32) M_20
set_option maxHeartbeats 4000000 in
set_option maxRecDepth 100000 in
theorem ztX11_offWhileFollowing (l : Launch) (D : va_G) (cy : Nat → ClassId) (sh : zShp) (ad : Nat → Nat) {k0 : Nat} {p1 : Int32} {p2 : Int32} {p3 : Int32} (h0 : zT sh k0 11) {M : zMem} {r : Int32} {M1 : zMem} (hd : zX11_offWhileFollowing sh k0 p1 p2 p3 M = some (r, M1)) : zCI l yX11_offWhileFollowing cX11_offWhileFollowing 12 .int { frames := 2, cells := 0, slots := 0, locals := 44 } [.ref (ad k0), .int p1, .int p2, .int p3] D cy sh ad M r M1 := by
  refine zci_of (by decide) (Nat.le_of_ble_eq_true rfl) (fun p e s m below meth c ls F hr hlk hl hw => ?_)
  have hx := F.1.1
  have hb := F.1.2.1
  have hl : lv_has ls 12 [(0, .ref (ad k0)), (1, .int p1), (2, .int p2), (3, .int p3)] := hl
  have J111 : ∀ (kk24 : Int32 → Int32 → Int32 → Int32 → zMem → Option (Int32 × zMem)) (hk24 : ∀ (x4 : Int32) (x5 : Int32) (x6 : Int32) (x7 : Int32) (M : zMem) (H : Heap) (locs : List Loc) (ls : Array Slot), lv_has ls 12 [(0, .ref (ad k0)), (1, .int p1), (3, .int p3), (4, .int x4), (5, .int x5), (6, .int x6), (7, .int x7)] → zWd D cy sh ad s M H locs → kk24 x4 x5 x6 x7 M = some (r, M1) → W p l e { frames := 2, cells := 0, slots := 0, locals := 44 } s m ([.ref (ad k0), .int p1, .int p2, .int p3] : List Value).toArray below meth c H locs 0 0 (zQI below D cy sh ad s [.ref (ad k0), .int p1, .int p2, .int p3] r M1) (F0 m 24 ls [])) (kk72 : Int32 → Int32 → Int32 → Int32 → Int32 → Int32 → zMem → Option (Int32 × zMem)) (hk72 : ∀ (x4 : Int32) (x5 : Int32) (x6 : Int32) (x7 : Int32) (x9 : Int32) (x10 : Int32) (M : zMem) (H : Heap) (locs : List Loc) (ls : Array Slot), lv_has ls 12 [(0, .ref (ad k0)), (1, .int p1), (3, .int p3), (4, .int x4), (5, .int x5), (6, .int x6), (7, .int x7), (9, .int x9), (10, .int x10)] → zWd D cy sh ad s M H locs → kk72 x4 x5 x6 x7 x9 x10 M = some (r, M1) → W p l e { frames := 2, cells := 0, slots := 0, locals := 44 } s m ([.ref (ad k0), .int p1, .int p2, .int p3] : List Value).toArray below meth c H locs 0 0 (zQI below D cy sh ad s [.ref (ad k0), .int p1, .int p2, .int p3] r M1) (F0 m 72 ls [])), ∀ (x4 : Int32) (x6 : Int32) (x7 : Int32) (x9 : Int32) (x10 : Int32) (x11 : Int32) (s0 : Int32) (s1 : Int32) (M : zMem) (H : Heap) (locs : List Loc) (ls : Array Slot), lv_has ls 12 [(0, .ref (ad k0)), (1, .int p1), (3, .int p3), (4, .int x4), (6, .int x6), (7, .int x7), (9, .int x9), (10, .int x10), (11, .int x11)] → zWd D cy sh ad s M H locs → zjX11_offWhileFollowing_111 sh k0 p1 p2 p3 kk24 kk72 x4 x6 x7 x9 x10 x11 s0 s1 M = some (r, M1) → W p l e { frames := 2, cells := 0, slots := 0, locals := 44 } s m ([.ref (ad k0), .int p1, .int p2, .int p3] : List Value).toArray below meth c H locs 0 0 (zQI below D cy sh ad s [.ref (ad k0), .int p1, .int p2, .int p3] r M1) (F0 m 111 ls [.int s1, .int s0]) := by
    intro kk24 hk24 kk72 hk72 x4 x6 x7 x9 x10 x11 s0 s1 M H locs ls hl hw hd
    unfold zjX11_offWhileFollowing_111 at hd
    refine lv_iadd hx hb dX11_offWhileFollowing_111 ?_
    refine lv_istore (lv' := [(5, .int (s0 + s1)), (0, .ref (ad k0)), (1, .int p1), (3, .int p3), (4, .int x4), (6, .int x6), (7, .int x7), (9, .int x9), (10, .int x10), (11, .int x11)]) hx hb dX11_offWhileFollowing_112 hl (by decide) rfl (fun ls hl => ?_)
    refine lv_iload hx hb dX11_offWhileFollowing_114 (lv_at hl 4 rfl) ?_
    refine lv_iload hx hb dX11_offWhileFollowing_116 (lv_at hl 9 rfl) ?_
    refine z_mabs F hl.1 zk11_230 (by decide) (Nat.le_of_ble_eq_true rfl) dX11_offWhileFollowing_118 ?_
    refine z_mmax F hl.1 zk11_235 (by decide) (Nat.le_of_ble_eq_true rfl) dX11_offWhileFollowing_121 ?_
    refine lv_istore (lv' := [(4, .int (zmax x4 (zabs x11))), (5, .int (s0 + s1)), (0, .ref (ad k0)), (1, .int p1), (3, .int p3), (6, .int x6), (7, .int x7), (9, .int x9), (10, .int x10), (11, .int x11)]) hx hb dX11_offWhileFollowing_124 hl (by decide) rfl (fun ls hl => ?_)
    refine lv_iload hx hb dX11_offWhileFollowing_126 (lv_at hl 5 rfl) ?_
    refine lv_iload hx hb dX11_offWhileFollowing_128 (lv_at hl 9 rfl) ?_
    refine z_mabs F hl.1 zk11_230 (by decide) (Nat.le_of_ble_eq_true rfl) dX11_offWhileFollowing_130 ?_
    refine lv_iadd hx hb dX11_offWhileFollowing_133 ?_
    refine lv_istore (lv' := [(6, .int (x6 + (zabs x11))), (4, .int (zmax x4 (zabs x11))), (5, .int (s0 + s1)), (0, .ref (ad k0)), (1, .int p1), (3, .int p3), (7, .int x7), (9, .int x9), (10, .int x10), (11, .int x11)]) hx hb dX11_offWhileFollowing_134 hl (by decide) rfl (fun ls hl => ?_)
    refine lv_iinc (v := (x10 + (1 : Int32))) (lv' := [(10, .int (x10 + (1 : Int32))), (6, .int (x6 + (zabs x11))), (4, .int (zmax x4 (zabs x11))), (5, .int (s0 + s1)), (0, .ref (ad k0)), (1, .int p1), (3, .int p3), (7, .int x7), (9, .int x9), (11, .int x11)]) hx hb dX11_offWhileFollowing_136 hl (k := 8) rfl (ziinc (by decide)) (by decide) rfl (fun ls hl => ?_)
    refine lv_goto (tgt := 72) hx hb dX11_offWhileFollowing_139 (by decide) ?_
    exact hk72 _ _ _ _ _ _ _ _ _ _ (lv_sub hl [4, 5, 6, 2, 3, 1, 7, 8, 0] rfl) hw hd
  have L72 : ∀ (kk24 : Int32 → Int32 → Int32 → Int32 → zMem → Option (Int32 × zMem)) (hk24 : ∀ (x4 : Int32) (x5 : Int32) (x6 : Int32) (x7 : Int32) (M : zMem) (H : Heap) (locs : List Loc) (ls : Array Slot), lv_has ls 12 [(0, .ref (ad k0)), (1, .int p1), (3, .int p3), (4, .int x4), (5, .int x5), (6, .int x6), (7, .int x7)] → zWd D cy sh ad s M H locs → kk24 x4 x5 x6 x7 M = some (r, M1) → W p l e { frames := 2, cells := 0, slots := 0, locals := 44 } s m ([.ref (ad k0), .int p1, .int p2, .int p3] : List Value).toArray below meth c H locs 0 0 (zQI below D cy sh ad s [.ref (ad k0), .int p1, .int p2, .int p3] r M1) (F0 m 24 ls [])) (n : Nat), ∀ (x4 : Int32) (x5 : Int32) (x6 : Int32) (x7 : Int32) (x9 : Int32) (x10 : Int32) (M : zMem) (H : Heap) (locs : List Loc) (ls : Array Slot), lv_has ls 12 [(0, .ref (ad k0)), (1, .int p1), (3, .int p3), (4, .int x4), (5, .int x5), (6, .int x6), (7, .int x7), (9, .int x9), (10, .int x10)] → zWd D cy sh ad s M H locs → zlX11_offWhileFollowing_72 sh k0 p1 p2 p3 kk24 n x4 x5 x6 x7 x9 x10 M = some (r, M1) → W p l e { frames := 2, cells := 0, slots := 0, locals := 44 } s m ([.ref (ad k0), .int p1, .int p2, .int p3] : List Value).toArray below meth c H locs 0 0 (zQI below D cy sh ad s [.ref (ad k0), .int p1, .int p2, .int p3] r M1) (F0 m 72 ls []) := by
    intro kk24 hk24 n
    induction n with
    | zero => intro x4 x5 x6 x7 x9 x10 M H locs ls hl hw hd; exact (znone hd).elim
    | succ n hk72 =>
      intro x4 x5 x6 x7 x9 x10 M H locs ls hl hw hd
      have hd : zbX11_offWhileFollowing_72 sh k0 p1 p2 p3 kk24 (zlX11_offWhileFollowing_72 sh k0 p1 p2 p3 kk24 n) x4 x5 x6 x7 x9 x10 M = some (r, M1) := hd
      unfold zbX11_offWhileFollowing_72 at hd
      refine lv_iload hx hb dX11_offWhileFollowing_72 (lv_at hl 8 rfl) ?_
      refine lv_iload_n hx hb dX11_offWhileFollowing_74 rfl (lv_at hl 1 rfl) ?_
      refine lv_icmp_ge (tgt := 142) hx hb dX11_offWhileFollowing_75 (by decide) (fun c_1 => ?_) (fun c_1 => ?_)
      · have hd := zif_pos c_1 hd
        refine lv_iinc (v := (x7 + (1 : Int32))) (lv' := [(7, .int (x7 + (1 : Int32))), (0, .ref (ad k0)), (1, .int p1), (3, .int p3), (4, .int x4), (5, .int x5), (6, .int x6), (9, .int x9), (10, .int x10)]) hx hb dX11_offWhileFollowing_142 hl (k := 6) rfl (ziinc (by decide)) (by decide) rfl (fun ls hl => ?_)
        refine lv_goto (tgt := 24) hx hb dX11_offWhileFollowing_145 (by decide) ?_
        exact hk24 _ _ _ _ _ _ _ _ (lv_sub hl [1, 2, 3, 4, 5, 6, 0] rfl) hw hd
      · have hd := zif_neg c_1 hd
        refine lv_aload_n hx hb dX11_offWhileFollowing_78 rfl (lv_at hl 0 rfl) ?_
        refine z_gR F hw h0 zc11 8 (by decide) rfl zf11_78 dX11_offWhileFollowing_79 ?_
        have t_2 : zT sh (zR M k0 8) 2 := hw.2.2.2.fld h0 8 2
        refine lv_iload hx hb dX11_offWhileFollowing_82 (lv_at hl 7 rfl) ?_
        obtain ⟨M_4, hc_3, hd⟩ := zob_some hd
        refine z_cvV F hw hl.1 (As := [.int x9]) (rest := []) (ztX2_step l D cy sh ad t_2 hc_3) zyX2_step t_2 zc2 zk11_244 ⟨rfl, rfl⟩ ⟨by decide, by decide⟩ rfl rfl (Nat.le_of_ble_eq_true rfl) dX11_offWhileFollowing_84 (fun H locs hw => ?_)
        refine lv_aload_n hx hb dX11_offWhileFollowing_87 rfl (lv_at hl 0 rfl) ?_
        refine z_gR F hw h0 zc11 8 (by decide) rfl zf11_78 dX11_offWhileFollowing_88 ?_
        have t_5 : zT sh (zR M_4 k0 8) 2 := hw.2.2.2.fld h0 8 2
        refine z_gI F hw t_5 zc2 0 (by decide) rfl zf11_247 dX11_offWhileFollowing_91 ?_
        refine lv_iload hx hb dX11_offWhileFollowing_94 (lv_at hl 7 rfl) ?_
        refine lv_isub hx hb dX11_offWhileFollowing_96 ?_
        refine lv_topi (fun v_6 ev_6 => ?_)
        have hd := zbd_eq ev_6 hd
        refine lv_istore (lv' := [(11, .int v_6), (0, .ref (ad k0)), (1, .int p1), (3, .int p3), (4, .int x4), (5, .int x5), (6, .int x6), (7, .int x7), (9, .int x9), (10, .int x10)]) hx hb dX11_offWhileFollowing_97 hl (by decide) rfl (fun ls hl => ?_)
        refine lv_iload hx hb dX11_offWhileFollowing_99 (lv_at hl 5 rfl) ?_
        refine lv_iload hx hb dX11_offWhileFollowing_101 (lv_at hl 0 rfl) ?_
        refine lv_if_le (tgt := 110) hx hb dX11_offWhileFollowing_103 (by decide) (fun c_7 => ?_) (fun c_7 => ?_)
        · have hd := zif_pos c_7 hd
          refine lv_iconst (v := (0 : Int32)) hx hb dX11_offWhileFollowing_110 (by decide) ?_
          exact J111 _ hk24 _ hk72 _ _ _ _ _ _ _ _ _ _ _ _ (lv_sub hl [1, 2, 3, 4, 6, 7, 8, 9, 0] rfl) hw hd
        · have hd := zif_neg c_7 hd
          refine lv_iconst (v := (1 : Int32)) hx hb dX11_offWhileFollowing_106 (by decide) ?_
          refine lv_goto (tgt := 111) hx hb dX11_offWhileFollowing_107 (by decide) ?_
          exact J111 _ hk24 _ hk72 _ _ _ _ _ _ _ _ _ _ _ _ (lv_sub hl [1, 2, 3, 4, 6, 7, 8, 9, 0] rfl) hw hd
  have J50 : ∀ (kk24 : Int32 → Int32 → Int32 → Int32 → zMem → Option (Int32 × zMem)) (hk24 : ∀ (x4 : Int32) (x5 : Int32) (x6 : Int32) (x7 : Int32) (M : zMem) (H : Heap) (locs : List Loc) (ls : Array Slot), lv_has ls 12 [(0, .ref (ad k0)), (1, .int p1), (3, .int p3), (4, .int x4), (5, .int x5), (6, .int x6), (7, .int x7)] → zWd D cy sh ad s M H locs → kk24 x4 x5 x6 x7 M = some (r, M1) → W p l e { frames := 2, cells := 0, slots := 0, locals := 44 } s m ([.ref (ad k0), .int p1, .int p2, .int p3] : List Value).toArray below meth c H locs 0 0 (zQI below D cy sh ad s [.ref (ad k0), .int p1, .int p2, .int p3] r M1) (F0 m 24 ls [])), ∀ (x4 : Int32) (x5 : Int32) (x6 : Int32) (x7 : Int32) (s0 : Int32) (M : zMem) (H : Heap) (locs : List Loc) (ls : Array Slot), lv_has ls 12 [(0, .ref (ad k0)), (1, .int p1), (3, .int p3), (4, .int x4), (5, .int x5), (6, .int x6), (7, .int x7)] → zWd D cy sh ad s M H locs → zjX11_offWhileFollowing_50 sh k0 p1 p2 p3 kk24 x4 x5 x6 x7 s0 M = some (r, M1) → W p l e { frames := 2, cells := 0, slots := 0, locals := 44 } s m ([.ref (ad k0), .int p1, .int p2, .int p3] : List Value).toArray below meth c H locs 0 0 (zQI below D cy sh ad s [.ref (ad k0), .int p1, .int p2, .int p3] r M1) (F0 m 50 ls [.int s0]) := by
    intro kk24 hk24 x4 x5 x6 x7 s0 M H locs ls hl hw hd
    unfold zjX11_offWhileFollowing_50 at hd
    refine lv_istore (lv' := [(8, .int s0), (0, .ref (ad k0)), (1, .int p1), (3, .int p3), (4, .int x4), (5, .int x5), (6, .int x6), (7, .int x7)]) hx hb dX11_offWhileFollowing_50 hl (by decide) rfl (fun ls hl => ?_)
    refine lv_aload_n hx hb dX11_offWhileFollowing_52 rfl (lv_at hl 1 rfl) ?_
    refine z_gR F hw h0 zc11 11 (by decide) rfl zf11_12 dX11_offWhileFollowing_53 ?_
    have t_8 : zT sh (zR M k0 11) 1 := hw.2.2.2.fld h0 11 1
    refine z_gR F hw t_8 zc1 4 (by decide) rfl zf11_128 dX11_offWhileFollowing_56 ?_
    have t_9 : zT sh (zR M (zR M k0 11) 4) 9 := hw.2.2.2.fld t_8 4 9
    refine z_gR F hw t_9 zc9 1 (by decide) rfl zf11_137 dX11_offWhileFollowing_59 ?_
    have t_10 : zT sh (zR M (zR M (zR M k0 11) 4) 1) 14 := hw.2.2.2.fld t_9 1 14
    refine lv_iload hx hb dX11_offWhileFollowing_62 (lv_at hl 0 rfl) ?_
    obtain ⟨r_12, hc_11, hd⟩ := zob_some hd
    refine z_csI F hw hl.1 (As := [.ref (ad (zR M (zR M (zR M k0 11) 4) 1)), .int s0]) (rest := []) (ztX9_wave l D cy sh ad t_10 hc_11) zyX9_wave zk11_140 ⟨rfl, rfl⟩ ⟨by decide, by decide⟩ rfl rfl (Nat.le_of_ble_eq_true rfl) dX11_offWhileFollowing_64 (fun H locs hw => ?_)
    refine lv_istore (lv' := [(9, .int r_12), (8, .int s0), (0, .ref (ad k0)), (1, .int p1), (3, .int p3), (4, .int x4), (5, .int x5), (6, .int x6), (7, .int x7)]) hx hb dX11_offWhileFollowing_67 hl (by decide) rfl (fun ls hl => ?_)
    refine lv_iconst (v := (0 : Int32)) hx hb dX11_offWhileFollowing_69 (by decide) ?_
    refine lv_istore (lv' := [(10, .int (0 : Int32)), (9, .int r_12), (8, .int s0), (0, .ref (ad k0)), (1, .int p1), (3, .int p3), (4, .int x4), (5, .int x5), (6, .int x6), (7, .int x7)]) hx hb dX11_offWhileFollowing_70 hl (by decide) rfl (fun ls hl => ?_)
    exact L72 _ hk24 zF _ _ _ _ _ _ _ _ _ _ (lv_sub hl [3, 4, 5, 6, 7, 8, 9, 1, 0] rfl) hw hd
  have L24 : ∀  (n : Nat), ∀ (x4 : Int32) (x5 : Int32) (x6 : Int32) (x7 : Int32) (M : zMem) (H : Heap) (locs : List Loc) (ls : Array Slot), lv_has ls 12 [(0, .ref (ad k0)), (1, .int p1), (3, .int p3), (4, .int x4), (5, .int x5), (6, .int x6), (7, .int x7)] → zWd D cy sh ad s M H locs → zlX11_offWhileFollowing_24 sh k0 p1 p2 p3  n x4 x5 x6 x7 M = some (r, M1) → W p l e { frames := 2, cells := 0, slots := 0, locals := 44 } s m ([.ref (ad k0), .int p1, .int p2, .int p3] : List Value).toArray below meth c H locs 0 0 (zQI below D cy sh ad s [.ref (ad k0), .int p1, .int p2, .int p3] r M1) (F0 m 24 ls []) := by
    intro  n
    induction n with
    | zero => intro x4 x5 x6 x7 M H locs ls hl hw hd; exact (znone hd).elim
    | succ n hk24 =>
      intro x4 x5 x6 x7 M H locs ls hl hw hd
      have hd : zbX11_offWhileFollowing_24 sh k0 p1 p2 p3  (zlX11_offWhileFollowing_24 sh k0 p1 p2 p3  n) x4 x5 x6 x7 M = some (r, M1) := hd
      unfold zbX11_offWhileFollowing_24 at hd
      refine lv_iload hx hb dX11_offWhileFollowing_24 (lv_at hl 6 rfl) ?_
      refine lv_sipush (v := (128 : Int32)) hx hb dX11_offWhileFollowing_26 (by decide) ?_
      refine lv_icmp_gt (tgt := 148) hx hb dX11_offWhileFollowing_29 (by decide) (fun c_13 => ?_) (fun c_13 => ?_)
      · have hd := zif_pos c_13 hd
        refine lv_iload_n hx hb dX11_offWhileFollowing_148 rfl (lv_at hl 2 rfl) ?_
        by_cases c_14 : p3 = (0 : Int32)
        · have hd := zif_pos c_14 hd
          refine lv_lookup (tgt := 176) (off := 27) hx hb dX11_offWhileFollowing_149 (by decide) (by rw [c_14]; decide) (by decide) ?_
          refine lv_iload hx hb dX11_offWhileFollowing_176 (lv_at hl 3 rfl) ?_
          exact z_iret F hr hlk hw (zpr1 hd) (zpr2 hd) dX11_offWhileFollowing_178
        have hd := zif_neg c_14 hd
        by_cases c_15 : p3 = (1 : Int32)
        · have hd := zif_pos c_15 hd
          refine lv_lookup (tgt := 179) (off := 30) hx hb dX11_offWhileFollowing_149 (by decide) (by rw [c_15]; decide) (by decide) ?_
          refine lv_iload hx hb dX11_offWhileFollowing_179 (lv_at hl 4 rfl) ?_
          exact z_iret F hr hlk hw (zpr1 hd) (zpr2 hd) dX11_offWhileFollowing_181
        have hd := zif_neg c_15 hd
        refine lv_lookup (tgt := 182) (off := 33) hx hb dX11_offWhileFollowing_149 (by decide) (by rw [lv_osw c_14 (by decide)]; rw [lv_osw c_15 (by decide)]; rfl) (by decide) ?_
        refine lv_iload hx hb dX11_offWhileFollowing_182 (lv_at hl 5 rfl) ?_
        exact z_iret F hr hlk hw (zpr1 hd) (zpr2 hd) dX11_offWhileFollowing_184
      · have hd := zif_neg c_13 hd
        refine lv_iload hx hb dX11_offWhileFollowing_32 (lv_at hl 6 rfl) ?_
        refine lv_bipush (v := (64 : Int32)) hx hb dX11_offWhileFollowing_34 (by decide) ?_
        refine lv_icmp_gt (tgt := 44) hx hb dX11_offWhileFollowing_36 (by decide) (fun c_16 => ?_) (fun c_16 => ?_)
        · have hd := zif_pos c_16 hd
          refine lv_sipush (v := (128 : Int32)) hx hb dX11_offWhileFollowing_44 (by decide) ?_
          refine lv_iload hx hb dX11_offWhileFollowing_47 (lv_at hl 6 rfl) ?_
          refine lv_isub hx hb dX11_offWhileFollowing_49 ?_
          exact J50 _ hk24 _ _ _ _ _ _ _ _ _ (lv_sub hl [0, 1, 2, 3, 4, 5, 6] rfl) hw hd
        · have hd := zif_neg c_16 hd
          refine lv_iload hx hb dX11_offWhileFollowing_39 (lv_at hl 6 rfl) ?_
          refine lv_goto (tgt := 50) hx hb dX11_offWhileFollowing_41 (by decide) ?_
          exact J50 _ hk24 _ _ _ _ _ _ _ _ _ (lv_sub hl [0, 1, 2, 3, 4, 5, 6] rfl) hw hd
  unfold zX11_offWhileFollowing at hd
  refine lv_iconst (v := (0 : Int32)) hx hb dX11_offWhileFollowing_0 (by decide) ?_
  refine lv_istore (lv' := [(4, .int (0 : Int32)), (0, .ref (ad k0)), (1, .int p1), (2, .int p2), (3, .int p3)]) hx hb dX11_offWhileFollowing_1 hl (by decide) rfl (fun ls hl => ?_)
  refine lv_iconst (v := (0 : Int32)) hx hb dX11_offWhileFollowing_3 (by decide) ?_
  refine lv_istore (lv' := [(5, .int (0 : Int32)), (4, .int (0 : Int32)), (0, .ref (ad k0)), (1, .int p1), (2, .int p2), (3, .int p3)]) hx hb dX11_offWhileFollowing_4 hl (by decide) rfl (fun ls hl => ?_)
  refine lv_iconst (v := (0 : Int32)) hx hb dX11_offWhileFollowing_6 (by decide) ?_
  refine lv_istore (lv' := [(6, .int (0 : Int32)), (5, .int (0 : Int32)), (4, .int (0 : Int32)), (0, .ref (ad k0)), (1, .int p1), (2, .int p2), (3, .int p3)]) hx hb dX11_offWhileFollowing_7 hl (by decide) rfl (fun ls hl => ?_)
  refine lv_aload_n hx hb dX11_offWhileFollowing_9 rfl (lv_at hl 3 rfl) ?_
  refine z_gR F hw h0 zc11 8 (by decide) rfl zf11_78 dX11_offWhileFollowing_10 ?_
  have t_17 : zT sh (zR M k0 8) 2 := hw.2.2.2.fld h0 8 2
  refine lv_aload_n hx hb dX11_offWhileFollowing_13 rfl (lv_at hl 3 rfl) ?_
  refine z_gR F hw h0 zc11 11 (by decide) rfl zf11_12 dX11_offWhileFollowing_14 ?_
  have t_18 : zT sh (zR M k0 11) 1 := hw.2.2.2.fld h0 11 1
  refine lv_iload_n hx hb dX11_offWhileFollowing_17 rfl (lv_at hl 5 rfl) ?_
  obtain ⟨M_20, hc_19, hd⟩ := zob_some hd
  refine z_cvV F hw hl.1 (As := [.ref (ad (zR M k0 11)), .int p2]) (rest := []) (ztX2_start l D cy sh ad t_17 t_18 hc_19) zyX2_start t_17 zc2 zk11_241 ⟨rfl, rfl⟩ ⟨by decide, by decide⟩ rfl rfl (Nat.le_of_ble_eq_true rfl) dX11_offWhileFollowing_18 (fun H locs hw => ?_)
  refine lv_iconst (v := (0 : Int32)) hx hb dX11_offWhileFollowing_21 (by decide) ?_
  refine lv_istore (lv' := [(7, .int (0 : Int32)), (6, .int (0 : Int32)), (5, .int (0 : Int32)), (4, .int (0 : Int32)), (0, .ref (ad k0)), (1, .int p1), (2, .int p2), (3, .int p3)]) hx hb dX11_offWhileFollowing_22 hl (by decide) rfl (fun ls hl => ?_)
  exact L24 zF _ _ _ _ _ _ _ _ (lv_sub hl [4, 5, 7, 3, 2, 1, 0] rfl) hw hd

def zjX11_follows_26 (sh : zShp) (k0 : Nat) (p1 : Int32) (p2 : Int32) (p3 : Int32)  (M : zMem) : Option (Int32 × zMem) :=
  some ((-1 : Int32), M)
def zX11_follows (sh : zShp) (k0 : Nat) (p1 : Int32) (p2 : Int32) (p3 : Int32) (M : zMem) : Option (Int32 × zMem) :=
  zob (zX11_isWithin sh p1 (1 : Int32) (50 : Int32) M) fun r_2 =>
  if r_2 = 0 then (
  zjX11_follows_26 sh k0 p1 p2 p3 M)
  else (
  zob (zX11_isMode sh p2 M) fun r_5 =>
  if r_5 = 0 then (
  zjX11_follows_26 sh k0 p1 p2 p3 M)
  else (
  zob (zX11_isWithin sh p3 (0 : Int32) (2 : Int32) M) fun r_8 =>
  if r_8 = 0 then (
  zjX11_follows_26 sh k0 p1 p2 p3 M)
  else (
  zob2 (zX11_offWhileFollowing sh k0 p1 p2 p3 M) fun r_11 M_12 =>
  some (r_11, M_12))))
set_option maxHeartbeats 4000000 in
set_option maxRecDepth 100000 in
theorem ztX11_follows (l : Launch) (D : va_G) (cy : Nat → ClassId) (sh : zShp) (ad : Nat → Nat) {k0 : Nat} {p1 : Int32} {p2 : Int32} {p3 : Int32} (h0 : zT sh k0 11) {M : zMem} {r : Int32} {M1 : zMem} (hd : zX11_follows sh k0 p1 p2 p3 M = some (r, M1)) : zCI l yX11_follows cX11_follows 4 .int { frames := 3, cells := 0, slots := 0, locals := 75 } [.ref (ad k0), .int p1, .int p2, .int p3] D cy sh ad M r M1 := by
  refine zci_of (by decide) (Nat.le_of_ble_eq_true rfl) (fun p e s m below meth c ls F hr hlk hl hw => ?_)
  have hx := F.1.1
  have hb := F.1.2.1
  have hl : lv_has ls 4 [(0, .ref (ad k0)), (1, .int p1), (2, .int p2), (3, .int p3)] := hl
  have J26 : ∀ (M : zMem) (H : Heap) (locs : List Loc) (ls : Array Slot), lv_has ls 4 [] → zWd D cy sh ad s M H locs → zjX11_follows_26 sh k0 p1 p2 p3  M = some (r, M1) → W p l e { frames := 3, cells := 0, slots := 0, locals := 75 } s m ([.ref (ad k0), .int p1, .int p2, .int p3] : List Value).toArray below meth c H locs 0 0 (zQI below D cy sh ad s [.ref (ad k0), .int p1, .int p2, .int p3] r M1) (F0 m 26 ls []) := by
    intro  M H locs ls hl hw hd
    unfold zjX11_follows_26 at hd
    refine lv_iconst (v := (-1 : Int32)) hx hb dX11_follows_26 (by decide) ?_
    exact z_iret F hr hlk hw (zpr1 hd) (zpr2 hd) dX11_follows_27
  unfold zX11_follows at hd
  refine lv_iload_n hx hb dX11_follows_0 rfl (lv_at hl 1 rfl) ?_
  refine lv_iconst (v := (1 : Int32)) hx hb dX11_follows_1 (by decide) ?_
  refine lv_bipush (v := (50 : Int32)) hx hb dX11_follows_2 (by decide) ?_
  obtain ⟨r_2, hc_1, hd⟩ := zob_some hd
  refine z_csI F hw hl.1 (As := [.int p1, .int (1 : Int32), .int (50 : Int32)]) (rest := []) (ztX11_isWithin l D cy sh ad  hc_1) zyX11_isWithin zk11_123 ⟨rfl, rfl⟩ ⟨by decide, by decide⟩ rfl rfl (Nat.le_of_ble_eq_true rfl) dX11_follows_4 (fun H locs hw => ?_)
  refine lv_if_eq (tgt := 26) hx hb dX11_follows_7 (by decide) (fun c_3 => ?_) (fun c_3 => ?_)
  · have hd := zif_pos c_3 hd
    exact J26 _ _ _ _ (lv_sub hl [] rfl) hw hd
  · have hd := zif_neg c_3 hd
    refine lv_iload_n hx hb dX11_follows_10 rfl (lv_at hl 2 rfl) ?_
    obtain ⟨r_5, hc_4, hd⟩ := zob_some hd
    refine z_csI F hw hl.1 (As := [.int p2]) (rest := []) (ztX11_isMode l D cy sh ad  hc_4) zyX11_isMode zk11_238 ⟨rfl, rfl⟩ ⟨by decide, by decide⟩ rfl rfl (Nat.le_of_ble_eq_true rfl) dX11_follows_11 (fun H locs hw => ?_)
    refine lv_if_eq (tgt := 26) hx hb dX11_follows_14 (by decide) (fun c_6 => ?_) (fun c_6 => ?_)
    · have hd := zif_pos c_6 hd
      exact J26 _ _ _ _ (lv_sub hl [] rfl) hw hd
    · have hd := zif_neg c_6 hd
      refine lv_iload_n hx hb dX11_follows_17 rfl (lv_at hl 3 rfl) ?_
      refine lv_iconst (v := (0 : Int32)) hx hb dX11_follows_18 (by decide) ?_
      refine lv_iconst (v := (2 : Int32)) hx hb dX11_follows_19 (by decide) ?_
      obtain ⟨r_8, hc_7, hd⟩ := zob_some hd
      refine z_csI F hw hl.1 (As := [.int p3, .int (0 : Int32), .int (2 : Int32)]) (rest := []) (ztX11_isWithin l D cy sh ad  hc_7) zyX11_isWithin zk11_123 ⟨rfl, rfl⟩ ⟨by decide, by decide⟩ rfl rfl (Nat.le_of_ble_eq_true rfl) dX11_follows_20 (fun H locs hw => ?_)
      refine lv_if_ne (tgt := 28) hx hb dX11_follows_23 (by decide) (fun c_9 => ?_) (fun c_9 => ?_)
      · have hd := zif_neg c_9 hd
        refine lv_aload_n hx hb dX11_follows_28 rfl (lv_at hl 0 rfl) ?_
        refine lv_iload_n hx hb dX11_follows_29 rfl (lv_at hl 1 rfl) ?_
        refine lv_iload_n hx hb dX11_follows_30 rfl (lv_at hl 2 rfl) ?_
        refine lv_iload_n hx hb dX11_follows_31 rfl (lv_at hl 3 rfl) ?_
        obtain ⟨r_11, M_12, hc_10, hd⟩ := zob2_some hd
        refine z_cvI F hw hl.1 (As := [.int p1, .int p2, .int p3]) (rest := []) (ztX11_offWhileFollowing l D cy sh ad h0 hc_10) zyX11_offWhileFollowing h0 zc11 zk11_390 ⟨rfl, rfl⟩ ⟨by decide, by decide⟩ rfl rfl (Nat.le_of_ble_eq_true rfl) dX11_follows_32 (fun H locs hw => ?_)
        exact z_iret F hr hlk hw (zpr1 hd) (zpr2 hd) dX11_follows_35
      · have hd := zif_pos c_9 hd
        exact J26 _ _ _ _ (lv_sub hl [] rfl) hw hd

def zjX11_ripple_18 (sh : zShp) (k0 : Nat) (p1 : Int32) (p2 : Int32)  (M : zMem) : Option (Int32 × zMem) :=
  some ((-1 : Int32), M)
def zjX11_ripple_91 (sh : zShp) (k0 : Nat) (p1 : Int32) (p2 : Int32) (kk41 : Int32 → Int32 → Int32 → zMem → Option (Int32 × zMem)) (x3 : Int32) (x4 : Int32) (x5 : Int32) (M : zMem) : Option (Int32 × zMem) :=
  kk41 x3 x4 (x5 + (1 : Int32)) M
def zbX11_ripple_41 (sh : zShp) (k0 : Nat) (p1 : Int32) (p2 : Int32)  (kk41 : Int32 → Int32 → Int32 → zMem → Option (Int32 × zMem)) (x3 : Int32) (x4 : Int32) (x5 : Int32) (M : zMem) : Option (Int32 × zMem) :=
  if (264 : Int32) < x5 then (
  some ((x4 - x3), M))
  else (
  zob (zX2_step sh (zR M k0 8) p1 M) fun M_4 =>
  if x5 ≤ (200 : Int32) then (
  zjX11_ripple_91 sh k0 p1 p2 kk41 x3 x4 x5 M_4)
  else (
  zbd ((zmin x3 (zI M_4 (zR M_4 k0 8) 0))) fun v_7 =>
  zbd ((zmax x4 (zI M_4 (zR M_4 k0 8) 0))) fun v_9 =>
  zjX11_ripple_91 sh k0 p1 p2 kk41 v_7 v_9 x5 M_4))
def zlX11_ripple_41 (sh : zShp) (k0 : Nat) (p1 : Int32) (p2 : Int32)  : Nat → Int32 → Int32 → Int32 → zMem → Option (Int32 × zMem)
  | 0 => fun _ _ _ _ => none
  | n + 1 => fun x3 x4 x5 M => zbX11_ripple_41 sh k0 p1 p2  (zlX11_ripple_41 sh k0 p1 p2  n) x3 x4 x5 M
def zX11_ripple (sh : zShp) (k0 : Nat) (p1 : Int32) (p2 : Int32) (M : zMem) : Option (Int32 × zMem) :=
  zob (zX11_isWithin sh p1 (0 : Int32) (2000 : Int32) M) fun r_11 =>
  if r_11 = 0 then (
  zjX11_ripple_18 sh k0 p1 p2 M)
  else (
  zob (zX11_isMode sh p2 M) fun r_14 =>
  if r_14 = 0 then (
  zjX11_ripple_18 sh k0 p1 p2 M)
  else (
  zob (zX2_start sh (zR M k0 8) (zR M k0 11) p2 M) fun M_19 =>
  zlX11_ripple_41 sh k0 p1 p2 zF (2147483647 : Int32) (0 : Int32) (1 : Int32) M_19))
set_option maxHeartbeats 4000000 in
set_option maxRecDepth 100000 in
theorem ztX11_ripple (l : Launch) (D : va_G) (cy : Nat → ClassId) (sh : zShp) (ad : Nat → Nat) {k0 : Nat} {p1 : Int32} {p2 : Int32} (h0 : zT sh k0 11) {M : zMem} {r : Int32} {M1 : zMem} (hd : zX11_ripple sh k0 p1 p2 M = some (r, M1)) : zCI l yX11_ripple cX11_ripple 6 .int { frames := 2, cells := 0, slots := 0, locals := 44 } [.ref (ad k0), .int p1, .int p2] D cy sh ad M r M1 := by
  refine zci_of (by decide) (Nat.le_of_ble_eq_true rfl) (fun p e s m below meth c ls F hr hlk hl hw => ?_)
  have hx := F.1.1
  have hb := F.1.2.1
  have hl : lv_has ls 6 [(0, .ref (ad k0)), (1, .int p1), (2, .int p2)] := hl
  have J18 : ∀ (M : zMem) (H : Heap) (locs : List Loc) (ls : Array Slot), lv_has ls 6 [] → zWd D cy sh ad s M H locs → zjX11_ripple_18 sh k0 p1 p2  M = some (r, M1) → W p l e { frames := 2, cells := 0, slots := 0, locals := 44 } s m ([.ref (ad k0), .int p1, .int p2] : List Value).toArray below meth c H locs 0 0 (zQI below D cy sh ad s [.ref (ad k0), .int p1, .int p2] r M1) (F0 m 18 ls []) := by
    intro  M H locs ls hl hw hd
    unfold zjX11_ripple_18 at hd
    refine lv_iconst (v := (-1 : Int32)) hx hb dX11_ripple_18 (by decide) ?_
    exact z_iret F hr hlk hw (zpr1 hd) (zpr2 hd) dX11_ripple_19
  have J91 : ∀ (kk41 : Int32 → Int32 → Int32 → zMem → Option (Int32 × zMem)) (hk41 : ∀ (x3 : Int32) (x4 : Int32) (x5 : Int32) (M : zMem) (H : Heap) (locs : List Loc) (ls : Array Slot), lv_has ls 6 [(0, .ref (ad k0)), (1, .int p1), (3, .int x3), (4, .int x4), (5, .int x5)] → zWd D cy sh ad s M H locs → kk41 x3 x4 x5 M = some (r, M1) → W p l e { frames := 2, cells := 0, slots := 0, locals := 44 } s m ([.ref (ad k0), .int p1, .int p2] : List Value).toArray below meth c H locs 0 0 (zQI below D cy sh ad s [.ref (ad k0), .int p1, .int p2] r M1) (F0 m 41 ls [])), ∀ (x3 : Int32) (x4 : Int32) (x5 : Int32) (M : zMem) (H : Heap) (locs : List Loc) (ls : Array Slot), lv_has ls 6 [(0, .ref (ad k0)), (1, .int p1), (3, .int x3), (4, .int x4), (5, .int x5)] → zWd D cy sh ad s M H locs → zjX11_ripple_91 sh k0 p1 p2 kk41 x3 x4 x5 M = some (r, M1) → W p l e { frames := 2, cells := 0, slots := 0, locals := 44 } s m ([.ref (ad k0), .int p1, .int p2] : List Value).toArray below meth c H locs 0 0 (zQI below D cy sh ad s [.ref (ad k0), .int p1, .int p2] r M1) (F0 m 91 ls []) := by
    intro kk41 hk41 x3 x4 x5 M H locs ls hl hw hd
    unfold zjX11_ripple_91 at hd
    refine lv_iinc (v := (x5 + (1 : Int32))) (lv' := [(5, .int (x5 + (1 : Int32))), (0, .ref (ad k0)), (1, .int p1), (3, .int x3), (4, .int x4)]) hx hb dX11_ripple_91 hl (k := 4) rfl (ziinc (by decide)) (by decide) rfl (fun ls hl => ?_)
    refine lv_goto (tgt := 41) hx hb dX11_ripple_94 (by decide) ?_
    exact hk41 _ _ _ _ _ _ _ (lv_sub hl [1, 2, 3, 4, 0] rfl) hw hd
  have L41 : ∀  (n : Nat), ∀ (x3 : Int32) (x4 : Int32) (x5 : Int32) (M : zMem) (H : Heap) (locs : List Loc) (ls : Array Slot), lv_has ls 6 [(0, .ref (ad k0)), (1, .int p1), (3, .int x3), (4, .int x4), (5, .int x5)] → zWd D cy sh ad s M H locs → zlX11_ripple_41 sh k0 p1 p2  n x3 x4 x5 M = some (r, M1) → W p l e { frames := 2, cells := 0, slots := 0, locals := 44 } s m ([.ref (ad k0), .int p1, .int p2] : List Value).toArray below meth c H locs 0 0 (zQI below D cy sh ad s [.ref (ad k0), .int p1, .int p2] r M1) (F0 m 41 ls []) := by
    intro  n
    induction n with
    | zero => intro x3 x4 x5 M H locs ls hl hw hd; exact (znone hd).elim
    | succ n hk41 =>
      intro x3 x4 x5 M H locs ls hl hw hd
      have hd : zbX11_ripple_41 sh k0 p1 p2  (zlX11_ripple_41 sh k0 p1 p2  n) x3 x4 x5 M = some (r, M1) := hd
      unfold zbX11_ripple_41 at hd
      refine lv_iload hx hb dX11_ripple_41 (lv_at hl 4 rfl) ?_
      refine lv_sipush (v := (264 : Int32)) hx hb dX11_ripple_43 (by decide) ?_
      refine lv_icmp_gt (tgt := 97) hx hb dX11_ripple_46 (by decide) (fun c_1 => ?_) (fun c_1 => ?_)
      · have hd := zif_pos c_1 hd
        refine lv_iload hx hb dX11_ripple_97 (lv_at hl 3 rfl) ?_
        refine lv_iload_n hx hb dX11_ripple_99 rfl (lv_at hl 2 rfl) ?_
        refine lv_isub hx hb dX11_ripple_100 ?_
        exact z_iret F hr hlk hw (zpr1 hd) (zpr2 hd) dX11_ripple_101
      · have hd := zif_neg c_1 hd
        refine lv_aload_n hx hb dX11_ripple_49 rfl (lv_at hl 0 rfl) ?_
        refine z_gR F hw h0 zc11 8 (by decide) rfl zf11_78 dX11_ripple_50 ?_
        have t_2 : zT sh (zR M k0 8) 2 := hw.2.2.2.fld h0 8 2
        refine lv_iload_n hx hb dX11_ripple_53 rfl (lv_at hl 1 rfl) ?_
        obtain ⟨M_4, hc_3, hd⟩ := zob_some hd
        refine z_cvV F hw hl.1 (As := [.int p1]) (rest := []) (ztX2_step l D cy sh ad t_2 hc_3) zyX2_step t_2 zc2 zk11_244 ⟨rfl, rfl⟩ ⟨by decide, by decide⟩ rfl rfl (Nat.le_of_ble_eq_true rfl) dX11_ripple_54 (fun H locs hw => ?_)
        refine lv_iload hx hb dX11_ripple_57 (lv_at hl 4 rfl) ?_
        refine lv_sipush (v := (200 : Int32)) hx hb dX11_ripple_59 (by decide) ?_
        refine lv_icmp_le (tgt := 91) hx hb dX11_ripple_62 (by decide) (fun c_5 => ?_) (fun c_5 => ?_)
        · have hd := zif_pos c_5 hd
          exact J91 _ hk41 _ _ _ _ _ _ _ (lv_sub hl [0, 1, 2, 3, 4] rfl) hw hd
        · have hd := zif_neg c_5 hd
          refine lv_iload_n hx hb dX11_ripple_65 rfl (lv_at hl 2 rfl) ?_
          refine lv_aload_n hx hb dX11_ripple_66 rfl (lv_at hl 0 rfl) ?_
          refine z_gR F hw h0 zc11 8 (by decide) rfl zf11_78 dX11_ripple_67 ?_
          have t_6 : zT sh (zR M_4 k0 8) 2 := hw.2.2.2.fld h0 8 2
          refine z_gI F hw t_6 zc2 0 (by decide) rfl zf11_247 dX11_ripple_70 ?_
          refine z_mmin F hl.1 zk11_393 (by decide) (Nat.le_of_ble_eq_true rfl) dX11_ripple_73 ?_
          refine lv_topi (fun v_7 ev_7 => ?_)
          have hd := zbd_eq ev_7 hd
          refine lv_istore_n (lv' := [(3, .int v_7), (0, .ref (ad k0)), (1, .int p1), (4, .int x4), (5, .int x5)]) hx hb dX11_ripple_76 rfl hl (by decide) rfl (fun ls hl => ?_)
          refine lv_iload hx hb dX11_ripple_77 (lv_at hl 3 rfl) ?_
          refine lv_aload_n hx hb dX11_ripple_79 rfl (lv_at hl 1 rfl) ?_
          refine z_gR F hw h0 zc11 8 (by decide) rfl zf11_78 dX11_ripple_80 ?_
          have t_8 : zT sh (zR M_4 k0 8) 2 := hw.2.2.2.fld h0 8 2
          refine z_gI F hw t_8 zc2 0 (by decide) rfl zf11_247 dX11_ripple_83 ?_
          refine z_mmax F hl.1 zk11_235 (by decide) (Nat.le_of_ble_eq_true rfl) dX11_ripple_86 ?_
          refine lv_topi (fun v_9 ev_9 => ?_)
          have hd := zbd_eq ev_9 hd
          refine lv_istore (lv' := [(4, .int v_9), (3, .int v_7), (0, .ref (ad k0)), (1, .int p1), (5, .int x5)]) hx hb dX11_ripple_89 hl (by decide) rfl (fun ls hl => ?_)
          exact J91 _ hk41 _ _ _ _ _ _ _ (lv_sub hl [2, 3, 1, 0, 4] rfl) hw hd
  unfold zX11_ripple at hd
  refine lv_iload_n hx hb dX11_ripple_0 rfl (lv_at hl 1 rfl) ?_
  refine lv_iconst (v := (0 : Int32)) hx hb dX11_ripple_1 (by decide) ?_
  refine lv_sipush (v := (2000 : Int32)) hx hb dX11_ripple_2 (by decide) ?_
  obtain ⟨r_11, hc_10, hd⟩ := zob_some hd
  refine z_csI F hw hl.1 (As := [.int p1, .int (0 : Int32), .int (2000 : Int32)]) (rest := []) (ztX11_isWithin l D cy sh ad  hc_10) zyX11_isWithin zk11_123 ⟨rfl, rfl⟩ ⟨by decide, by decide⟩ rfl rfl (Nat.le_of_ble_eq_true rfl) dX11_ripple_5 (fun H locs hw => ?_)
  refine lv_if_eq (tgt := 18) hx hb dX11_ripple_8 (by decide) (fun c_12 => ?_) (fun c_12 => ?_)
  · have hd := zif_pos c_12 hd
    exact J18 _ _ _ _ (lv_sub hl [] rfl) hw hd
  · have hd := zif_neg c_12 hd
    refine lv_iload_n hx hb dX11_ripple_11 rfl (lv_at hl 2 rfl) ?_
    obtain ⟨r_14, hc_13, hd⟩ := zob_some hd
    refine z_csI F hw hl.1 (As := [.int p2]) (rest := []) (ztX11_isMode l D cy sh ad  hc_13) zyX11_isMode zk11_238 ⟨rfl, rfl⟩ ⟨by decide, by decide⟩ rfl rfl (Nat.le_of_ble_eq_true rfl) dX11_ripple_12 (fun H locs hw => ?_)
    refine lv_if_ne (tgt := 20) hx hb dX11_ripple_15 (by decide) (fun c_15 => ?_) (fun c_15 => ?_)
    · have hd := zif_neg c_15 hd
      refine lv_ldc (v := (2147483647 : Int32)) hx hb F.1.2.2.2.1 (F.1.2.2.2.2 _ zi11_250) dX11_ripple_20 ?_
      refine lv_istore_n (lv' := [(3, .int (2147483647 : Int32)), (0, .ref (ad k0)), (1, .int p1), (2, .int p2)]) hx hb dX11_ripple_22 rfl hl (by decide) rfl (fun ls hl => ?_)
      refine lv_iconst (v := (0 : Int32)) hx hb dX11_ripple_23 (by decide) ?_
      refine lv_istore (lv' := [(4, .int (0 : Int32)), (3, .int (2147483647 : Int32)), (0, .ref (ad k0)), (1, .int p1), (2, .int p2)]) hx hb dX11_ripple_24 hl (by decide) rfl (fun ls hl => ?_)
      refine lv_aload_n hx hb dX11_ripple_26 rfl (lv_at hl 2 rfl) ?_
      refine z_gR F hw h0 zc11 8 (by decide) rfl zf11_78 dX11_ripple_27 ?_
      have t_16 : zT sh (zR M k0 8) 2 := hw.2.2.2.fld h0 8 2
      refine lv_aload_n hx hb dX11_ripple_30 rfl (lv_at hl 2 rfl) ?_
      refine z_gR F hw h0 zc11 11 (by decide) rfl zf11_12 dX11_ripple_31 ?_
      have t_17 : zT sh (zR M k0 11) 1 := hw.2.2.2.fld h0 11 1
      refine lv_iload_n hx hb dX11_ripple_34 rfl (lv_at hl 4 rfl) ?_
      obtain ⟨M_19, hc_18, hd⟩ := zob_some hd
      refine z_cvV F hw hl.1 (As := [.ref (ad (zR M k0 11)), .int p2]) (rest := []) (ztX2_start l D cy sh ad t_16 t_17 hc_18) zyX2_start t_16 zc2 zk11_241 ⟨rfl, rfl⟩ ⟨by decide, by decide⟩ rfl rfl (Nat.le_of_ble_eq_true rfl) dX11_ripple_35 (fun H locs hw => ?_)
      refine lv_iconst (v := (1 : Int32)) hx hb dX11_ripple_38 (by decide) ?_
      refine lv_istore (lv' := [(5, .int (1 : Int32)), (4, .int (0 : Int32)), (3, .int (2147483647 : Int32)), (0, .ref (ad k0)), (1, .int p1), (2, .int p2)]) hx hb dX11_ripple_39 hl (by decide) rfl (fun ls hl => ?_)
      exact L41 zF _ _ _ _ _ _ _ (lv_sub hl [3, 4, 2, 1, 0] rfl) hw hd
    · have hd := zif_pos c_15 hd
      exact J18 _ _ _ _ (lv_sub hl [] rfl) hw hd

def zjX11_mode_49 (sh : zShp) (k0 : Nat) (p1 : Int32) (kk20 : Int32 → Int32 → Int32 → zMem → Option (Int32 × zMem)) (x2 : Int32) (x3 : Int32) (x4 : Int32) (M : zMem) : Option (Int32 × zMem) :=
  kk20 x2 x3 (x4 + (1 : Int32)) M
def zbX11_mode_20 (sh : zShp) (k0 : Nat) (p1 : Int32)  (kk20 : Int32 → Int32 → Int32 → zMem → Option (Int32 × zMem)) (x2 : Int32) (x3 : Int32) (x4 : Int32) (M : zMem) : Option (Int32 × zMem) :=
  if (8 : Int32) < x4 then (
  some (x2, M))
  else (
  zob2 (zX11_offWhileFollowing sh k0 p1 x4 (2 : Int32) M) fun r_3 M_4 =>
  if x3 ≤ r_3 then (
  zjX11_mode_49 sh k0 p1 kk20 x2 x3 x4 M_4)
  else (
  zjX11_mode_49 sh k0 p1 kk20 x4 r_3 x4 M_4))
def zlX11_mode_20 (sh : zShp) (k0 : Nat) (p1 : Int32)  : Nat → Int32 → Int32 → Int32 → zMem → Option (Int32 × zMem)
  | 0 => fun _ _ _ _ => none
  | n + 1 => fun x2 x3 x4 M => zbX11_mode_20 sh k0 p1  (zlX11_mode_20 sh k0 p1  n) x2 x3 x4 M
def zX11_mode (sh : zShp) (k0 : Nat) (p1 : Int32) (M : zMem) : Option (Int32 × zMem) :=
  zob (zX11_isWithin sh p1 (1 : Int32) (50 : Int32) M) fun r_7 =>
  if r_7 = 0 then (
  some ((-1 : Int32), M))
  else (
  zlX11_mode_20 sh k0 p1 zF (0 : Int32) (2147483647 : Int32) (0 : Int32) M)
set_option maxHeartbeats 4000000 in
set_option maxRecDepth 100000 in
theorem ztX11_mode (l : Launch) (D : va_G) (cy : Nat → ClassId) (sh : zShp) (ad : Nat → Nat) {k0 : Nat} {p1 : Int32} (h0 : zT sh k0 11) {M : zMem} {r : Int32} {M1 : zMem} (hd : zX11_mode sh k0 p1 M = some (r, M1)) : zCI l yX11_mode cX11_mode 6 .int { frames := 3, cells := 0, slots := 0, locals := 75 } [.ref (ad k0), .int p1] D cy sh ad M r M1 := by
  refine zci_of (by decide) (Nat.le_of_ble_eq_true rfl) (fun p e s m below meth c ls F hr hlk hl hw => ?_)
  have hx := F.1.1
  have hb := F.1.2.1
  have hl : lv_has ls 6 [(0, .ref (ad k0)), (1, .int p1)] := hl
  have J49 : ∀ (kk20 : Int32 → Int32 → Int32 → zMem → Option (Int32 × zMem)) (hk20 : ∀ (x2 : Int32) (x3 : Int32) (x4 : Int32) (M : zMem) (H : Heap) (locs : List Loc) (ls : Array Slot), lv_has ls 6 [(0, .ref (ad k0)), (1, .int p1), (2, .int x2), (3, .int x3), (4, .int x4)] → zWd D cy sh ad s M H locs → kk20 x2 x3 x4 M = some (r, M1) → W p l e { frames := 3, cells := 0, slots := 0, locals := 75 } s m ([.ref (ad k0), .int p1] : List Value).toArray below meth c H locs 0 0 (zQI below D cy sh ad s [.ref (ad k0), .int p1] r M1) (F0 m 20 ls [])), ∀ (x2 : Int32) (x3 : Int32) (x4 : Int32) (M : zMem) (H : Heap) (locs : List Loc) (ls : Array Slot), lv_has ls 6 [(0, .ref (ad k0)), (1, .int p1), (2, .int x2), (3, .int x3), (4, .int x4)] → zWd D cy sh ad s M H locs → zjX11_mode_49 sh k0 p1 kk20 x2 x3 x4 M = some (r, M1) → W p l e { frames := 3, cells := 0, slots := 0, locals := 75 } s m ([.ref (ad k0), .int p1] : List Value).toArray below meth c H locs 0 0 (zQI below D cy sh ad s [.ref (ad k0), .int p1] r M1) (F0 m 49 ls []) := by
    intro kk20 hk20 x2 x3 x4 M H locs ls hl hw hd
    unfold zjX11_mode_49 at hd
    refine lv_iinc (v := (x4 + (1 : Int32))) (lv' := [(4, .int (x4 + (1 : Int32))), (0, .ref (ad k0)), (1, .int p1), (2, .int x2), (3, .int x3)]) hx hb dX11_mode_49 hl (k := 4) rfl (ziinc (by decide)) (by decide) rfl (fun ls hl => ?_)
    refine lv_goto (tgt := 20) hx hb dX11_mode_52 (by decide) ?_
    exact hk20 _ _ _ _ _ _ _ (lv_sub hl [1, 2, 3, 4, 0] rfl) hw hd
  have L20 : ∀  (n : Nat), ∀ (x2 : Int32) (x3 : Int32) (x4 : Int32) (M : zMem) (H : Heap) (locs : List Loc) (ls : Array Slot), lv_has ls 6 [(0, .ref (ad k0)), (1, .int p1), (2, .int x2), (3, .int x3), (4, .int x4)] → zWd D cy sh ad s M H locs → zlX11_mode_20 sh k0 p1  n x2 x3 x4 M = some (r, M1) → W p l e { frames := 3, cells := 0, slots := 0, locals := 75 } s m ([.ref (ad k0), .int p1] : List Value).toArray below meth c H locs 0 0 (zQI below D cy sh ad s [.ref (ad k0), .int p1] r M1) (F0 m 20 ls []) := by
    intro  n
    induction n with
    | zero => intro x2 x3 x4 M H locs ls hl hw hd; exact (znone hd).elim
    | succ n hk20 =>
      intro x2 x3 x4 M H locs ls hl hw hd
      have hd : zbX11_mode_20 sh k0 p1  (zlX11_mode_20 sh k0 p1  n) x2 x3 x4 M = some (r, M1) := hd
      unfold zbX11_mode_20 at hd
      refine lv_iload hx hb dX11_mode_20 (lv_at hl 4 rfl) ?_
      refine lv_bipush (v := (8 : Int32)) hx hb dX11_mode_22 (by decide) ?_
      refine lv_icmp_gt (tgt := 55) hx hb dX11_mode_24 (by decide) (fun c_1 => ?_) (fun c_1 => ?_)
      · have hd := zif_pos c_1 hd
        refine lv_iload_n hx hb dX11_mode_55 rfl (lv_at hl 2 rfl) ?_
        exact z_iret F hr hlk hw (zpr1 hd) (zpr2 hd) dX11_mode_56
      · have hd := zif_neg c_1 hd
        refine lv_aload_n hx hb dX11_mode_27 rfl (lv_at hl 0 rfl) ?_
        refine lv_iload_n hx hb dX11_mode_28 rfl (lv_at hl 1 rfl) ?_
        refine lv_iload hx hb dX11_mode_29 (lv_at hl 4 rfl) ?_
        refine lv_iconst (v := (2 : Int32)) hx hb dX11_mode_31 (by decide) ?_
        obtain ⟨r_3, M_4, hc_2, hd⟩ := zob2_some hd
        refine z_cvI F hw hl.1 (As := [.int p1, .int x4, .int (2 : Int32)]) (rest := []) (ztX11_offWhileFollowing l D cy sh ad h0 hc_2) zyX11_offWhileFollowing h0 zc11 zk11_390 ⟨rfl, rfl⟩ ⟨by decide, by decide⟩ rfl rfl (Nat.le_of_ble_eq_true rfl) dX11_mode_32 (fun H locs hw => ?_)
        refine lv_istore (lv' := [(5, .int r_3), (0, .ref (ad k0)), (1, .int p1), (2, .int x2), (3, .int x3), (4, .int x4)]) hx hb dX11_mode_35 hl (by decide) rfl (fun ls hl => ?_)
        refine lv_iload hx hb dX11_mode_37 (lv_at hl 0 rfl) ?_
        refine lv_iload_n hx hb dX11_mode_39 rfl (lv_at hl 4 rfl) ?_
        refine lv_icmp_ge (tgt := 49) hx hb dX11_mode_40 (by decide) (fun c_5 => ?_) (fun c_5 => ?_)
        · have hd := zif_pos c_5 hd
          exact J49 _ hk20 _ _ _ _ _ _ _ (lv_sub hl [1, 2, 3, 4, 5] rfl) hw hd
        · have hd := zif_neg c_5 hd
          refine lv_iload hx hb dX11_mode_43 (lv_at hl 0 rfl) ?_
          refine lv_istore_n (lv' := [(3, .int r_3), (5, .int r_3), (0, .ref (ad k0)), (1, .int p1), (2, .int x2), (4, .int x4)]) hx hb dX11_mode_45 rfl hl (by decide) rfl (fun ls hl => ?_)
          refine lv_iload hx hb dX11_mode_46 (lv_at hl 5 rfl) ?_
          refine lv_istore_n (lv' := [(2, .int x4), (3, .int r_3), (5, .int r_3), (0, .ref (ad k0)), (1, .int p1), (4, .int x4)]) hx hb dX11_mode_48 rfl hl (by decide) rfl (fun ls hl => ?_)
          exact J49 _ hk20 _ _ _ _ _ _ _ (lv_sub hl [3, 4, 0, 1, 5] rfl) hw hd
  unfold zX11_mode at hd
  refine lv_iload_n hx hb dX11_mode_0 rfl (lv_at hl 1 rfl) ?_
  refine lv_iconst (v := (1 : Int32)) hx hb dX11_mode_1 (by decide) ?_
  refine lv_bipush (v := (50 : Int32)) hx hb dX11_mode_2 (by decide) ?_
  obtain ⟨r_7, hc_6, hd⟩ := zob_some hd
  refine z_csI F hw hl.1 (As := [.int p1, .int (1 : Int32), .int (50 : Int32)]) (rest := []) (ztX11_isWithin l D cy sh ad  hc_6) zyX11_isWithin zk11_123 ⟨rfl, rfl⟩ ⟨by decide, by decide⟩ rfl rfl (Nat.le_of_ble_eq_true rfl) dX11_mode_4 (fun H locs hw => ?_)
  refine lv_if_ne (tgt := 12) hx hb dX11_mode_7 (by decide) (fun c_8 => ?_) (fun c_8 => ?_)
  · have hd := zif_neg c_8 hd
    refine lv_iconst (v := (0 : Int32)) hx hb dX11_mode_12 (by decide) ?_
    refine lv_istore_n (lv' := [(2, .int (0 : Int32)), (0, .ref (ad k0)), (1, .int p1)]) hx hb dX11_mode_13 rfl hl (by decide) rfl (fun ls hl => ?_)
    refine lv_ldc (v := (2147483647 : Int32)) hx hb F.1.2.2.2.1 (F.1.2.2.2.2 _ zi11_250) dX11_mode_14 ?_
    refine lv_istore_n (lv' := [(3, .int (2147483647 : Int32)), (2, .int (0 : Int32)), (0, .ref (ad k0)), (1, .int p1)]) hx hb dX11_mode_16 rfl hl (by decide) rfl (fun ls hl => ?_)
    refine lv_iconst (v := (0 : Int32)) hx hb dX11_mode_17 (by decide) ?_
    refine lv_istore (lv' := [(4, .int (0 : Int32)), (3, .int (2147483647 : Int32)), (2, .int (0 : Int32)), (0, .ref (ad k0)), (1, .int p1)]) hx hb dX11_mode_18 hl (by decide) rfl (fun ls hl => ?_)
    exact L20 zF _ _ _ _ _ _ _ (lv_sub hl [3, 4, 2, 1, 0] rfl) hw hd
  · have hd := zif_pos c_8 hd
    refine lv_iconst (v := (-1 : Int32)) hx hb dX11_mode_10 (by decide) ?_
    exact z_iret F hr hlk hw (zpr1 hd) (zpr2 hd) dX11_mode_11

def zjX11_about_131 (sh : zShp) (k0 : Nat) (p1 : Int32) (M : zMem)  (s0 : Int32) : Option (Int32) :=
  some s0
def zX11_about (sh : zShp) (k0 : Nat) (p1 : Int32) (M : zMem) : Option (Int32) :=
  if p1 = (0 : Int32) then (
  some (zI M (zR M k0 11) 6))
  else if p1 = (1 : Int32) then (
  some (zI M (zR M k0 11) 7))
  else if p1 = (2 : Int32) then (
  some (zI M (zR M k0 11) 8))
  else if p1 = (3 : Int32) then (
  some (zI M (zR M k0 11) 9))
  else if p1 = (4 : Int32) then (
  some (zI M (zR M k0 11) 10))
  else if p1 = (5 : Int32) then (
  some (zI M (zR M k0 2) 5))
  else if p1 = (6 : Int32) then (
  if (zI M (zR M k0 2) 8) = 0 then (
  zjX11_about_131 sh k0 p1 M (0 : Int32))
  else (
  zjX11_about_131 sh k0 p1 M (1 : Int32)))
  else if p1 = (7 : Int32) then (
  some (zI M (zR M k0 2) 10))
  else if p1 = (8 : Int32) then (
  some (zI M (zR M k0 4) 2))
  else if p1 = (9 : Int32) then (
  some (zI M (zR M k0 0) 1))
  else if p1 = (10 : Int32) then (
  some (zI M (zR M k0 2) 4))
  else if p1 = (11 : Int32) then (
  some (zI M (zR M k0 2) 6))
  else if p1 = (12 : Int32) then (
  some (zI M (zR M k0 2) 7))
  else (
  some (-1 : Int32))
set_option maxHeartbeats 4000000 in
set_option maxRecDepth 100000 in
theorem ztX11_about (l : Launch) (D : va_G) (cy : Nat → ClassId) (sh : zShp) (ad : Nat → Nat) {k0 : Nat} {p1 : Int32} (h0 : zT sh k0 11) {M : zMem} {r : Int32} (hd : zX11_about sh k0 p1 M = some r) : zCI l yX11_about cX11_about 2 .int { frames := 0, cells := 0, slots := 0, locals := 0 } [.ref (ad k0), .int p1] D cy sh ad M r M := by
  refine zci_of (by decide) (Nat.le_of_ble_eq_true rfl) (fun p e s m below meth c ls F hr hlk hl hw => ?_)
  have hx := F.1.1
  have hb := F.1.2.1
  have hl : lv_has ls 2 [(0, .ref (ad k0)), (1, .int p1)] := hl
  have J131 : ∀ (s0 : Int32) (H : Heap) (locs : List Loc) (ls : Array Slot), lv_has ls 2 [] → zWd D cy sh ad s M H locs → zjX11_about_131 sh k0 p1 M  s0 = some r → W p l e { frames := 0, cells := 0, slots := 0, locals := 0 } s m ([.ref (ad k0), .int p1] : List Value).toArray below meth c H locs 0 0 (zQI below D cy sh ad s [.ref (ad k0), .int p1] r M) (F0 m 131 ls [.int s0]) := by
    intro  s0 H locs ls hl hw hd
    unfold zjX11_about_131 at hd
    exact z_iret F hr hlk hw (Option.some.inj hd) rfl dX11_about_131
  unfold zX11_about at hd
  refine lv_iload_n hx hb dX11_about_0 rfl (lv_at hl 1 rfl) ?_
  by_cases c_1 : p1 = (0 : Int32)
  · have hd := zif_pos c_1 hd
    refine lv_tableIn (tgt := 68) (off := 67) hx hb dX11_about_1 (by rw [c_1]; decide) (by rw [c_1]; decide) (by rw [c_1]; decide) (by decide) ?_
    refine lv_aload_n hx hb dX11_about_68 rfl (lv_at hl 0 rfl) ?_
    refine z_gR F hw h0 zc11 11 (by decide) rfl zf11_12 dX11_about_69 ?_
    have t_2 : zT sh (zR M k0 11) 1 := hw.2.2.2.fld h0 11 1
    refine z_gI F hw t_2 zc1 6 (by decide) rfl zf11_114 dX11_about_72 ?_
    exact z_iret F hr hlk hw (Option.some.inj hd) rfl dX11_about_75
  have hd := zif_neg c_1 hd
  by_cases c_3 : p1 = (1 : Int32)
  · have hd := zif_pos c_3 hd
    refine lv_tableIn (tgt := 76) (off := 75) hx hb dX11_about_1 (by rw [c_3]; decide) (by rw [c_3]; decide) (by rw [c_3]; decide) (by decide) ?_
    refine lv_aload_n hx hb dX11_about_76 rfl (lv_at hl 0 rfl) ?_
    refine z_gR F hw h0 zc11 11 (by decide) rfl zf11_12 dX11_about_77 ?_
    have t_4 : zT sh (zR M k0 11) 1 := hw.2.2.2.fld h0 11 1
    refine z_gI F hw t_4 zc1 7 (by decide) rfl zf11_396 dX11_about_80 ?_
    exact z_iret F hr hlk hw (Option.some.inj hd) rfl dX11_about_83
  have hd := zif_neg c_3 hd
  by_cases c_5 : p1 = (2 : Int32)
  · have hd := zif_pos c_5 hd
    refine lv_tableIn (tgt := 84) (off := 83) hx hb dX11_about_1 (by rw [c_5]; decide) (by rw [c_5]; decide) (by rw [c_5]; decide) (by decide) ?_
    refine lv_aload_n hx hb dX11_about_84 rfl (lv_at hl 0 rfl) ?_
    refine z_gR F hw h0 zc11 11 (by decide) rfl zf11_12 dX11_about_85 ?_
    have t_6 : zT sh (zR M k0 11) 1 := hw.2.2.2.fld h0 11 1
    refine z_gI F hw t_6 zc1 8 (by decide) rfl zf11_399 dX11_about_88 ?_
    exact z_iret F hr hlk hw (Option.some.inj hd) rfl dX11_about_91
  have hd := zif_neg c_5 hd
  by_cases c_7 : p1 = (3 : Int32)
  · have hd := zif_pos c_7 hd
    refine lv_tableIn (tgt := 92) (off := 91) hx hb dX11_about_1 (by rw [c_7]; decide) (by rw [c_7]; decide) (by rw [c_7]; decide) (by decide) ?_
    refine lv_aload_n hx hb dX11_about_92 rfl (lv_at hl 0 rfl) ?_
    refine z_gR F hw h0 zc11 11 (by decide) rfl zf11_12 dX11_about_93 ?_
    have t_8 : zT sh (zR M k0 11) 1 := hw.2.2.2.fld h0 11 1
    refine z_gI F hw t_8 zc1 9 (by decide) rfl zf11_402 dX11_about_96 ?_
    exact z_iret F hr hlk hw (Option.some.inj hd) rfl dX11_about_99
  have hd := zif_neg c_7 hd
  by_cases c_9 : p1 = (4 : Int32)
  · have hd := zif_pos c_9 hd
    refine lv_tableIn (tgt := 100) (off := 99) hx hb dX11_about_1 (by rw [c_9]; decide) (by rw [c_9]; decide) (by rw [c_9]; decide) (by decide) ?_
    refine lv_aload_n hx hb dX11_about_100 rfl (lv_at hl 0 rfl) ?_
    refine z_gR F hw h0 zc11 11 (by decide) rfl zf11_12 dX11_about_101 ?_
    have t_10 : zT sh (zR M k0 11) 1 := hw.2.2.2.fld h0 11 1
    refine z_gI F hw t_10 zc1 10 (by decide) rfl zf11_405 dX11_about_104 ?_
    exact z_iret F hr hlk hw (Option.some.inj hd) rfl dX11_about_107
  have hd := zif_neg c_9 hd
  by_cases c_11 : p1 = (5 : Int32)
  · have hd := zif_pos c_11 hd
    refine lv_tableIn (tgt := 108) (off := 107) hx hb dX11_about_1 (by rw [c_11]; decide) (by rw [c_11]; decide) (by rw [c_11]; decide) (by decide) ?_
    refine lv_aload_n hx hb dX11_about_108 rfl (lv_at hl 0 rfl) ?_
    refine z_gR F hw h0 zc11 2 (by decide) rfl zf11_40 dX11_about_109 ?_
    have t_12 : zT sh (zR M k0 2) 8 := hw.2.2.2.fld h0 2 8
    refine z_gI F hw t_12 zc8 5 (by decide) rfl zf11_408 dX11_about_112 ?_
    exact z_iret F hr hlk hw (Option.some.inj hd) rfl dX11_about_115
  have hd := zif_neg c_11 hd
  by_cases c_13 : p1 = (6 : Int32)
  · have hd := zif_pos c_13 hd
    refine lv_tableIn (tgt := 116) (off := 115) hx hb dX11_about_1 (by rw [c_13]; decide) (by rw [c_13]; decide) (by rw [c_13]; decide) (by decide) ?_
    refine lv_aload_n hx hb dX11_about_116 rfl (lv_at hl 0 rfl) ?_
    refine z_gR F hw h0 zc11 2 (by decide) rfl zf11_40 dX11_about_117 ?_
    have t_14 : zT sh (zR M k0 2) 8 := hw.2.2.2.fld h0 2 8
    refine z_gI F hw t_14 zc8 8 (by decide) rfl zf11_251 dX11_about_120 ?_
    refine lv_if_eq (tgt := 130) hx hb dX11_about_123 (by decide) (fun c_15 => ?_) (fun c_15 => ?_)
    · have hd := zif_pos c_15 hd
      refine lv_iconst (v := (0 : Int32)) hx hb dX11_about_130 (by decide) ?_
      exact J131 _ _ _ _ (lv_sub hl [] rfl) hw hd
    · have hd := zif_neg c_15 hd
      refine lv_iconst (v := (1 : Int32)) hx hb dX11_about_126 (by decide) ?_
      refine lv_goto (tgt := 131) hx hb dX11_about_127 (by decide) ?_
      exact J131 _ _ _ _ (lv_sub hl [] rfl) hw hd
  have hd := zif_neg c_13 hd
  by_cases c_16 : p1 = (7 : Int32)
  · have hd := zif_pos c_16 hd
    refine lv_tableIn (tgt := 132) (off := 131) hx hb dX11_about_1 (by rw [c_16]; decide) (by rw [c_16]; decide) (by rw [c_16]; decide) (by decide) ?_
    refine lv_aload_n hx hb dX11_about_132 rfl (lv_at hl 0 rfl) ?_
    refine z_gR F hw h0 zc11 2 (by decide) rfl zf11_40 dX11_about_133 ?_
    have t_17 : zT sh (zR M k0 2) 8 := hw.2.2.2.fld h0 2 8
    refine z_gI F hw t_17 zc8 10 (by decide) rfl zf11_263 dX11_about_136 ?_
    exact z_iret F hr hlk hw (Option.some.inj hd) rfl dX11_about_139
  have hd := zif_neg c_16 hd
  by_cases c_18 : p1 = (8 : Int32)
  · have hd := zif_pos c_18 hd
    refine lv_tableIn (tgt := 140) (off := 139) hx hb dX11_about_1 (by rw [c_18]; decide) (by rw [c_18]; decide) (by rw [c_18]; decide) (by decide) ?_
    refine lv_aload_n hx hb dX11_about_140 rfl (lv_at hl 0 rfl) ?_
    refine z_gR F hw h0 zc11 4 (by decide) rfl zf11_50 dX11_about_141 ?_
    have t_19 : zT sh (zR M k0 4) 3 := hw.2.2.2.fld h0 4 3
    refine z_gI F hw t_19 zc3 2 (by decide) rfl zf11_111 dX11_about_144 ?_
    exact z_iret F hr hlk hw (Option.some.inj hd) rfl dX11_about_147
  have hd := zif_neg c_18 hd
  by_cases c_20 : p1 = (9 : Int32)
  · have hd := zif_pos c_20 hd
    refine lv_tableIn (tgt := 148) (off := 147) hx hb dX11_about_1 (by rw [c_20]; decide) (by rw [c_20]; decide) (by rw [c_20]; decide) (by decide) ?_
    refine lv_aload_n hx hb dX11_about_148 rfl (lv_at hl 0 rfl) ?_
    refine z_gR F hw h0 zc11 0 (by decide) rfl zf11_24 dX11_about_149 ?_
    have t_21 : zT sh (zR M k0 0) 10 := hw.2.2.2.fld h0 0 10
    refine z_gI F hw t_21 zc10 1 (by decide) rfl zf11_89 dX11_about_152 ?_
    exact z_iret F hr hlk hw (Option.some.inj hd) rfl dX11_about_155
  have hd := zif_neg c_20 hd
  by_cases c_22 : p1 = (10 : Int32)
  · have hd := zif_pos c_22 hd
    refine lv_tableIn (tgt := 156) (off := 155) hx hb dX11_about_1 (by rw [c_22]; decide) (by rw [c_22]; decide) (by rw [c_22]; decide) (by decide) ?_
    refine lv_aload_n hx hb dX11_about_156 rfl (lv_at hl 0 rfl) ?_
    refine z_gR F hw h0 zc11 2 (by decide) rfl zf11_40 dX11_about_157 ?_
    have t_23 : zT sh (zR M k0 2) 8 := hw.2.2.2.fld h0 2 8
    refine z_gI F hw t_23 zc8 4 (by decide) rfl zf11_298 dX11_about_160 ?_
    exact z_iret F hr hlk hw (Option.some.inj hd) rfl dX11_about_163
  have hd := zif_neg c_22 hd
  by_cases c_24 : p1 = (11 : Int32)
  · have hd := zif_pos c_24 hd
    refine lv_tableIn (tgt := 164) (off := 163) hx hb dX11_about_1 (by rw [c_24]; decide) (by rw [c_24]; decide) (by rw [c_24]; decide) (by decide) ?_
    refine lv_aload_n hx hb dX11_about_164 rfl (lv_at hl 0 rfl) ?_
    refine z_gR F hw h0 zc11 2 (by decide) rfl zf11_40 dX11_about_165 ?_
    have t_25 : zT sh (zR M k0 2) 8 := hw.2.2.2.fld h0 2 8
    refine z_gI F hw t_25 zc8 6 (by decide) rfl zf11_409 dX11_about_168 ?_
    exact z_iret F hr hlk hw (Option.some.inj hd) rfl dX11_about_171
  have hd := zif_neg c_24 hd
  by_cases c_26 : p1 = (12 : Int32)
  · have hd := zif_pos c_26 hd
    refine lv_tableIn (tgt := 172) (off := 171) hx hb dX11_about_1 (by rw [c_26]; decide) (by rw [c_26]; decide) (by rw [c_26]; decide) (by decide) ?_
    refine lv_aload_n hx hb dX11_about_172 rfl (lv_at hl 0 rfl) ?_
    refine z_gR F hw h0 zc11 2 (by decide) rfl zf11_40 dX11_about_173 ?_
    have t_27 : zT sh (zR M k0 2) 8 := hw.2.2.2.fld h0 2 8
    refine z_gI F hw t_27 zc8 7 (by decide) rfl zf11_412 dX11_about_176 ?_
    exact z_iret F hr hlk hw (Option.some.inj hd) rfl dX11_about_179
  have hd := zif_neg c_26 hd
  have nc_1 := zne c_1 (a := 0) (by decide)
  have nc_3 := zne c_3 (a := 1) (by decide)
  have nc_5 := zne c_5 (a := 2) (by decide)
  have nc_7 := zne c_7 (a := 3) (by decide)
  have nc_9 := zne c_9 (a := 4) (by decide)
  have nc_11 := zne c_11 (a := 5) (by decide)
  have nc_13 := zne c_13 (a := 6) (by decide)
  have nc_16 := zne c_16 (a := 7) (by decide)
  have nc_18 := zne c_18 (a := 8) (by decide)
  have nc_20 := zne c_20 (a := 9) (by decide)
  have nc_22 := zne c_22 (a := 10) (by decide)
  have nc_24 := zne c_24 (a := 11) (by decide)
  have nc_26 := zne c_26 (a := 12) (by decide)
  refine lv_tableOut (tgt := 180) hx hb dX11_about_1 (by omega) (by decide) ?_
  refine lv_iconst (v := (-1 : Int32)) hx hb dX11_about_180 (by decide) ?_
  exact z_iret F hr hlk hw (Option.some.inj hd) rfl dX11_about_181
