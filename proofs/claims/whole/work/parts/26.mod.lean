theorem dX12_isIn_0 : decode cX12_isIn 0 = .ok (.lload_n 0, 1) := by decide +kernel
theorem dX12_isIn_1 : decode cX12_isIn 1 = .ok (.lload_n 2, 1) := by decide +kernel
theorem dX12_isIn_2 : decode cX12_isIn 2 = .ok (.lcmp, 1) := by decide +kernel
theorem dX12_isIn_3 : decode cX12_isIn 3 = .ok (.ifCond .lt 14, 3) := by decide +kernel
theorem dX12_isIn_6 : decode cX12_isIn 6 = .ok (.lload_n 0, 1) := by decide +kernel
theorem dX12_isIn_7 : decode cX12_isIn 7 = .ok (.lload 4, 2) := by decide +kernel
theorem dX12_isIn_9 : decode cX12_isIn 9 = .ok (.lcmp, 1) := by decide +kernel
theorem dX12_isIn_10 : decode cX12_isIn 10 = .ok (.ifCond .gt 7, 3) := by decide +kernel
theorem dX12_isIn_13 : decode cX12_isIn 13 = .ok (.iconst 1, 1) := by decide +kernel
theorem dX12_isIn_14 : decode cX12_isIn 14 = .ok (.goto 4, 3) := by decide +kernel
theorem dX12_isIn_17 : decode cX12_isIn 17 = .ok (.iconst 0, 1) := by decide +kernel
theorem dX12_isIn_18 : decode cX12_isIn 18 = .ok (.ireturn, 1) := by decide +kernel
theorem dX12_truth_0 : decode cX12_truth 0 = .ok (.iload_n 0, 1) := by decide +kernel
theorem dX12_truth_1 : decode cX12_truth 1 = .ok (.ifCond .eq 7, 3) := by decide +kernel
theorem dX12_truth_4 : decode cX12_truth 4 = .ok (.iconst 1, 1) := by decide +kernel
theorem dX12_truth_5 : decode cX12_truth 5 = .ok (.goto 4, 3) := by decide +kernel
theorem dX12_truth_8 : decode cX12_truth 8 = .ok (.iconst 0, 1) := by decide +kernel
theorem dX12_truth_9 : decode cX12_truth 9 = .ok (.ireturn, 1) := by decide +kernel
theorem dX12_size_0 : decode cX12_size 0 = .ok (.iload_n 0, 1) := by decide +kernel
theorem dX12_size_1 : decode cX12_size 1 = .ok (.ifCond .ge 8, 3) := by decide +kernel
theorem dX12_size_4 : decode cX12_size 4 = .ok (.iload_n 0, 1) := by decide +kernel
theorem dX12_size_5 : decode cX12_size 5 = .ok (.ineg, 1) := by decide +kernel
theorem dX12_size_6 : decode cX12_size 6 = .ok (.goto 4, 3) := by decide +kernel
theorem dX12_size_9 : decode cX12_size 9 = .ok (.iload_n 0, 1) := by decide +kernel
theorem dX12_size_10 : decode cX12_size 10 = .ok (.ireturn, 1) := by decide +kernel
theorem dX12_greater_0 : decode cX12_greater 0 = .ok (.iload_n 0, 1) := by decide +kernel
theorem dX12_greater_1 : decode cX12_greater 1 = .ok (.iload_n 1, 1) := by decide +kernel
theorem dX12_greater_2 : decode cX12_greater 2 = .ok (.if_icmp .le 7, 3) := by decide +kernel
theorem dX12_greater_5 : decode cX12_greater 5 = .ok (.iload_n 0, 1) := by decide +kernel
theorem dX12_greater_6 : decode cX12_greater 6 = .ok (.goto 4, 3) := by decide +kernel
theorem dX12_greater_9 : decode cX12_greater 9 = .ok (.iload_n 1, 1) := by decide +kernel
theorem dX12_greater_10 : decode cX12_greater 10 = .ok (.ireturn, 1) := by decide +kernel
theorem dX12_lesser_0 : decode cX12_lesser 0 = .ok (.iload_n 0, 1) := by decide +kernel
theorem dX12_lesser_1 : decode cX12_lesser 1 = .ok (.iload_n 1, 1) := by decide +kernel
theorem dX12_lesser_2 : decode cX12_lesser 2 = .ok (.if_icmp .ge 7, 3) := by decide +kernel
theorem dX12_lesser_5 : decode cX12_lesser 5 = .ok (.iload_n 0, 1) := by decide +kernel
theorem dX12_lesser_6 : decode cX12_lesser 6 = .ok (.goto 4, 3) := by decide +kernel
theorem dX12_lesser_9 : decode cX12_lesser 9 = .ok (.iload_n 1, 1) := by decide +kernel
theorem dX12_lesser_10 : decode cX12_lesser 10 = .ok (.ireturn, 1) := by decide +kernel
theorem dX12_floor_0 : decode cX12_floor 0 = .ok (.iload_n 0, 1) := by decide +kernel
theorem dX12_floor_1 : decode cX12_floor 1 = .ok (.ifCond .ge 9, 3) := by decide +kernel
theorem dX12_floor_4 : decode cX12_floor 4 = .ok (.iload_n 0, 1) := by decide +kernel
theorem dX12_floor_5 : decode cX12_floor 5 = .ok (.iload_n 1, 1) := by decide +kernel
theorem dX12_floor_6 : decode cX12_floor 6 = .ok (.irem, 1) := by decide +kernel
theorem dX12_floor_7 : decode cX12_floor 7 = .ok (.ifCond .ne 9, 3) := by decide +kernel
theorem dX12_floor_10 : decode cX12_floor 10 = .ok (.iload_n 0, 1) := by decide +kernel
theorem dX12_floor_11 : decode cX12_floor 11 = .ok (.iload_n 1, 1) := by decide +kernel
theorem dX12_floor_12 : decode cX12_floor 12 = .ok (.idiv, 1) := by decide +kernel
theorem dX12_floor_13 : decode cX12_floor 13 = .ok (.goto 8, 3) := by decide +kernel
theorem dX12_floor_16 : decode cX12_floor 16 = .ok (.iload_n 0, 1) := by decide +kernel
theorem dX12_floor_17 : decode cX12_floor 17 = .ok (.iload_n 1, 1) := by decide +kernel
theorem dX12_floor_18 : decode cX12_floor 18 = .ok (.idiv, 1) := by decide +kernel
theorem dX12_floor_19 : decode cX12_floor 19 = .ok (.iconst 1, 1) := by decide +kernel
theorem dX12_floor_20 : decode cX12_floor 20 = .ok (.isub, 1) := by decide +kernel
theorem dX12_floor_21 : decode cX12_floor 21 = .ok (.ireturn, 1) := by decide +kernel
theorem dX12_four_0 : decode cX12_four 0 = .ok (.bipush 24, 2) := by decide +kernel
theorem dX12_four_2 : decode cX12_four 2 = .ok (.istore_n 2, 1) := by decide +kernel
theorem dX12_four_3 : decode cX12_four 3 = .ok (.iload_n 2, 1) := by decide +kernel
theorem dX12_four_4 : decode cX12_four 4 = .ok (.ifCond .lt 35, 3) := by decide +kernel
theorem dX12_four_7 : decode cX12_four 7 = .ok (.aload_n 0, 1) := by decide +kernel
theorem dX12_four_8 : decode cX12_four 8 = .ok (.getfield 13, 3) := by decide +kernel
theorem dX12_four_11 : decode cX12_four 11 = .ok (.aload_n 0, 1) := by decide +kernel
theorem dX12_four_12 : decode cX12_four 12 = .ok (.getfield 84, 3) := by decide +kernel
theorem dX12_four_15 : decode cX12_four 15 = .ok (.iload_n 1, 1) := by decide +kernel
theorem dX12_four_16 : decode cX12_four 16 = .ok (.iload_n 2, 1) := by decide +kernel
theorem dX12_four_17 : decode cX12_four 17 = .ok (.ishr, 1) := by decide +kernel
theorem dX12_four_18 : decode cX12_four 18 = .ok (.sipush 255, 3) := by decide +kernel
theorem dX12_four_21 : decode cX12_four 21 = .ok (.iand, 1) := by decide +kernel
theorem dX12_four_22 : decode cX12_four 22 = .ok (.iastore, 1) := by decide +kernel
theorem dX12_four_23 : decode cX12_four 23 = .ok (.aload_n 0, 1) := by decide +kernel
theorem dX12_four_24 : decode cX12_four 24 = .ok (.dup, 1) := by decide +kernel
theorem dX12_four_25 : decode cX12_four 25 = .ok (.getfield 84, 3) := by decide +kernel
theorem dX12_four_28 : decode cX12_four 28 = .ok (.iconst 1, 1) := by decide +kernel
theorem dX12_four_29 : decode cX12_four 29 = .ok (.iadd, 1) := by decide +kernel
theorem dX12_four_30 : decode cX12_four 30 = .ok (.putfield 84, 3) := by decide +kernel
theorem dX12_four_33 : decode cX12_four 33 = .ok (.iinc 2 (-8), 3) := by decide +kernel
theorem dX12_four_36 : decode cX12_four 36 = .ok (.goto (-33), 3) := by decide +kernel
theorem dX12_four_39 : decode cX12_four 39 = .ok (.return_, 1) := by decide +kernel
theorem dX12_feed_0 : decode cX12_feed 0 = .ok (.aload_n 0, 1) := by decide +kernel
theorem dX12_feed_1 : decode cX12_feed 1 = .ok (.getfield 84, 3) := by decide +kernel
theorem dX12_feed_4 : decode cX12_feed 4 = .ok (.bipush 20, 2) := by decide +kernel
theorem dX12_feed_6 : decode cX12_feed 6 = .ok (.iadd, 1) := by decide +kernel
theorem dX12_feed_7 : decode cX12_feed 7 = .ok (.sipush 900, 3) := by decide +kernel
theorem dX12_feed_10 : decode cX12_feed 10 = .ok (.if_icmp .le 5, 3) := by decide +kernel
theorem dX12_feed_13 : decode cX12_feed 13 = .ok (.iconst (-1), 1) := by decide +kernel
theorem dX12_feed_14 : decode cX12_feed 14 = .ok (.ireturn, 1) := by decide +kernel
theorem dX12_feed_15 : decode cX12_feed 15 = .ok (.aload_n 0, 1) := by decide +kernel
theorem dX12_feed_16 : decode cX12_feed 16 = .ok (.iload_n 1, 1) := by decide +kernel
theorem dX12_feed_17 : decode cX12_feed 17 = .ok (.invokevirtual 87, 3) := by decide +kernel
theorem dX12_feed_20 : decode cX12_feed 20 = .ok (.aload_n 0, 1) := by decide +kernel
theorem dX12_feed_21 : decode cX12_feed 21 = .ok (.iload_n 2, 1) := by decide +kernel
theorem dX12_feed_22 : decode cX12_feed 22 = .ok (.invokevirtual 87, 3) := by decide +kernel
theorem dX12_feed_25 : decode cX12_feed 25 = .ok (.aload_n 0, 1) := by decide +kernel
theorem dX12_feed_26 : decode cX12_feed 26 = .ok (.iload_n 3, 1) := by decide +kernel
theorem dX12_feed_27 : decode cX12_feed 27 = .ok (.invokevirtual 87, 3) := by decide +kernel
theorem dX12_feed_30 : decode cX12_feed 30 = .ok (.aload_n 0, 1) := by decide +kernel
theorem dX12_feed_31 : decode cX12_feed 31 = .ok (.iload 4, 2) := by decide +kernel
theorem dX12_feed_33 : decode cX12_feed 33 = .ok (.invokevirtual 87, 3) := by decide +kernel
theorem dX12_feed_36 : decode cX12_feed 36 = .ok (.aload_n 0, 1) := by decide +kernel
theorem dX12_feed_37 : decode cX12_feed 37 = .ok (.iload 5, 2) := by decide +kernel
theorem dX12_feed_39 : decode cX12_feed 39 = .ok (.invokevirtual 87, 3) := by decide +kernel
theorem dX12_feed_42 : decode cX12_feed 42 = .ok (.aload_n 0, 1) := by decide +kernel
theorem dX12_feed_43 : decode cX12_feed 43 = .ok (.getfield 84, 3) := by decide +kernel
theorem dX12_feed_46 : decode cX12_feed 46 = .ok (.ireturn, 1) := by decide +kernel
theorem dX12_end_0 : decode cX12_end 0 = .ok (.iload_n 1, 1) := by decide +kernel
theorem dX12_end_1 : decode cX12_end 1 = .ok (.i2l, 1) := by decide +kernel
theorem dX12_end_2 : decode cX12_end 2 = .ok (.lconst 0, 1) := by decide +kernel
theorem dX12_end_3 : decode cX12_end 3 = .ok (.aload_n 0, 1) := by decide +kernel
theorem dX12_end_4 : decode cX12_end 4 = .ok (.getfield 84, 3) := by decide +kernel
theorem dX12_end_7 : decode cX12_end 7 = .ok (.i2l, 1) := by decide +kernel
theorem dX12_end_8 : decode cX12_end 8 = .ok (.invokestatic 91, 3) := by decide +kernel
theorem dX12_end_11 : decode cX12_end 11 = .ok (.ifCond .ne 5, 3) := by decide +kernel
theorem dX12_end_14 : decode cX12_end 14 = .ok (.iconst (-1), 1) := by decide +kernel
theorem dX12_end_15 : decode cX12_end 15 = .ok (.ireturn, 1) := by decide +kernel
theorem dX12_end_16 : decode cX12_end 16 = .ok (.aload_n 0, 1) := by decide +kernel
theorem dX12_end_17 : decode cX12_end 17 = .ok (.iload_n 1, 1) := by decide +kernel
theorem dX12_end_18 : decode cX12_end 18 = .ok (.putfield 84, 3) := by decide +kernel
theorem dX12_end_21 : decode cX12_end 21 = .ok (.iload_n 1, 1) := by decide +kernel
theorem dX12_end_22 : decode cX12_end 22 = .ok (.ireturn, 1) := by decide +kernel
theorem dX12_here_0 : decode cX12_here 0 = .ok (.aload_n 0, 1) := by decide +kernel
theorem dX12_here_1 : decode cX12_here 1 = .ok (.getfield 95, 3) := by decide +kernel
theorem dX12_here_4 : decode cX12_here 4 = .ok (.iload_n 1, 1) := by decide +kernel
theorem dX12_here_5 : decode cX12_here 5 = .ok (.iadd, 1) := by decide +kernel
theorem dX12_here_6 : decode cX12_here 6 = .ok (.aload_n 0, 1) := by decide +kernel
theorem dX12_here_7 : decode cX12_here 7 = .ok (.getfield 98, 3) := by decide +kernel
theorem dX12_here_10 : decode cX12_here 10 = .ok (.if_icmp .ge 17, 3) := by decide +kernel
theorem dX12_here_13 : decode cX12_here 13 = .ok (.aload_n 0, 1) := by decide +kernel
theorem dX12_here_14 : decode cX12_here 14 = .ok (.getfield 13, 3) := by decide +kernel
theorem dX12_here_17 : decode cX12_here 17 = .ok (.aload_n 0, 1) := by decide +kernel
theorem dX12_here_18 : decode cX12_here 18 = .ok (.getfield 95, 3) := by decide +kernel
theorem dX12_here_21 : decode cX12_here 21 = .ok (.iload_n 1, 1) := by decide +kernel
theorem dX12_here_22 : decode cX12_here 22 = .ok (.iadd, 1) := by decide +kernel
theorem dX12_here_23 : decode cX12_here 23 = .ok (.iaload, 1) := by decide +kernel
theorem dX12_here_24 : decode cX12_here 24 = .ok (.goto 4, 3) := by decide +kernel
theorem dX12_here_27 : decode cX12_here 27 = .ok (.iconst (-1), 1) := by decide +kernel
theorem dX12_here_28 : decode cX12_here 28 = .ok (.ireturn, 1) := by decide +kernel
theorem dX12_isLetter_0 : decode cX12_isLetter 0 = .ok (.iload_n 0, 1) := by decide +kernel
theorem dX12_isLetter_1 : decode cX12_isLetter 1 = .ok (.bipush 97, 2) := by decide +kernel
theorem dX12_isLetter_3 : decode cX12_isLetter 3 = .ok (.if_icmp .lt 13, 3) := by decide +kernel
theorem dX12_isLetter_6 : decode cX12_isLetter 6 = .ok (.iload_n 0, 1) := by decide +kernel
theorem dX12_isLetter_7 : decode cX12_isLetter 7 = .ok (.bipush 122, 2) := by decide +kernel
theorem dX12_isLetter_9 : decode cX12_isLetter 9 = .ok (.if_icmp .gt 7, 3) := by decide +kernel
theorem dX12_isLetter_12 : decode cX12_isLetter 12 = .ok (.iconst 1, 1) := by decide +kernel
theorem dX12_isLetter_13 : decode cX12_isLetter 13 = .ok (.goto 4, 3) := by decide +kernel
theorem dX12_isLetter_16 : decode cX12_isLetter 16 = .ok (.iconst 0, 1) := by decide +kernel
theorem dX12_isLetter_17 : decode cX12_isLetter 17 = .ok (.ireturn, 1) := by decide +kernel
theorem dX12_isDigit_0 : decode cX12_isDigit 0 = .ok (.iload_n 0, 1) := by decide +kernel
theorem dX12_isDigit_1 : decode cX12_isDigit 1 = .ok (.bipush 48, 2) := by decide +kernel
theorem dX12_isDigit_3 : decode cX12_isDigit 3 = .ok (.if_icmp .lt 13, 3) := by decide +kernel
theorem dX12_isDigit_6 : decode cX12_isDigit 6 = .ok (.iload_n 0, 1) := by decide +kernel
theorem dX12_isDigit_7 : decode cX12_isDigit 7 = .ok (.bipush 57, 2) := by decide +kernel
theorem dX12_isDigit_9 : decode cX12_isDigit 9 = .ok (.if_icmp .gt 7, 3) := by decide +kernel
theorem dX12_isDigit_12 : decode cX12_isDigit 12 = .ok (.iconst 1, 1) := by decide +kernel
theorem dX12_isDigit_13 : decode cX12_isDigit 13 = .ok (.goto 4, 3) := by decide +kernel
theorem dX12_isDigit_16 : decode cX12_isDigit 16 = .ok (.iconst 0, 1) := by decide +kernel
theorem dX12_isDigit_17 : decode cX12_isDigit 17 = .ok (.ireturn, 1) := by decide +kernel
theorem dX12_goOn_0 : decode cX12_goOn 0 = .ok (.aload_n 0, 1) := by decide +kernel
theorem dX12_goOn_1 : decode cX12_goOn 1 = .ok (.iconst 0, 1) := by decide +kernel
theorem dX12_goOn_2 : decode cX12_goOn 2 = .ok (.invokevirtual 101, 3) := by decide +kernel
theorem dX12_goOn_5 : decode cX12_goOn 5 = .ok (.bipush 32, 2) := by decide +kernel
theorem dX12_goOn_7 : decode cX12_goOn 7 = .ok (.if_icmp .eq 13, 3) := by decide +kernel
theorem dX12_goOn_10 : decode cX12_goOn 10 = .ok (.aload_n 0, 1) := by decide +kernel
theorem dX12_goOn_11 : decode cX12_goOn 11 = .ok (.iconst 0, 1) := by decide +kernel
theorem dX12_goOn_12 : decode cX12_goOn 12 = .ok (.invokevirtual 101, 3) := by decide +kernel
theorem dX12_goOn_15 : decode cX12_goOn 15 = .ok (.bipush 10, 2) := by decide +kernel
theorem dX12_goOn_17 : decode cX12_goOn 17 = .ok (.if_icmp .ne 16, 3) := by decide +kernel
theorem dX12_goOn_20 : decode cX12_goOn 20 = .ok (.aload_n 0, 1) := by decide +kernel
theorem dX12_goOn_21 : decode cX12_goOn 21 = .ok (.dup, 1) := by decide +kernel
theorem dX12_goOn_22 : decode cX12_goOn 22 = .ok (.getfield 95, 3) := by decide +kernel
theorem dX12_goOn_25 : decode cX12_goOn 25 = .ok (.iconst 1, 1) := by decide +kernel
theorem dX12_goOn_26 : decode cX12_goOn 26 = .ok (.iadd, 1) := by decide +kernel
theorem dX12_goOn_27 : decode cX12_goOn 27 = .ok (.putfield 95, 3) := by decide +kernel
theorem dX12_goOn_30 : decode cX12_goOn 30 = .ok (.goto (-30), 3) := by decide +kernel
theorem dX12_goOn_33 : decode cX12_goOn 33 = .ok (.aload_n 0, 1) := by decide +kernel
theorem dX12_goOn_34 : decode cX12_goOn 34 = .ok (.aload_n 0, 1) := by decide +kernel
theorem dX12_goOn_35 : decode cX12_goOn 35 = .ok (.getfield 95, 3) := by decide +kernel
theorem dX12_goOn_38 : decode cX12_goOn 38 = .ok (.putfield 105, 3) := by decide +kernel
theorem dX12_goOn_41 : decode cX12_goOn 41 = .ok (.iconst 0, 1) := by decide +kernel
theorem dX12_goOn_42 : decode cX12_goOn 42 = .ok (.istore_n 1, 1) := by decide +kernel
theorem dX12_goOn_43 : decode cX12_goOn 43 = .ok (.aload_n 0, 1) := by decide +kernel
theorem dX12_goOn_44 : decode cX12_goOn 44 = .ok (.lconst 0, 1) := by decide +kernel
theorem dX12_goOn_45 : decode cX12_goOn 45 = .ok (.putfield 108, 3) := by decide +kernel
theorem dX12_goOn_48 : decode cX12_goOn 48 = .ok (.aload_n 0, 1) := by decide +kernel
theorem dX12_goOn_49 : decode cX12_goOn 49 = .ok (.iconst 0, 1) := by decide +kernel
theorem dX12_goOn_50 : decode cX12_goOn 50 = .ok (.putfield 112, 3) := by decide +kernel
theorem dX12_goOn_53 : decode cX12_goOn 53 = .ok (.aload_n 0, 1) := by decide +kernel
theorem dX12_goOn_54 : decode cX12_goOn 54 = .ok (.iconst 0, 1) := by decide +kernel
theorem dX12_goOn_55 : decode cX12_goOn 55 = .ok (.invokevirtual 101, 3) := by decide +kernel
theorem dX12_goOn_58 : decode cX12_goOn 58 = .ok (.ifCond .ge 9, 3) := by decide +kernel
theorem dX12_goOn_61 : decode cX12_goOn 61 = .ok (.aload_n 0, 1) := by decide +kernel
theorem dX12_goOn_62 : decode cX12_goOn 62 = .ok (.iconst 0, 1) := by decide +kernel
theorem dX12_goOn_63 : decode cX12_goOn 63 = .ok (.putfield 115, 3) := by decide +kernel
theorem dX12_goOn_66 : decode cX12_goOn 66 = .ok (.return_, 1) := by decide +kernel
theorem dX12_goOn_67 : decode cX12_goOn 67 = .ok (.aload_n 0, 1) := by decide +kernel
theorem dX12_goOn_68 : decode cX12_goOn 68 = .ok (.iconst 0, 1) := by decide +kernel
theorem dX12_goOn_69 : decode cX12_goOn 69 = .ok (.invokevirtual 101, 3) := by decide +kernel
theorem dX12_goOn_72 : decode cX12_goOn 72 = .ok (.invokestatic 118, 3) := by decide +kernel
theorem dX12_goOn_75 : decode cX12_goOn 75 = .ok (.ifCond .eq 62, 3) := by decide +kernel
theorem dX12_goOn_78 : decode cX12_goOn 78 = .ok (.aload_n 0, 1) := by decide +kernel
theorem dX12_goOn_79 : decode cX12_goOn 79 = .ok (.iload_n 1, 1) := by decide +kernel
theorem dX12_goOn_80 : decode cX12_goOn 80 = .ok (.invokevirtual 101, 3) := by decide +kernel
theorem dX12_goOn_83 : decode cX12_goOn 83 = .ok (.invokestatic 118, 3) := by decide +kernel
theorem dX12_goOn_86 : decode cX12_goOn 86 = .ok (.ifCond .eq 33, 3) := by decide +kernel
theorem dX12_goOn_89 : decode cX12_goOn 89 = .ok (.iload_n 1, 1) := by decide +kernel
theorem dX12_goOn_90 : decode cX12_goOn 90 = .ok (.bipush 6, 2) := by decide +kernel
theorem dX12_goOn_92 : decode cX12_goOn 92 = .ok (.if_icmp .ge 21, 3) := by decide +kernel
theorem dX12_goOn_95 : decode cX12_goOn 95 = .ok (.aload_n 0, 1) := by decide +kernel
theorem dX12_goOn_96 : decode cX12_goOn 96 = .ok (.aload_n 0, 1) := by decide +kernel
theorem dX12_goOn_97 : decode cX12_goOn 97 = .ok (.getfield 108, 3) := by decide +kernel
theorem dX12_goOn_100 : decode cX12_goOn 100 = .ok (.bipush 8, 2) := by decide +kernel
theorem dX12_goOn_102 : decode cX12_goOn 102 = .ok (.lshl, 1) := by decide +kernel
theorem dX12_goOn_103 : decode cX12_goOn 103 = .ok (.aload_n 0, 1) := by decide +kernel
theorem dX12_goOn_104 : decode cX12_goOn 104 = .ok (.iload_n 1, 1) := by decide +kernel
theorem dX12_goOn_105 : decode cX12_goOn 105 = .ok (.invokevirtual 101, 3) := by decide +kernel
theorem dX12_goOn_108 : decode cX12_goOn 108 = .ok (.i2l, 1) := by decide +kernel
theorem dX12_goOn_109 : decode cX12_goOn 109 = .ok (.lor, 1) := by decide +kernel
theorem dX12_goOn_110 : decode cX12_goOn 110 = .ok (.putfield 108, 3) := by decide +kernel
theorem dX12_goOn_113 : decode cX12_goOn 113 = .ok (.iinc 1 1, 3) := by decide +kernel
theorem dX12_goOn_116 : decode cX12_goOn 116 = .ok (.goto (-38), 3) := by decide +kernel
theorem dX12_goOn_119 : decode cX12_goOn 119 = .ok (.aload_n 0, 1) := by decide +kernel
theorem dX12_goOn_120 : decode cX12_goOn 120 = .ok (.iload_n 1, 1) := by decide +kernel
theorem dX12_goOn_121 : decode cX12_goOn 121 = .ok (.bipush 6, 2) := by decide +kernel
theorem dX12_goOn_123 : decode cX12_goOn 123 = .ok (.if_icmp .le 7, 3) := by decide +kernel
theorem dX12_goOn_126 : decode cX12_goOn 126 = .ok (.iconst 5, 1) := by decide +kernel
theorem dX12_goOn_127 : decode cX12_goOn 127 = .ok (.goto 4, 3) := by decide +kernel
theorem dX12_goOn_130 : decode cX12_goOn 130 = .ok (.iconst 1, 1) := by decide +kernel
theorem dX12_goOn_131 : decode cX12_goOn 131 = .ok (.putfield 115, 3) := by decide +kernel
theorem dX12_goOn_134 : decode cX12_goOn 134 = .ok (.goto 119, 3) := by decide +kernel
theorem dX12_goOn_137 : decode cX12_goOn 137 = .ok (.aload_n 0, 1) := by decide +kernel
theorem dX12_goOn_138 : decode cX12_goOn 138 = .ok (.iconst 0, 1) := by decide +kernel
theorem dX12_goOn_139 : decode cX12_goOn 139 = .ok (.invokevirtual 101, 3) := by decide +kernel
theorem dX12_goOn_142 : decode cX12_goOn 142 = .ok (.invokestatic 122, 3) := by decide +kernel
theorem dX12_goOn_145 : decode cX12_goOn 145 = .ok (.ifCond .eq 73, 3) := by decide +kernel
theorem dX12_goOn_148 : decode cX12_goOn 148 = .ok (.aload_n 0, 1) := by decide +kernel
theorem dX12_goOn_149 : decode cX12_goOn 149 = .ok (.iload_n 1, 1) := by decide +kernel
theorem dX12_goOn_150 : decode cX12_goOn 150 = .ok (.invokevirtual 101, 3) := by decide +kernel
theorem dX12_goOn_153 : decode cX12_goOn 153 = .ok (.invokestatic 122, 3) := by decide +kernel
theorem dX12_goOn_156 : decode cX12_goOn 156 = .ok (.ifCond .eq 34, 3) := by decide +kernel
theorem dX12_goOn_159 : decode cX12_goOn 159 = .ok (.iload_n 1, 1) := by decide +kernel
theorem dX12_goOn_160 : decode cX12_goOn 160 = .ok (.iconst 5, 1) := by decide +kernel
theorem dX12_goOn_161 : decode cX12_goOn 161 = .ok (.if_icmp .ge 23, 3) := by decide +kernel
theorem dX12_goOn_164 : decode cX12_goOn 164 = .ok (.aload_n 0, 1) := by decide +kernel
theorem dX12_goOn_165 : decode cX12_goOn 165 = .ok (.bipush 10, 2) := by decide +kernel
theorem dX12_goOn_167 : decode cX12_goOn 167 = .ok (.aload_n 0, 1) := by decide +kernel
theorem dX12_goOn_168 : decode cX12_goOn 168 = .ok (.getfield 112, 3) := by decide +kernel
theorem dX12_goOn_171 : decode cX12_goOn 171 = .ok (.imul, 1) := by decide +kernel
theorem dX12_goOn_172 : decode cX12_goOn 172 = .ok (.aload_n 0, 1) := by decide +kernel
theorem dX12_goOn_173 : decode cX12_goOn 173 = .ok (.iload_n 1, 1) := by decide +kernel
theorem dX12_goOn_174 : decode cX12_goOn 174 = .ok (.invokevirtual 101, 3) := by decide +kernel
theorem dX12_goOn_177 : decode cX12_goOn 177 = .ok (.iadd, 1) := by decide +kernel
theorem dX12_goOn_178 : decode cX12_goOn 178 = .ok (.bipush 48, 2) := by decide +kernel
theorem dX12_goOn_180 : decode cX12_goOn 180 = .ok (.isub, 1) := by decide +kernel
theorem dX12_goOn_181 : decode cX12_goOn 181 = .ok (.putfield 112, 3) := by decide +kernel
theorem dX12_goOn_184 : decode cX12_goOn 184 = .ok (.iinc 1 1, 3) := by decide +kernel
theorem dX12_goOn_187 : decode cX12_goOn 187 = .ok (.goto (-39), 3) := by decide +kernel
theorem dX12_goOn_190 : decode cX12_goOn 190 = .ok (.aload_n 0, 1) := by decide +kernel
theorem dX12_goOn_191 : decode cX12_goOn 191 = .ok (.iload_n 1, 1) := by decide +kernel
theorem dX12_goOn_192 : decode cX12_goOn 192 = .ok (.iconst 5, 1) := by decide +kernel
theorem dX12_goOn_193 : decode cX12_goOn 193 = .ok (.if_icmp .gt 14, 3) := by decide +kernel
theorem dX12_goOn_196 : decode cX12_goOn 196 = .ok (.aload_n 0, 1) := by decide +kernel
theorem dX12_goOn_197 : decode cX12_goOn 197 = .ok (.iload_n 1, 1) := by decide +kernel
theorem dX12_goOn_198 : decode cX12_goOn 198 = .ok (.invokevirtual 101, 3) := by decide +kernel
theorem dX12_goOn_201 : decode cX12_goOn 201 = .ok (.invokestatic 118, 3) := by decide +kernel
theorem dX12_goOn_204 : decode cX12_goOn 204 = .ok (.ifCond .eq 7, 3) := by decide +kernel
theorem dX12_goOn_207 : decode cX12_goOn 207 = .ok (.iconst 5, 1) := by decide +kernel
theorem dX12_goOn_208 : decode cX12_goOn 208 = .ok (.goto 4, 3) := by decide +kernel
theorem dX12_goOn_211 : decode cX12_goOn 211 = .ok (.iconst 2, 1) := by decide +kernel
theorem dX12_goOn_212 : decode cX12_goOn 212 = .ok (.putfield 115, 3) := by decide +kernel
theorem dX12_goOn_215 : decode cX12_goOn 215 = .ok (.goto 38, 3) := by decide +kernel
theorem dX12_goOn_218 : decode cX12_goOn 218 = .ok (.aload_n 0, 1) := by decide +kernel
theorem dX12_goOn_219 : decode cX12_goOn 219 = .ok (.aload_n 0, 1) := by decide +kernel
theorem dX12_goOn_220 : decode cX12_goOn 220 = .ok (.iconst 0, 1) := by decide +kernel
theorem dX12_goOn_221 : decode cX12_goOn 221 = .ok (.invokevirtual 101, 3) := by decide +kernel
theorem dX12_goOn_224 : decode cX12_goOn 224 = .ok (.bipush 45, 2) := by decide +kernel
theorem dX12_goOn_226 : decode cX12_goOn 226 = .ok (.if_icmp .ne 7, 3) := by decide +kernel
theorem dX12_goOn_229 : decode cX12_goOn 229 = .ok (.iconst 3, 1) := by decide +kernel
theorem dX12_goOn_230 : decode cX12_goOn 230 = .ok (.goto 18, 3) := by decide +kernel
theorem dX12_goOn_233 : decode cX12_goOn 233 = .ok (.aload_n 0, 1) := by decide +kernel
theorem dX12_goOn_234 : decode cX12_goOn 234 = .ok (.iconst 0, 1) := by decide +kernel
theorem dX12_goOn_235 : decode cX12_goOn 235 = .ok (.invokevirtual 101, 3) := by decide +kernel
theorem dX12_goOn_238 : decode cX12_goOn 238 = .ok (.bipush 59, 2) := by decide +kernel
theorem dX12_goOn_240 : decode cX12_goOn 240 = .ok (.if_icmp .ne 7, 3) := by decide +kernel
theorem dX12_goOn_243 : decode cX12_goOn 243 = .ok (.iconst 4, 1) := by decide +kernel
theorem dX12_goOn_244 : decode cX12_goOn 244 = .ok (.goto 4, 3) := by decide +kernel
theorem dX12_goOn_247 : decode cX12_goOn 247 = .ok (.iconst 5, 1) := by decide +kernel
theorem dX12_goOn_248 : decode cX12_goOn 248 = .ok (.putfield 115, 3) := by decide +kernel
theorem dX12_goOn_251 : decode cX12_goOn 251 = .ok (.iconst 1, 1) := by decide +kernel
theorem dX12_goOn_252 : decode cX12_goOn 252 = .ok (.istore_n 1, 1) := by decide +kernel
theorem dX12_goOn_253 : decode cX12_goOn 253 = .ok (.aload_n 0, 1) := by decide +kernel
theorem dX12_goOn_254 : decode cX12_goOn 254 = .ok (.dup, 1) := by decide +kernel
theorem dX12_goOn_255 : decode cX12_goOn 255 = .ok (.getfield 95, 3) := by decide +kernel
theorem dX12_goOn_258 : decode cX12_goOn 258 = .ok (.iload_n 1, 1) := by decide +kernel
theorem dX12_goOn_259 : decode cX12_goOn 259 = .ok (.iadd, 1) := by decide +kernel
theorem dX12_goOn_260 : decode cX12_goOn 260 = .ok (.putfield 95, 3) := by decide +kernel
theorem dX12_goOn_263 : decode cX12_goOn 263 = .ok (.return_, 1) := by decide +kernel
theorem dX12_wrong_0 : decode cX12_wrong 0 = .ok (.aload_n 0, 1) := by decide +kernel
theorem dX12_wrong_1 : decode cX12_wrong 1 = .ok (.getfield 125, 3) := by decide +kernel
theorem dX12_wrong_4 : decode cX12_wrong 4 = .ok (.ifCond .le 4, 3) := by decide +kernel
theorem dX12_wrong_7 : decode cX12_wrong 7 = .ok (.return_, 1) := by decide +kernel
theorem dX12_wrong_8 : decode cX12_wrong 8 = .ok (.aload_n 0, 1) := by decide +kernel
theorem dX12_wrong_9 : decode cX12_wrong 9 = .ok (.aload_n 0, 1) := by decide +kernel
theorem dX12_wrong_10 : decode cX12_wrong 10 = .ok (.getfield 115, 3) := by decide +kernel
theorem dX12_wrong_13 : decode cX12_wrong 13 = .ok (.iconst 5, 1) := by decide +kernel
theorem dX12_wrong_14 : decode cX12_wrong 14 = .ok (.if_icmp .ne 7, 3) := by decide +kernel
theorem dX12_wrong_17 : decode cX12_wrong 17 = .ok (.iconst 1, 1) := by decide +kernel
theorem dX12_wrong_18 : decode cX12_wrong 18 = .ok (.goto 4, 3) := by decide +kernel
theorem dX12_wrong_21 : decode cX12_wrong 21 = .ok (.iload_n 1, 1) := by decide +kernel
theorem dX12_wrong_22 : decode cX12_wrong 22 = .ok (.putfield 125, 3) := by decide +kernel
theorem dX12_wrong_25 : decode cX12_wrong 25 = .ok (.aload_n 0, 1) := by decide +kernel
theorem dX12_wrong_26 : decode cX12_wrong 26 = .ok (.aload_n 0, 1) := by decide +kernel
theorem dX12_wrong_27 : decode cX12_wrong 27 = .ok (.getfield 105, 3) := by decide +kernel
theorem dX12_wrong_30 : decode cX12_wrong 30 = .ok (.putfield 16, 3) := by decide +kernel
theorem dX12_wrong_33 : decode cX12_wrong 33 = .ok (.return_, 1) := by decide +kernel
theorem dX12_isGood_0 : decode cX12_isGood 0 = .ok (.aload_n 0, 1) := by decide +kernel
theorem dX12_isGood_1 : decode cX12_isGood 1 = .ok (.getfield 125, 3) := by decide +kernel
theorem dX12_isGood_4 : decode cX12_isGood 4 = .ok (.ifCond .ne 7, 3) := by decide +kernel
theorem dX12_isGood_7 : decode cX12_isGood 7 = .ok (.iconst 1, 1) := by decide +kernel
theorem dX12_isGood_8 : decode cX12_isGood 8 = .ok (.goto 4, 3) := by decide +kernel
theorem dX12_isGood_11 : decode cX12_isGood 11 = .ok (.iconst 0, 1) := by decide +kernel
theorem dX12_isGood_12 : decode cX12_isGood 12 = .ok (.ireturn, 1) := by decide +kernel
theorem dX12_isWord_0 : decode cX12_isWord 0 = .ok (.aload_n 0, 1) := by decide +kernel
theorem dX12_isWord_1 : decode cX12_isWord 1 = .ok (.getfield 125, 3) := by decide +kernel
theorem dX12_isWord_4 : decode cX12_isWord 4 = .ok (.ifCond .ne 24, 3) := by decide +kernel
theorem dX12_isWord_7 : decode cX12_isWord 7 = .ok (.aload_n 0, 1) := by decide +kernel
theorem dX12_isWord_8 : decode cX12_isWord 8 = .ok (.getfield 115, 3) := by decide +kernel
theorem dX12_isWord_11 : decode cX12_isWord 11 = .ok (.iconst 1, 1) := by decide +kernel
theorem dX12_isWord_12 : decode cX12_isWord 12 = .ok (.if_icmp .ne 16, 3) := by decide +kernel
theorem dX12_isWord_15 : decode cX12_isWord 15 = .ok (.aload_n 0, 1) := by decide +kernel
theorem dX12_isWord_16 : decode cX12_isWord 16 = .ok (.getfield 108, 3) := by decide +kernel
theorem dX12_isWord_19 : decode cX12_isWord 19 = .ok (.lload_n 1, 1) := by decide +kernel
theorem dX12_isWord_20 : decode cX12_isWord 20 = .ok (.lcmp, 1) := by decide +kernel
theorem dX12_isWord_21 : decode cX12_isWord 21 = .ok (.ifCond .ne 7, 3) := by decide +kernel
theorem dX12_isWord_24 : decode cX12_isWord 24 = .ok (.iconst 1, 1) := by decide +kernel
theorem dX12_isWord_25 : decode cX12_isWord 25 = .ok (.goto 4, 3) := by decide +kernel
theorem dX12_isWord_28 : decode cX12_isWord 28 = .ok (.iconst 0, 1) := by decide +kernel
theorem dX12_isWord_29 : decode cX12_isWord 29 = .ok (.ireturn, 1) := by decide +kernel
theorem dX12_isKept_0 : decode cX12_isKept 0 = .ok (.aload_n 0, 1) := by decide +kernel
theorem dX12_isKept_1 : decode cX12_isKept 1 = .ok (.getfield 108, 3) := by decide +kernel
theorem dX12_isKept_4 : decode cX12_isKept 4 = .ok (.ldc2_w 128, 3) := by decide +kernel
theorem dX12_isKept_7 : decode cX12_isKept 7 = .ok (.lcmp, 1) := by decide +kernel
theorem dX12_isKept_8 : decode cX12_isKept 8 = .ok (.ifCond .eq 135, 3) := by decide +kernel
theorem dX12_isKept_11 : decode cX12_isKept 11 = .ok (.aload_n 0, 1) := by decide +kernel
theorem dX12_isKept_12 : decode cX12_isKept 12 = .ok (.getfield 108, 3) := by decide +kernel
theorem dX12_isKept_15 : decode cX12_isKept 15 = .ok (.ldc2_w 130, 3) := by decide +kernel
theorem dX12_isKept_18 : decode cX12_isKept 18 = .ok (.lcmp, 1) := by decide +kernel
theorem dX12_isKept_19 : decode cX12_isKept 19 = .ok (.ifCond .eq 124, 3) := by decide +kernel
theorem dX12_isKept_22 : decode cX12_isKept 22 = .ok (.aload_n 0, 1) := by decide +kernel
theorem dX12_isKept_23 : decode cX12_isKept 23 = .ok (.getfield 108, 3) := by decide +kernel
theorem dX12_isKept_26 : decode cX12_isKept 26 = .ok (.ldc2_w 132, 3) := by decide +kernel
theorem dX12_isKept_29 : decode cX12_isKept 29 = .ok (.lcmp, 1) := by decide +kernel
theorem dX12_isKept_30 : decode cX12_isKept 30 = .ok (.ifCond .eq 113, 3) := by decide +kernel
theorem dX12_isKept_33 : decode cX12_isKept 33 = .ok (.aload_n 0, 1) := by decide +kernel
theorem dX12_isKept_34 : decode cX12_isKept 34 = .ok (.getfield 108, 3) := by decide +kernel
theorem dX12_isKept_37 : decode cX12_isKept 37 = .ok (.ldc2_w 134, 3) := by decide +kernel
theorem dX12_isKept_40 : decode cX12_isKept 40 = .ok (.lcmp, 1) := by decide +kernel
theorem dX12_isKept_41 : decode cX12_isKept 41 = .ok (.ifCond .eq 102, 3) := by decide +kernel
theorem dX12_isKept_44 : decode cX12_isKept 44 = .ok (.aload_n 0, 1) := by decide +kernel
theorem dX12_isKept_45 : decode cX12_isKept 45 = .ok (.getfield 108, 3) := by decide +kernel
theorem dX12_isKept_48 : decode cX12_isKept 48 = .ok (.ldc2_w 136, 3) := by decide +kernel
theorem dX12_isKept_51 : decode cX12_isKept 51 = .ok (.lcmp, 1) := by decide +kernel
theorem dX12_isKept_52 : decode cX12_isKept 52 = .ok (.ifCond .eq 91, 3) := by decide +kernel
theorem dX12_isKept_55 : decode cX12_isKept 55 = .ok (.aload_n 0, 1) := by decide +kernel
theorem dX12_isKept_56 : decode cX12_isKept 56 = .ok (.getfield 108, 3) := by decide +kernel
theorem dX12_isKept_59 : decode cX12_isKept 59 = .ok (.ldc2_w 138, 3) := by decide +kernel
theorem dX12_isKept_62 : decode cX12_isKept 62 = .ok (.lcmp, 1) := by decide +kernel
theorem dX12_isKept_63 : decode cX12_isKept 63 = .ok (.ifCond .eq 80, 3) := by decide +kernel
theorem dX12_isKept_66 : decode cX12_isKept 66 = .ok (.aload_n 0, 1) := by decide +kernel
theorem dX12_isKept_67 : decode cX12_isKept 67 = .ok (.getfield 108, 3) := by decide +kernel
theorem dX12_isKept_70 : decode cX12_isKept 70 = .ok (.ldc2_w 140, 3) := by decide +kernel
theorem dX12_isKept_73 : decode cX12_isKept 73 = .ok (.lcmp, 1) := by decide +kernel
theorem dX12_isKept_74 : decode cX12_isKept 74 = .ok (.ifCond .eq 69, 3) := by decide +kernel
theorem dX12_isKept_77 : decode cX12_isKept 77 = .ok (.aload_n 0, 1) := by decide +kernel
theorem dX12_isKept_78 : decode cX12_isKept 78 = .ok (.getfield 108, 3) := by decide +kernel
theorem dX12_isKept_81 : decode cX12_isKept 81 = .ok (.ldc2_w 142, 3) := by decide +kernel
theorem dX12_isKept_84 : decode cX12_isKept 84 = .ok (.lcmp, 1) := by decide +kernel
theorem dX12_isKept_85 : decode cX12_isKept 85 = .ok (.ifCond .eq 58, 3) := by decide +kernel
theorem dX12_isKept_88 : decode cX12_isKept 88 = .ok (.aload_n 0, 1) := by decide +kernel
theorem dX12_isKept_89 : decode cX12_isKept 89 = .ok (.getfield 108, 3) := by decide +kernel
theorem dX12_isKept_92 : decode cX12_isKept 92 = .ok (.ldc2_w 144, 3) := by decide +kernel
theorem dX12_isKept_95 : decode cX12_isKept 95 = .ok (.lcmp, 1) := by decide +kernel
theorem dX12_isKept_96 : decode cX12_isKept 96 = .ok (.ifCond .eq 47, 3) := by decide +kernel
theorem dX12_isKept_99 : decode cX12_isKept 99 = .ok (.aload_n 0, 1) := by decide +kernel
theorem dX12_isKept_100 : decode cX12_isKept 100 = .ok (.getfield 108, 3) := by decide +kernel
theorem dX12_isKept_103 : decode cX12_isKept 103 = .ok (.ldc2_w 146, 3) := by decide +kernel
theorem dX12_isKept_106 : decode cX12_isKept 106 = .ok (.lcmp, 1) := by decide +kernel
theorem dX12_isKept_107 : decode cX12_isKept 107 = .ok (.ifCond .eq 36, 3) := by decide +kernel
theorem dX12_isKept_110 : decode cX12_isKept 110 = .ok (.aload_n 0, 1) := by decide +kernel
theorem dX12_isKept_111 : decode cX12_isKept 111 = .ok (.getfield 108, 3) := by decide +kernel
theorem dX12_isKept_114 : decode cX12_isKept 114 = .ok (.ldc2_w 148, 3) := by decide +kernel
theorem dX12_isKept_117 : decode cX12_isKept 117 = .ok (.lcmp, 1) := by decide +kernel
theorem dX12_isKept_118 : decode cX12_isKept 118 = .ok (.ifCond .eq 25, 3) := by decide +kernel
theorem dX12_isKept_121 : decode cX12_isKept 121 = .ok (.aload_n 0, 1) := by decide +kernel
theorem dX12_isKept_122 : decode cX12_isKept 122 = .ok (.getfield 108, 3) := by decide +kernel
theorem dX12_isKept_125 : decode cX12_isKept 125 = .ok (.ldc2_w 150, 3) := by decide +kernel
theorem dX12_isKept_128 : decode cX12_isKept 128 = .ok (.lcmp, 1) := by decide +kernel
theorem dX12_isKept_129 : decode cX12_isKept 129 = .ok (.ifCond .eq 14, 3) := by decide +kernel
theorem dX12_isKept_132 : decode cX12_isKept 132 = .ok (.aload_n 0, 1) := by decide +kernel
theorem dX12_isKept_133 : decode cX12_isKept 133 = .ok (.getfield 108, 3) := by decide +kernel
theorem dX12_isKept_136 : decode cX12_isKept 136 = .ok (.ldc2_w 152, 3) := by decide +kernel
theorem dX12_isKept_139 : decode cX12_isKept 139 = .ok (.lcmp, 1) := by decide +kernel
theorem dX12_isKept_140 : decode cX12_isKept 140 = .ok (.ifCond .ne 7, 3) := by decide +kernel
theorem dX12_isKept_143 : decode cX12_isKept 143 = .ok (.iconst 1, 1) := by decide +kernel
theorem dX12_isKept_144 : decode cX12_isKept 144 = .ok (.goto 4, 3) := by decide +kernel
theorem dX12_isKept_147 : decode cX12_isKept 147 = .ok (.iconst 0, 1) := by decide +kernel
theorem dX12_isKept_148 : decode cX12_isKept 148 = .ok (.ireturn, 1) := by decide +kernel
theorem dX12_must_0 : decode cX12_must 0 = .ok (.aload_n 0, 1) := by decide +kernel
theorem dX12_must_1 : decode cX12_must 1 = .ok (.getfield 125, 3) := by decide +kernel
theorem dX12_must_4 : decode cX12_must 4 = .ok (.ifCond .le 4, 3) := by decide +kernel
theorem dX12_must_7 : decode cX12_must 7 = .ok (.return_, 1) := by decide +kernel
theorem dX12_must_8 : decode cX12_must 8 = .ok (.aload_n 0, 1) := by decide +kernel
theorem dX12_must_9 : decode cX12_must 9 = .ok (.lload_n 1, 1) := by decide +kernel
theorem dX12_must_10 : decode cX12_must 10 = .ok (.invokevirtual 154, 3) := by decide +kernel
theorem dX12_must_13 : decode cX12_must 13 = .ok (.ifCond .eq 10, 3) := by decide +kernel
theorem dX12_must_16 : decode cX12_must 16 = .ok (.aload_n 0, 1) := by decide +kernel
theorem dX12_must_17 : decode cX12_must 17 = .ok (.invokevirtual 158, 3) := by decide +kernel
theorem dX12_must_20 : decode cX12_must 20 = .ok (.goto 8, 3) := by decide +kernel
theorem dX12_must_23 : decode cX12_must 23 = .ok (.aload_n 0, 1) := by decide +kernel
theorem dX12_must_24 : decode cX12_must 24 = .ok (.iconst 2, 1) := by decide +kernel
theorem dX12_must_25 : decode cX12_must 25 = .ok (.invokevirtual 161, 3) := by decide +kernel
theorem dX12_must_28 : decode cX12_must 28 = .ok (.return_, 1) := by decide +kernel
theorem dX12_numberHere_0 : decode cX12_numberHere 0 = .ok (.aload_n 0, 1) := by decide +kernel
theorem dX12_numberHere_1 : decode cX12_numberHere 1 = .ok (.getfield 125, 3) := by decide +kernel
theorem dX12_numberHere_4 : decode cX12_numberHere 4 = .ok (.ifCond .le 5, 3) := by decide +kernel
theorem dX12_numberHere_7 : decode cX12_numberHere 7 = .ok (.iconst 0, 1) := by decide +kernel
theorem dX12_numberHere_8 : decode cX12_numberHere 8 = .ok (.ireturn, 1) := by decide +kernel
theorem dX12_numberHere_9 : decode cX12_numberHere 9 = .ok (.aload_n 0, 1) := by decide +kernel
theorem dX12_numberHere_10 : decode cX12_numberHere 10 = .ok (.getfield 115, 3) := by decide +kernel
theorem dX12_numberHere_13 : decode cX12_numberHere 13 = .ok (.iconst 2, 1) := by decide +kernel
theorem dX12_numberHere_14 : decode cX12_numberHere 14 = .ok (.if_icmp .eq 11, 3) := by decide +kernel
theorem dX12_numberHere_17 : decode cX12_numberHere 17 = .ok (.aload_n 0, 1) := by decide +kernel
theorem dX12_numberHere_18 : decode cX12_numberHere 18 = .ok (.iconst 2, 1) := by decide +kernel
theorem dX12_numberHere_19 : decode cX12_numberHere 19 = .ok (.invokevirtual 161, 3) := by decide +kernel
theorem dX12_numberHere_22 : decode cX12_numberHere 22 = .ok (.goto 25, 3) := by decide +kernel
theorem dX12_numberHere_25 : decode cX12_numberHere 25 = .ok (.iload_n 3, 1) := by decide +kernel
theorem dX12_numberHere_26 : decode cX12_numberHere 26 = .ok (.aload_n 0, 1) := by decide +kernel
theorem dX12_numberHere_27 : decode cX12_numberHere 27 = .ok (.getfield 112, 3) := by decide +kernel
theorem dX12_numberHere_30 : decode cX12_numberHere 30 = .ok (.imul, 1) := by decide +kernel
theorem dX12_numberHere_31 : decode cX12_numberHere 31 = .ok (.i2l, 1) := by decide +kernel
theorem dX12_numberHere_32 : decode cX12_numberHere 32 = .ok (.iload_n 1, 1) := by decide +kernel
theorem dX12_numberHere_33 : decode cX12_numberHere 33 = .ok (.i2l, 1) := by decide +kernel
theorem dX12_numberHere_34 : decode cX12_numberHere 34 = .ok (.iload_n 2, 1) := by decide +kernel
theorem dX12_numberHere_35 : decode cX12_numberHere 35 = .ok (.i2l, 1) := by decide +kernel
theorem dX12_numberHere_36 : decode cX12_numberHere 36 = .ok (.invokestatic 91, 3) := by decide +kernel
theorem dX12_numberHere_39 : decode cX12_numberHere 39 = .ok (.ifCond .ne 8, 3) := by decide +kernel
theorem dX12_numberHere_42 : decode cX12_numberHere 42 = .ok (.aload_n 0, 1) := by decide +kernel
theorem dX12_numberHere_43 : decode cX12_numberHere 43 = .ok (.iconst 4, 1) := by decide +kernel
theorem dX12_numberHere_44 : decode cX12_numberHere 44 = .ok (.invokevirtual 161, 3) := by decide +kernel
theorem dX12_numberHere_47 : decode cX12_numberHere 47 = .ok (.iload_n 3, 1) := by decide +kernel
theorem dX12_numberHere_48 : decode cX12_numberHere 48 = .ok (.aload_n 0, 1) := by decide +kernel
theorem dX12_numberHere_49 : decode cX12_numberHere 49 = .ok (.getfield 112, 3) := by decide +kernel
theorem dX12_numberHere_52 : decode cX12_numberHere 52 = .ok (.imul, 1) := by decide +kernel
theorem dX12_numberHere_53 : decode cX12_numberHere 53 = .ok (.ireturn, 1) := by decide +kernel
theorem dX12_number_0 : decode cX12_number 0 = .ok (.aload_n 0, 1) := by decide +kernel
theorem dX12_number_1 : decode cX12_number 1 = .ok (.iload_n 1, 1) := by decide +kernel
theorem dX12_number_2 : decode cX12_number 2 = .ok (.iload_n 2, 1) := by decide +kernel
theorem dX12_number_3 : decode cX12_number 3 = .ok (.iconst 1, 1) := by decide +kernel
theorem dX12_number_4 : decode cX12_number 4 = .ok (.invokevirtual 164, 3) := by decide +kernel
theorem dX12_number_7 : decode cX12_number 7 = .ok (.istore_n 3, 1) := by decide +kernel
theorem dX12_number_8 : decode cX12_number 8 = .ok (.aload_n 0, 1) := by decide +kernel
theorem dX12_number_9 : decode cX12_number 9 = .ok (.invokevirtual 168, 3) := by decide +kernel
theorem dX12_number_12 : decode cX12_number 12 = .ok (.ifCond .eq 7, 3) := by decide +kernel
theorem dX12_number_15 : decode cX12_number 15 = .ok (.aload_n 0, 1) := by decide +kernel
theorem dX12_number_16 : decode cX12_number 16 = .ok (.invokevirtual 158, 3) := by decide +kernel
theorem dX12_number_19 : decode cX12_number 19 = .ok (.iload_n 3, 1) := by decide +kernel
theorem dX12_number_20 : decode cX12_number 20 = .ok (.ireturn, 1) := by decide +kernel
theorem dX12_behind_0 : decode cX12_behind 0 = .ok (.aload_n 0, 1) := by decide +kernel
theorem dX12_behind_1 : decode cX12_behind 1 = .ok (.lload_n 1, 1) := by decide +kernel
theorem dX12_behind_2 : decode cX12_behind 2 = .ok (.invokevirtual 172, 3) := by decide +kernel
theorem dX12_behind_5 : decode cX12_behind 5 = .ok (.aload_n 0, 1) := by decide +kernel
theorem dX12_behind_6 : decode cX12_behind 6 = .ok (.iload_n 3, 1) := by decide +kernel
theorem dX12_behind_7 : decode cX12_behind 7 = .ok (.iload 4, 2) := by decide +kernel
theorem dX12_behind_9 : decode cX12_behind 9 = .ok (.invokevirtual 176, 3) := by decide +kernel
theorem dX12_behind_12 : decode cX12_behind 12 = .ok (.ireturn, 1) := by decide +kernel
theorem dX12_nameAt_0 : decode cX12_nameAt 0 = .ok (.iconst 0, 1) := by decide +kernel
theorem dX12_nameAt_1 : decode cX12_nameAt 1 = .ok (.istore_n 1, 1) := by decide +kernel
theorem dX12_nameAt_2 : decode cX12_nameAt 2 = .ok (.iload_n 1, 1) := by decide +kernel
theorem dX12_nameAt_3 : decode cX12_nameAt 3 = .ok (.aload_n 0, 1) := by decide +kernel
theorem dX12_nameAt_4 : decode cX12_nameAt 4 = .ok (.getfield 180, 3) := by decide +kernel
theorem dX12_nameAt_7 : decode cX12_nameAt 7 = .ok (.if_icmp .ge 25, 3) := by decide +kernel
theorem dX12_nameAt_10 : decode cX12_nameAt 10 = .ok (.aload_n 0, 1) := by decide +kernel
theorem dX12_nameAt_11 : decode cX12_nameAt 11 = .ok (.getfield 23, 3) := by decide +kernel
theorem dX12_nameAt_14 : decode cX12_nameAt 14 = .ok (.iload_n 1, 1) := by decide +kernel
theorem dX12_nameAt_15 : decode cX12_nameAt 15 = .ok (.laload, 1) := by decide +kernel
theorem dX12_nameAt_16 : decode cX12_nameAt 16 = .ok (.aload_n 0, 1) := by decide +kernel
theorem dX12_nameAt_17 : decode cX12_nameAt 17 = .ok (.getfield 108, 3) := by decide +kernel
theorem dX12_nameAt_20 : decode cX12_nameAt 20 = .ok (.lcmp, 1) := by decide +kernel
theorem dX12_nameAt_21 : decode cX12_nameAt 21 = .ok (.ifCond .ne 5, 3) := by decide +kernel
theorem dX12_nameAt_24 : decode cX12_nameAt 24 = .ok (.iload_n 1, 1) := by decide +kernel
theorem dX12_nameAt_25 : decode cX12_nameAt 25 = .ok (.ireturn, 1) := by decide +kernel
theorem dX12_nameAt_26 : decode cX12_nameAt 26 = .ok (.iinc 1 1, 3) := by decide +kernel
theorem dX12_nameAt_29 : decode cX12_nameAt 29 = .ok (.goto (-27), 3) := by decide +kernel
theorem dX12_nameAt_32 : decode cX12_nameAt 32 = .ok (.iconst (-1), 1) := by decide +kernel
theorem dX12_nameAt_33 : decode cX12_nameAt 33 = .ok (.ireturn, 1) := by decide +kernel
theorem dX12_mustName_0 : decode cX12_mustName 0 = .ok (.aload_n 0, 1) := by decide +kernel
theorem dX12_mustName_1 : decode cX12_mustName 1 = .ok (.invokevirtual 168, 3) := by decide +kernel
theorem dX12_mustName_4 : decode cX12_mustName 4 = .ok (.ifCond .eq 23, 3) := by decide +kernel
theorem dX12_mustName_7 : decode cX12_mustName 7 = .ok (.aload_n 0, 1) := by decide +kernel
theorem dX12_mustName_8 : decode cX12_mustName 8 = .ok (.getfield 115, 3) := by decide +kernel
theorem dX12_mustName_11 : decode cX12_mustName 11 = .ok (.iconst 1, 1) := by decide +kernel
theorem dX12_mustName_12 : decode cX12_mustName 12 = .ok (.if_icmp .ne 10, 3) := by decide +kernel
theorem dX12_mustName_15 : decode cX12_mustName 15 = .ok (.aload_n 0, 1) := by decide +kernel
theorem dX12_mustName_16 : decode cX12_mustName 16 = .ok (.invokevirtual 183, 3) := by decide +kernel
theorem dX12_mustName_19 : decode cX12_mustName 19 = .ok (.ifCond .eq 8, 3) := by decide +kernel
theorem dX12_mustName_22 : decode cX12_mustName 22 = .ok (.aload_n 0, 1) := by decide +kernel
theorem dX12_mustName_23 : decode cX12_mustName 23 = .ok (.iconst 2, 1) := by decide +kernel
theorem dX12_mustName_24 : decode cX12_mustName 24 = .ok (.invokevirtual 161, 3) := by decide +kernel
theorem dX12_mustName_27 : decode cX12_mustName 27 = .ok (.return_, 1) := by decide +kernel
theorem dX12_axisLine_0 : decode cX12_axisLine 0 = .ok (.aload_n 0, 1) := by decide +kernel
theorem dX12_axisLine_1 : decode cX12_axisLine 1 = .ok (.getfield 180, 3) := by decide +kernel
theorem dX12_axisLine_4 : decode cX12_axisLine 4 = .ok (.istore_n 1, 1) := by decide +kernel
theorem dX12_axisLine_5 : decode cX12_axisLine 5 = .ok (.iload_n 1, 1) := by decide +kernel
theorem dX12_axisLine_6 : decode cX12_axisLine 6 = .ok (.iconst 3, 1) := by decide +kernel
theorem dX12_axisLine_7 : decode cX12_axisLine 7 = .ok (.if_icmp .ne 8, 3) := by decide +kernel
theorem dX12_axisLine_10 : decode cX12_axisLine 10 = .ok (.aload_n 0, 1) := by decide +kernel
theorem dX12_axisLine_11 : decode cX12_axisLine 11 = .ok (.iconst 5, 1) := by decide +kernel
theorem dX12_axisLine_12 : decode cX12_axisLine 12 = .ok (.invokevirtual 161, 3) := by decide +kernel
theorem dX12_axisLine_15 : decode cX12_axisLine 15 = .ok (.aload_n 0, 1) := by decide +kernel
theorem dX12_axisLine_16 : decode cX12_axisLine 16 = .ok (.invokevirtual 168, 3) := by decide +kernel
theorem dX12_axisLine_19 : decode cX12_axisLine 19 = .ok (.ifCond .eq 7, 3) := by decide +kernel
theorem dX12_axisLine_22 : decode cX12_axisLine 22 = .ok (.aload_n 0, 1) := by decide +kernel
theorem dX12_axisLine_23 : decode cX12_axisLine 23 = .ok (.invokevirtual 158, 3) := by decide +kernel
theorem dX12_axisLine_26 : decode cX12_axisLine 26 = .ok (.aload_n 0, 1) := by decide +kernel
theorem dX12_axisLine_27 : decode cX12_axisLine 27 = .ok (.invokevirtual 186, 3) := by decide +kernel
theorem dX12_axisLine_30 : decode cX12_axisLine 30 = .ok (.aload_n 0, 1) := by decide +kernel
theorem dX12_axisLine_31 : decode cX12_axisLine 31 = .ok (.invokevirtual 168, 3) := by decide +kernel
theorem dX12_axisLine_34 : decode cX12_axisLine 34 = .ok (.ifCond .eq 16, 3) := by decide +kernel
theorem dX12_axisLine_37 : decode cX12_axisLine 37 = .ok (.aload_n 0, 1) := by decide +kernel
theorem dX12_axisLine_38 : decode cX12_axisLine 38 = .ok (.invokevirtual 189, 3) := by decide +kernel
theorem dX12_axisLine_41 : decode cX12_axisLine 41 = .ok (.iconst (-1), 1) := by decide +kernel
theorem dX12_axisLine_42 : decode cX12_axisLine 42 = .ok (.if_icmp .eq 8, 3) := by decide +kernel
theorem dX12_axisLine_45 : decode cX12_axisLine 45 = .ok (.aload_n 0, 1) := by decide +kernel
theorem dX12_axisLine_46 : decode cX12_axisLine 46 = .ok (.iconst 3, 1) := by decide +kernel
theorem dX12_axisLine_47 : decode cX12_axisLine 47 = .ok (.invokevirtual 161, 3) := by decide +kernel
theorem dX12_axisLine_50 : decode cX12_axisLine 50 = .ok (.aload_n 0, 1) := by decide +kernel
theorem dX12_axisLine_51 : decode cX12_axisLine 51 = .ok (.getfield 125, 3) := by decide +kernel
theorem dX12_axisLine_54 : decode cX12_axisLine 54 = .ok (.ifCond .le 4, 3) := by decide +kernel
theorem dX12_axisLine_57 : decode cX12_axisLine 57 = .ok (.return_, 1) := by decide +kernel
theorem dX12_axisLine_58 : decode cX12_axisLine 58 = .ok (.aload_n 0, 1) := by decide +kernel
theorem dX12_axisLine_59 : decode cX12_axisLine 59 = .ok (.getfield 23, 3) := by decide +kernel
theorem dX12_axisLine_62 : decode cX12_axisLine 62 = .ok (.iload_n 1, 1) := by decide +kernel
theorem dX12_axisLine_63 : decode cX12_axisLine 63 = .ok (.aload_n 0, 1) := by decide +kernel
theorem dX12_axisLine_64 : decode cX12_axisLine 64 = .ok (.getfield 108, 3) := by decide +kernel
theorem dX12_axisLine_67 : decode cX12_axisLine 67 = .ok (.lastore, 1) := by decide +kernel
theorem dX12_axisLine_68 : decode cX12_axisLine 68 = .ok (.aload_n 0, 1) := by decide +kernel
theorem dX12_axisLine_69 : decode cX12_axisLine 69 = .ok (.invokevirtual 158, 3) := by decide +kernel
theorem dX12_axisLine_72 : decode cX12_axisLine 72 = .ok (.aload_n 0, 1) := by decide +kernel
theorem dX12_axisLine_73 : decode cX12_axisLine 73 = .ok (.getfield 30, 3) := by decide +kernel
theorem dX12_axisLine_76 : decode cX12_axisLine 76 = .ok (.bipush 6, 2) := by decide +kernel
theorem dX12_axisLine_78 : decode cX12_axisLine 78 = .ok (.iload_n 1, 1) := by decide +kernel
theorem dX12_axisLine_79 : decode cX12_axisLine 79 = .ok (.imul, 1) := by decide +kernel
theorem dX12_axisLine_80 : decode cX12_axisLine 80 = .ok (.aload_n 0, 1) := by decide +kernel
theorem dX12_axisLine_81 : decode cX12_axisLine 81 = .ok (.ldc2_w 138, 3) := by decide +kernel
theorem dX12_axisLine_84 : decode cX12_axisLine 84 = .ok (.iconst 1, 1) := by decide +kernel
theorem dX12_axisLine_85 : decode cX12_axisLine 85 = .ok (.bipush 60, 2) := by decide +kernel
theorem dX12_axisLine_87 : decode cX12_axisLine 87 = .ok (.invokevirtual 193, 3) := by decide +kernel
theorem dX12_axisLine_90 : decode cX12_axisLine 90 = .ok (.iastore, 1) := by decide +kernel
theorem dX12_axisLine_91 : decode cX12_axisLine 91 = .ok (.aload_n 0, 1) := by decide +kernel
theorem dX12_axisLine_92 : decode cX12_axisLine 92 = .ok (.getfield 30, 3) := by decide +kernel
theorem dX12_axisLine_95 : decode cX12_axisLine 95 = .ok (.bipush 6, 2) := by decide +kernel
theorem dX12_axisLine_97 : decode cX12_axisLine 97 = .ok (.iload_n 1, 1) := by decide +kernel
theorem dX12_axisLine_98 : decode cX12_axisLine 98 = .ok (.imul, 1) := by decide +kernel
theorem dX12_axisLine_99 : decode cX12_axisLine 99 = .ok (.iconst 1, 1) := by decide +kernel
theorem dX12_axisLine_100 : decode cX12_axisLine 100 = .ok (.iadd, 1) := by decide +kernel
theorem dX12_axisLine_101 : decode cX12_axisLine 101 = .ok (.aload_n 0, 1) := by decide +kernel
theorem dX12_axisLine_102 : decode cX12_axisLine 102 = .ok (.ldc2_w 140, 3) := by decide +kernel
theorem dX12_axisLine_105 : decode cX12_axisLine 105 = .ok (.iconst 1, 1) := by decide +kernel
theorem dX12_axisLine_106 : decode cX12_axisLine 106 = .ok (.bipush 30, 2) := by decide +kernel
theorem dX12_axisLine_108 : decode cX12_axisLine 108 = .ok (.invokevirtual 193, 3) := by decide +kernel
theorem dX12_axisLine_111 : decode cX12_axisLine 111 = .ok (.iastore, 1) := by decide +kernel
theorem dX12_axisLine_112 : decode cX12_axisLine 112 = .ok (.aload_n 0, 1) := by decide +kernel
theorem dX12_axisLine_113 : decode cX12_axisLine 113 = .ok (.getfield 30, 3) := by decide +kernel
theorem dX12_axisLine_116 : decode cX12_axisLine 116 = .ok (.bipush 6, 2) := by decide +kernel
theorem dX12_axisLine_118 : decode cX12_axisLine 118 = .ok (.iload_n 1, 1) := by decide +kernel
theorem dX12_axisLine_119 : decode cX12_axisLine 119 = .ok (.imul, 1) := by decide +kernel
theorem dX12_axisLine_120 : decode cX12_axisLine 120 = .ok (.iconst 2, 1) := by decide +kernel
theorem dX12_axisLine_121 : decode cX12_axisLine 121 = .ok (.iadd, 1) := by decide +kernel
theorem dX12_axisLine_122 : decode cX12_axisLine 122 = .ok (.aload_n 0, 1) := by decide +kernel
theorem dX12_axisLine_123 : decode cX12_axisLine 123 = .ok (.ldc2_w 142, 3) := by decide +kernel
theorem dX12_axisLine_126 : decode cX12_axisLine 126 = .ok (.iconst 1, 1) := by decide +kernel
theorem dX12_axisLine_127 : decode cX12_axisLine 127 = .ok (.bipush 10, 2) := by decide +kernel
theorem dX12_axisLine_129 : decode cX12_axisLine 129 = .ok (.invokevirtual 193, 3) := by decide +kernel
theorem dX12_axisLine_132 : decode cX12_axisLine 132 = .ok (.iastore, 1) := by decide +kernel
theorem dX12_axisLine_133 : decode cX12_axisLine 133 = .ok (.aload_n 0, 1) := by decide +kernel
theorem dX12_axisLine_134 : decode cX12_axisLine 134 = .ok (.getfield 30, 3) := by decide +kernel
theorem dX12_axisLine_137 : decode cX12_axisLine 137 = .ok (.bipush 6, 2) := by decide +kernel
theorem dX12_axisLine_139 : decode cX12_axisLine 139 = .ok (.iload_n 1, 1) := by decide +kernel
theorem dX12_axisLine_140 : decode cX12_axisLine 140 = .ok (.imul, 1) := by decide +kernel
theorem dX12_axisLine_141 : decode cX12_axisLine 141 = .ok (.iconst 3, 1) := by decide +kernel
theorem dX12_axisLine_142 : decode cX12_axisLine 142 = .ok (.iadd, 1) := by decide +kernel
theorem dX12_axisLine_143 : decode cX12_axisLine 143 = .ok (.sipush 1000, 3) := by decide +kernel
theorem dX12_axisLine_146 : decode cX12_axisLine 146 = .ok (.iastore, 1) := by decide +kernel
theorem dX12_axisLine_147 : decode cX12_axisLine 147 = .ok (.aload_n 0, 1) := by decide +kernel
theorem dX12_axisLine_148 : decode cX12_axisLine 148 = .ok (.getfield 30, 3) := by decide +kernel
theorem dX12_axisLine_151 : decode cX12_axisLine 151 = .ok (.bipush 6, 2) := by decide +kernel
theorem dX12_axisLine_153 : decode cX12_axisLine 153 = .ok (.iload_n 1, 1) := by decide +kernel
theorem dX12_axisLine_154 : decode cX12_axisLine 154 = .ok (.imul, 1) := by decide +kernel
theorem dX12_axisLine_155 : decode cX12_axisLine 155 = .ok (.iconst 4, 1) := by decide +kernel
theorem dX12_axisLine_156 : decode cX12_axisLine 156 = .ok (.iadd, 1) := by decide +kernel
theorem dX12_axisLine_157 : decode cX12_axisLine 157 = .ok (.bipush 40, 2) := by decide +kernel
theorem dX12_axisLine_159 : decode cX12_axisLine 159 = .ok (.iastore, 1) := by decide +kernel
theorem dX12_axisLine_160 : decode cX12_axisLine 160 = .ok (.aload_n 0, 1) := by decide +kernel
theorem dX12_axisLine_161 : decode cX12_axisLine 161 = .ok (.getfield 30, 3) := by decide +kernel
theorem dX12_axisLine_164 : decode cX12_axisLine 164 = .ok (.bipush 6, 2) := by decide +kernel
theorem dX12_axisLine_166 : decode cX12_axisLine 166 = .ok (.iload_n 1, 1) := by decide +kernel
theorem dX12_axisLine_167 : decode cX12_axisLine 167 = .ok (.imul, 1) := by decide +kernel
theorem dX12_axisLine_168 : decode cX12_axisLine 168 = .ok (.iconst 5, 1) := by decide +kernel
theorem dX12_axisLine_169 : decode cX12_axisLine 169 = .ok (.iadd, 1) := by decide +kernel
theorem dX12_axisLine_170 : decode cX12_axisLine 170 = .ok (.bipush 20, 2) := by decide +kernel
theorem dX12_axisLine_172 : decode cX12_axisLine 172 = .ok (.iastore, 1) := by decide +kernel
theorem dX12_axisLine_173 : decode cX12_axisLine 173 = .ok (.aload_n 0, 1) := by decide +kernel
theorem dX12_axisLine_174 : decode cX12_axisLine 174 = .ok (.getfield 49, 3) := by decide +kernel
theorem dX12_axisLine_177 : decode cX12_axisLine 177 = .ok (.iload_n 1, 1) := by decide +kernel
theorem dX12_axisLine_178 : decode cX12_axisLine 178 = .ok (.iconst 0, 1) := by decide +kernel
theorem dX12_axisLine_179 : decode cX12_axisLine 179 = .ok (.bastore, 1) := by decide +kernel
theorem dX12_axisLine_180 : decode cX12_axisLine 180 = .ok (.aload_n 0, 1) := by decide +kernel
theorem dX12_axisLine_181 : decode cX12_axisLine 181 = .ok (.dup, 1) := by decide +kernel
theorem dX12_axisLine_182 : decode cX12_axisLine 182 = .ok (.getfield 180, 3) := by decide +kernel
theorem dX12_axisLine_185 : decode cX12_axisLine 185 = .ok (.iconst 1, 1) := by decide +kernel
theorem dX12_axisLine_186 : decode cX12_axisLine 186 = .ok (.iadd, 1) := by decide +kernel
theorem dX12_axisLine_187 : decode cX12_axisLine 187 = .ok (.putfield 180, 3) := by decide +kernel
theorem dX12_axisLine_190 : decode cX12_axisLine 190 = .ok (.return_, 1) := by decide +kernel
theorem dX12_axisHere_0 : decode cX12_axisHere 0 = .ok (.aload_n 0, 1) := by decide +kernel
theorem dX12_axisHere_1 : decode cX12_axisHere 1 = .ok (.invokevirtual 158, 3) := by decide +kernel
theorem dX12_axisHere_4 : decode cX12_axisHere 4 = .ok (.aload_n 0, 1) := by decide +kernel
theorem dX12_axisHere_5 : decode cX12_axisHere 5 = .ok (.invokevirtual 186, 3) := by decide +kernel
theorem dX12_axisHere_8 : decode cX12_axisHere 8 = .ok (.aload_n 0, 1) := by decide +kernel
theorem dX12_axisHere_9 : decode cX12_axisHere 9 = .ok (.invokevirtual 189, 3) := by decide +kernel
theorem dX12_axisHere_12 : decode cX12_axisHere 12 = .ok (.istore_n 1, 1) := by decide +kernel
theorem dX12_axisHere_13 : decode cX12_axisHere 13 = .ok (.aload_n 0, 1) := by decide +kernel
theorem dX12_axisHere_14 : decode cX12_axisHere 14 = .ok (.invokevirtual 168, 3) := by decide +kernel
theorem dX12_axisHere_17 : decode cX12_axisHere 17 = .ok (.ifCond .eq 13, 3) := by decide +kernel
theorem dX12_axisHere_20 : decode cX12_axisHere 20 = .ok (.iload_n 1, 1) := by decide +kernel
theorem dX12_axisHere_21 : decode cX12_axisHere 21 = .ok (.iconst (-1), 1) := by decide +kernel
theorem dX12_axisHere_22 : decode cX12_axisHere 22 = .ok (.if_icmp .ne 8, 3) := by decide +kernel
theorem dX12_axisHere_25 : decode cX12_axisHere 25 = .ok (.aload_n 0, 1) := by decide +kernel
theorem dX12_axisHere_26 : decode cX12_axisHere 26 = .ok (.iconst 3, 1) := by decide +kernel
theorem dX12_axisHere_27 : decode cX12_axisHere 27 = .ok (.invokevirtual 161, 3) := by decide +kernel
theorem dX12_axisHere_30 : decode cX12_axisHere 30 = .ok (.iload_n 1, 1) := by decide +kernel
theorem dX12_axisHere_31 : decode cX12_axisHere 31 = .ok (.ireturn, 1) := by decide +kernel
theorem dX12_motorLine_0 : decode cX12_motorLine 0 = .ok (.aload_n 0, 1) := by decide +kernel
theorem dX12_motorLine_1 : decode cX12_motorLine 1 = .ok (.invokevirtual 197, 3) := by decide +kernel
theorem dX12_motorLine_4 : decode cX12_motorLine 4 = .ok (.istore_n 1, 1) := by decide +kernel
theorem dX12_motorLine_5 : decode cX12_motorLine 5 = .ok (.aload_n 0, 1) := by decide +kernel
theorem dX12_motorLine_6 : decode cX12_motorLine 6 = .ok (.invokevirtual 168, 3) := by decide +kernel
theorem dX12_motorLine_9 : decode cX12_motorLine 9 = .ok (.ifCond .eq 17, 3) := by decide +kernel
theorem dX12_motorLine_12 : decode cX12_motorLine 12 = .ok (.aload_n 0, 1) := by decide +kernel
theorem dX12_motorLine_13 : decode cX12_motorLine 13 = .ok (.getfield 49, 3) := by decide +kernel
theorem dX12_motorLine_16 : decode cX12_motorLine 16 = .ok (.iload_n 1, 1) := by decide +kernel
theorem dX12_motorLine_17 : decode cX12_motorLine 17 = .ok (.baload, 1) := by decide +kernel
theorem dX12_motorLine_18 : decode cX12_motorLine 18 = .ok (.ifCond .eq 8, 3) := by decide +kernel
theorem dX12_motorLine_21 : decode cX12_motorLine 21 = .ok (.aload_n 0, 1) := by decide +kernel
theorem dX12_motorLine_22 : decode cX12_motorLine 22 = .ok (.iconst 5, 1) := by decide +kernel
theorem dX12_motorLine_23 : decode cX12_motorLine 23 = .ok (.invokevirtual 161, 3) := by decide +kernel
theorem dX12_motorLine_26 : decode cX12_motorLine 26 = .ok (.aload_n 0, 1) := by decide +kernel
theorem dX12_motorLine_27 : decode cX12_motorLine 27 = .ok (.getfield 125, 3) := by decide +kernel
theorem dX12_motorLine_30 : decode cX12_motorLine 30 = .ok (.ifCond .le 4, 3) := by decide +kernel
theorem dX12_motorLine_33 : decode cX12_motorLine 33 = .ok (.return_, 1) := by decide +kernel
theorem dX12_motorLine_34 : decode cX12_motorLine 34 = .ok (.aload_n 0, 1) := by decide +kernel
theorem dX12_motorLine_35 : decode cX12_motorLine 35 = .ok (.getfield 49, 3) := by decide +kernel
theorem dX12_motorLine_38 : decode cX12_motorLine 38 = .ok (.iload_n 1, 1) := by decide +kernel
theorem dX12_motorLine_39 : decode cX12_motorLine 39 = .ok (.iconst 1, 1) := by decide +kernel
theorem dX12_motorLine_40 : decode cX12_motorLine 40 = .ok (.bastore, 1) := by decide +kernel
theorem dX12_motorLine_41 : decode cX12_motorLine 41 = .ok (.aload_n 0, 1) := by decide +kernel
theorem dX12_motorLine_42 : decode cX12_motorLine 42 = .ok (.invokevirtual 158, 3) := by decide +kernel
theorem dX12_motorLine_45 : decode cX12_motorLine 45 = .ok (.aload_n 0, 1) := by decide +kernel
theorem dX12_motorLine_46 : decode cX12_motorLine 46 = .ok (.getfield 30, 3) := by decide +kernel
theorem dX12_motorLine_49 : decode cX12_motorLine 49 = .ok (.bipush 6, 2) := by decide +kernel
theorem dX12_motorLine_51 : decode cX12_motorLine 51 = .ok (.iload_n 1, 1) := by decide +kernel
theorem dX12_motorLine_52 : decode cX12_motorLine 52 = .ok (.imul, 1) := by decide +kernel
theorem dX12_motorLine_53 : decode cX12_motorLine 53 = .ok (.iconst 3, 1) := by decide +kernel
theorem dX12_motorLine_54 : decode cX12_motorLine 54 = .ok (.iadd, 1) := by decide +kernel
theorem dX12_motorLine_55 : decode cX12_motorLine 55 = .ok (.aload_n 0, 1) := by decide +kernel
theorem dX12_motorLine_56 : decode cX12_motorLine 56 = .ok (.ldc2_w 144, 3) := by decide +kernel
theorem dX12_motorLine_59 : decode cX12_motorLine 59 = .ok (.iconst 1, 1) := by decide +kernel
theorem dX12_motorLine_60 : decode cX12_motorLine 60 = .ok (.sipush 9999, 3) := by decide +kernel
theorem dX12_motorLine_63 : decode cX12_motorLine 63 = .ok (.invokevirtual 193, 3) := by decide +kernel
theorem dX12_motorLine_66 : decode cX12_motorLine 66 = .ok (.iastore, 1) := by decide +kernel
theorem dX12_motorLine_67 : decode cX12_motorLine 67 = .ok (.aload_n 0, 1) := by decide +kernel
theorem dX12_motorLine_68 : decode cX12_motorLine 68 = .ok (.getfield 30, 3) := by decide +kernel
theorem dX12_motorLine_71 : decode cX12_motorLine 71 = .ok (.bipush 6, 2) := by decide +kernel
theorem dX12_motorLine_73 : decode cX12_motorLine 73 = .ok (.iload_n 1, 1) := by decide +kernel
theorem dX12_motorLine_74 : decode cX12_motorLine 74 = .ok (.imul, 1) := by decide +kernel
theorem dX12_motorLine_75 : decode cX12_motorLine 75 = .ok (.iconst 4, 1) := by decide +kernel
theorem dX12_motorLine_76 : decode cX12_motorLine 76 = .ok (.iadd, 1) := by decide +kernel
theorem dX12_motorLine_77 : decode cX12_motorLine 77 = .ok (.aload_n 0, 1) := by decide +kernel
theorem dX12_motorLine_78 : decode cX12_motorLine 78 = .ok (.ldc2_w 146, 3) := by decide +kernel
theorem dX12_motorLine_81 : decode cX12_motorLine 81 = .ok (.iconst 1, 1) := by decide +kernel
theorem dX12_motorLine_82 : decode cX12_motorLine 82 = .ok (.sipush 999, 3) := by decide +kernel
theorem dX12_motorLine_85 : decode cX12_motorLine 85 = .ok (.invokevirtual 193, 3) := by decide +kernel
theorem dX12_motorLine_88 : decode cX12_motorLine 88 = .ok (.iastore, 1) := by decide +kernel
theorem dX12_motorLine_89 : decode cX12_motorLine 89 = .ok (.aload_n 0, 1) := by decide +kernel
theorem dX12_motorLine_90 : decode cX12_motorLine 90 = .ok (.getfield 30, 3) := by decide +kernel
theorem dX12_motorLine_93 : decode cX12_motorLine 93 = .ok (.bipush 6, 2) := by decide +kernel
theorem dX12_motorLine_95 : decode cX12_motorLine 95 = .ok (.iload_n 1, 1) := by decide +kernel
theorem dX12_motorLine_96 : decode cX12_motorLine 96 = .ok (.imul, 1) := by decide +kernel
theorem dX12_motorLine_97 : decode cX12_motorLine 97 = .ok (.iconst 5, 1) := by decide +kernel
theorem dX12_motorLine_98 : decode cX12_motorLine 98 = .ok (.iadd, 1) := by decide +kernel
theorem dX12_motorLine_99 : decode cX12_motorLine 99 = .ok (.aload_n 0, 1) := by decide +kernel
theorem dX12_motorLine_100 : decode cX12_motorLine 100 = .ok (.ldc2_w 148, 3) := by decide +kernel
theorem dX12_motorLine_103 : decode cX12_motorLine 103 = .ok (.iconst 0, 1) := by decide +kernel
theorem dX12_motorLine_104 : decode cX12_motorLine 104 = .ok (.bipush 90, 2) := by decide +kernel
theorem dX12_motorLine_106 : decode cX12_motorLine 106 = .ok (.invokevirtual 193, 3) := by decide +kernel
theorem dX12_motorLine_109 : decode cX12_motorLine 109 = .ok (.iastore, 1) := by decide +kernel
theorem dX12_motorLine_110 : decode cX12_motorLine 110 = .ok (.return_, 1) := by decide +kernel
def zjX12_isIn_18 (sh : zShp) (p0 : Int64) (p2 : Int64) (p4 : Int64) (M : zMem)  (s0 : Int32) : Option (Int32) :=
  zgd (zisB s0) <|
  some s0
def zjX12_isIn_17 (sh : zShp) (p0 : Int64) (p2 : Int64) (p4 : Int64) (M : zMem)   : Option (Int32) :=
  zjX12_isIn_18 sh p0 p2 p4 M (0 : Int32)
def zX12_isIn (sh : zShp) (p0 : Int64) (p2 : Int64) (p4 : Int64) (M : zMem) : Option (Int32) :=
  if (lg_cmp p0 p2) < 0 then (
  zjX12_isIn_17 sh p0 p2 p4 M)
  else (
  if 0 < (lg_cmp p0 p4) then (
  zjX12_isIn_17 sh p0 p2 p4 M)
  else (
  zjX12_isIn_18 sh p0 p2 p4 M (1 : Int32)))
set_option maxHeartbeats 4000000 in
set_option maxRecDepth 100000 in
theorem ztX12_isIn (l : Launch) (D : va_G) (cy : Nat → ClassId) (sh : zShp) (ad : Nat → Nat) {p0 : Int64} {p2 : Int64} {p4 : Int64}  {M : zMem} {r : Int32} (hd : zX12_isIn sh p0 p2 p4 M = some r) : zCI l yX12_isIn cX12_isIn 6 .boolean { frames := 0, cells := 0, slots := 0, locals := 0 } [.long p0, .long p2, .long p4] D cy sh ad M r M := by
  refine zci_of (by decide) (Nat.le_of_ble_eq_true rfl) (fun p e s m below meth c ls F hr hlk hl hw => ?_)
  have hx := F.1.1
  have hb := F.1.2.1
  have hl : lv_has ls 6 [(0, .long p0), (2, .long p2), (4, .long p4)] := hl
  have J18 : ∀ (s0 : Int32) (H : Heap) (locs : List Loc) (ls : Array Slot), lv_has ls 6 [] → zWd D cy sh ad s M H locs → zjX12_isIn_18 sh p0 p2 p4 M  s0 = some r → W p l e { frames := 0, cells := 0, slots := 0, locals := 0 } s m ([.long p0, .long p2, .long p4] : List Value).toArray below meth c H locs 0 0 (zQI below D cy sh ad s [.long p0, .long p2, .long p4] r M) (F0 m 18 ls [.int s0]) := by
    intro  s0 H locs ls hl hw hd
    unfold zjX12_isIn_18 at hd
    obtain ⟨g_1, hd⟩ := zgd_some hd
    exact z_zret F hr hlk hw g_1 (Option.some.inj hd) rfl dX12_isIn_18
  have J17 : ∀  (H : Heap) (locs : List Loc) (ls : Array Slot), lv_has ls 6 [] → zWd D cy sh ad s M H locs → zjX12_isIn_17 sh p0 p2 p4 M   = some r → W p l e { frames := 0, cells := 0, slots := 0, locals := 0 } s m ([.long p0, .long p2, .long p4] : List Value).toArray below meth c H locs 0 0 (zQI below D cy sh ad s [.long p0, .long p2, .long p4] r M) (F0 m 17 ls []) := by
    intro  H locs ls hl hw hd
    unfold zjX12_isIn_17 at hd
    refine lv_iconst (v := (0 : Int32)) hx hb dX12_isIn_17 (by decide) ?_
    exact J18 _ _ _ _ (lv_sub hl [] rfl) hw hd
  unfold zX12_isIn at hd
  refine lv_lload_n hx hb dX12_isIn_0 rfl (lv_at hl 0 rfl) ?_
  refine lv_lload_n hx hb dX12_isIn_1 rfl (lv_at hl 1 rfl) ?_
  refine W.lcmp hx hb dX12_isIn_2 ?_
  refine lv_if_lt (tgt := 17) hx hb dX12_isIn_3 (by decide) (fun c_2 => ?_) (fun c_2 => ?_)
  · have hd := zif_pos c_2 hd
    exact J17 _ _ _ (lv_sub hl [] rfl) hw hd
  · have hd := zif_neg c_2 hd
    refine lv_lload_n hx hb dX12_isIn_6 rfl (lv_at hl 0 rfl) ?_
    refine lv_lload hx hb dX12_isIn_7 (lv_at hl 2 rfl) ?_
    refine W.lcmp hx hb dX12_isIn_9 ?_
    refine lv_if_gt (tgt := 17) hx hb dX12_isIn_10 (by decide) (fun c_3 => ?_) (fun c_3 => ?_)
    · have hd := zif_pos c_3 hd
      exact J17 _ _ _ (lv_sub hl [] rfl) hw hd
    · have hd := zif_neg c_3 hd
      refine lv_iconst (v := (1 : Int32)) hx hb dX12_isIn_13 (by decide) ?_
      refine lv_goto (tgt := 18) hx hb dX12_isIn_14 (by decide) ?_
      exact J18 _ _ _ _ (lv_sub hl [] rfl) hw hd

def zjX12_truth_9 (sh : zShp) (p0 : Int32) (M : zMem)  (s0 : Int32) : Option (Int32) :=
  some s0
def zX12_truth (sh : zShp) (p0 : Int32) (M : zMem) : Option (Int32) :=
  if p0 = 0 then (
  zjX12_truth_9 sh p0 M (0 : Int32))
  else (
  zjX12_truth_9 sh p0 M (1 : Int32))
set_option maxHeartbeats 4000000 in
set_option maxRecDepth 100000 in
theorem ztX12_truth (l : Launch) (D : va_G) (cy : Nat → ClassId) (sh : zShp) (ad : Nat → Nat) {p0 : Int32}  {M : zMem} {r : Int32} (hd : zX12_truth sh p0 M = some r) : zCI l yX12_truth cX12_truth 1 .int { frames := 0, cells := 0, slots := 0, locals := 0 } [.int p0] D cy sh ad M r M := by
  refine zci_of (by decide) (Nat.le_of_ble_eq_true rfl) (fun p e s m below meth c ls F hr hlk hl hw => ?_)
  have hx := F.1.1
  have hb := F.1.2.1
  have hl : lv_has ls 1 [(0, .int p0)] := hl
  have J9 : ∀ (s0 : Int32) (H : Heap) (locs : List Loc) (ls : Array Slot), lv_has ls 1 [] → zWd D cy sh ad s M H locs → zjX12_truth_9 sh p0 M  s0 = some r → W p l e { frames := 0, cells := 0, slots := 0, locals := 0 } s m ([.int p0] : List Value).toArray below meth c H locs 0 0 (zQI below D cy sh ad s [.int p0] r M) (F0 m 9 ls [.int s0]) := by
    intro  s0 H locs ls hl hw hd
    unfold zjX12_truth_9 at hd
    exact z_iret F hr hlk hw (Option.some.inj hd) rfl dX12_truth_9
  unfold zX12_truth at hd
  refine lv_iload_n hx hb dX12_truth_0 rfl (lv_at hl 0 rfl) ?_
  refine lv_if_eq (tgt := 8) hx hb dX12_truth_1 (by decide) (fun c_1 => ?_) (fun c_1 => ?_)
  · have hd := zif_pos c_1 hd
    refine lv_iconst (v := (0 : Int32)) hx hb dX12_truth_8 (by decide) ?_
    exact J9 _ _ _ _ (lv_sub hl [] rfl) hw hd
  · have hd := zif_neg c_1 hd
    refine lv_iconst (v := (1 : Int32)) hx hb dX12_truth_4 (by decide) ?_
    refine lv_goto (tgt := 9) hx hb dX12_truth_5 (by decide) ?_
    exact J9 _ _ _ _ (lv_sub hl [] rfl) hw hd

def zjX12_size_10 (sh : zShp) (p0 : Int32) (M : zMem)  (s0 : Int32) : Option (Int32) :=
  some s0
def zX12_size (sh : zShp) (p0 : Int32) (M : zMem) : Option (Int32) :=
  if 0 ≤ p0 then (
  zjX12_size_10 sh p0 M p0)
  else (
  zjX12_size_10 sh p0 M (-p0))
set_option maxHeartbeats 4000000 in
set_option maxRecDepth 100000 in
theorem ztX12_size (l : Launch) (D : va_G) (cy : Nat → ClassId) (sh : zShp) (ad : Nat → Nat) {p0 : Int32}  {M : zMem} {r : Int32} (hd : zX12_size sh p0 M = some r) : zCI l yX12_size cX12_size 1 .int { frames := 0, cells := 0, slots := 0, locals := 0 } [.int p0] D cy sh ad M r M := by
  refine zci_of (by decide) (Nat.le_of_ble_eq_true rfl) (fun p e s m below meth c ls F hr hlk hl hw => ?_)
  have hx := F.1.1
  have hb := F.1.2.1
  have hl : lv_has ls 1 [(0, .int p0)] := hl
  have J10 : ∀ (s0 : Int32) (H : Heap) (locs : List Loc) (ls : Array Slot), lv_has ls 1 [] → zWd D cy sh ad s M H locs → zjX12_size_10 sh p0 M  s0 = some r → W p l e { frames := 0, cells := 0, slots := 0, locals := 0 } s m ([.int p0] : List Value).toArray below meth c H locs 0 0 (zQI below D cy sh ad s [.int p0] r M) (F0 m 10 ls [.int s0]) := by
    intro  s0 H locs ls hl hw hd
    unfold zjX12_size_10 at hd
    exact z_iret F hr hlk hw (Option.some.inj hd) rfl dX12_size_10
  unfold zX12_size at hd
  refine lv_iload_n hx hb dX12_size_0 rfl (lv_at hl 0 rfl) ?_
  refine lv_if_ge (tgt := 9) hx hb dX12_size_1 (by decide) (fun c_1 => ?_) (fun c_1 => ?_)
  · have hd := zif_pos c_1 hd
    refine lv_iload_n hx hb dX12_size_9 rfl (lv_at hl 0 rfl) ?_
    exact J10 _ _ _ _ (lv_sub hl [] rfl) hw hd
  · have hd := zif_neg c_1 hd
    refine lv_iload_n hx hb dX12_size_4 rfl (lv_at hl 0 rfl) ?_
    refine lv_ineg hx hb dX12_size_5 ?_
    refine lv_goto (tgt := 10) hx hb dX12_size_6 (by decide) ?_
    exact J10 _ _ _ _ (lv_sub hl [] rfl) hw hd

def zjX12_greater_10 (sh : zShp) (p0 : Int32) (p1 : Int32) (M : zMem)  (s0 : Int32) : Option (Int32) :=
  some s0
def zX12_greater (sh : zShp) (p0 : Int32) (p1 : Int32) (M : zMem) : Option (Int32) :=
  if p0 ≤ p1 then (
  zjX12_greater_10 sh p0 p1 M p1)
  else (
  zjX12_greater_10 sh p0 p1 M p0)
set_option maxHeartbeats 4000000 in
set_option maxRecDepth 100000 in
theorem ztX12_greater (l : Launch) (D : va_G) (cy : Nat → ClassId) (sh : zShp) (ad : Nat → Nat) {p0 : Int32} {p1 : Int32}  {M : zMem} {r : Int32} (hd : zX12_greater sh p0 p1 M = some r) : zCI l yX12_greater cX12_greater 2 .int { frames := 0, cells := 0, slots := 0, locals := 0 } [.int p0, .int p1] D cy sh ad M r M := by
  refine zci_of (by decide) (Nat.le_of_ble_eq_true rfl) (fun p e s m below meth c ls F hr hlk hl hw => ?_)
  have hx := F.1.1
  have hb := F.1.2.1
  have hl : lv_has ls 2 [(0, .int p0), (1, .int p1)] := hl
  have J10 : ∀ (s0 : Int32) (H : Heap) (locs : List Loc) (ls : Array Slot), lv_has ls 2 [] → zWd D cy sh ad s M H locs → zjX12_greater_10 sh p0 p1 M  s0 = some r → W p l e { frames := 0, cells := 0, slots := 0, locals := 0 } s m ([.int p0, .int p1] : List Value).toArray below meth c H locs 0 0 (zQI below D cy sh ad s [.int p0, .int p1] r M) (F0 m 10 ls [.int s0]) := by
    intro  s0 H locs ls hl hw hd
    unfold zjX12_greater_10 at hd
    exact z_iret F hr hlk hw (Option.some.inj hd) rfl dX12_greater_10
  unfold zX12_greater at hd
  refine lv_iload_n hx hb dX12_greater_0 rfl (lv_at hl 0 rfl) ?_
  refine lv_iload_n hx hb dX12_greater_1 rfl (lv_at hl 1 rfl) ?_
  refine lv_icmp_le (tgt := 9) hx hb dX12_greater_2 (by decide) (fun c_1 => ?_) (fun c_1 => ?_)
  · have hd := zif_pos c_1 hd
    refine lv_iload_n hx hb dX12_greater_9 rfl (lv_at hl 1 rfl) ?_
    exact J10 _ _ _ _ (lv_sub hl [] rfl) hw hd
  · have hd := zif_neg c_1 hd
    refine lv_iload_n hx hb dX12_greater_5 rfl (lv_at hl 0 rfl) ?_
    refine lv_goto (tgt := 10) hx hb dX12_greater_6 (by decide) ?_
    exact J10 _ _ _ _ (lv_sub hl [] rfl) hw hd

def zjX12_lesser_10 (sh : zShp) (p0 : Int32) (p1 : Int32) (M : zMem)  (s0 : Int32) : Option (Int32) :=
  some s0
def zX12_lesser (sh : zShp) (p0 : Int32) (p1 : Int32) (M : zMem) : Option (Int32) :=
  if p1 ≤ p0 then (
  zjX12_lesser_10 sh p0 p1 M p1)
  else (
  zjX12_lesser_10 sh p0 p1 M p0)
set_option maxHeartbeats 4000000 in
set_option maxRecDepth 100000 in
theorem ztX12_lesser (l : Launch) (D : va_G) (cy : Nat → ClassId) (sh : zShp) (ad : Nat → Nat) {p0 : Int32} {p1 : Int32}  {M : zMem} {r : Int32} (hd : zX12_lesser sh p0 p1 M = some r) : zCI l yX12_lesser cX12_lesser 2 .int { frames := 0, cells := 0, slots := 0, locals := 0 } [.int p0, .int p1] D cy sh ad M r M := by
  refine zci_of (by decide) (Nat.le_of_ble_eq_true rfl) (fun p e s m below meth c ls F hr hlk hl hw => ?_)
  have hx := F.1.1
  have hb := F.1.2.1
  have hl : lv_has ls 2 [(0, .int p0), (1, .int p1)] := hl
  have J10 : ∀ (s0 : Int32) (H : Heap) (locs : List Loc) (ls : Array Slot), lv_has ls 2 [] → zWd D cy sh ad s M H locs → zjX12_lesser_10 sh p0 p1 M  s0 = some r → W p l e { frames := 0, cells := 0, slots := 0, locals := 0 } s m ([.int p0, .int p1] : List Value).toArray below meth c H locs 0 0 (zQI below D cy sh ad s [.int p0, .int p1] r M) (F0 m 10 ls [.int s0]) := by
    intro  s0 H locs ls hl hw hd
    unfold zjX12_lesser_10 at hd
    exact z_iret F hr hlk hw (Option.some.inj hd) rfl dX12_lesser_10
  unfold zX12_lesser at hd
  refine lv_iload_n hx hb dX12_lesser_0 rfl (lv_at hl 0 rfl) ?_
  refine lv_iload_n hx hb dX12_lesser_1 rfl (lv_at hl 1 rfl) ?_
  refine lv_icmp_ge (tgt := 9) hx hb dX12_lesser_2 (by decide) (fun c_1 => ?_) (fun c_1 => ?_)
  · have hd := zif_pos c_1 hd
    refine lv_iload_n hx hb dX12_lesser_9 rfl (lv_at hl 1 rfl) ?_
    exact J10 _ _ _ _ (lv_sub hl [] rfl) hw hd
  · have hd := zif_neg c_1 hd
    refine lv_iload_n hx hb dX12_lesser_5 rfl (lv_at hl 0 rfl) ?_
    refine lv_goto (tgt := 10) hx hb dX12_lesser_6 (by decide) ?_
    exact J10 _ _ _ _ (lv_sub hl [] rfl) hw hd

def zjX12_floor_21 (sh : zShp) (p0 : Int32) (p1 : Int32) (M : zMem)  (s0 : Int32) : Option (Int32) :=
  some s0
def zjX12_floor_10 (sh : zShp) (p0 : Int32) (p1 : Int32) (M : zMem)   : Option (Int32) :=
  zgd (znz p1) <|
  zjX12_floor_21 sh p0 p1 M (p0 / p1)
def zX12_floor (sh : zShp) (p0 : Int32) (p1 : Int32) (M : zMem) : Option (Int32) :=
  if 0 ≤ p0 then (
  zjX12_floor_10 sh p0 p1 M)
  else (
  zgd (znz p1) <|
  if (zrem p0 p1) = 0 then (
  zjX12_floor_10 sh p0 p1 M)
  else (
  zgd (znz p1) <|
  zjX12_floor_21 sh p0 p1 M ((p0 / p1) - (1 : Int32))))
set_option maxHeartbeats 4000000 in
set_option maxRecDepth 100000 in
theorem ztX12_floor (l : Launch) (D : va_G) (cy : Nat → ClassId) (sh : zShp) (ad : Nat → Nat) {p0 : Int32} {p1 : Int32}  {M : zMem} {r : Int32} (hd : zX12_floor sh p0 p1 M = some r) : zCI l yX12_floor cX12_floor 2 .int { frames := 0, cells := 0, slots := 0, locals := 0 } [.int p0, .int p1] D cy sh ad M r M := by
  refine zci_of (by decide) (Nat.le_of_ble_eq_true rfl) (fun p e s m below meth c ls F hr hlk hl hw => ?_)
  have hx := F.1.1
  have hb := F.1.2.1
  have hl : lv_has ls 2 [(0, .int p0), (1, .int p1)] := hl
  have J21 : ∀ (s0 : Int32) (H : Heap) (locs : List Loc) (ls : Array Slot), lv_has ls 2 [] → zWd D cy sh ad s M H locs → zjX12_floor_21 sh p0 p1 M  s0 = some r → W p l e { frames := 0, cells := 0, slots := 0, locals := 0 } s m ([.int p0, .int p1] : List Value).toArray below meth c H locs 0 0 (zQI below D cy sh ad s [.int p0, .int p1] r M) (F0 m 21 ls [.int s0]) := by
    intro  s0 H locs ls hl hw hd
    unfold zjX12_floor_21 at hd
    exact z_iret F hr hlk hw (Option.some.inj hd) rfl dX12_floor_21
  have J10 : ∀  (H : Heap) (locs : List Loc) (ls : Array Slot), lv_has ls 2 [(0, .int p0), (1, .int p1)] → zWd D cy sh ad s M H locs → zjX12_floor_10 sh p0 p1 M   = some r → W p l e { frames := 0, cells := 0, slots := 0, locals := 0 } s m ([.int p0, .int p1] : List Value).toArray below meth c H locs 0 0 (zQI below D cy sh ad s [.int p0, .int p1] r M) (F0 m 10 ls []) := by
    intro  H locs ls hl hw hd
    unfold zjX12_floor_10 at hd
    refine lv_iload_n hx hb dX12_floor_10 rfl (lv_at hl 0 rfl) ?_
    refine lv_iload_n hx hb dX12_floor_11 rfl (lv_at hl 1 rfl) ?_
    obtain ⟨g_1, hd⟩ := zgd_some hd
    refine lv_idiv hx hb dX12_floor_12 (znz_ne g_1) ?_
    refine lv_goto (tgt := 21) hx hb dX12_floor_13 (by decide) ?_
    exact J21 _ _ _ _ (lv_sub hl [] rfl) hw hd
  unfold zX12_floor at hd
  refine lv_iload_n hx hb dX12_floor_0 rfl (lv_at hl 0 rfl) ?_
  refine lv_if_ge (tgt := 10) hx hb dX12_floor_1 (by decide) (fun c_2 => ?_) (fun c_2 => ?_)
  · have hd := zif_pos c_2 hd
    exact J10 _ _ _ (lv_sub hl [0, 1] rfl) hw hd
  · have hd := zif_neg c_2 hd
    refine lv_iload_n hx hb dX12_floor_4 rfl (lv_at hl 0 rfl) ?_
    refine lv_iload_n hx hb dX12_floor_5 rfl (lv_at hl 1 rfl) ?_
    obtain ⟨g_3, hd⟩ := zgd_some hd
    refine z_irem hx hb dX12_floor_6 (znz_ne g_3) ?_
    refine lv_if_ne (tgt := 16) hx hb dX12_floor_7 (by decide) (fun c_4 => ?_) (fun c_4 => ?_)
    · have hd := zif_neg c_4 hd
      refine lv_iload_n hx hb dX12_floor_16 rfl (lv_at hl 0 rfl) ?_
      refine lv_iload_n hx hb dX12_floor_17 rfl (lv_at hl 1 rfl) ?_
      obtain ⟨g_5, hd⟩ := zgd_some hd
      refine lv_idiv hx hb dX12_floor_18 (znz_ne g_5) ?_
      refine lv_iconst (v := (1 : Int32)) hx hb dX12_floor_19 (by decide) ?_
      refine lv_isub hx hb dX12_floor_20 ?_
      exact J21 _ _ _ _ (lv_sub hl [] rfl) hw hd
    · have hd := zif_pos c_4 hd
      exact J10 _ _ _ (lv_sub hl [0, 1] rfl) hw hd

def zbX12_four_3 (sh : zShp) (k0 : Nat) (p1 : Int32)  (kk3 : Int32 → zMem → Option (zMem)) (x2 : Int32) (M : zMem) : Option (zMem) :=
  if x2 < 0 then (
  some M)
  else (
  zgd (zin (zI M k0 2) (zlen sh (zR M k0 1))) <|
  zbd (zpI M (zR M k0 1) ((zI M k0 2).toNatClampNeg) ((p1 >>> (x2 &&& 31)) &&& (255 : Int32))) fun M_4 =>
  zbd (zpI M_4 k0 2 ((zI M_4 k0 2) + (1 : Int32))) fun M_5 =>
  kk3 (x2 + (-8 : Int32)) M_5)
def zlX12_four_3 (sh : zShp) (k0 : Nat) (p1 : Int32)  : Nat → Int32 → zMem → Option (zMem)
  | 0 => fun _ _ => none
  | n + 1 => fun x2 M => zbX12_four_3 sh k0 p1  (zlX12_four_3 sh k0 p1  n) x2 M
def zX12_four (sh : zShp) (k0 : Nat) (p1 : Int32) (M : zMem) : Option (zMem) :=
  zlX12_four_3 sh k0 p1 zF (24 : Int32) M
set_option maxHeartbeats 4000000 in
set_option maxRecDepth 100000 in
theorem ztX12_four (l : Launch) (D : va_G) (cy : Nat → ClassId) (sh : zShp) (ad : Nat → Nat) {k0 : Nat} {p1 : Int32} (h0 : zT sh k0 12) {M : zMem} {M1 : zMem} (hd : zX12_four sh k0 p1 M = some M1) : zCV l yX12_four cX12_four 3 { frames := 0, cells := 0, slots := 0, locals := 0 } [.ref (ad k0), .int p1] D cy sh ad M M1 := by
  refine zcv_of (by decide) (Nat.le_of_ble_eq_true rfl) (fun p e s m below meth c ls F hr hlk hl hw => ?_)
  have hx := F.1.1
  have hb := F.1.2.1
  have hl : lv_has ls 3 [(0, .ref (ad k0)), (1, .int p1)] := hl
  have L3 : ∀  (n : Nat), ∀ (x2 : Int32) (M : zMem) (H : Heap) (locs : List Loc) (ls : Array Slot), lv_has ls 3 [(0, .ref (ad k0)), (1, .int p1), (2, .int x2)] → zWd D cy sh ad s M H locs → zlX12_four_3 sh k0 p1  n x2 M = some M1 → W p l e { frames := 0, cells := 0, slots := 0, locals := 0 } s m ([.ref (ad k0), .int p1] : List Value).toArray below meth c H locs 0 0 (zQV below D cy sh ad s [.ref (ad k0), .int p1] M1) (F0 m 3 ls []) := by
    intro  n
    induction n with
    | zero => intro x2 M H locs ls hl hw hd; exact (znone hd).elim
    | succ n hk3 =>
      intro x2 M H locs ls hl hw hd
      have hd : zbX12_four_3 sh k0 p1  (zlX12_four_3 sh k0 p1  n) x2 M = some M1 := hd
      unfold zbX12_four_3 at hd
      refine lv_iload_n hx hb dX12_four_3 rfl (lv_at hl 2 rfl) ?_
      refine lv_if_lt (tgt := 39) hx hb dX12_four_4 (by decide) (fun c_1 => ?_) (fun c_1 => ?_)
      · have hd := zif_pos c_1 hd
        exact z_vret F hr hlk hw (Option.some.inj hd) dX12_four_39
      · have hd := zif_neg c_1 hd
        refine lv_aload_n hx hb dX12_four_7 rfl (lv_at hl 0 rfl) ?_
        refine z_gR F hw h0 zc12 1 (by decide) rfl zf12_13 dX12_four_8 ?_
        have t_2 : zT sh (zR M k0 1) 14 := hw.2.2.2.fld h0 1 14
        refine lv_aload_n hx hb dX12_four_11 rfl (lv_at hl 0 rfl) ?_
        refine z_gI F hw h0 zc12 2 (by decide) rfl zf12_84 dX12_four_12 ?_
        refine lv_iload_n hx hb dX12_four_15 rfl (lv_at hl 1 rfl) ?_
        refine lv_iload_n hx hb dX12_four_16 rfl (lv_at hl 2 rfl) ?_
        refine lv_ishr hx hb dX12_four_17 ?_
        refine lv_sipush (v := (255 : Int32)) hx hb dX12_four_18 (by decide) ?_
        refine lv_iand hx hb dX12_four_21 ?_
        obtain ⟨g_3, hd⟩ := zgd_some hd
        refine z_iast F hw t_2 g_3 dX12_four_22 (fun H locs M_4 eM_4 hw => ?_)
        have hd := zbd_eq eM_4 hd
        refine lv_aload_n hx hb dX12_four_23 rfl (lv_at hl 0 rfl) ?_
        refine lv_dup hx hb dX12_four_24 rfl ?_
        refine z_gI F hw h0 zc12 2 (by decide) rfl zf12_84 dX12_four_25 ?_
        refine lv_iconst (v := (1 : Int32)) hx hb dX12_four_28 (by decide) ?_
        refine lv_iadd hx hb dX12_four_29 ?_
        refine z_pI F hw h0 zc12 2 (by decide) rfl zf12_84 rfl rfl rfl dX12_four_30 (fun H locs M_5 eM_5 hw => ?_)
        have hd := zbd_eq eM_5 hd
        refine lv_iinc (v := (x2 + (-8 : Int32))) (lv' := [(2, .int (x2 + (-8 : Int32))), (0, .ref (ad k0)), (1, .int p1)]) hx hb dX12_four_33 hl (k := 2) rfl (ziinc (by decide)) (by decide) rfl (fun ls hl => ?_)
        refine lv_goto (tgt := 3) hx hb dX12_four_36 (by decide) ?_
        exact hk3 _ _ _ _ _ (lv_sub hl [1, 2, 0] rfl) hw hd
  unfold zX12_four at hd
  refine lv_bipush (v := (24 : Int32)) hx hb dX12_four_0 (by decide) ?_
  refine lv_istore_n (lv' := [(2, .int (24 : Int32)), (0, .ref (ad k0)), (1, .int p1)]) hx hb dX12_four_2 rfl hl (by decide) rfl (fun ls hl => ?_)
  exact L3 zF _ _ _ _ _ (lv_sub hl [1, 2, 0] rfl) hw hd

def zX12_feed (sh : zShp) (k0 : Nat) (p1 : Int32) (p2 : Int32) (p3 : Int32) (p4 : Int32) (p5 : Int32) (M : zMem) : Option (Int32 × zMem) :=
  if ((zI M k0 2) + (20 : Int32)) ≤ (900 : Int32) then (
  zob (zX12_four sh k0 p1 M) fun M_3 =>
  zob (zX12_four sh k0 p2 M_3) fun M_5 =>
  zob (zX12_four sh k0 p3 M_5) fun M_7 =>
  zob (zX12_four sh k0 p4 M_7) fun M_9 =>
  zob (zX12_four sh k0 p5 M_9) fun M_11 =>
  some ((zI M_11 k0 2), M_11))
  else (
  some ((-1 : Int32), M))
set_option maxHeartbeats 4000000 in
set_option maxRecDepth 100000 in
theorem ztX12_feed (l : Launch) (D : va_G) (cy : Nat → ClassId) (sh : zShp) (ad : Nat → Nat) {k0 : Nat} {p1 : Int32} {p2 : Int32} {p3 : Int32} {p4 : Int32} {p5 : Int32} (h0 : zT sh k0 12) {M : zMem} {r : Int32} {M1 : zMem} (hd : zX12_feed sh k0 p1 p2 p3 p4 p5 M = some (r, M1)) : zCI l yX12_feed cX12_feed 6 .int { frames := 1, cells := 0, slots := 0, locals := 22 } [.ref (ad k0), .int p1, .int p2, .int p3, .int p4, .int p5] D cy sh ad M r M1 := by
  refine zci_of (by decide) (Nat.le_of_ble_eq_true rfl) (fun p e s m below meth c ls F hr hlk hl hw => ?_)
  have hx := F.1.1
  have hb := F.1.2.1
  have hl : lv_has ls 6 [(0, .ref (ad k0)), (1, .int p1), (2, .int p2), (3, .int p3), (4, .int p4), (5, .int p5)] := hl
  unfold zX12_feed at hd
  refine lv_aload_n hx hb dX12_feed_0 rfl (lv_at hl 0 rfl) ?_
  refine z_gI F hw h0 zc12 2 (by decide) rfl zf12_84 dX12_feed_1 ?_
  refine lv_bipush (v := (20 : Int32)) hx hb dX12_feed_4 (by decide) ?_
  refine lv_iadd hx hb dX12_feed_6 ?_
  refine lv_sipush (v := (900 : Int32)) hx hb dX12_feed_7 (by decide) ?_
  refine lv_icmp_le (tgt := 15) hx hb dX12_feed_10 (by decide) (fun c_1 => ?_) (fun c_1 => ?_)
  · have hd := zif_pos c_1 hd
    refine lv_aload_n hx hb dX12_feed_15 rfl (lv_at hl 0 rfl) ?_
    refine lv_iload_n hx hb dX12_feed_16 rfl (lv_at hl 1 rfl) ?_
    obtain ⟨M_3, hc_2, hd⟩ := zob_some hd
    refine z_cvV F hw hl.1 (As := [.int p1]) (rest := []) (ztX12_four l D cy sh ad h0 hc_2) zyX12_four h0 zc12 zk12_87 ⟨rfl, rfl⟩ ⟨by decide, by decide⟩ rfl rfl (Nat.le_of_ble_eq_true rfl) dX12_feed_17 (fun H locs hw => ?_)
    refine lv_aload_n hx hb dX12_feed_20 rfl (lv_at hl 0 rfl) ?_
    refine lv_iload_n hx hb dX12_feed_21 rfl (lv_at hl 2 rfl) ?_
    obtain ⟨M_5, hc_4, hd⟩ := zob_some hd
    refine z_cvV F hw hl.1 (As := [.int p2]) (rest := []) (ztX12_four l D cy sh ad h0 hc_4) zyX12_four h0 zc12 zk12_87 ⟨rfl, rfl⟩ ⟨by decide, by decide⟩ rfl rfl (Nat.le_of_ble_eq_true rfl) dX12_feed_22 (fun H locs hw => ?_)
    refine lv_aload_n hx hb dX12_feed_25 rfl (lv_at hl 0 rfl) ?_
    refine lv_iload_n hx hb dX12_feed_26 rfl (lv_at hl 3 rfl) ?_
    obtain ⟨M_7, hc_6, hd⟩ := zob_some hd
    refine z_cvV F hw hl.1 (As := [.int p3]) (rest := []) (ztX12_four l D cy sh ad h0 hc_6) zyX12_four h0 zc12 zk12_87 ⟨rfl, rfl⟩ ⟨by decide, by decide⟩ rfl rfl (Nat.le_of_ble_eq_true rfl) dX12_feed_27 (fun H locs hw => ?_)
    refine lv_aload_n hx hb dX12_feed_30 rfl (lv_at hl 0 rfl) ?_
    refine lv_iload hx hb dX12_feed_31 (lv_at hl 4 rfl) ?_
    obtain ⟨M_9, hc_8, hd⟩ := zob_some hd
    refine z_cvV F hw hl.1 (As := [.int p4]) (rest := []) (ztX12_four l D cy sh ad h0 hc_8) zyX12_four h0 zc12 zk12_87 ⟨rfl, rfl⟩ ⟨by decide, by decide⟩ rfl rfl (Nat.le_of_ble_eq_true rfl) dX12_feed_33 (fun H locs hw => ?_)
    refine lv_aload_n hx hb dX12_feed_36 rfl (lv_at hl 0 rfl) ?_
    refine lv_iload hx hb dX12_feed_37 (lv_at hl 5 rfl) ?_
    obtain ⟨M_11, hc_10, hd⟩ := zob_some hd
    refine z_cvV F hw hl.1 (As := [.int p5]) (rest := []) (ztX12_four l D cy sh ad h0 hc_10) zyX12_four h0 zc12 zk12_87 ⟨rfl, rfl⟩ ⟨by decide, by decide⟩ rfl rfl (Nat.le_of_ble_eq_true rfl) dX12_feed_39 (fun H locs hw => ?_)
    refine lv_aload_n hx hb dX12_feed_42 rfl (lv_at hl 0 rfl) ?_
    refine z_gI F hw h0 zc12 2 (by decide) rfl zf12_84 dX12_feed_43 ?_
    exact z_iret F hr hlk hw (zpr1 hd) (zpr2 hd) dX12_feed_46
  · have hd := zif_neg c_1 hd
    refine lv_iconst (v := (-1 : Int32)) hx hb dX12_feed_13 (by decide) ?_
    exact z_iret F hr hlk hw (zpr1 hd) (zpr2 hd) dX12_feed_14

def zX12_end (sh : zShp) (k0 : Nat) (p1 : Int32) (M : zMem) : Option (Int32 × zMem) :=
  zob (zX12_isIn sh (p1.toInt64) (0 : Int64) ((zI M k0 2).toInt64) M) fun r_2 =>
  if r_2 = 0 then (
  some ((-1 : Int32), M))
  else (
  zbd (zpI M k0 2 p1) fun M_4 =>
  some (p1, M_4))
set_option maxHeartbeats 4000000 in
set_option maxRecDepth 100000 in
theorem ztX12_end (l : Launch) (D : va_G) (cy : Nat → ClassId) (sh : zShp) (ad : Nat → Nat) {k0 : Nat} {p1 : Int32} (h0 : zT sh k0 12) {M : zMem} {r : Int32} {M1 : zMem} (hd : zX12_end sh k0 p1 M = some (r, M1)) : zCI l yX12_end cX12_end 2 .int { frames := 1, cells := 0, slots := 0, locals := 25 } [.ref (ad k0), .int p1] D cy sh ad M r M1 := by
  refine zci_of (by decide) (Nat.le_of_ble_eq_true rfl) (fun p e s m below meth c ls F hr hlk hl hw => ?_)
  have hx := F.1.1
  have hb := F.1.2.1
  have hl : lv_has ls 2 [(0, .ref (ad k0)), (1, .int p1)] := hl
  unfold zX12_end at hd
  refine lv_iload_n hx hb dX12_end_0 rfl (lv_at hl 1 rfl) ?_
  refine lv_i2l (v := p1.toInt64) hx hb dX12_end_1 rfl ?_
  refine lv_lconst (v := (0 : Int64)) hx hb dX12_end_2 (by decide) ?_
  refine lv_aload_n hx hb dX12_end_3 rfl (lv_at hl 0 rfl) ?_
  refine z_gI F hw h0 zc12 2 (by decide) rfl zf12_84 dX12_end_4 ?_
  refine lv_i2l (v := (zI M k0 2).toInt64) hx hb dX12_end_7 rfl ?_
  obtain ⟨r_2, hc_1, hd⟩ := zob_some hd
  refine z_csI F hw hl.1 (As := [.long (p1.toInt64), .long (0 : Int64), .long ((zI M k0 2).toInt64)]) (rest := []) (ztX12_isIn l D cy sh ad  hc_1) zyX12_isIn zk12_91 ⟨rfl, rfl⟩ ⟨by decide, by decide⟩ rfl rfl (Nat.le_of_ble_eq_true rfl) dX12_end_8 (fun H locs hw => ?_)
  refine lv_if_ne (tgt := 16) hx hb dX12_end_11 (by decide) (fun c_3 => ?_) (fun c_3 => ?_)
  · have hd := zif_neg c_3 hd
    refine lv_aload_n hx hb dX12_end_16 rfl (lv_at hl 0 rfl) ?_
    refine lv_iload_n hx hb dX12_end_17 rfl (lv_at hl 1 rfl) ?_
    refine z_pI F hw h0 zc12 2 (by decide) rfl zf12_84 rfl rfl rfl dX12_end_18 (fun H locs M_4 eM_4 hw => ?_)
    have hd := zbd_eq eM_4 hd
    refine lv_iload_n hx hb dX12_end_21 rfl (lv_at hl 1 rfl) ?_
    exact z_iret F hr hlk hw (zpr1 hd) (zpr2 hd) dX12_end_22
  · have hd := zif_pos c_3 hd
    refine lv_iconst (v := (-1 : Int32)) hx hb dX12_end_14 (by decide) ?_
    exact z_iret F hr hlk hw (zpr1 hd) (zpr2 hd) dX12_end_15

def zjX12_here_28 (sh : zShp) (k0 : Nat) (p1 : Int32) (M : zMem)  (s0 : Int32) : Option (Int32) :=
  some s0
def zX12_here (sh : zShp) (k0 : Nat) (p1 : Int32) (M : zMem) : Option (Int32) :=
  if (zI M k0 3) ≤ ((zI M k0 4) + p1) then (
  zjX12_here_28 sh k0 p1 M (-1 : Int32))
  else (
  zgd (zin ((zI M k0 4) + p1) (zlen sh (zR M k0 1))) <|
  zjX12_here_28 sh k0 p1 M (zI M (zR M k0 1) (((zI M k0 4) + p1).toNatClampNeg)))
set_option maxHeartbeats 4000000 in
set_option maxRecDepth 100000 in
theorem ztX12_here (l : Launch) (D : va_G) (cy : Nat → ClassId) (sh : zShp) (ad : Nat → Nat) {k0 : Nat} {p1 : Int32} (h0 : zT sh k0 12) {M : zMem} {r : Int32} (hd : zX12_here sh k0 p1 M = some r) : zCI l yX12_here cX12_here 2 .int { frames := 0, cells := 0, slots := 0, locals := 0 } [.ref (ad k0), .int p1] D cy sh ad M r M := by
  refine zci_of (by decide) (Nat.le_of_ble_eq_true rfl) (fun p e s m below meth c ls F hr hlk hl hw => ?_)
  have hx := F.1.1
  have hb := F.1.2.1
  have hl : lv_has ls 2 [(0, .ref (ad k0)), (1, .int p1)] := hl
  have J28 : ∀ (s0 : Int32) (H : Heap) (locs : List Loc) (ls : Array Slot), lv_has ls 2 [] → zWd D cy sh ad s M H locs → zjX12_here_28 sh k0 p1 M  s0 = some r → W p l e { frames := 0, cells := 0, slots := 0, locals := 0 } s m ([.ref (ad k0), .int p1] : List Value).toArray below meth c H locs 0 0 (zQI below D cy sh ad s [.ref (ad k0), .int p1] r M) (F0 m 28 ls [.int s0]) := by
    intro  s0 H locs ls hl hw hd
    unfold zjX12_here_28 at hd
    exact z_iret F hr hlk hw (Option.some.inj hd) rfl dX12_here_28
  unfold zX12_here at hd
  refine lv_aload_n hx hb dX12_here_0 rfl (lv_at hl 0 rfl) ?_
  refine z_gI F hw h0 zc12 4 (by decide) rfl zf12_95 dX12_here_1 ?_
  refine lv_iload_n hx hb dX12_here_4 rfl (lv_at hl 1 rfl) ?_
  refine lv_iadd hx hb dX12_here_5 ?_
  refine lv_aload_n hx hb dX12_here_6 rfl (lv_at hl 0 rfl) ?_
  refine z_gI F hw h0 zc12 3 (by decide) rfl zf12_98 dX12_here_7 ?_
  refine lv_icmp_ge (tgt := 27) hx hb dX12_here_10 (by decide) (fun c_1 => ?_) (fun c_1 => ?_)
  · have hd := zif_pos c_1 hd
    refine lv_iconst (v := (-1 : Int32)) hx hb dX12_here_27 (by decide) ?_
    exact J28 _ _ _ _ (lv_sub hl [] rfl) hw hd
  · have hd := zif_neg c_1 hd
    refine lv_aload_n hx hb dX12_here_13 rfl (lv_at hl 0 rfl) ?_
    refine z_gR F hw h0 zc12 1 (by decide) rfl zf12_13 dX12_here_14 ?_
    have t_2 : zT sh (zR M k0 1) 14 := hw.2.2.2.fld h0 1 14
    refine lv_aload_n hx hb dX12_here_17 rfl (lv_at hl 0 rfl) ?_
    refine z_gI F hw h0 zc12 4 (by decide) rfl zf12_95 dX12_here_18 ?_
    refine lv_iload_n hx hb dX12_here_21 rfl (lv_at hl 1 rfl) ?_
    refine lv_iadd hx hb dX12_here_22 ?_
    obtain ⟨g_3, hd⟩ := zgd_some hd
    refine z_iald F hw t_2 g_3 dX12_here_23 ?_
    refine lv_goto (tgt := 28) hx hb dX12_here_24 (by decide) ?_
    exact J28 _ _ _ _ (lv_sub hl [] rfl) hw hd

def zjX12_isLetter_17 (sh : zShp) (p0 : Int32) (M : zMem)  (s0 : Int32) : Option (Int32) :=
  zgd (zisB s0) <|
  some s0
def zjX12_isLetter_16 (sh : zShp) (p0 : Int32) (M : zMem)   : Option (Int32) :=
  zjX12_isLetter_17 sh p0 M (0 : Int32)
def zX12_isLetter (sh : zShp) (p0 : Int32) (M : zMem) : Option (Int32) :=
  if p0 < (97 : Int32) then (
  zjX12_isLetter_16 sh p0 M)
  else (
  if (122 : Int32) < p0 then (
  zjX12_isLetter_16 sh p0 M)
  else (
  zjX12_isLetter_17 sh p0 M (1 : Int32)))
set_option maxHeartbeats 4000000 in
set_option maxRecDepth 100000 in
theorem ztX12_isLetter (l : Launch) (D : va_G) (cy : Nat → ClassId) (sh : zShp) (ad : Nat → Nat) {p0 : Int32}  {M : zMem} {r : Int32} (hd : zX12_isLetter sh p0 M = some r) : zCI l yX12_isLetter cX12_isLetter 1 .boolean { frames := 0, cells := 0, slots := 0, locals := 0 } [.int p0] D cy sh ad M r M := by
  refine zci_of (by decide) (Nat.le_of_ble_eq_true rfl) (fun p e s m below meth c ls F hr hlk hl hw => ?_)
  have hx := F.1.1
  have hb := F.1.2.1
  have hl : lv_has ls 1 [(0, .int p0)] := hl
  have J17 : ∀ (s0 : Int32) (H : Heap) (locs : List Loc) (ls : Array Slot), lv_has ls 1 [] → zWd D cy sh ad s M H locs → zjX12_isLetter_17 sh p0 M  s0 = some r → W p l e { frames := 0, cells := 0, slots := 0, locals := 0 } s m ([.int p0] : List Value).toArray below meth c H locs 0 0 (zQI below D cy sh ad s [.int p0] r M) (F0 m 17 ls [.int s0]) := by
    intro  s0 H locs ls hl hw hd
    unfold zjX12_isLetter_17 at hd
    obtain ⟨g_1, hd⟩ := zgd_some hd
    exact z_zret F hr hlk hw g_1 (Option.some.inj hd) rfl dX12_isLetter_17
  have J16 : ∀  (H : Heap) (locs : List Loc) (ls : Array Slot), lv_has ls 1 [] → zWd D cy sh ad s M H locs → zjX12_isLetter_16 sh p0 M   = some r → W p l e { frames := 0, cells := 0, slots := 0, locals := 0 } s m ([.int p0] : List Value).toArray below meth c H locs 0 0 (zQI below D cy sh ad s [.int p0] r M) (F0 m 16 ls []) := by
    intro  H locs ls hl hw hd
    unfold zjX12_isLetter_16 at hd
    refine lv_iconst (v := (0 : Int32)) hx hb dX12_isLetter_16 (by decide) ?_
    exact J17 _ _ _ _ (lv_sub hl [] rfl) hw hd
  unfold zX12_isLetter at hd
  refine lv_iload_n hx hb dX12_isLetter_0 rfl (lv_at hl 0 rfl) ?_
  refine lv_bipush (v := (97 : Int32)) hx hb dX12_isLetter_1 (by decide) ?_
  refine lv_icmp_lt (tgt := 16) hx hb dX12_isLetter_3 (by decide) (fun c_2 => ?_) (fun c_2 => ?_)
  · have hd := zif_pos c_2 hd
    exact J16 _ _ _ (lv_sub hl [] rfl) hw hd
  · have hd := zif_neg c_2 hd
    refine lv_iload_n hx hb dX12_isLetter_6 rfl (lv_at hl 0 rfl) ?_
    refine lv_bipush (v := (122 : Int32)) hx hb dX12_isLetter_7 (by decide) ?_
    refine lv_icmp_gt (tgt := 16) hx hb dX12_isLetter_9 (by decide) (fun c_3 => ?_) (fun c_3 => ?_)
    · have hd := zif_pos c_3 hd
      exact J16 _ _ _ (lv_sub hl [] rfl) hw hd
    · have hd := zif_neg c_3 hd
      refine lv_iconst (v := (1 : Int32)) hx hb dX12_isLetter_12 (by decide) ?_
      refine lv_goto (tgt := 17) hx hb dX12_isLetter_13 (by decide) ?_
      exact J17 _ _ _ _ (lv_sub hl [] rfl) hw hd

def zjX12_isDigit_17 (sh : zShp) (p0 : Int32) (M : zMem)  (s0 : Int32) : Option (Int32) :=
  zgd (zisB s0) <|
  some s0
def zjX12_isDigit_16 (sh : zShp) (p0 : Int32) (M : zMem)   : Option (Int32) :=
  zjX12_isDigit_17 sh p0 M (0 : Int32)
def zX12_isDigit (sh : zShp) (p0 : Int32) (M : zMem) : Option (Int32) :=
  if p0 < (48 : Int32) then (
  zjX12_isDigit_16 sh p0 M)
  else (
  if (57 : Int32) < p0 then (
  zjX12_isDigit_16 sh p0 M)
  else (
  zjX12_isDigit_17 sh p0 M (1 : Int32)))
set_option maxHeartbeats 4000000 in
set_option maxRecDepth 100000 in
theorem ztX12_isDigit (l : Launch) (D : va_G) (cy : Nat → ClassId) (sh : zShp) (ad : Nat → Nat) {p0 : Int32}  {M : zMem} {r : Int32} (hd : zX12_isDigit sh p0 M = some r) : zCI l yX12_isDigit cX12_isDigit 1 .boolean { frames := 0, cells := 0, slots := 0, locals := 0 } [.int p0] D cy sh ad M r M := by
  refine zci_of (by decide) (Nat.le_of_ble_eq_true rfl) (fun p e s m below meth c ls F hr hlk hl hw => ?_)
  have hx := F.1.1
  have hb := F.1.2.1
  have hl : lv_has ls 1 [(0, .int p0)] := hl
  have J17 : ∀ (s0 : Int32) (H : Heap) (locs : List Loc) (ls : Array Slot), lv_has ls 1 [] → zWd D cy sh ad s M H locs → zjX12_isDigit_17 sh p0 M  s0 = some r → W p l e { frames := 0, cells := 0, slots := 0, locals := 0 } s m ([.int p0] : List Value).toArray below meth c H locs 0 0 (zQI below D cy sh ad s [.int p0] r M) (F0 m 17 ls [.int s0]) := by
    intro  s0 H locs ls hl hw hd
    unfold zjX12_isDigit_17 at hd
    obtain ⟨g_1, hd⟩ := zgd_some hd
    exact z_zret F hr hlk hw g_1 (Option.some.inj hd) rfl dX12_isDigit_17
  have J16 : ∀  (H : Heap) (locs : List Loc) (ls : Array Slot), lv_has ls 1 [] → zWd D cy sh ad s M H locs → zjX12_isDigit_16 sh p0 M   = some r → W p l e { frames := 0, cells := 0, slots := 0, locals := 0 } s m ([.int p0] : List Value).toArray below meth c H locs 0 0 (zQI below D cy sh ad s [.int p0] r M) (F0 m 16 ls []) := by
    intro  H locs ls hl hw hd
    unfold zjX12_isDigit_16 at hd
    refine lv_iconst (v := (0 : Int32)) hx hb dX12_isDigit_16 (by decide) ?_
    exact J17 _ _ _ _ (lv_sub hl [] rfl) hw hd
  unfold zX12_isDigit at hd
  refine lv_iload_n hx hb dX12_isDigit_0 rfl (lv_at hl 0 rfl) ?_
  refine lv_bipush (v := (48 : Int32)) hx hb dX12_isDigit_1 (by decide) ?_
  refine lv_icmp_lt (tgt := 16) hx hb dX12_isDigit_3 (by decide) (fun c_2 => ?_) (fun c_2 => ?_)
  · have hd := zif_pos c_2 hd
    exact J16 _ _ _ (lv_sub hl [] rfl) hw hd
  · have hd := zif_neg c_2 hd
    refine lv_iload_n hx hb dX12_isDigit_6 rfl (lv_at hl 0 rfl) ?_
    refine lv_bipush (v := (57 : Int32)) hx hb dX12_isDigit_7 (by decide) ?_
    refine lv_icmp_gt (tgt := 16) hx hb dX12_isDigit_9 (by decide) (fun c_3 => ?_) (fun c_3 => ?_)
    · have hd := zif_pos c_3 hd
      exact J16 _ _ _ (lv_sub hl [] rfl) hw hd
    · have hd := zif_neg c_3 hd
      refine lv_iconst (v := (1 : Int32)) hx hb dX12_isDigit_12 (by decide) ?_
      refine lv_goto (tgt := 17) hx hb dX12_isDigit_13 (by decide) ?_
      exact J17 _ _ _ _ (lv_sub hl [] rfl) hw hd

def zjX12_goOn_20 (sh : zShp) (k0 : Nat) (kk0 : zMem → Option (zMem)) (M : zMem) : Option (zMem) :=
  zbd (zpI M k0 4 ((zI M k0 4) + (1 : Int32))) fun M_1 =>
  kk0 M_1
def zjX12_goOn_253 (sh : zShp) (k0 : Nat)  (x1 : Int32) (M : zMem) : Option (zMem) :=
  zbd (zpI M k0 4 ((zI M k0 4) + x1)) fun M_2 =>
  some M_2
def zjX12_goOn_248 (sh : zShp) (k0 : Nat)  (s0 : Nat) (s1 : Int32) (M : zMem) : Option (zMem) :=
  zbd (zpI M s0 6 s1) fun M_3 =>
  zjX12_goOn_253 sh k0 (1 : Int32) M_3
def zjX12_goOn_212 (sh : zShp) (k0 : Nat)  (x1 : Int32) (s0 : Nat) (s1 : Int32) (M : zMem) : Option (zMem) :=
  zbd (zpI M s0 6 s1) fun M_4 =>
  zjX12_goOn_253 sh k0 x1 M_4
def zjX12_goOn_207 (sh : zShp) (k0 : Nat)  (x1 : Int32) (s0 : Nat) (M : zMem) : Option (zMem) :=
  zjX12_goOn_212 sh k0 x1 s0 (5 : Int32) M
def zjX12_goOn_184 (sh : zShp) (k0 : Nat) (kk148 : Int32 → zMem → Option (zMem)) (x1 : Int32) (M : zMem) : Option (zMem) :=
  kk148 (x1 + (1 : Int32)) M
def zbX12_goOn_148 (sh : zShp) (k0 : Nat)  (kk148 : Int32 → zMem → Option (zMem)) (x1 : Int32) (M : zMem) : Option (zMem) :=
  zob (zX12_here sh k0 x1 M) fun r_6 =>
  zob (zX12_isDigit sh r_6 M) fun r_8 =>
  if r_8 = 0 then (
  if (5 : Int32) < x1 then (
  zjX12_goOn_207 sh k0 x1 k0 M)
  else (
  zob (zX12_here sh k0 x1 M) fun r_12 =>
  zob (zX12_isLetter sh r_12 M) fun r_14 =>
  if r_14 = 0 then (
  zjX12_goOn_212 sh k0 x1 k0 (2 : Int32) M)
  else (
  zjX12_goOn_207 sh k0 x1 k0 M)))
  else (
  if (5 : Int32) ≤ x1 then (
  zjX12_goOn_184 sh k0 kk148 x1 M)
  else (
  zob (zX12_here sh k0 x1 M) fun r_18 =>
  zbd (zpI M k0 7 ((((10 : Int32) * (zI M k0 7)) + r_18) - (48 : Int32))) fun M_19 =>
  zjX12_goOn_184 sh k0 kk148 x1 M_19))
def zlX12_goOn_148 (sh : zShp) (k0 : Nat)  : Nat → Int32 → zMem → Option (zMem)
  | 0 => fun _ _ => none
  | n + 1 => fun x1 M => zbX12_goOn_148 sh k0  (zlX12_goOn_148 sh k0  n) x1 M
def zjX12_goOn_131 (sh : zShp) (k0 : Nat)  (x1 : Int32) (s0 : Nat) (s1 : Int32) (M : zMem) : Option (zMem) :=
  zbd (zpI M s0 6 s1) fun M_20 =>
  zjX12_goOn_253 sh k0 x1 M_20
def zjX12_goOn_113 (sh : zShp) (k0 : Nat) (kk78 : Int32 → zMem → Option (zMem)) (x1 : Int32) (M : zMem) : Option (zMem) :=
  kk78 (x1 + (1 : Int32)) M
def zbX12_goOn_78 (sh : zShp) (k0 : Nat)  (kk78 : Int32 → zMem → Option (zMem)) (x1 : Int32) (M : zMem) : Option (zMem) :=
  zob (zX12_here sh k0 x1 M) fun r_22 =>
  zob (zX12_isLetter sh r_22 M) fun r_24 =>
  if r_24 = 0 then (
  if x1 ≤ (6 : Int32) then (
  zjX12_goOn_131 sh k0 x1 k0 (1 : Int32) M)
  else (
  zjX12_goOn_131 sh k0 x1 k0 (5 : Int32) M))
  else (
  if (6 : Int32) ≤ x1 then (
  zjX12_goOn_113 sh k0 kk78 x1 M)
  else (
  zob (zX12_here sh k0 x1 M) fun r_29 =>
  zbd (zpJ M k0 12 (((zJ M k0 12) <<< ((8 : Int32).toInt64 &&& 63)) ||| (r_29.toInt64))) fun M_30 =>
  zjX12_goOn_113 sh k0 kk78 x1 M_30))
def zlX12_goOn_78 (sh : zShp) (k0 : Nat)  : Nat → Int32 → zMem → Option (zMem)
  | 0 => fun _ _ => none
  | n + 1 => fun x1 M => zbX12_goOn_78 sh k0  (zlX12_goOn_78 sh k0  n) x1 M
def zbX12_goOn_0 (sh : zShp) (k0 : Nat)  (kk0 : zMem → Option (zMem)) (M : zMem) : Option (zMem) :=
  zob (zX12_here sh k0 (0 : Int32) M) fun r_32 =>
  if r_32 = (32 : Int32) then (
  zjX12_goOn_20 sh k0 kk0 M)
  else (
  zob (zX12_here sh k0 (0 : Int32) M) fun r_35 =>
  if r_35 = (10 : Int32) then (
  zjX12_goOn_20 sh k0 kk0 M)
  else (
  zbd (zpI M k0 5 (zI M k0 4)) fun M_37 =>
  zbd (zpJ M_37 k0 12 (0 : Int64)) fun M_38 =>
  zbd (zpI M_38 k0 7 (0 : Int32)) fun M_39 =>
  zob (zX12_here sh k0 (0 : Int32) M_39) fun r_41 =>
  if 0 ≤ r_41 then (
  zob (zX12_here sh k0 (0 : Int32) M_39) fun r_44 =>
  zob (zX12_isLetter sh r_44 M_39) fun r_46 =>
  if r_46 = 0 then (
  zob (zX12_here sh k0 (0 : Int32) M_39) fun r_49 =>
  zob (zX12_isDigit sh r_49 M_39) fun r_51 =>
  if r_51 = 0 then (
  zob (zX12_here sh k0 (0 : Int32) M_39) fun r_54 =>
  if r_54 = (45 : Int32) then (
  zjX12_goOn_248 sh k0 k0 (3 : Int32) M_39)
  else (
  zob (zX12_here sh k0 (0 : Int32) M_39) fun r_57 =>
  if r_57 = (59 : Int32) then (
  zjX12_goOn_248 sh k0 k0 (4 : Int32) M_39)
  else (
  zjX12_goOn_248 sh k0 k0 (5 : Int32) M_39)))
  else (
  zlX12_goOn_148 sh k0 zF (0 : Int32) M_39))
  else (
  zlX12_goOn_78 sh k0 zF (0 : Int32) M_39))
  else (
  zbd (zpI M_39 k0 6 (0 : Int32)) fun M_59 =>
  some M_59)))
def zlX12_goOn_0 (sh : zShp) (k0 : Nat)  : Nat → zMem → Option (zMem)
  | 0 => fun _ => none
  | n + 1 => fun M => zbX12_goOn_0 sh k0  (zlX12_goOn_0 sh k0  n) M
def zX12_goOn (sh : zShp) (k0 : Nat) (M : zMem) : Option (zMem) :=
  zlX12_goOn_0 sh k0 zF M
set_option maxHeartbeats 4000000 in
set_option maxRecDepth 100000 in
theorem ztX12_goOn (l : Launch) (D : va_G) (cy : Nat → ClassId) (sh : zShp) (ad : Nat → Nat) {k0 : Nat} (h0 : zT sh k0 12) {M : zMem} {M1 : zMem} (hd : zX12_goOn sh k0 M = some M1) : zCV l yX12_goOn cX12_goOn 2 { frames := 1, cells := 0, slots := 0, locals := 21 } [.ref (ad k0)] D cy sh ad M M1 := by
  refine zcv_of (by decide) (Nat.le_of_ble_eq_true rfl) (fun p e s m below meth c ls F hr hlk hl hw => ?_)
  have hx := F.1.1
  have hb := F.1.2.1
  have hl : lv_has ls 2 [(0, .ref (ad k0))] := hl
  have J20 : ∀ (kk0 : zMem → Option (zMem)) (hk0 : ∀ (M : zMem) (H : Heap) (locs : List Loc) (ls : Array Slot), lv_has ls 2 [(0, .ref (ad k0))] → zWd D cy sh ad s M H locs → kk0 M = some M1 → W p l e { frames := 1, cells := 0, slots := 0, locals := 21 } s m ([.ref (ad k0)] : List Value).toArray below meth c H locs 0 0 (zQV below D cy sh ad s [.ref (ad k0)] M1) (F0 m 0 ls [])), ∀ (M : zMem) (H : Heap) (locs : List Loc) (ls : Array Slot), lv_has ls 2 [(0, .ref (ad k0))] → zWd D cy sh ad s M H locs → zjX12_goOn_20 sh k0 kk0 M = some M1 → W p l e { frames := 1, cells := 0, slots := 0, locals := 21 } s m ([.ref (ad k0)] : List Value).toArray below meth c H locs 0 0 (zQV below D cy sh ad s [.ref (ad k0)] M1) (F0 m 20 ls []) := by
    intro kk0 hk0 M H locs ls hl hw hd
    unfold zjX12_goOn_20 at hd
    refine lv_aload_n hx hb dX12_goOn_20 rfl (lv_at hl 0 rfl) ?_
    refine lv_dup hx hb dX12_goOn_21 rfl ?_
    refine z_gI F hw h0 zc12 4 (by decide) rfl zf12_95 dX12_goOn_22 ?_
    refine lv_iconst (v := (1 : Int32)) hx hb dX12_goOn_25 (by decide) ?_
    refine lv_iadd hx hb dX12_goOn_26 ?_
    refine z_pI F hw h0 zc12 4 (by decide) rfl zf12_95 rfl rfl rfl dX12_goOn_27 (fun H locs M_1 eM_1 hw => ?_)
    have hd := zbd_eq eM_1 hd
    refine lv_goto (tgt := 0) hx hb dX12_goOn_30 (by decide) ?_
    exact hk0 _ _ _ _ (lv_sub hl [0] rfl) hw hd
  have J253 : ∀ (x1 : Int32) (M : zMem) (H : Heap) (locs : List Loc) (ls : Array Slot), lv_has ls 2 [(0, .ref (ad k0)), (1, .int x1)] → zWd D cy sh ad s M H locs → zjX12_goOn_253 sh k0  x1 M = some M1 → W p l e { frames := 1, cells := 0, slots := 0, locals := 21 } s m ([.ref (ad k0)] : List Value).toArray below meth c H locs 0 0 (zQV below D cy sh ad s [.ref (ad k0)] M1) (F0 m 253 ls []) := by
    intro  x1 M H locs ls hl hw hd
    unfold zjX12_goOn_253 at hd
    refine lv_aload_n hx hb dX12_goOn_253 rfl (lv_at hl 0 rfl) ?_
    refine lv_dup hx hb dX12_goOn_254 rfl ?_
    refine z_gI F hw h0 zc12 4 (by decide) rfl zf12_95 dX12_goOn_255 ?_
    refine lv_iload_n hx hb dX12_goOn_258 rfl (lv_at hl 1 rfl) ?_
    refine lv_iadd hx hb dX12_goOn_259 ?_
    refine z_pI F hw h0 zc12 4 (by decide) rfl zf12_95 rfl rfl rfl dX12_goOn_260 (fun H locs M_2 eM_2 hw => ?_)
    have hd := zbd_eq eM_2 hd
    exact z_vret F hr hlk hw (Option.some.inj hd) dX12_goOn_263
  have J248 : ∀ (s0 : Nat) (s1 : Int32) (ts0 : zT sh s0 12) (M : zMem) (H : Heap) (locs : List Loc) (ls : Array Slot), lv_has ls 2 [(0, .ref (ad k0))] → zWd D cy sh ad s M H locs → zjX12_goOn_248 sh k0  s0 s1 M = some M1 → W p l e { frames := 1, cells := 0, slots := 0, locals := 21 } s m ([.ref (ad k0)] : List Value).toArray below meth c H locs 0 0 (zQV below D cy sh ad s [.ref (ad k0)] M1) (F0 m 248 ls [.int s1, .ref (ad s0)]) := by
    intro  s0 s1 ts0 M H locs ls hl hw hd
    unfold zjX12_goOn_248 at hd
    refine z_pI F hw ts0 zc12 6 (by decide) rfl zf12_115 rfl rfl rfl dX12_goOn_248 (fun H locs M_3 eM_3 hw => ?_)
    have hd := zbd_eq eM_3 hd
    refine lv_iconst (v := (1 : Int32)) hx hb dX12_goOn_251 (by decide) ?_
    refine lv_istore_n (lv' := [(1, .int (1 : Int32)), (0, .ref (ad k0))]) hx hb dX12_goOn_252 rfl hl (by decide) rfl (fun ls hl => ?_)
    exact J253 _ _ _ _ _ (lv_sub hl [1, 0] rfl) hw hd
  have J212 : ∀ (x1 : Int32) (s0 : Nat) (s1 : Int32) (ts0 : zT sh s0 12) (M : zMem) (H : Heap) (locs : List Loc) (ls : Array Slot), lv_has ls 2 [(0, .ref (ad k0)), (1, .int x1)] → zWd D cy sh ad s M H locs → zjX12_goOn_212 sh k0  x1 s0 s1 M = some M1 → W p l e { frames := 1, cells := 0, slots := 0, locals := 21 } s m ([.ref (ad k0)] : List Value).toArray below meth c H locs 0 0 (zQV below D cy sh ad s [.ref (ad k0)] M1) (F0 m 212 ls [.int s1, .ref (ad s0)]) := by
    intro  x1 s0 s1 ts0 M H locs ls hl hw hd
    unfold zjX12_goOn_212 at hd
    refine z_pI F hw ts0 zc12 6 (by decide) rfl zf12_115 rfl rfl rfl dX12_goOn_212 (fun H locs M_4 eM_4 hw => ?_)
    have hd := zbd_eq eM_4 hd
    refine lv_goto (tgt := 253) hx hb dX12_goOn_215 (by decide) ?_
    exact J253 _ _ _ _ _ (lv_sub hl [0, 1] rfl) hw hd
  have J207 : ∀ (x1 : Int32) (s0 : Nat) (ts0 : zT sh s0 12) (M : zMem) (H : Heap) (locs : List Loc) (ls : Array Slot), lv_has ls 2 [(0, .ref (ad k0)), (1, .int x1)] → zWd D cy sh ad s M H locs → zjX12_goOn_207 sh k0  x1 s0 M = some M1 → W p l e { frames := 1, cells := 0, slots := 0, locals := 21 } s m ([.ref (ad k0)] : List Value).toArray below meth c H locs 0 0 (zQV below D cy sh ad s [.ref (ad k0)] M1) (F0 m 207 ls [.ref (ad s0)]) := by
    intro  x1 s0 ts0 M H locs ls hl hw hd
    unfold zjX12_goOn_207 at hd
    refine lv_iconst (v := (5 : Int32)) hx hb dX12_goOn_207 (by decide) ?_
    refine lv_goto (tgt := 212) hx hb dX12_goOn_208 (by decide) ?_
    exact J212 _ _ _ ts0 _ _ _ _ (lv_sub hl [0, 1] rfl) hw hd
  have J184 : ∀ (kk148 : Int32 → zMem → Option (zMem)) (hk148 : ∀ (x1 : Int32) (M : zMem) (H : Heap) (locs : List Loc) (ls : Array Slot), lv_has ls 2 [(0, .ref (ad k0)), (1, .int x1)] → zWd D cy sh ad s M H locs → kk148 x1 M = some M1 → W p l e { frames := 1, cells := 0, slots := 0, locals := 21 } s m ([.ref (ad k0)] : List Value).toArray below meth c H locs 0 0 (zQV below D cy sh ad s [.ref (ad k0)] M1) (F0 m 148 ls [])), ∀ (x1 : Int32) (M : zMem) (H : Heap) (locs : List Loc) (ls : Array Slot), lv_has ls 2 [(0, .ref (ad k0)), (1, .int x1)] → zWd D cy sh ad s M H locs → zjX12_goOn_184 sh k0 kk148 x1 M = some M1 → W p l e { frames := 1, cells := 0, slots := 0, locals := 21 } s m ([.ref (ad k0)] : List Value).toArray below meth c H locs 0 0 (zQV below D cy sh ad s [.ref (ad k0)] M1) (F0 m 184 ls []) := by
    intro kk148 hk148 x1 M H locs ls hl hw hd
    unfold zjX12_goOn_184 at hd
    refine lv_iinc (v := (x1 + (1 : Int32))) (lv' := [(1, .int (x1 + (1 : Int32))), (0, .ref (ad k0))]) hx hb dX12_goOn_184 hl (k := 1) rfl (ziinc (by decide)) (by decide) rfl (fun ls hl => ?_)
    refine lv_goto (tgt := 148) hx hb dX12_goOn_187 (by decide) ?_
    exact hk148 _ _ _ _ _ (lv_sub hl [1, 0] rfl) hw hd
  have L148 : ∀  (n : Nat), ∀ (x1 : Int32) (M : zMem) (H : Heap) (locs : List Loc) (ls : Array Slot), lv_has ls 2 [(0, .ref (ad k0)), (1, .int x1)] → zWd D cy sh ad s M H locs → zlX12_goOn_148 sh k0  n x1 M = some M1 → W p l e { frames := 1, cells := 0, slots := 0, locals := 21 } s m ([.ref (ad k0)] : List Value).toArray below meth c H locs 0 0 (zQV below D cy sh ad s [.ref (ad k0)] M1) (F0 m 148 ls []) := by
    intro  n
    induction n with
    | zero => intro x1 M H locs ls hl hw hd; exact (znone hd).elim
    | succ n hk148 =>
      intro x1 M H locs ls hl hw hd
      have hd : zbX12_goOn_148 sh k0  (zlX12_goOn_148 sh k0  n) x1 M = some M1 := hd
      unfold zbX12_goOn_148 at hd
      refine lv_aload_n hx hb dX12_goOn_148 rfl (lv_at hl 0 rfl) ?_
      refine lv_iload_n hx hb dX12_goOn_149 rfl (lv_at hl 1 rfl) ?_
      obtain ⟨r_6, hc_5, hd⟩ := zob_some hd
      refine z_cvI F hw hl.1 (As := [.int x1]) (rest := []) (ztX12_here l D cy sh ad h0 hc_5) zyX12_here h0 zc12 zk12_101 ⟨rfl, rfl⟩ ⟨by decide, by decide⟩ rfl rfl (Nat.le_of_ble_eq_true rfl) dX12_goOn_150 (fun H locs hw => ?_)
      obtain ⟨r_8, hc_7, hd⟩ := zob_some hd
      refine z_csI F hw hl.1 (As := [.int r_6]) (rest := []) (ztX12_isDigit l D cy sh ad  hc_7) zyX12_isDigit zk12_122 ⟨rfl, rfl⟩ ⟨by decide, by decide⟩ rfl rfl (Nat.le_of_ble_eq_true rfl) dX12_goOn_153 (fun H locs hw => ?_)
      refine lv_if_eq (tgt := 190) hx hb dX12_goOn_156 (by decide) (fun c_9 => ?_) (fun c_9 => ?_)
      · have hd := zif_pos c_9 hd
        refine lv_aload_n hx hb dX12_goOn_190 rfl (lv_at hl 0 rfl) ?_
        refine lv_iload_n hx hb dX12_goOn_191 rfl (lv_at hl 1 rfl) ?_
        refine lv_iconst (v := (5 : Int32)) hx hb dX12_goOn_192 (by decide) ?_
        refine lv_icmp_gt (tgt := 207) hx hb dX12_goOn_193 (by decide) (fun c_10 => ?_) (fun c_10 => ?_)
        · have hd := zif_pos c_10 hd
          exact J207 _ _ h0 _ _ _ _ (lv_sub hl [0, 1] rfl) hw hd
        · have hd := zif_neg c_10 hd
          refine lv_aload_n hx hb dX12_goOn_196 rfl (lv_at hl 0 rfl) ?_
          refine lv_iload_n hx hb dX12_goOn_197 rfl (lv_at hl 1 rfl) ?_
          obtain ⟨r_12, hc_11, hd⟩ := zob_some hd
          refine z_cvI F hw hl.1 (As := [.int x1]) (rest := [.ref (ad k0)]) (ztX12_here l D cy sh ad h0 hc_11) zyX12_here h0 zc12 zk12_101 ⟨rfl, rfl⟩ ⟨by decide, by decide⟩ rfl rfl (Nat.le_of_ble_eq_true rfl) dX12_goOn_198 (fun H locs hw => ?_)
          obtain ⟨r_14, hc_13, hd⟩ := zob_some hd
          refine z_csI F hw hl.1 (As := [.int r_12]) (rest := [.ref (ad k0)]) (ztX12_isLetter l D cy sh ad  hc_13) zyX12_isLetter zk12_118 ⟨rfl, rfl⟩ ⟨by decide, by decide⟩ rfl rfl (Nat.le_of_ble_eq_true rfl) dX12_goOn_201 (fun H locs hw => ?_)
          refine lv_if_eq (tgt := 211) hx hb dX12_goOn_204 (by decide) (fun c_15 => ?_) (fun c_15 => ?_)
          · have hd := zif_pos c_15 hd
            refine lv_iconst (v := (2 : Int32)) hx hb dX12_goOn_211 (by decide) ?_
            exact J212 _ _ _ h0 _ _ _ _ (lv_sub hl [0, 1] rfl) hw hd
          · have hd := zif_neg c_15 hd
            exact J207 _ _ h0 _ _ _ _ (lv_sub hl [0, 1] rfl) hw hd
      · have hd := zif_neg c_9 hd
        refine lv_iload_n hx hb dX12_goOn_159 rfl (lv_at hl 1 rfl) ?_
        refine lv_iconst (v := (5 : Int32)) hx hb dX12_goOn_160 (by decide) ?_
        refine lv_icmp_ge (tgt := 184) hx hb dX12_goOn_161 (by decide) (fun c_16 => ?_) (fun c_16 => ?_)
        · have hd := zif_pos c_16 hd
          exact J184 _ hk148 _ _ _ _ _ (lv_sub hl [0, 1] rfl) hw hd
        · have hd := zif_neg c_16 hd
          refine lv_aload_n hx hb dX12_goOn_164 rfl (lv_at hl 0 rfl) ?_
          refine lv_bipush (v := (10 : Int32)) hx hb dX12_goOn_165 (by decide) ?_
          refine lv_aload_n hx hb dX12_goOn_167 rfl (lv_at hl 0 rfl) ?_
          refine z_gI F hw h0 zc12 7 (by decide) rfl zf12_112 dX12_goOn_168 ?_
          refine lv_imul hx hb dX12_goOn_171 ?_
          refine lv_aload_n hx hb dX12_goOn_172 rfl (lv_at hl 0 rfl) ?_
          refine lv_iload_n hx hb dX12_goOn_173 rfl (lv_at hl 1 rfl) ?_
          obtain ⟨r_18, hc_17, hd⟩ := zob_some hd
          refine z_cvI F hw hl.1 (As := [.int x1]) (rest := [.int ((10 : Int32) * (zI M k0 7)), .ref (ad k0)]) (ztX12_here l D cy sh ad h0 hc_17) zyX12_here h0 zc12 zk12_101 ⟨rfl, rfl⟩ ⟨by decide, by decide⟩ rfl rfl (Nat.le_of_ble_eq_true rfl) dX12_goOn_174 (fun H locs hw => ?_)
          refine lv_iadd hx hb dX12_goOn_177 ?_
          refine lv_bipush (v := (48 : Int32)) hx hb dX12_goOn_178 (by decide) ?_
          refine lv_isub hx hb dX12_goOn_180 ?_
          refine z_pI F hw h0 zc12 7 (by decide) rfl zf12_112 rfl rfl rfl dX12_goOn_181 (fun H locs M_19 eM_19 hw => ?_)
          have hd := zbd_eq eM_19 hd
          exact J184 _ hk148 _ _ _ _ _ (lv_sub hl [0, 1] rfl) hw hd
  have J131 : ∀ (x1 : Int32) (s0 : Nat) (s1 : Int32) (ts0 : zT sh s0 12) (M : zMem) (H : Heap) (locs : List Loc) (ls : Array Slot), lv_has ls 2 [(0, .ref (ad k0)), (1, .int x1)] → zWd D cy sh ad s M H locs → zjX12_goOn_131 sh k0  x1 s0 s1 M = some M1 → W p l e { frames := 1, cells := 0, slots := 0, locals := 21 } s m ([.ref (ad k0)] : List Value).toArray below meth c H locs 0 0 (zQV below D cy sh ad s [.ref (ad k0)] M1) (F0 m 131 ls [.int s1, .ref (ad s0)]) := by
    intro  x1 s0 s1 ts0 M H locs ls hl hw hd
    unfold zjX12_goOn_131 at hd
    refine z_pI F hw ts0 zc12 6 (by decide) rfl zf12_115 rfl rfl rfl dX12_goOn_131 (fun H locs M_20 eM_20 hw => ?_)
    have hd := zbd_eq eM_20 hd
    refine lv_goto (tgt := 253) hx hb dX12_goOn_134 (by decide) ?_
    exact J253 _ _ _ _ _ (lv_sub hl [0, 1] rfl) hw hd
  have J113 : ∀ (kk78 : Int32 → zMem → Option (zMem)) (hk78 : ∀ (x1 : Int32) (M : zMem) (H : Heap) (locs : List Loc) (ls : Array Slot), lv_has ls 2 [(0, .ref (ad k0)), (1, .int x1)] → zWd D cy sh ad s M H locs → kk78 x1 M = some M1 → W p l e { frames := 1, cells := 0, slots := 0, locals := 21 } s m ([.ref (ad k0)] : List Value).toArray below meth c H locs 0 0 (zQV below D cy sh ad s [.ref (ad k0)] M1) (F0 m 78 ls [])), ∀ (x1 : Int32) (M : zMem) (H : Heap) (locs : List Loc) (ls : Array Slot), lv_has ls 2 [(0, .ref (ad k0)), (1, .int x1)] → zWd D cy sh ad s M H locs → zjX12_goOn_113 sh k0 kk78 x1 M = some M1 → W p l e { frames := 1, cells := 0, slots := 0, locals := 21 } s m ([.ref (ad k0)] : List Value).toArray below meth c H locs 0 0 (zQV below D cy sh ad s [.ref (ad k0)] M1) (F0 m 113 ls []) := by
    intro kk78 hk78 x1 M H locs ls hl hw hd
    unfold zjX12_goOn_113 at hd
    refine lv_iinc (v := (x1 + (1 : Int32))) (lv' := [(1, .int (x1 + (1 : Int32))), (0, .ref (ad k0))]) hx hb dX12_goOn_113 hl (k := 1) rfl (ziinc (by decide)) (by decide) rfl (fun ls hl => ?_)
    refine lv_goto (tgt := 78) hx hb dX12_goOn_116 (by decide) ?_
    exact hk78 _ _ _ _ _ (lv_sub hl [1, 0] rfl) hw hd
  have L78 : ∀  (n : Nat), ∀ (x1 : Int32) (M : zMem) (H : Heap) (locs : List Loc) (ls : Array Slot), lv_has ls 2 [(0, .ref (ad k0)), (1, .int x1)] → zWd D cy sh ad s M H locs → zlX12_goOn_78 sh k0  n x1 M = some M1 → W p l e { frames := 1, cells := 0, slots := 0, locals := 21 } s m ([.ref (ad k0)] : List Value).toArray below meth c H locs 0 0 (zQV below D cy sh ad s [.ref (ad k0)] M1) (F0 m 78 ls []) := by
    intro  n
    induction n with
    | zero => intro x1 M H locs ls hl hw hd; exact (znone hd).elim
    | succ n hk78 =>
      intro x1 M H locs ls hl hw hd
      have hd : zbX12_goOn_78 sh k0  (zlX12_goOn_78 sh k0  n) x1 M = some M1 := hd
      unfold zbX12_goOn_78 at hd
      refine lv_aload_n hx hb dX12_goOn_78 rfl (lv_at hl 0 rfl) ?_
      refine lv_iload_n hx hb dX12_goOn_79 rfl (lv_at hl 1 rfl) ?_
      obtain ⟨r_22, hc_21, hd⟩ := zob_some hd
      refine z_cvI F hw hl.1 (As := [.int x1]) (rest := []) (ztX12_here l D cy sh ad h0 hc_21) zyX12_here h0 zc12 zk12_101 ⟨rfl, rfl⟩ ⟨by decide, by decide⟩ rfl rfl (Nat.le_of_ble_eq_true rfl) dX12_goOn_80 (fun H locs hw => ?_)
      obtain ⟨r_24, hc_23, hd⟩ := zob_some hd
      refine z_csI F hw hl.1 (As := [.int r_22]) (rest := []) (ztX12_isLetter l D cy sh ad  hc_23) zyX12_isLetter zk12_118 ⟨rfl, rfl⟩ ⟨by decide, by decide⟩ rfl rfl (Nat.le_of_ble_eq_true rfl) dX12_goOn_83 (fun H locs hw => ?_)
      refine lv_if_eq (tgt := 119) hx hb dX12_goOn_86 (by decide) (fun c_25 => ?_) (fun c_25 => ?_)
      · have hd := zif_pos c_25 hd
        refine lv_aload_n hx hb dX12_goOn_119 rfl (lv_at hl 0 rfl) ?_
        refine lv_iload_n hx hb dX12_goOn_120 rfl (lv_at hl 1 rfl) ?_
        refine lv_bipush (v := (6 : Int32)) hx hb dX12_goOn_121 (by decide) ?_
        refine lv_icmp_le (tgt := 130) hx hb dX12_goOn_123 (by decide) (fun c_26 => ?_) (fun c_26 => ?_)
        · have hd := zif_pos c_26 hd
          refine lv_iconst (v := (1 : Int32)) hx hb dX12_goOn_130 (by decide) ?_
          exact J131 _ _ _ h0 _ _ _ _ (lv_sub hl [0, 1] rfl) hw hd
        · have hd := zif_neg c_26 hd
          refine lv_iconst (v := (5 : Int32)) hx hb dX12_goOn_126 (by decide) ?_
          refine lv_goto (tgt := 131) hx hb dX12_goOn_127 (by decide) ?_
          exact J131 _ _ _ h0 _ _ _ _ (lv_sub hl [0, 1] rfl) hw hd
      · have hd := zif_neg c_25 hd
        refine lv_iload_n hx hb dX12_goOn_89 rfl (lv_at hl 1 rfl) ?_
        refine lv_bipush (v := (6 : Int32)) hx hb dX12_goOn_90 (by decide) ?_
        refine lv_icmp_ge (tgt := 113) hx hb dX12_goOn_92 (by decide) (fun c_27 => ?_) (fun c_27 => ?_)
        · have hd := zif_pos c_27 hd
          exact J113 _ hk78 _ _ _ _ _ (lv_sub hl [0, 1] rfl) hw hd
        · have hd := zif_neg c_27 hd
          refine lv_aload_n hx hb dX12_goOn_95 rfl (lv_at hl 0 rfl) ?_
          refine lv_aload_n hx hb dX12_goOn_96 rfl (lv_at hl 0 rfl) ?_
          refine z_gJ F hw h0 zc12 12 (by decide) rfl zf12_108 dX12_goOn_97 ?_
          refine lv_bipush (v := (8 : Int32)) hx hb dX12_goOn_100 (by decide) ?_
          refine lv_lshl (v := ((zJ M k0 12) <<< ((8 : Int32).toInt64 &&& 63))) hx hb dX12_goOn_102 rfl ?_
          refine lv_aload_n hx hb dX12_goOn_103 rfl (lv_at hl 0 rfl) ?_
          refine lv_iload_n hx hb dX12_goOn_104 rfl (lv_at hl 1 rfl) ?_
          obtain ⟨r_29, hc_28, hd⟩ := zob_some hd
          refine z_cvI F hw hl.1 (As := [.int x1]) (rest := [.long ((zJ M k0 12) <<< ((8 : Int32).toInt64 &&& 63)), .ref (ad k0)]) (ztX12_here l D cy sh ad h0 hc_28) zyX12_here h0 zc12 zk12_101 ⟨rfl, rfl⟩ ⟨by decide, by decide⟩ rfl rfl (Nat.le_of_ble_eq_true rfl) dX12_goOn_105 (fun H locs hw => ?_)
          refine lv_i2l (v := r_29.toInt64) hx hb dX12_goOn_108 rfl ?_
          refine lv_lor hx hb dX12_goOn_109 ?_
          refine z_pJ F hw h0 zc12 12 (by decide) rfl zf12_108 rfl rfl rfl dX12_goOn_110 (fun H locs M_30 eM_30 hw => ?_)
          have hd := zbd_eq eM_30 hd
          exact J113 _ hk78 _ _ _ _ _ (lv_sub hl [0, 1] rfl) hw hd
  have L0 : ∀  (n : Nat), ∀ (M : zMem) (H : Heap) (locs : List Loc) (ls : Array Slot), lv_has ls 2 [(0, .ref (ad k0))] → zWd D cy sh ad s M H locs → zlX12_goOn_0 sh k0  n M = some M1 → W p l e { frames := 1, cells := 0, slots := 0, locals := 21 } s m ([.ref (ad k0)] : List Value).toArray below meth c H locs 0 0 (zQV below D cy sh ad s [.ref (ad k0)] M1) (F0 m 0 ls []) := by
    intro  n
    induction n with
    | zero => intro M H locs ls hl hw hd; exact (znone hd).elim
    | succ n hk0 =>
      intro M H locs ls hl hw hd
      have hd : zbX12_goOn_0 sh k0  (zlX12_goOn_0 sh k0  n) M = some M1 := hd
      unfold zbX12_goOn_0 at hd
      refine lv_aload_n hx hb dX12_goOn_0 rfl (lv_at hl 0 rfl) ?_
      refine lv_iconst (v := (0 : Int32)) hx hb dX12_goOn_1 (by decide) ?_
      obtain ⟨r_32, hc_31, hd⟩ := zob_some hd
      refine z_cvI F hw hl.1 (As := [.int (0 : Int32)]) (rest := []) (ztX12_here l D cy sh ad h0 hc_31) zyX12_here h0 zc12 zk12_101 ⟨rfl, rfl⟩ ⟨by decide, by decide⟩ rfl rfl (Nat.le_of_ble_eq_true rfl) dX12_goOn_2 (fun H locs hw => ?_)
      refine lv_bipush (v := (32 : Int32)) hx hb dX12_goOn_5 (by decide) ?_
      refine lv_icmp_eq (tgt := 20) hx hb dX12_goOn_7 (by decide) (fun c_33 => ?_) (fun c_33 => ?_)
      · have hd := zif_pos c_33 hd
        exact J20 _ hk0 _ _ _ _ (lv_sub hl [0] rfl) hw hd
      · have hd := zif_neg c_33 hd
        refine lv_aload_n hx hb dX12_goOn_10 rfl (lv_at hl 0 rfl) ?_
        refine lv_iconst (v := (0 : Int32)) hx hb dX12_goOn_11 (by decide) ?_
        obtain ⟨r_35, hc_34, hd⟩ := zob_some hd
        refine z_cvI F hw hl.1 (As := [.int (0 : Int32)]) (rest := []) (ztX12_here l D cy sh ad h0 hc_34) zyX12_here h0 zc12 zk12_101 ⟨rfl, rfl⟩ ⟨by decide, by decide⟩ rfl rfl (Nat.le_of_ble_eq_true rfl) dX12_goOn_12 (fun H locs hw => ?_)
        refine lv_bipush (v := (10 : Int32)) hx hb dX12_goOn_15 (by decide) ?_
        refine lv_icmp_ne (tgt := 33) hx hb dX12_goOn_17 (by decide) (fun c_36 => ?_) (fun c_36 => ?_)
        · have hd := zif_neg c_36 hd
          refine lv_aload_n hx hb dX12_goOn_33 rfl (lv_at hl 0 rfl) ?_
          refine lv_aload_n hx hb dX12_goOn_34 rfl (lv_at hl 0 rfl) ?_
          refine z_gI F hw h0 zc12 4 (by decide) rfl zf12_95 dX12_goOn_35 ?_
          refine z_pI F hw h0 zc12 5 (by decide) rfl zf12_105 rfl rfl rfl dX12_goOn_38 (fun H locs M_37 eM_37 hw => ?_)
          have hd := zbd_eq eM_37 hd
          refine lv_iconst (v := (0 : Int32)) hx hb dX12_goOn_41 (by decide) ?_
          refine lv_istore_n (lv' := [(1, .int (0 : Int32)), (0, .ref (ad k0))]) hx hb dX12_goOn_42 rfl hl (by decide) rfl (fun ls hl => ?_)
          refine lv_aload_n hx hb dX12_goOn_43 rfl (lv_at hl 1 rfl) ?_
          refine lv_lconst (v := (0 : Int64)) hx hb dX12_goOn_44 (by decide) ?_
          refine z_pJ F hw h0 zc12 12 (by decide) rfl zf12_108 rfl rfl rfl dX12_goOn_45 (fun H locs M_38 eM_38 hw => ?_)
          have hd := zbd_eq eM_38 hd
          refine lv_aload_n hx hb dX12_goOn_48 rfl (lv_at hl 1 rfl) ?_
          refine lv_iconst (v := (0 : Int32)) hx hb dX12_goOn_49 (by decide) ?_
          refine z_pI F hw h0 zc12 7 (by decide) rfl zf12_112 rfl rfl rfl dX12_goOn_50 (fun H locs M_39 eM_39 hw => ?_)
          have hd := zbd_eq eM_39 hd
          refine lv_aload_n hx hb dX12_goOn_53 rfl (lv_at hl 1 rfl) ?_
          refine lv_iconst (v := (0 : Int32)) hx hb dX12_goOn_54 (by decide) ?_
          obtain ⟨r_41, hc_40, hd⟩ := zob_some hd
          refine z_cvI F hw hl.1 (As := [.int (0 : Int32)]) (rest := []) (ztX12_here l D cy sh ad h0 hc_40) zyX12_here h0 zc12 zk12_101 ⟨rfl, rfl⟩ ⟨by decide, by decide⟩ rfl rfl (Nat.le_of_ble_eq_true rfl) dX12_goOn_55 (fun H locs hw => ?_)
          refine lv_if_ge (tgt := 67) hx hb dX12_goOn_58 (by decide) (fun c_42 => ?_) (fun c_42 => ?_)
          · have hd := zif_pos c_42 hd
            refine lv_aload_n hx hb dX12_goOn_67 rfl (lv_at hl 1 rfl) ?_
            refine lv_iconst (v := (0 : Int32)) hx hb dX12_goOn_68 (by decide) ?_
            obtain ⟨r_44, hc_43, hd⟩ := zob_some hd
            refine z_cvI F hw hl.1 (As := [.int (0 : Int32)]) (rest := []) (ztX12_here l D cy sh ad h0 hc_43) zyX12_here h0 zc12 zk12_101 ⟨rfl, rfl⟩ ⟨by decide, by decide⟩ rfl rfl (Nat.le_of_ble_eq_true rfl) dX12_goOn_69 (fun H locs hw => ?_)
            obtain ⟨r_46, hc_45, hd⟩ := zob_some hd
            refine z_csI F hw hl.1 (As := [.int r_44]) (rest := []) (ztX12_isLetter l D cy sh ad  hc_45) zyX12_isLetter zk12_118 ⟨rfl, rfl⟩ ⟨by decide, by decide⟩ rfl rfl (Nat.le_of_ble_eq_true rfl) dX12_goOn_72 (fun H locs hw => ?_)
            refine lv_if_eq (tgt := 137) hx hb dX12_goOn_75 (by decide) (fun c_47 => ?_) (fun c_47 => ?_)
            · have hd := zif_pos c_47 hd
              refine lv_aload_n hx hb dX12_goOn_137 rfl (lv_at hl 1 rfl) ?_
              refine lv_iconst (v := (0 : Int32)) hx hb dX12_goOn_138 (by decide) ?_
              obtain ⟨r_49, hc_48, hd⟩ := zob_some hd
              refine z_cvI F hw hl.1 (As := [.int (0 : Int32)]) (rest := []) (ztX12_here l D cy sh ad h0 hc_48) zyX12_here h0 zc12 zk12_101 ⟨rfl, rfl⟩ ⟨by decide, by decide⟩ rfl rfl (Nat.le_of_ble_eq_true rfl) dX12_goOn_139 (fun H locs hw => ?_)
              obtain ⟨r_51, hc_50, hd⟩ := zob_some hd
              refine z_csI F hw hl.1 (As := [.int r_49]) (rest := []) (ztX12_isDigit l D cy sh ad  hc_50) zyX12_isDigit zk12_122 ⟨rfl, rfl⟩ ⟨by decide, by decide⟩ rfl rfl (Nat.le_of_ble_eq_true rfl) dX12_goOn_142 (fun H locs hw => ?_)
              refine lv_if_eq (tgt := 218) hx hb dX12_goOn_145 (by decide) (fun c_52 => ?_) (fun c_52 => ?_)
              · have hd := zif_pos c_52 hd
                refine lv_aload_n hx hb dX12_goOn_218 rfl (lv_at hl 1 rfl) ?_
                refine lv_aload_n hx hb dX12_goOn_219 rfl (lv_at hl 1 rfl) ?_
                refine lv_iconst (v := (0 : Int32)) hx hb dX12_goOn_220 (by decide) ?_
                obtain ⟨r_54, hc_53, hd⟩ := zob_some hd
                refine z_cvI F hw hl.1 (As := [.int (0 : Int32)]) (rest := [.ref (ad k0)]) (ztX12_here l D cy sh ad h0 hc_53) zyX12_here h0 zc12 zk12_101 ⟨rfl, rfl⟩ ⟨by decide, by decide⟩ rfl rfl (Nat.le_of_ble_eq_true rfl) dX12_goOn_221 (fun H locs hw => ?_)
                refine lv_bipush (v := (45 : Int32)) hx hb dX12_goOn_224 (by decide) ?_
                refine lv_icmp_ne (tgt := 233) hx hb dX12_goOn_226 (by decide) (fun c_55 => ?_) (fun c_55 => ?_)
                · have hd := zif_neg c_55 hd
                  refine lv_aload_n hx hb dX12_goOn_233 rfl (lv_at hl 1 rfl) ?_
                  refine lv_iconst (v := (0 : Int32)) hx hb dX12_goOn_234 (by decide) ?_
                  obtain ⟨r_57, hc_56, hd⟩ := zob_some hd
                  refine z_cvI F hw hl.1 (As := [.int (0 : Int32)]) (rest := [.ref (ad k0)]) (ztX12_here l D cy sh ad h0 hc_56) zyX12_here h0 zc12 zk12_101 ⟨rfl, rfl⟩ ⟨by decide, by decide⟩ rfl rfl (Nat.le_of_ble_eq_true rfl) dX12_goOn_235 (fun H locs hw => ?_)
                  refine lv_bipush (v := (59 : Int32)) hx hb dX12_goOn_238 (by decide) ?_
                  refine lv_icmp_ne (tgt := 247) hx hb dX12_goOn_240 (by decide) (fun c_58 => ?_) (fun c_58 => ?_)
                  · have hd := zif_neg c_58 hd
                    refine lv_iconst (v := (5 : Int32)) hx hb dX12_goOn_247 (by decide) ?_
                    exact J248 _ _ h0 _ _ _ _ (lv_sub hl [1] rfl) hw hd
                  · have hd := zif_pos c_58 hd
                    refine lv_iconst (v := (4 : Int32)) hx hb dX12_goOn_243 (by decide) ?_
                    refine lv_goto (tgt := 248) hx hb dX12_goOn_244 (by decide) ?_
                    exact J248 _ _ h0 _ _ _ _ (lv_sub hl [1] rfl) hw hd
                · have hd := zif_pos c_55 hd
                  refine lv_iconst (v := (3 : Int32)) hx hb dX12_goOn_229 (by decide) ?_
                  refine lv_goto (tgt := 248) hx hb dX12_goOn_230 (by decide) ?_
                  exact J248 _ _ h0 _ _ _ _ (lv_sub hl [1] rfl) hw hd
              · have hd := zif_neg c_52 hd
                exact L148 zF _ _ _ _ _ (lv_sub hl [1, 0] rfl) hw hd
            · have hd := zif_neg c_47 hd
              exact L78 zF _ _ _ _ _ (lv_sub hl [1, 0] rfl) hw hd
          · have hd := zif_neg c_42 hd
            refine lv_aload_n hx hb dX12_goOn_61 rfl (lv_at hl 1 rfl) ?_
            refine lv_iconst (v := (0 : Int32)) hx hb dX12_goOn_62 (by decide) ?_
            refine z_pI F hw h0 zc12 6 (by decide) rfl zf12_115 rfl rfl rfl dX12_goOn_63 (fun H locs M_59 eM_59 hw => ?_)
            have hd := zbd_eq eM_59 hd
            exact z_vret F hr hlk hw (Option.some.inj hd) dX12_goOn_66
        · have hd := zif_pos c_36 hd
          exact J20 _ hk0 _ _ _ _ (lv_sub hl [0] rfl) hw hd
  unfold zX12_goOn at hd
  exact L0 zF _ _ _ _ (lv_sub hl [0] rfl) hw hd

def zjX12_wrong_22 (sh : zShp) (k0 : Nat) (p1 : Int32)  (s0 : Nat) (s1 : Int32) (M : zMem) : Option (zMem) :=
  zbd (zpI M s0 8 s1) fun M_1 =>
  zbd (zpI M_1 k0 9 (zI M_1 k0 5)) fun M_2 =>
  some M_2
def zX12_wrong (sh : zShp) (k0 : Nat) (p1 : Int32) (M : zMem) : Option (zMem) :=
  if (zI M k0 8) ≤ 0 then (
  if (zI M k0 6) = (5 : Int32) then (
  zjX12_wrong_22 sh k0 p1 k0 (1 : Int32) M)
  else (
  zjX12_wrong_22 sh k0 p1 k0 p1 M))
  else (
  some M)
set_option maxHeartbeats 4000000 in
set_option maxRecDepth 100000 in
theorem ztX12_wrong (l : Launch) (D : va_G) (cy : Nat → ClassId) (sh : zShp) (ad : Nat → Nat) {k0 : Nat} {p1 : Int32} (h0 : zT sh k0 12) {M : zMem} {M1 : zMem} (hd : zX12_wrong sh k0 p1 M = some M1) : zCV l yX12_wrong cX12_wrong 2 { frames := 0, cells := 0, slots := 0, locals := 0 } [.ref (ad k0), .int p1] D cy sh ad M M1 := by
  refine zcv_of (by decide) (Nat.le_of_ble_eq_true rfl) (fun p e s m below meth c ls F hr hlk hl hw => ?_)
  have hx := F.1.1
  have hb := F.1.2.1
  have hl : lv_has ls 2 [(0, .ref (ad k0)), (1, .int p1)] := hl
  have J22 : ∀ (s0 : Nat) (s1 : Int32) (ts0 : zT sh s0 12) (M : zMem) (H : Heap) (locs : List Loc) (ls : Array Slot), lv_has ls 2 [(0, .ref (ad k0))] → zWd D cy sh ad s M H locs → zjX12_wrong_22 sh k0 p1  s0 s1 M = some M1 → W p l e { frames := 0, cells := 0, slots := 0, locals := 0 } s m ([.ref (ad k0), .int p1] : List Value).toArray below meth c H locs 0 0 (zQV below D cy sh ad s [.ref (ad k0), .int p1] M1) (F0 m 22 ls [.int s1, .ref (ad s0)]) := by
    intro  s0 s1 ts0 M H locs ls hl hw hd
    unfold zjX12_wrong_22 at hd
    refine z_pI F hw ts0 zc12 8 (by decide) rfl zf12_125 rfl rfl rfl dX12_wrong_22 (fun H locs M_1 eM_1 hw => ?_)
    have hd := zbd_eq eM_1 hd
    refine lv_aload_n hx hb dX12_wrong_25 rfl (lv_at hl 0 rfl) ?_
    refine lv_aload_n hx hb dX12_wrong_26 rfl (lv_at hl 0 rfl) ?_
    refine z_gI F hw h0 zc12 5 (by decide) rfl zf12_105 dX12_wrong_27 ?_
    refine z_pI F hw h0 zc12 9 (by decide) rfl zf12_16 rfl rfl rfl dX12_wrong_30 (fun H locs M_2 eM_2 hw => ?_)
    have hd := zbd_eq eM_2 hd
    exact z_vret F hr hlk hw (Option.some.inj hd) dX12_wrong_33
  unfold zX12_wrong at hd
  refine lv_aload_n hx hb dX12_wrong_0 rfl (lv_at hl 0 rfl) ?_
  refine z_gI F hw h0 zc12 8 (by decide) rfl zf12_125 dX12_wrong_1 ?_
  refine lv_if_le (tgt := 8) hx hb dX12_wrong_4 (by decide) (fun c_3 => ?_) (fun c_3 => ?_)
  · have hd := zif_pos c_3 hd
    refine lv_aload_n hx hb dX12_wrong_8 rfl (lv_at hl 0 rfl) ?_
    refine lv_aload_n hx hb dX12_wrong_9 rfl (lv_at hl 0 rfl) ?_
    refine z_gI F hw h0 zc12 6 (by decide) rfl zf12_115 dX12_wrong_10 ?_
    refine lv_iconst (v := (5 : Int32)) hx hb dX12_wrong_13 (by decide) ?_
    refine lv_icmp_ne (tgt := 21) hx hb dX12_wrong_14 (by decide) (fun c_4 => ?_) (fun c_4 => ?_)
    · have hd := zif_neg c_4 hd
      refine lv_iload_n hx hb dX12_wrong_21 rfl (lv_at hl 1 rfl) ?_
      exact J22 _ _ h0 _ _ _ _ (lv_sub hl [0] rfl) hw hd
    · have hd := zif_pos c_4 hd
      refine lv_iconst (v := (1 : Int32)) hx hb dX12_wrong_17 (by decide) ?_
      refine lv_goto (tgt := 22) hx hb dX12_wrong_18 (by decide) ?_
      exact J22 _ _ h0 _ _ _ _ (lv_sub hl [0] rfl) hw hd
  · have hd := zif_neg c_3 hd
    exact z_vret F hr hlk hw (Option.some.inj hd) dX12_wrong_7

def zjX12_isGood_12 (sh : zShp) (k0 : Nat) (M : zMem)  (s0 : Int32) : Option (Int32) :=
  zgd (zisB s0) <|
  some s0
def zX12_isGood (sh : zShp) (k0 : Nat) (M : zMem) : Option (Int32) :=
  if (zI M k0 8) = 0 then (
  zjX12_isGood_12 sh k0 M (1 : Int32))
  else (
  zjX12_isGood_12 sh k0 M (0 : Int32))
set_option maxHeartbeats 4000000 in
set_option maxRecDepth 100000 in
theorem ztX12_isGood (l : Launch) (D : va_G) (cy : Nat → ClassId) (sh : zShp) (ad : Nat → Nat) {k0 : Nat} (h0 : zT sh k0 12) {M : zMem} {r : Int32} (hd : zX12_isGood sh k0 M = some r) : zCI l yX12_isGood cX12_isGood 1 .boolean { frames := 0, cells := 0, slots := 0, locals := 0 } [.ref (ad k0)] D cy sh ad M r M := by
  refine zci_of (by decide) (Nat.le_of_ble_eq_true rfl) (fun p e s m below meth c ls F hr hlk hl hw => ?_)
  have hx := F.1.1
  have hb := F.1.2.1
  have hl : lv_has ls 1 [(0, .ref (ad k0))] := hl
  have J12 : ∀ (s0 : Int32) (H : Heap) (locs : List Loc) (ls : Array Slot), lv_has ls 1 [] → zWd D cy sh ad s M H locs → zjX12_isGood_12 sh k0 M  s0 = some r → W p l e { frames := 0, cells := 0, slots := 0, locals := 0 } s m ([.ref (ad k0)] : List Value).toArray below meth c H locs 0 0 (zQI below D cy sh ad s [.ref (ad k0)] r M) (F0 m 12 ls [.int s0]) := by
    intro  s0 H locs ls hl hw hd
    unfold zjX12_isGood_12 at hd
    obtain ⟨g_1, hd⟩ := zgd_some hd
    exact z_zret F hr hlk hw g_1 (Option.some.inj hd) rfl dX12_isGood_12
  unfold zX12_isGood at hd
  refine lv_aload_n hx hb dX12_isGood_0 rfl (lv_at hl 0 rfl) ?_
  refine z_gI F hw h0 zc12 8 (by decide) rfl zf12_125 dX12_isGood_1 ?_
  refine lv_if_ne (tgt := 11) hx hb dX12_isGood_4 (by decide) (fun c_2 => ?_) (fun c_2 => ?_)
  · have hd := zif_neg c_2 hd
    refine lv_iconst (v := (0 : Int32)) hx hb dX12_isGood_11 (by decide) ?_
    exact J12 _ _ _ _ (lv_sub hl [] rfl) hw hd
  · have hd := zif_pos c_2 hd
    refine lv_iconst (v := (1 : Int32)) hx hb dX12_isGood_7 (by decide) ?_
    refine lv_goto (tgt := 12) hx hb dX12_isGood_8 (by decide) ?_
    exact J12 _ _ _ _ (lv_sub hl [] rfl) hw hd

def zjX12_isWord_29 (sh : zShp) (k0 : Nat) (p1 : Int64) (M : zMem)  (s0 : Int32) : Option (Int32) :=
  zgd (zisB s0) <|
  some s0
def zjX12_isWord_28 (sh : zShp) (k0 : Nat) (p1 : Int64) (M : zMem)   : Option (Int32) :=
  zjX12_isWord_29 sh k0 p1 M (0 : Int32)
def zX12_isWord (sh : zShp) (k0 : Nat) (p1 : Int64) (M : zMem) : Option (Int32) :=
  if (zI M k0 8) = 0 then (
  if (zI M k0 6) = (1 : Int32) then (
  if (lg_cmp (zJ M k0 12) p1) = 0 then (
  zjX12_isWord_29 sh k0 p1 M (1 : Int32))
  else (
  zjX12_isWord_28 sh k0 p1 M))
  else (
  zjX12_isWord_28 sh k0 p1 M))
  else (
  zjX12_isWord_28 sh k0 p1 M)
set_option maxHeartbeats 4000000 in
set_option maxRecDepth 100000 in
theorem ztX12_isWord (l : Launch) (D : va_G) (cy : Nat → ClassId) (sh : zShp) (ad : Nat → Nat) {k0 : Nat} {p1 : Int64} (h0 : zT sh k0 12) {M : zMem} {r : Int32} (hd : zX12_isWord sh k0 p1 M = some r) : zCI l yX12_isWord cX12_isWord 3 .boolean { frames := 0, cells := 0, slots := 0, locals := 0 } [.ref (ad k0), .long p1] D cy sh ad M r M := by
  refine zci_of (by decide) (Nat.le_of_ble_eq_true rfl) (fun p e s m below meth c ls F hr hlk hl hw => ?_)
  have hx := F.1.1
  have hb := F.1.2.1
  have hl : lv_has ls 3 [(0, .ref (ad k0)), (1, .long p1)] := hl
  have J29 : ∀ (s0 : Int32) (H : Heap) (locs : List Loc) (ls : Array Slot), lv_has ls 3 [] → zWd D cy sh ad s M H locs → zjX12_isWord_29 sh k0 p1 M  s0 = some r → W p l e { frames := 0, cells := 0, slots := 0, locals := 0 } s m ([.ref (ad k0), .long p1] : List Value).toArray below meth c H locs 0 0 (zQI below D cy sh ad s [.ref (ad k0), .long p1] r M) (F0 m 29 ls [.int s0]) := by
    intro  s0 H locs ls hl hw hd
    unfold zjX12_isWord_29 at hd
    obtain ⟨g_1, hd⟩ := zgd_some hd
    exact z_zret F hr hlk hw g_1 (Option.some.inj hd) rfl dX12_isWord_29
  have J28 : ∀  (H : Heap) (locs : List Loc) (ls : Array Slot), lv_has ls 3 [] → zWd D cy sh ad s M H locs → zjX12_isWord_28 sh k0 p1 M   = some r → W p l e { frames := 0, cells := 0, slots := 0, locals := 0 } s m ([.ref (ad k0), .long p1] : List Value).toArray below meth c H locs 0 0 (zQI below D cy sh ad s [.ref (ad k0), .long p1] r M) (F0 m 28 ls []) := by
    intro  H locs ls hl hw hd
    unfold zjX12_isWord_28 at hd
    refine lv_iconst (v := (0 : Int32)) hx hb dX12_isWord_28 (by decide) ?_
    exact J29 _ _ _ _ (lv_sub hl [] rfl) hw hd
  unfold zX12_isWord at hd
  refine lv_aload_n hx hb dX12_isWord_0 rfl (lv_at hl 0 rfl) ?_
  refine z_gI F hw h0 zc12 8 (by decide) rfl zf12_125 dX12_isWord_1 ?_
  refine lv_if_ne (tgt := 28) hx hb dX12_isWord_4 (by decide) (fun c_2 => ?_) (fun c_2 => ?_)
  · have hd := zif_neg c_2 hd
    exact J28 _ _ _ (lv_sub hl [] rfl) hw hd
  · have hd := zif_pos c_2 hd
    refine lv_aload_n hx hb dX12_isWord_7 rfl (lv_at hl 0 rfl) ?_
    refine z_gI F hw h0 zc12 6 (by decide) rfl zf12_115 dX12_isWord_8 ?_
    refine lv_iconst (v := (1 : Int32)) hx hb dX12_isWord_11 (by decide) ?_
    refine lv_icmp_ne (tgt := 28) hx hb dX12_isWord_12 (by decide) (fun c_3 => ?_) (fun c_3 => ?_)
    · have hd := zif_neg c_3 hd
      exact J28 _ _ _ (lv_sub hl [] rfl) hw hd
    · have hd := zif_pos c_3 hd
      refine lv_aload_n hx hb dX12_isWord_15 rfl (lv_at hl 0 rfl) ?_
      refine z_gJ F hw h0 zc12 12 (by decide) rfl zf12_108 dX12_isWord_16 ?_
      refine lv_lload_n hx hb dX12_isWord_19 rfl (lv_at hl 1 rfl) ?_
      refine W.lcmp hx hb dX12_isWord_20 ?_
      refine lv_if_ne (tgt := 28) hx hb dX12_isWord_21 (by decide) (fun c_4 => ?_) (fun c_4 => ?_)
      · have hd := zif_neg c_4 hd
        exact J28 _ _ _ (lv_sub hl [] rfl) hw hd
      · have hd := zif_pos c_4 hd
        refine lv_iconst (v := (1 : Int32)) hx hb dX12_isWord_24 (by decide) ?_
        refine lv_goto (tgt := 29) hx hb dX12_isWord_25 (by decide) ?_
        exact J29 _ _ _ _ (lv_sub hl [] rfl) hw hd

def zjX12_isKept_148 (sh : zShp) (k0 : Nat) (M : zMem)  (s0 : Int32) : Option (Int32) :=
  zgd (zisB s0) <|
  some s0
def zjX12_isKept_143 (sh : zShp) (k0 : Nat) (M : zMem)   : Option (Int32) :=
  zjX12_isKept_148 sh k0 M (1 : Int32)
def zX12_isKept (sh : zShp) (k0 : Nat) (M : zMem) : Option (Int32) :=
  if (lg_cmp (zJ M k0 12) (1635281267 : Int64)) = 0 then (
  zjX12_isKept_143 sh k0 M)
  else (
  if (lg_cmp (zJ M k0 12) (470021336946 : Int64)) = 0 then (
  zjX12_isKept_143 sh k0 M)
  else (
  if (lg_cmp (zJ M k0 12) (1650552420 : Int64)) = 0 then (
  zjX12_isKept_143 sh k0 M)
  else (
  if (lg_cmp (zJ M k0 12) (6711672 : Int64)) = 0 then (
  zjX12_isKept_143 sh k0 M)
  else (
  if (lg_cmp (zJ M k0 12) (1668245868 : Int64)) = 0 then (
  zjX12_isKept_143 sh k0 M)
  else (
  if (lg_cmp (zJ M k0 12) (495806932324 : Int64)) = 0 then (
  zjX12_isKept_143 sh k0 M)
  else (
  if (lg_cmp (zJ M k0 12) (1734437230 : Int64)) = 0 then (
  zjX12_isKept_143 sh k0 M)
  else (
  if (lg_cmp (zJ M k0 12) (1785033323 : Int64)) = 0 then (
  zjX12_isKept_143 sh k0 M)
  else (
  if (lg_cmp (zJ M k0 12) (1752132708 : Int64)) = 0 then (
  zjX12_isKept_143 sh k0 M)
  else (
  if (lg_cmp (zJ M k0 12) (1835103091 : Int64)) = 0 then (
  zjX12_isKept_143 sh k0 M)
  else (
  if (lg_cmp (zJ M k0 12) (1684106608 : Int64)) = 0 then (
  zjX12_isKept_143 sh k0 M)
  else (
  if (lg_cmp (zJ M k0 12) (126948234783865 : Int64)) = 0 then (
  zjX12_isKept_143 sh k0 M)
  else (
  if (lg_cmp (zJ M k0 12) (1819243379 : Int64)) = 0 then (
  zjX12_isKept_143 sh k0 M)
  else (
  zjX12_isKept_148 sh k0 M (0 : Int32))))))))))))))
set_option maxHeartbeats 4000000 in
set_option maxRecDepth 100000 in
theorem ztX12_isKept (l : Launch) (D : va_G) (cy : Nat → ClassId) (sh : zShp) (ad : Nat → Nat) {k0 : Nat} (h0 : zT sh k0 12) {M : zMem} {r : Int32} (hd : zX12_isKept sh k0 M = some r) : zCI l yX12_isKept cX12_isKept 1 .boolean { frames := 0, cells := 0, slots := 0, locals := 0 } [.ref (ad k0)] D cy sh ad M r M := by
  refine zci_of (by decide) (Nat.le_of_ble_eq_true rfl) (fun p e s m below meth c ls F hr hlk hl hw => ?_)
  have hx := F.1.1
  have hb := F.1.2.1
  have hl : lv_has ls 1 [(0, .ref (ad k0))] := hl
  have J148 : ∀ (s0 : Int32) (H : Heap) (locs : List Loc) (ls : Array Slot), lv_has ls 1 [] → zWd D cy sh ad s M H locs → zjX12_isKept_148 sh k0 M  s0 = some r → W p l e { frames := 0, cells := 0, slots := 0, locals := 0 } s m ([.ref (ad k0)] : List Value).toArray below meth c H locs 0 0 (zQI below D cy sh ad s [.ref (ad k0)] r M) (F0 m 148 ls [.int s0]) := by
    intro  s0 H locs ls hl hw hd
    unfold zjX12_isKept_148 at hd
    obtain ⟨g_1, hd⟩ := zgd_some hd
    exact z_zret F hr hlk hw g_1 (Option.some.inj hd) rfl dX12_isKept_148
  have J143 : ∀  (H : Heap) (locs : List Loc) (ls : Array Slot), lv_has ls 1 [] → zWd D cy sh ad s M H locs → zjX12_isKept_143 sh k0 M   = some r → W p l e { frames := 0, cells := 0, slots := 0, locals := 0 } s m ([.ref (ad k0)] : List Value).toArray below meth c H locs 0 0 (zQI below D cy sh ad s [.ref (ad k0)] r M) (F0 m 143 ls []) := by
    intro  H locs ls hl hw hd
    unfold zjX12_isKept_143 at hd
    refine lv_iconst (v := (1 : Int32)) hx hb dX12_isKept_143 (by decide) ?_
    refine lv_goto (tgt := 148) hx hb dX12_isKept_144 (by decide) ?_
    exact J148 _ _ _ _ (lv_sub hl [] rfl) hw hd
  unfold zX12_isKept at hd
  refine lv_aload_n hx hb dX12_isKept_0 rfl (lv_at hl 0 rfl) ?_
  refine z_gJ F hw h0 zc12 12 (by decide) rfl zf12_108 dX12_isKept_1 ?_
  refine lv_ldc2 (v := (1635281267 : Int64)) hx hb F.1.2.2.2.1 (F.1.2.2.2.2 _ zi12_128) dX12_isKept_4 ?_
  refine W.lcmp hx hb dX12_isKept_7 ?_
  refine lv_if_eq (tgt := 143) hx hb dX12_isKept_8 (by decide) (fun c_2 => ?_) (fun c_2 => ?_)
  · have hd := zif_pos c_2 hd
    exact J143 _ _ _ (lv_sub hl [] rfl) hw hd
  · have hd := zif_neg c_2 hd
    refine lv_aload_n hx hb dX12_isKept_11 rfl (lv_at hl 0 rfl) ?_
    refine z_gJ F hw h0 zc12 12 (by decide) rfl zf12_108 dX12_isKept_12 ?_
    refine lv_ldc2 (v := (470021336946 : Int64)) hx hb F.1.2.2.2.1 (F.1.2.2.2.2 _ zi12_130) dX12_isKept_15 ?_
    refine W.lcmp hx hb dX12_isKept_18 ?_
    refine lv_if_eq (tgt := 143) hx hb dX12_isKept_19 (by decide) (fun c_3 => ?_) (fun c_3 => ?_)
    · have hd := zif_pos c_3 hd
      exact J143 _ _ _ (lv_sub hl [] rfl) hw hd
    · have hd := zif_neg c_3 hd
      refine lv_aload_n hx hb dX12_isKept_22 rfl (lv_at hl 0 rfl) ?_
      refine z_gJ F hw h0 zc12 12 (by decide) rfl zf12_108 dX12_isKept_23 ?_
      refine lv_ldc2 (v := (1650552420 : Int64)) hx hb F.1.2.2.2.1 (F.1.2.2.2.2 _ zi12_132) dX12_isKept_26 ?_
      refine W.lcmp hx hb dX12_isKept_29 ?_
      refine lv_if_eq (tgt := 143) hx hb dX12_isKept_30 (by decide) (fun c_4 => ?_) (fun c_4 => ?_)
      · have hd := zif_pos c_4 hd
        exact J143 _ _ _ (lv_sub hl [] rfl) hw hd
      · have hd := zif_neg c_4 hd
        refine lv_aload_n hx hb dX12_isKept_33 rfl (lv_at hl 0 rfl) ?_
        refine z_gJ F hw h0 zc12 12 (by decide) rfl zf12_108 dX12_isKept_34 ?_
        refine lv_ldc2 (v := (6711672 : Int64)) hx hb F.1.2.2.2.1 (F.1.2.2.2.2 _ zi12_134) dX12_isKept_37 ?_
        refine W.lcmp hx hb dX12_isKept_40 ?_
        refine lv_if_eq (tgt := 143) hx hb dX12_isKept_41 (by decide) (fun c_5 => ?_) (fun c_5 => ?_)
        · have hd := zif_pos c_5 hd
          exact J143 _ _ _ (lv_sub hl [] rfl) hw hd
        · have hd := zif_neg c_5 hd
          refine lv_aload_n hx hb dX12_isKept_44 rfl (lv_at hl 0 rfl) ?_
          refine z_gJ F hw h0 zc12 12 (by decide) rfl zf12_108 dX12_isKept_45 ?_
          refine lv_ldc2 (v := (1668245868 : Int64)) hx hb F.1.2.2.2.1 (F.1.2.2.2.2 _ zi12_136) dX12_isKept_48 ?_
          refine W.lcmp hx hb dX12_isKept_51 ?_
          refine lv_if_eq (tgt := 143) hx hb dX12_isKept_52 (by decide) (fun c_6 => ?_) (fun c_6 => ?_)
          · have hd := zif_pos c_6 hd
            exact J143 _ _ _ (lv_sub hl [] rfl) hw hd
          · have hd := zif_neg c_6 hd
            refine lv_aload_n hx hb dX12_isKept_55 rfl (lv_at hl 0 rfl) ?_
            refine z_gJ F hw h0 zc12 12 (by decide) rfl zf12_108 dX12_isKept_56 ?_
            refine lv_ldc2 (v := (495806932324 : Int64)) hx hb F.1.2.2.2.1 (F.1.2.2.2.2 _ zi12_138) dX12_isKept_59 ?_
            refine W.lcmp hx hb dX12_isKept_62 ?_
            refine lv_if_eq (tgt := 143) hx hb dX12_isKept_63 (by decide) (fun c_7 => ?_) (fun c_7 => ?_)
            · have hd := zif_pos c_7 hd
              exact J143 _ _ _ (lv_sub hl [] rfl) hw hd
            · have hd := zif_neg c_7 hd
              refine lv_aload_n hx hb dX12_isKept_66 rfl (lv_at hl 0 rfl) ?_
              refine z_gJ F hw h0 zc12 12 (by decide) rfl zf12_108 dX12_isKept_67 ?_
              refine lv_ldc2 (v := (1734437230 : Int64)) hx hb F.1.2.2.2.1 (F.1.2.2.2.2 _ zi12_140) dX12_isKept_70 ?_
              refine W.lcmp hx hb dX12_isKept_73 ?_
              refine lv_if_eq (tgt := 143) hx hb dX12_isKept_74 (by decide) (fun c_8 => ?_) (fun c_8 => ?_)
              · have hd := zif_pos c_8 hd
                exact J143 _ _ _ (lv_sub hl [] rfl) hw hd
              · have hd := zif_neg c_8 hd
                refine lv_aload_n hx hb dX12_isKept_77 rfl (lv_at hl 0 rfl) ?_
                refine z_gJ F hw h0 zc12 12 (by decide) rfl zf12_108 dX12_isKept_78 ?_
                refine lv_ldc2 (v := (1785033323 : Int64)) hx hb F.1.2.2.2.1 (F.1.2.2.2.2 _ zi12_142) dX12_isKept_81 ?_
                refine W.lcmp hx hb dX12_isKept_84 ?_
                refine lv_if_eq (tgt := 143) hx hb dX12_isKept_85 (by decide) (fun c_9 => ?_) (fun c_9 => ?_)
                · have hd := zif_pos c_9 hd
                  exact J143 _ _ _ (lv_sub hl [] rfl) hw hd
                · have hd := zif_neg c_9 hd
                  refine lv_aload_n hx hb dX12_isKept_88 rfl (lv_at hl 0 rfl) ?_
                  refine z_gJ F hw h0 zc12 12 (by decide) rfl zf12_108 dX12_isKept_89 ?_
                  refine lv_ldc2 (v := (1752132708 : Int64)) hx hb F.1.2.2.2.1 (F.1.2.2.2.2 _ zi12_144) dX12_isKept_92 ?_
                  refine W.lcmp hx hb dX12_isKept_95 ?_
                  refine lv_if_eq (tgt := 143) hx hb dX12_isKept_96 (by decide) (fun c_10 => ?_) (fun c_10 => ?_)
                  · have hd := zif_pos c_10 hd
                    exact J143 _ _ _ (lv_sub hl [] rfl) hw hd
                  · have hd := zif_neg c_10 hd
                    refine lv_aload_n hx hb dX12_isKept_99 rfl (lv_at hl 0 rfl) ?_
                    refine z_gJ F hw h0 zc12 12 (by decide) rfl zf12_108 dX12_isKept_100 ?_
                    refine lv_ldc2 (v := (1835103091 : Int64)) hx hb F.1.2.2.2.1 (F.1.2.2.2.2 _ zi12_146) dX12_isKept_103 ?_
                    refine W.lcmp hx hb dX12_isKept_106 ?_
                    refine lv_if_eq (tgt := 143) hx hb dX12_isKept_107 (by decide) (fun c_11 => ?_) (fun c_11 => ?_)
                    · have hd := zif_pos c_11 hd
                      exact J143 _ _ _ (lv_sub hl [] rfl) hw hd
                    · have hd := zif_neg c_11 hd
                      refine lv_aload_n hx hb dX12_isKept_110 rfl (lv_at hl 0 rfl) ?_
                      refine z_gJ F hw h0 zc12 12 (by decide) rfl zf12_108 dX12_isKept_111 ?_
                      refine lv_ldc2 (v := (1684106608 : Int64)) hx hb F.1.2.2.2.1 (F.1.2.2.2.2 _ zi12_148) dX12_isKept_114 ?_
                      refine W.lcmp hx hb dX12_isKept_117 ?_
                      refine lv_if_eq (tgt := 143) hx hb dX12_isKept_118 (by decide) (fun c_12 => ?_) (fun c_12 => ?_)
                      · have hd := zif_pos c_12 hd
                        exact J143 _ _ _ (lv_sub hl [] rfl) hw hd
                      · have hd := zif_neg c_12 hd
                        refine lv_aload_n hx hb dX12_isKept_121 rfl (lv_at hl 0 rfl) ?_
                        refine z_gJ F hw h0 zc12 12 (by decide) rfl zf12_108 dX12_isKept_122 ?_
                        refine lv_ldc2 (v := (126948234783865 : Int64)) hx hb F.1.2.2.2.1 (F.1.2.2.2.2 _ zi12_150) dX12_isKept_125 ?_
                        refine W.lcmp hx hb dX12_isKept_128 ?_
                        refine lv_if_eq (tgt := 143) hx hb dX12_isKept_129 (by decide) (fun c_13 => ?_) (fun c_13 => ?_)
                        · have hd := zif_pos c_13 hd
                          exact J143 _ _ _ (lv_sub hl [] rfl) hw hd
                        · have hd := zif_neg c_13 hd
                          refine lv_aload_n hx hb dX12_isKept_132 rfl (lv_at hl 0 rfl) ?_
                          refine z_gJ F hw h0 zc12 12 (by decide) rfl zf12_108 dX12_isKept_133 ?_
                          refine lv_ldc2 (v := (1819243379 : Int64)) hx hb F.1.2.2.2.1 (F.1.2.2.2.2 _ zi12_152) dX12_isKept_136 ?_
                          refine W.lcmp hx hb dX12_isKept_139 ?_
                          refine lv_if_ne (tgt := 147) hx hb dX12_isKept_140 (by decide) (fun c_14 => ?_) (fun c_14 => ?_)
                          · have hd := zif_neg c_14 hd
                            refine lv_iconst (v := (0 : Int32)) hx hb dX12_isKept_147 (by decide) ?_
                            exact J148 _ _ _ _ (lv_sub hl [] rfl) hw hd
                          · have hd := zif_pos c_14 hd
                            exact J143 _ _ _ (lv_sub hl [] rfl) hw hd

def zjX12_must_28 (sh : zShp) (k0 : Nat) (p1 : Int64)  (M : zMem) : Option (zMem) :=
  some M
def zX12_must (sh : zShp) (k0 : Nat) (p1 : Int64) (M : zMem) : Option (zMem) :=
  if (zI M k0 8) ≤ 0 then (
  zob (zX12_isWord sh k0 p1 M) fun r_3 =>
  if r_3 = 0 then (
  zob (zX12_wrong sh k0 (2 : Int32) M) fun M_6 =>
  zjX12_must_28 sh k0 p1 M_6)
  else (
  zob (zX12_goOn sh k0 M) fun M_8 =>
  zjX12_must_28 sh k0 p1 M_8))
  else (
  some M)
set_option maxHeartbeats 4000000 in
set_option maxRecDepth 100000 in
theorem ztX12_must (l : Launch) (D : va_G) (cy : Nat → ClassId) (sh : zShp) (ad : Nat → Nat) {k0 : Nat} {p1 : Int64} (h0 : zT sh k0 12) {M : zMem} {M1 : zMem} (hd : zX12_must sh k0 p1 M = some M1) : zCV l yX12_must cX12_must 3 { frames := 2, cells := 0, slots := 0, locals := 42 } [.ref (ad k0), .long p1] D cy sh ad M M1 := by
  refine zcv_of (by decide) (Nat.le_of_ble_eq_true rfl) (fun p e s m below meth c ls F hr hlk hl hw => ?_)
  have hx := F.1.1
  have hb := F.1.2.1
  have hl : lv_has ls 3 [(0, .ref (ad k0)), (1, .long p1)] := hl
  have J28 : ∀ (M : zMem) (H : Heap) (locs : List Loc) (ls : Array Slot), lv_has ls 3 [] → zWd D cy sh ad s M H locs → zjX12_must_28 sh k0 p1  M = some M1 → W p l e { frames := 2, cells := 0, slots := 0, locals := 42 } s m ([.ref (ad k0), .long p1] : List Value).toArray below meth c H locs 0 0 (zQV below D cy sh ad s [.ref (ad k0), .long p1] M1) (F0 m 28 ls []) := by
    intro  M H locs ls hl hw hd
    unfold zjX12_must_28 at hd
    exact z_vret F hr hlk hw (Option.some.inj hd) dX12_must_28
  unfold zX12_must at hd
  refine lv_aload_n hx hb dX12_must_0 rfl (lv_at hl 0 rfl) ?_
  refine z_gI F hw h0 zc12 8 (by decide) rfl zf12_125 dX12_must_1 ?_
  refine lv_if_le (tgt := 8) hx hb dX12_must_4 (by decide) (fun c_1 => ?_) (fun c_1 => ?_)
  · have hd := zif_pos c_1 hd
    refine lv_aload_n hx hb dX12_must_8 rfl (lv_at hl 0 rfl) ?_
    refine lv_lload_n hx hb dX12_must_9 rfl (lv_at hl 1 rfl) ?_
    obtain ⟨r_3, hc_2, hd⟩ := zob_some hd
    refine z_cvI F hw hl.1 (As := [.long p1]) (rest := []) (ztX12_isWord l D cy sh ad h0 hc_2) zyX12_isWord h0 zc12 zk12_154 ⟨rfl, rfl⟩ ⟨by decide, by decide⟩ rfl rfl (Nat.le_of_ble_eq_true rfl) dX12_must_10 (fun H locs hw => ?_)
    refine lv_if_eq (tgt := 23) hx hb dX12_must_13 (by decide) (fun c_4 => ?_) (fun c_4 => ?_)
    · have hd := zif_pos c_4 hd
      refine lv_aload_n hx hb dX12_must_23 rfl (lv_at hl 0 rfl) ?_
      refine lv_iconst (v := (2 : Int32)) hx hb dX12_must_24 (by decide) ?_
      obtain ⟨M_6, hc_5, hd⟩ := zob_some hd
      refine z_cvV F hw hl.1 (As := [.int (2 : Int32)]) (rest := []) (ztX12_wrong l D cy sh ad h0 hc_5) zyX12_wrong h0 zc12 zk12_161 ⟨rfl, rfl⟩ ⟨by decide, by decide⟩ rfl rfl (Nat.le_of_ble_eq_true rfl) dX12_must_25 (fun H locs hw => ?_)
      exact J28 _ _ _ _ (lv_sub hl [] rfl) hw hd
    · have hd := zif_neg c_4 hd
      refine lv_aload_n hx hb dX12_must_16 rfl (lv_at hl 0 rfl) ?_
      obtain ⟨M_8, hc_7, hd⟩ := zob_some hd
      refine z_cvV F hw hl.1 (As := []) (rest := []) (ztX12_goOn l D cy sh ad h0 hc_7) zyX12_goOn h0 zc12 zk12_158 ⟨rfl, rfl⟩ ⟨by decide, by decide⟩ rfl rfl (Nat.le_of_ble_eq_true rfl) dX12_must_17 (fun H locs hw => ?_)
      refine lv_goto (tgt := 28) hx hb dX12_must_20 (by decide) ?_
      exact J28 _ _ _ _ (lv_sub hl [] rfl) hw hd
  · have hd := zif_neg c_1 hd
    exact z_vret F hr hlk hw (Option.some.inj hd) dX12_must_7

def zjX12_numberHere_47 (sh : zShp) (k0 : Nat) (p1 : Int32) (p2 : Int32) (p3 : Int32)  (M : zMem) : Option (Int32 × zMem) :=
  some ((p3 * (zI M k0 7)), M)
def zX12_numberHere (sh : zShp) (k0 : Nat) (p1 : Int32) (p2 : Int32) (p3 : Int32) (M : zMem) : Option (Int32 × zMem) :=
  if (zI M k0 8) ≤ 0 then (
  if (zI M k0 6) = (2 : Int32) then (
  zob (zX12_isIn sh ((p3 * (zI M k0 7)).toInt64) (p1.toInt64) (p2.toInt64) M) fun r_4 =>
  if r_4 = 0 then (
  zob (zX12_wrong sh k0 (4 : Int32) M) fun M_7 =>
  zjX12_numberHere_47 sh k0 p1 p2 p3 M_7)
  else (
  zjX12_numberHere_47 sh k0 p1 p2 p3 M))
  else (
  zob (zX12_wrong sh k0 (2 : Int32) M) fun M_9 =>
  zjX12_numberHere_47 sh k0 p1 p2 p3 M_9))
  else (
  some ((0 : Int32), M))
set_option maxHeartbeats 4000000 in
set_option maxRecDepth 100000 in
theorem ztX12_numberHere (l : Launch) (D : va_G) (cy : Nat → ClassId) (sh : zShp) (ad : Nat → Nat) {k0 : Nat} {p1 : Int32} {p2 : Int32} {p3 : Int32} (h0 : zT sh k0 12) {M : zMem} {r : Int32} {M1 : zMem} (hd : zX12_numberHere sh k0 p1 p2 p3 M = some (r, M1)) : zCI l yX12_numberHere cX12_numberHere 4 .int { frames := 1, cells := 0, slots := 0, locals := 25 } [.ref (ad k0), .int p1, .int p2, .int p3] D cy sh ad M r M1 := by
  refine zci_of (by decide) (Nat.le_of_ble_eq_true rfl) (fun p e s m below meth c ls F hr hlk hl hw => ?_)
  have hx := F.1.1
  have hb := F.1.2.1
  have hl : lv_has ls 4 [(0, .ref (ad k0)), (1, .int p1), (2, .int p2), (3, .int p3)] := hl
  have J47 : ∀ (M : zMem) (H : Heap) (locs : List Loc) (ls : Array Slot), lv_has ls 4 [(0, .ref (ad k0)), (3, .int p3)] → zWd D cy sh ad s M H locs → zjX12_numberHere_47 sh k0 p1 p2 p3  M = some (r, M1) → W p l e { frames := 1, cells := 0, slots := 0, locals := 25 } s m ([.ref (ad k0), .int p1, .int p2, .int p3] : List Value).toArray below meth c H locs 0 0 (zQI below D cy sh ad s [.ref (ad k0), .int p1, .int p2, .int p3] r M1) (F0 m 47 ls []) := by
    intro  M H locs ls hl hw hd
    unfold zjX12_numberHere_47 at hd
    refine lv_iload_n hx hb dX12_numberHere_47 rfl (lv_at hl 1 rfl) ?_
    refine lv_aload_n hx hb dX12_numberHere_48 rfl (lv_at hl 0 rfl) ?_
    refine z_gI F hw h0 zc12 7 (by decide) rfl zf12_112 dX12_numberHere_49 ?_
    refine lv_imul hx hb dX12_numberHere_52 ?_
    exact z_iret F hr hlk hw (zpr1 hd) (zpr2 hd) dX12_numberHere_53
  unfold zX12_numberHere at hd
  refine lv_aload_n hx hb dX12_numberHere_0 rfl (lv_at hl 0 rfl) ?_
  refine z_gI F hw h0 zc12 8 (by decide) rfl zf12_125 dX12_numberHere_1 ?_
  refine lv_if_le (tgt := 9) hx hb dX12_numberHere_4 (by decide) (fun c_1 => ?_) (fun c_1 => ?_)
  · have hd := zif_pos c_1 hd
    refine lv_aload_n hx hb dX12_numberHere_9 rfl (lv_at hl 0 rfl) ?_
    refine z_gI F hw h0 zc12 6 (by decide) rfl zf12_115 dX12_numberHere_10 ?_
    refine lv_iconst (v := (2 : Int32)) hx hb dX12_numberHere_13 (by decide) ?_
    refine lv_icmp_eq (tgt := 25) hx hb dX12_numberHere_14 (by decide) (fun c_2 => ?_) (fun c_2 => ?_)
    · have hd := zif_pos c_2 hd
      refine lv_iload_n hx hb dX12_numberHere_25 rfl (lv_at hl 3 rfl) ?_
      refine lv_aload_n hx hb dX12_numberHere_26 rfl (lv_at hl 0 rfl) ?_
      refine z_gI F hw h0 zc12 7 (by decide) rfl zf12_112 dX12_numberHere_27 ?_
      refine lv_imul hx hb dX12_numberHere_30 ?_
      refine lv_i2l (v := (p3 * (zI M k0 7)).toInt64) hx hb dX12_numberHere_31 rfl ?_
      refine lv_iload_n hx hb dX12_numberHere_32 rfl (lv_at hl 1 rfl) ?_
      refine lv_i2l (v := p1.toInt64) hx hb dX12_numberHere_33 rfl ?_
      refine lv_iload_n hx hb dX12_numberHere_34 rfl (lv_at hl 2 rfl) ?_
      refine lv_i2l (v := p2.toInt64) hx hb dX12_numberHere_35 rfl ?_
      obtain ⟨r_4, hc_3, hd⟩ := zob_some hd
      refine z_csI F hw hl.1 (As := [.long ((p3 * (zI M k0 7)).toInt64), .long (p1.toInt64), .long (p2.toInt64)]) (rest := []) (ztX12_isIn l D cy sh ad  hc_3) zyX12_isIn zk12_91 ⟨rfl, rfl⟩ ⟨by decide, by decide⟩ rfl rfl (Nat.le_of_ble_eq_true rfl) dX12_numberHere_36 (fun H locs hw => ?_)
      refine lv_if_ne (tgt := 47) hx hb dX12_numberHere_39 (by decide) (fun c_5 => ?_) (fun c_5 => ?_)
      · have hd := zif_neg c_5 hd
        exact J47 _ _ _ _ (lv_sub hl [0, 3] rfl) hw hd
      · have hd := zif_pos c_5 hd
        refine lv_aload_n hx hb dX12_numberHere_42 rfl (lv_at hl 0 rfl) ?_
        refine lv_iconst (v := (4 : Int32)) hx hb dX12_numberHere_43 (by decide) ?_
        obtain ⟨M_7, hc_6, hd⟩ := zob_some hd
        refine z_cvV F hw hl.1 (As := [.int (4 : Int32)]) (rest := []) (ztX12_wrong l D cy sh ad h0 hc_6) zyX12_wrong h0 zc12 zk12_161 ⟨rfl, rfl⟩ ⟨by decide, by decide⟩ rfl rfl (Nat.le_of_ble_eq_true rfl) dX12_numberHere_44 (fun H locs hw => ?_)
        exact J47 _ _ _ _ (lv_sub hl [0, 3] rfl) hw hd
    · have hd := zif_neg c_2 hd
      refine lv_aload_n hx hb dX12_numberHere_17 rfl (lv_at hl 0 rfl) ?_
      refine lv_iconst (v := (2 : Int32)) hx hb dX12_numberHere_18 (by decide) ?_
      obtain ⟨M_9, hc_8, hd⟩ := zob_some hd
      refine z_cvV F hw hl.1 (As := [.int (2 : Int32)]) (rest := []) (ztX12_wrong l D cy sh ad h0 hc_8) zyX12_wrong h0 zc12 zk12_161 ⟨rfl, rfl⟩ ⟨by decide, by decide⟩ rfl rfl (Nat.le_of_ble_eq_true rfl) dX12_numberHere_19 (fun H locs hw => ?_)
      refine lv_goto (tgt := 47) hx hb dX12_numberHere_22 (by decide) ?_
      exact J47 _ _ _ _ (lv_sub hl [0, 3] rfl) hw hd
  · have hd := zif_neg c_1 hd
    refine lv_iconst (v := (0 : Int32)) hx hb dX12_numberHere_7 (by decide) ?_
    exact z_iret F hr hlk hw (zpr1 hd) (zpr2 hd) dX12_numberHere_8

def zjX12_number_19 (sh : zShp) (k0 : Nat) (p1 : Int32) (p2 : Int32)  (x3 : Int32) (M : zMem) : Option (Int32 × zMem) :=
  some (x3, M)
def zX12_number (sh : zShp) (k0 : Nat) (p1 : Int32) (p2 : Int32) (M : zMem) : Option (Int32 × zMem) :=
  zob2 (zX12_numberHere sh k0 p1 p2 (1 : Int32) M) fun r_2 M_3 =>
  zob (zX12_isGood sh k0 M_3) fun r_5 =>
  if r_5 = 0 then (
  zjX12_number_19 sh k0 p1 p2 r_2 M_3)
  else (
  zob (zX12_goOn sh k0 M_3) fun M_8 =>
  zjX12_number_19 sh k0 p1 p2 r_2 M_8)
set_option maxHeartbeats 4000000 in
set_option maxRecDepth 100000 in
theorem ztX12_number (l : Launch) (D : va_G) (cy : Nat → ClassId) (sh : zShp) (ad : Nat → Nat) {k0 : Nat} {p1 : Int32} {p2 : Int32} (h0 : zT sh k0 12) {M : zMem} {r : Int32} {M1 : zMem} (hd : zX12_number sh k0 p1 p2 M = some (r, M1)) : zCI l yX12_number cX12_number 4 .int { frames := 2, cells := 0, slots := 0, locals := 48 } [.ref (ad k0), .int p1, .int p2] D cy sh ad M r M1 := by
  refine zci_of (by decide) (Nat.le_of_ble_eq_true rfl) (fun p e s m below meth c ls F hr hlk hl hw => ?_)
  have hx := F.1.1
  have hb := F.1.2.1
  have hl : lv_has ls 4 [(0, .ref (ad k0)), (1, .int p1), (2, .int p2)] := hl
  have J19 : ∀ (x3 : Int32) (M : zMem) (H : Heap) (locs : List Loc) (ls : Array Slot), lv_has ls 4 [(3, .int x3)] → zWd D cy sh ad s M H locs → zjX12_number_19 sh k0 p1 p2  x3 M = some (r, M1) → W p l e { frames := 2, cells := 0, slots := 0, locals := 48 } s m ([.ref (ad k0), .int p1, .int p2] : List Value).toArray below meth c H locs 0 0 (zQI below D cy sh ad s [.ref (ad k0), .int p1, .int p2] r M1) (F0 m 19 ls []) := by
    intro  x3 M H locs ls hl hw hd
    unfold zjX12_number_19 at hd
    refine lv_iload_n hx hb dX12_number_19 rfl (lv_at hl 0 rfl) ?_
    exact z_iret F hr hlk hw (zpr1 hd) (zpr2 hd) dX12_number_20
  unfold zX12_number at hd
  refine lv_aload_n hx hb dX12_number_0 rfl (lv_at hl 0 rfl) ?_
  refine lv_iload_n hx hb dX12_number_1 rfl (lv_at hl 1 rfl) ?_
  refine lv_iload_n hx hb dX12_number_2 rfl (lv_at hl 2 rfl) ?_
  refine lv_iconst (v := (1 : Int32)) hx hb dX12_number_3 (by decide) ?_
  obtain ⟨r_2, M_3, hc_1, hd⟩ := zob2_some hd
  refine z_cvI F hw hl.1 (As := [.int p1, .int p2, .int (1 : Int32)]) (rest := []) (ztX12_numberHere l D cy sh ad h0 hc_1) zyX12_numberHere h0 zc12 zk12_164 ⟨rfl, rfl⟩ ⟨by decide, by decide⟩ rfl rfl (Nat.le_of_ble_eq_true rfl) dX12_number_4 (fun H locs hw => ?_)
  refine lv_istore_n (lv' := [(3, .int r_2), (0, .ref (ad k0)), (1, .int p1), (2, .int p2)]) hx hb dX12_number_7 rfl hl (by decide) rfl (fun ls hl => ?_)
  refine lv_aload_n hx hb dX12_number_8 rfl (lv_at hl 1 rfl) ?_
  obtain ⟨r_5, hc_4, hd⟩ := zob_some hd
  refine z_cvI F hw hl.1 (As := []) (rest := []) (ztX12_isGood l D cy sh ad h0 hc_4) zyX12_isGood h0 zc12 zk12_168 ⟨rfl, rfl⟩ ⟨by decide, by decide⟩ rfl rfl (Nat.le_of_ble_eq_true rfl) dX12_number_9 (fun H locs hw => ?_)
  refine lv_if_eq (tgt := 19) hx hb dX12_number_12 (by decide) (fun c_6 => ?_) (fun c_6 => ?_)
  · have hd := zif_pos c_6 hd
    exact J19 _ _ _ _ _ (lv_sub hl [0] rfl) hw hd
  · have hd := zif_neg c_6 hd
    refine lv_aload_n hx hb dX12_number_15 rfl (lv_at hl 1 rfl) ?_
    obtain ⟨M_8, hc_7, hd⟩ := zob_some hd
    refine z_cvV F hw hl.1 (As := []) (rest := []) (ztX12_goOn l D cy sh ad h0 hc_7) zyX12_goOn h0 zc12 zk12_158 ⟨rfl, rfl⟩ ⟨by decide, by decide⟩ rfl rfl (Nat.le_of_ble_eq_true rfl) dX12_number_16 (fun H locs hw => ?_)
    exact J19 _ _ _ _ _ (lv_sub hl [0] rfl) hw hd

def zX12_behind (sh : zShp) (k0 : Nat) (p1 : Int64) (p3 : Int32) (p4 : Int32) (M : zMem) : Option (Int32 × zMem) :=
  zob (zX12_must sh k0 p1 M) fun M_2 =>
  zob2 (zX12_number sh k0 p3 p4 M_2) fun r_4 M_5 =>
  some (r_4, M_5)
set_option maxHeartbeats 4000000 in
set_option maxRecDepth 100000 in
theorem ztX12_behind (l : Launch) (D : va_G) (cy : Nat → ClassId) (sh : zShp) (ad : Nat → Nat) {k0 : Nat} {p1 : Int64} {p3 : Int32} {p4 : Int32} (h0 : zT sh k0 12) {M : zMem} {r : Int32} {M1 : zMem} (hd : zX12_behind sh k0 p1 p3 p4 M = some (r, M1)) : zCI l yX12_behind cX12_behind 5 .int { frames := 3, cells := 0, slots := 0, locals := 71 } [.ref (ad k0), .long p1, .int p3, .int p4] D cy sh ad M r M1 := by
  refine zci_of (by decide) (Nat.le_of_ble_eq_true rfl) (fun p e s m below meth c ls F hr hlk hl hw => ?_)
  have hx := F.1.1
  have hb := F.1.2.1
  have hl : lv_has ls 5 [(0, .ref (ad k0)), (1, .long p1), (3, .int p3), (4, .int p4)] := hl
  unfold zX12_behind at hd
  refine lv_aload_n hx hb dX12_behind_0 rfl (lv_at hl 0 rfl) ?_
  refine lv_lload_n hx hb dX12_behind_1 rfl (lv_at hl 1 rfl) ?_
  obtain ⟨M_2, hc_1, hd⟩ := zob_some hd
  refine z_cvV F hw hl.1 (As := [.long p1]) (rest := []) (ztX12_must l D cy sh ad h0 hc_1) zyX12_must h0 zc12 zk12_172 ⟨rfl, rfl⟩ ⟨by decide, by decide⟩ rfl rfl (Nat.le_of_ble_eq_true rfl) dX12_behind_2 (fun H locs hw => ?_)
  refine lv_aload_n hx hb dX12_behind_5 rfl (lv_at hl 0 rfl) ?_
  refine lv_iload_n hx hb dX12_behind_6 rfl (lv_at hl 2 rfl) ?_
  refine lv_iload hx hb dX12_behind_7 (lv_at hl 3 rfl) ?_
  obtain ⟨r_4, M_5, hc_3, hd⟩ := zob2_some hd
  refine z_cvI F hw hl.1 (As := [.int p3, .int p4]) (rest := []) (ztX12_number l D cy sh ad h0 hc_3) zyX12_number h0 zc12 zk12_176 ⟨rfl, rfl⟩ ⟨by decide, by decide⟩ rfl rfl (Nat.le_of_ble_eq_true rfl) dX12_behind_9 (fun H locs hw => ?_)
  exact z_iret F hr hlk hw (zpr1 hd) (zpr2 hd) dX12_behind_12

def zbX12_nameAt_2 (sh : zShp) (k0 : Nat) (M : zMem)  (kk2 : Int32 → Option (Int32)) (x1 : Int32) : Option (Int32) :=
  if (zI M k0 23) ≤ x1 then (
  some (-1 : Int32))
  else (
  zgd (zin x1 (zlen sh (zR M k0 13))) <|
  if (lg_cmp (zJ M (zR M k0 13) x1.toNatClampNeg) (zJ M k0 12)) = 0 then (
  some x1)
  else (
  kk2 (x1 + (1 : Int32))))
def zlX12_nameAt_2 (sh : zShp) (k0 : Nat) (M : zMem)  : Nat → Int32 → Option (Int32)
  | 0 => fun _ => none
  | n + 1 => fun x1 => zbX12_nameAt_2 sh k0 M  (zlX12_nameAt_2 sh k0 M  n) x1
def zX12_nameAt (sh : zShp) (k0 : Nat) (M : zMem) : Option (Int32) :=
  zlX12_nameAt_2 sh k0 M zF (0 : Int32)
set_option maxHeartbeats 4000000 in
set_option maxRecDepth 100000 in
theorem ztX12_nameAt (l : Launch) (D : va_G) (cy : Nat → ClassId) (sh : zShp) (ad : Nat → Nat) {k0 : Nat} (h0 : zT sh k0 12) {M : zMem} {r : Int32} (hd : zX12_nameAt sh k0 M = some r) : zCI l yX12_nameAt cX12_nameAt 2 .int { frames := 0, cells := 0, slots := 0, locals := 0 } [.ref (ad k0)] D cy sh ad M r M := by
  refine zci_of (by decide) (Nat.le_of_ble_eq_true rfl) (fun p e s m below meth c ls F hr hlk hl hw => ?_)
  have hx := F.1.1
  have hb := F.1.2.1
  have hl : lv_has ls 2 [(0, .ref (ad k0))] := hl
  have L2 : ∀  (n : Nat), ∀ (x1 : Int32) (H : Heap) (locs : List Loc) (ls : Array Slot), lv_has ls 2 [(0, .ref (ad k0)), (1, .int x1)] → zWd D cy sh ad s M H locs → zlX12_nameAt_2 sh k0 M  n x1 = some r → W p l e { frames := 0, cells := 0, slots := 0, locals := 0 } s m ([.ref (ad k0)] : List Value).toArray below meth c H locs 0 0 (zQI below D cy sh ad s [.ref (ad k0)] r M) (F0 m 2 ls []) := by
    intro  n
    induction n with
    | zero => intro x1 H locs ls hl hw hd; exact (znone hd).elim
    | succ n hk2 =>
      intro x1 H locs ls hl hw hd
      have hd : zbX12_nameAt_2 sh k0 M  (zlX12_nameAt_2 sh k0 M  n) x1 = some r := hd
      unfold zbX12_nameAt_2 at hd
      refine lv_iload_n hx hb dX12_nameAt_2 rfl (lv_at hl 1 rfl) ?_
      refine lv_aload_n hx hb dX12_nameAt_3 rfl (lv_at hl 0 rfl) ?_
      refine z_gI F hw h0 zc12 23 (by decide) rfl zf12_180 dX12_nameAt_4 ?_
      refine lv_icmp_ge (tgt := 32) hx hb dX12_nameAt_7 (by decide) (fun c_1 => ?_) (fun c_1 => ?_)
      · have hd := zif_pos c_1 hd
        refine lv_iconst (v := (-1 : Int32)) hx hb dX12_nameAt_32 (by decide) ?_
        exact z_iret F hr hlk hw (Option.some.inj hd) rfl dX12_nameAt_33
      · have hd := zif_neg c_1 hd
        refine lv_aload_n hx hb dX12_nameAt_10 rfl (lv_at hl 0 rfl) ?_
        refine z_gR F hw h0 zc12 13 (by decide) rfl zf12_23 dX12_nameAt_11 ?_
        have t_2 : zT sh (zR M k0 13) 15 := hw.2.2.2.fld h0 13 15
        refine lv_iload_n hx hb dX12_nameAt_14 rfl (lv_at hl 1 rfl) ?_
        obtain ⟨g_3, hd⟩ := zgd_some hd
        refine z_lald F hw t_2 g_3 dX12_nameAt_15 ?_
        refine lv_aload_n hx hb dX12_nameAt_16 rfl (lv_at hl 0 rfl) ?_
        refine z_gJ F hw h0 zc12 12 (by decide) rfl zf12_108 dX12_nameAt_17 ?_
        refine W.lcmp hx hb dX12_nameAt_20 ?_
        refine lv_if_ne (tgt := 26) hx hb dX12_nameAt_21 (by decide) (fun c_4 => ?_) (fun c_4 => ?_)
        · have hd := zif_neg c_4 hd
          refine lv_iinc (v := (x1 + (1 : Int32))) (lv' := [(1, .int (x1 + (1 : Int32))), (0, .ref (ad k0))]) hx hb dX12_nameAt_26 hl (k := 1) rfl (ziinc (by decide)) (by decide) rfl (fun ls hl => ?_)
          refine lv_goto (tgt := 2) hx hb dX12_nameAt_29 (by decide) ?_
          exact hk2 _ _ _ _ (lv_sub hl [1, 0] rfl) hw hd
        · have hd := zif_pos c_4 hd
          refine lv_iload_n hx hb dX12_nameAt_24 rfl (lv_at hl 1 rfl) ?_
          exact z_iret F hr hlk hw (Option.some.inj hd) rfl dX12_nameAt_25
  unfold zX12_nameAt at hd
  refine lv_iconst (v := (0 : Int32)) hx hb dX12_nameAt_0 (by decide) ?_
  refine lv_istore_n (lv' := [(1, .int (0 : Int32)), (0, .ref (ad k0))]) hx hb dX12_nameAt_1 rfl hl (by decide) rfl (fun ls hl => ?_)
  exact L2 zF _ _ _ _ (lv_sub hl [1, 0] rfl) hw hd

def zjX12_mustName_27 (sh : zShp) (k0 : Nat)  (M : zMem) : Option (zMem) :=
  some M
def zjX12_mustName_22 (sh : zShp) (k0 : Nat)  (M : zMem) : Option (zMem) :=
  zob (zX12_wrong sh k0 (2 : Int32) M) fun M_2 =>
  zjX12_mustName_27 sh k0 M_2
def zX12_mustName (sh : zShp) (k0 : Nat) (M : zMem) : Option (zMem) :=
  zob (zX12_isGood sh k0 M) fun r_4 =>
  if r_4 = 0 then (
  zjX12_mustName_27 sh k0 M)
  else (
  if (zI M k0 6) = (1 : Int32) then (
  zob (zX12_isKept sh k0 M) fun r_8 =>
  if r_8 = 0 then (
  zjX12_mustName_27 sh k0 M)
  else (
  zjX12_mustName_22 sh k0 M))
  else (
  zjX12_mustName_22 sh k0 M))
set_option maxHeartbeats 4000000 in
set_option maxRecDepth 100000 in
theorem ztX12_mustName (l : Launch) (D : va_G) (cy : Nat → ClassId) (sh : zShp) (ad : Nat → Nat) {k0 : Nat} (h0 : zT sh k0 12) {M : zMem} {M1 : zMem} (hd : zX12_mustName sh k0 M = some M1) : zCV l yX12_mustName cX12_mustName 1 { frames := 1, cells := 0, slots := 0, locals := 21 } [.ref (ad k0)] D cy sh ad M M1 := by
  refine zcv_of (by decide) (Nat.le_of_ble_eq_true rfl) (fun p e s m below meth c ls F hr hlk hl hw => ?_)
  have hx := F.1.1
  have hb := F.1.2.1
  have hl : lv_has ls 1 [(0, .ref (ad k0))] := hl
  have J27 : ∀ (M : zMem) (H : Heap) (locs : List Loc) (ls : Array Slot), lv_has ls 1 [] → zWd D cy sh ad s M H locs → zjX12_mustName_27 sh k0  M = some M1 → W p l e { frames := 1, cells := 0, slots := 0, locals := 21 } s m ([.ref (ad k0)] : List Value).toArray below meth c H locs 0 0 (zQV below D cy sh ad s [.ref (ad k0)] M1) (F0 m 27 ls []) := by
    intro  M H locs ls hl hw hd
    unfold zjX12_mustName_27 at hd
    exact z_vret F hr hlk hw (Option.some.inj hd) dX12_mustName_27
  have J22 : ∀ (M : zMem) (H : Heap) (locs : List Loc) (ls : Array Slot), lv_has ls 1 [(0, .ref (ad k0))] → zWd D cy sh ad s M H locs → zjX12_mustName_22 sh k0  M = some M1 → W p l e { frames := 1, cells := 0, slots := 0, locals := 21 } s m ([.ref (ad k0)] : List Value).toArray below meth c H locs 0 0 (zQV below D cy sh ad s [.ref (ad k0)] M1) (F0 m 22 ls []) := by
    intro  M H locs ls hl hw hd
    unfold zjX12_mustName_22 at hd
    refine lv_aload_n hx hb dX12_mustName_22 rfl (lv_at hl 0 rfl) ?_
    refine lv_iconst (v := (2 : Int32)) hx hb dX12_mustName_23 (by decide) ?_
    obtain ⟨M_2, hc_1, hd⟩ := zob_some hd
    refine z_cvV F hw hl.1 (As := [.int (2 : Int32)]) (rest := []) (ztX12_wrong l D cy sh ad h0 hc_1) zyX12_wrong h0 zc12 zk12_161 ⟨rfl, rfl⟩ ⟨by decide, by decide⟩ rfl rfl (Nat.le_of_ble_eq_true rfl) dX12_mustName_24 (fun H locs hw => ?_)
    exact J27 _ _ _ _ (lv_sub hl [] rfl) hw hd
  unfold zX12_mustName at hd
  refine lv_aload_n hx hb dX12_mustName_0 rfl (lv_at hl 0 rfl) ?_
  obtain ⟨r_4, hc_3, hd⟩ := zob_some hd
  refine z_cvI F hw hl.1 (As := []) (rest := []) (ztX12_isGood l D cy sh ad h0 hc_3) zyX12_isGood h0 zc12 zk12_168 ⟨rfl, rfl⟩ ⟨by decide, by decide⟩ rfl rfl (Nat.le_of_ble_eq_true rfl) dX12_mustName_1 (fun H locs hw => ?_)
  refine lv_if_eq (tgt := 27) hx hb dX12_mustName_4 (by decide) (fun c_5 => ?_) (fun c_5 => ?_)
  · have hd := zif_pos c_5 hd
    exact J27 _ _ _ _ (lv_sub hl [] rfl) hw hd
  · have hd := zif_neg c_5 hd
    refine lv_aload_n hx hb dX12_mustName_7 rfl (lv_at hl 0 rfl) ?_
    refine z_gI F hw h0 zc12 6 (by decide) rfl zf12_115 dX12_mustName_8 ?_
    refine lv_iconst (v := (1 : Int32)) hx hb dX12_mustName_11 (by decide) ?_
    refine lv_icmp_ne (tgt := 22) hx hb dX12_mustName_12 (by decide) (fun c_6 => ?_) (fun c_6 => ?_)
    · have hd := zif_neg c_6 hd
      exact J22 _ _ _ _ (lv_sub hl [0] rfl) hw hd
    · have hd := zif_pos c_6 hd
      refine lv_aload_n hx hb dX12_mustName_15 rfl (lv_at hl 0 rfl) ?_
      obtain ⟨r_8, hc_7, hd⟩ := zob_some hd
      refine z_cvI F hw hl.1 (As := []) (rest := []) (ztX12_isKept l D cy sh ad h0 hc_7) zyX12_isKept h0 zc12 zk12_183 ⟨rfl, rfl⟩ ⟨by decide, by decide⟩ rfl rfl (Nat.le_of_ble_eq_true rfl) dX12_mustName_16 (fun H locs hw => ?_)
      refine lv_if_eq (tgt := 27) hx hb dX12_mustName_19 (by decide) (fun c_9 => ?_) (fun c_9 => ?_)
      · have hd := zif_pos c_9 hd
        exact J27 _ _ _ _ (lv_sub hl [] rfl) hw hd
      · have hd := zif_neg c_9 hd
        exact J22 _ _ _ _ (lv_sub hl [0] rfl) hw hd

def zjX12_axisLine_50 (sh : zShp) (k0 : Nat)  (x1 : Int32) (M : zMem) : Option (zMem) :=
  if (zI M k0 8) ≤ 0 then (
  zgd (zin x1 (zlen sh (zR M k0 13))) <|
  zbd (zpJ M (zR M k0 13) (x1.toNatClampNeg) (zJ M k0 12)) fun M_4 =>
  zob (zX12_goOn sh k0 M_4) fun M_6 =>
  zob2 (zX12_behind sh k0 (495806932324 : Int64) (1 : Int32) (60 : Int32) M_6) fun r_9 M_10 =>
  zgd (zin ((6 : Int32) * x1) (zlen sh (zR M_6 k0 15))) <|
  zbd (zpI M_10 (zR M_6 k0 15) (((6 : Int32) * x1).toNatClampNeg) r_9) fun M_12 =>
  zob2 (zX12_behind sh k0 (1734437230 : Int64) (1 : Int32) (30 : Int32) M_12) fun r_15 M_16 =>
  zgd (zin (((6 : Int32) * x1) + (1 : Int32)) (zlen sh (zR M_12 k0 15))) <|
  zbd (zpI M_16 (zR M_12 k0 15) ((((6 : Int32) * x1) + (1 : Int32)).toNatClampNeg) r_15) fun M_18 =>
  zob2 (zX12_behind sh k0 (1785033323 : Int64) (1 : Int32) (10 : Int32) M_18) fun r_21 M_22 =>
  zgd (zin (((6 : Int32) * x1) + (2 : Int32)) (zlen sh (zR M_18 k0 15))) <|
  zbd (zpI M_22 (zR M_18 k0 15) ((((6 : Int32) * x1) + (2 : Int32)).toNatClampNeg) r_21) fun M_24 =>
  zgd (zin (((6 : Int32) * x1) + (3 : Int32)) (zlen sh (zR M_24 k0 15))) <|
  zbd (zpI M_24 (zR M_24 k0 15) ((((6 : Int32) * x1) + (3 : Int32)).toNatClampNeg) (1000 : Int32)) fun M_27 =>
  zgd (zin (((6 : Int32) * x1) + (4 : Int32)) (zlen sh (zR M_27 k0 15))) <|
  zbd (zpI M_27 (zR M_27 k0 15) ((((6 : Int32) * x1) + (4 : Int32)).toNatClampNeg) (40 : Int32)) fun M_30 =>
  zgd (zin (((6 : Int32) * x1) + (5 : Int32)) (zlen sh (zR M_30 k0 15))) <|
  zbd (zpI M_30 (zR M_30 k0 15) ((((6 : Int32) * x1) + (5 : Int32)).toNatClampNeg) (20 : Int32)) fun M_33 =>
  zgd (zin x1 (zlen sh (zR M_33 k0 21))) <|
  zbd (zpI M_33 (zR M_33 k0 21) (x1.toNatClampNeg) (vp_nar .boolean (0 : Int32))) fun M_36 =>
  zbd (zpI M_36 k0 23 ((zI M_36 k0 23) + (1 : Int32))) fun M_37 =>
  some M_37)
  else (
  some M)
def zjX12_axisLine_26 (sh : zShp) (k0 : Nat)  (x1 : Int32) (M : zMem) : Option (zMem) :=
  zob (zX12_mustName sh k0 M) fun M_39 =>
  zob (zX12_isGood sh k0 M_39) fun r_41 =>
  if r_41 = 0 then (
  zjX12_axisLine_50 sh k0 x1 M_39)
  else (
  zob (zX12_nameAt sh k0 M_39) fun r_44 =>
  if r_44 = (-1 : Int32) then (
  zjX12_axisLine_50 sh k0 x1 M_39)
  else (
  zob (zX12_wrong sh k0 (3 : Int32) M_39) fun M_47 =>
  zjX12_axisLine_50 sh k0 x1 M_47))
def zjX12_axisLine_15 (sh : zShp) (k0 : Nat)  (x1 : Int32) (M : zMem) : Option (zMem) :=
  zob (zX12_isGood sh k0 M) fun r_49 =>
  if r_49 = 0 then (
  zjX12_axisLine_26 sh k0 x1 M)
  else (
  zob (zX12_goOn sh k0 M) fun M_52 =>
  zjX12_axisLine_26 sh k0 x1 M_52)
def zX12_axisLine (sh : zShp) (k0 : Nat) (M : zMem) : Option (zMem) :=
  if (zI M k0 23) = (3 : Int32) then (
  zob (zX12_wrong sh k0 (5 : Int32) M) fun M_55 =>
  zjX12_axisLine_15 sh k0 (zI M k0 23) M_55)
  else (
  zjX12_axisLine_15 sh k0 (zI M k0 23) M)
set_option maxHeartbeats 4000000 in
set_option maxRecDepth 100000 in
theorem ztX12_axisLine (l : Launch) (D : va_G) (cy : Nat → ClassId) (sh : zShp) (ad : Nat → Nat) {k0 : Nat} (h0 : zT sh k0 12) {M : zMem} {M1 : zMem} (hd : zX12_axisLine sh k0 M = some M1) : zCV l yX12_axisLine cX12_axisLine 2 { frames := 4, cells := 0, slots := 0, locals := 95 } [.ref (ad k0)] D cy sh ad M M1 := by
  refine zcv_of (by decide) (Nat.le_of_ble_eq_true rfl) (fun p e s m below meth c ls F hr hlk hl hw => ?_)
  have hx := F.1.1
  have hb := F.1.2.1
  have hl : lv_has ls 2 [(0, .ref (ad k0))] := hl
  have J50 : ∀ (x1 : Int32) (M : zMem) (H : Heap) (locs : List Loc) (ls : Array Slot), lv_has ls 2 [(0, .ref (ad k0)), (1, .int x1)] → zWd D cy sh ad s M H locs → zjX12_axisLine_50 sh k0  x1 M = some M1 → W p l e { frames := 4, cells := 0, slots := 0, locals := 95 } s m ([.ref (ad k0)] : List Value).toArray below meth c H locs 0 0 (zQV below D cy sh ad s [.ref (ad k0)] M1) (F0 m 50 ls []) := by
    intro  x1 M H locs ls hl hw hd
    unfold zjX12_axisLine_50 at hd
    refine lv_aload_n hx hb dX12_axisLine_50 rfl (lv_at hl 0 rfl) ?_
    refine z_gI F hw h0 zc12 8 (by decide) rfl zf12_125 dX12_axisLine_51 ?_
    refine lv_if_le (tgt := 58) hx hb dX12_axisLine_54 (by decide) (fun c_1 => ?_) (fun c_1 => ?_)
    · have hd := zif_pos c_1 hd
      refine lv_aload_n hx hb dX12_axisLine_58 rfl (lv_at hl 0 rfl) ?_
      refine z_gR F hw h0 zc12 13 (by decide) rfl zf12_23 dX12_axisLine_59 ?_
      have t_2 : zT sh (zR M k0 13) 15 := hw.2.2.2.fld h0 13 15
      refine lv_iload_n hx hb dX12_axisLine_62 rfl (lv_at hl 1 rfl) ?_
      refine lv_aload_n hx hb dX12_axisLine_63 rfl (lv_at hl 0 rfl) ?_
      refine z_gJ F hw h0 zc12 12 (by decide) rfl zf12_108 dX12_axisLine_64 ?_
      obtain ⟨g_3, hd⟩ := zgd_some hd
      refine z_last F hw t_2 g_3 dX12_axisLine_67 (fun H locs M_4 eM_4 hw => ?_)
      have hd := zbd_eq eM_4 hd
      refine lv_aload_n hx hb dX12_axisLine_68 rfl (lv_at hl 0 rfl) ?_
      obtain ⟨M_6, hc_5, hd⟩ := zob_some hd
      refine z_cvV F hw hl.1 (As := []) (rest := []) (ztX12_goOn l D cy sh ad h0 hc_5) zyX12_goOn h0 zc12 zk12_158 ⟨rfl, rfl⟩ ⟨by decide, by decide⟩ rfl rfl (Nat.le_of_ble_eq_true rfl) dX12_axisLine_69 (fun H locs hw => ?_)
      refine lv_aload_n hx hb dX12_axisLine_72 rfl (lv_at hl 0 rfl) ?_
      refine z_gR F hw h0 zc12 15 (by decide) rfl zf12_30 dX12_axisLine_73 ?_
      have t_7 : zT sh (zR M_6 k0 15) 14 := hw.2.2.2.fld h0 15 14
      refine lv_bipush (v := (6 : Int32)) hx hb dX12_axisLine_76 (by decide) ?_
      refine lv_iload_n hx hb dX12_axisLine_78 rfl (lv_at hl 1 rfl) ?_
      refine lv_imul hx hb dX12_axisLine_79 ?_
      refine lv_aload_n hx hb dX12_axisLine_80 rfl (lv_at hl 0 rfl) ?_
      refine lv_ldc2 (v := (495806932324 : Int64)) hx hb F.1.2.2.2.1 (F.1.2.2.2.2 _ zi12_138) dX12_axisLine_81 ?_
      refine lv_iconst (v := (1 : Int32)) hx hb dX12_axisLine_84 (by decide) ?_
      refine lv_bipush (v := (60 : Int32)) hx hb dX12_axisLine_85 (by decide) ?_
      obtain ⟨r_9, M_10, hc_8, hd⟩ := zob2_some hd
      refine z_cvI F hw hl.1 (As := [.long (495806932324 : Int64), .int (1 : Int32), .int (60 : Int32)]) (rest := [.int ((6 : Int32) * x1), .ref (ad (zR M_6 k0 15))]) (ztX12_behind l D cy sh ad h0 hc_8) zyX12_behind h0 zc12 zk12_193 ⟨rfl, rfl⟩ ⟨by decide, by decide⟩ rfl rfl (Nat.le_of_ble_eq_true rfl) dX12_axisLine_87 (fun H locs hw => ?_)
      obtain ⟨g_11, hd⟩ := zgd_some hd
      refine z_iast F hw t_7 g_11 dX12_axisLine_90 (fun H locs M_12 eM_12 hw => ?_)
      have hd := zbd_eq eM_12 hd
      refine lv_aload_n hx hb dX12_axisLine_91 rfl (lv_at hl 0 rfl) ?_
      refine z_gR F hw h0 zc12 15 (by decide) rfl zf12_30 dX12_axisLine_92 ?_
      have t_13 : zT sh (zR M_12 k0 15) 14 := hw.2.2.2.fld h0 15 14
      refine lv_bipush (v := (6 : Int32)) hx hb dX12_axisLine_95 (by decide) ?_
      refine lv_iload_n hx hb dX12_axisLine_97 rfl (lv_at hl 1 rfl) ?_
      refine lv_imul hx hb dX12_axisLine_98 ?_
      refine lv_iconst (v := (1 : Int32)) hx hb dX12_axisLine_99 (by decide) ?_
      refine lv_iadd hx hb dX12_axisLine_100 ?_
      refine lv_aload_n hx hb dX12_axisLine_101 rfl (lv_at hl 0 rfl) ?_
      refine lv_ldc2 (v := (1734437230 : Int64)) hx hb F.1.2.2.2.1 (F.1.2.2.2.2 _ zi12_140) dX12_axisLine_102 ?_
      refine lv_iconst (v := (1 : Int32)) hx hb dX12_axisLine_105 (by decide) ?_
      refine lv_bipush (v := (30 : Int32)) hx hb dX12_axisLine_106 (by decide) ?_
      obtain ⟨r_15, M_16, hc_14, hd⟩ := zob2_some hd
      refine z_cvI F hw hl.1 (As := [.long (1734437230 : Int64), .int (1 : Int32), .int (30 : Int32)]) (rest := [.int (((6 : Int32) * x1) + (1 : Int32)), .ref (ad (zR M_12 k0 15))]) (ztX12_behind l D cy sh ad h0 hc_14) zyX12_behind h0 zc12 zk12_193 ⟨rfl, rfl⟩ ⟨by decide, by decide⟩ rfl rfl (Nat.le_of_ble_eq_true rfl) dX12_axisLine_108 (fun H locs hw => ?_)
      obtain ⟨g_17, hd⟩ := zgd_some hd
      refine z_iast F hw t_13 g_17 dX12_axisLine_111 (fun H locs M_18 eM_18 hw => ?_)
      have hd := zbd_eq eM_18 hd
      refine lv_aload_n hx hb dX12_axisLine_112 rfl (lv_at hl 0 rfl) ?_
      refine z_gR F hw h0 zc12 15 (by decide) rfl zf12_30 dX12_axisLine_113 ?_
      have t_19 : zT sh (zR M_18 k0 15) 14 := hw.2.2.2.fld h0 15 14
      refine lv_bipush (v := (6 : Int32)) hx hb dX12_axisLine_116 (by decide) ?_
      refine lv_iload_n hx hb dX12_axisLine_118 rfl (lv_at hl 1 rfl) ?_
      refine lv_imul hx hb dX12_axisLine_119 ?_
      refine lv_iconst (v := (2 : Int32)) hx hb dX12_axisLine_120 (by decide) ?_
      refine lv_iadd hx hb dX12_axisLine_121 ?_
      refine lv_aload_n hx hb dX12_axisLine_122 rfl (lv_at hl 0 rfl) ?_
      refine lv_ldc2 (v := (1785033323 : Int64)) hx hb F.1.2.2.2.1 (F.1.2.2.2.2 _ zi12_142) dX12_axisLine_123 ?_
      refine lv_iconst (v := (1 : Int32)) hx hb dX12_axisLine_126 (by decide) ?_
      refine lv_bipush (v := (10 : Int32)) hx hb dX12_axisLine_127 (by decide) ?_
      obtain ⟨r_21, M_22, hc_20, hd⟩ := zob2_some hd
      refine z_cvI F hw hl.1 (As := [.long (1785033323 : Int64), .int (1 : Int32), .int (10 : Int32)]) (rest := [.int (((6 : Int32) * x1) + (2 : Int32)), .ref (ad (zR M_18 k0 15))]) (ztX12_behind l D cy sh ad h0 hc_20) zyX12_behind h0 zc12 zk12_193 ⟨rfl, rfl⟩ ⟨by decide, by decide⟩ rfl rfl (Nat.le_of_ble_eq_true rfl) dX12_axisLine_129 (fun H locs hw => ?_)
      obtain ⟨g_23, hd⟩ := zgd_some hd
      refine z_iast F hw t_19 g_23 dX12_axisLine_132 (fun H locs M_24 eM_24 hw => ?_)
      have hd := zbd_eq eM_24 hd
      refine lv_aload_n hx hb dX12_axisLine_133 rfl (lv_at hl 0 rfl) ?_
      refine z_gR F hw h0 zc12 15 (by decide) rfl zf12_30 dX12_axisLine_134 ?_
      have t_25 : zT sh (zR M_24 k0 15) 14 := hw.2.2.2.fld h0 15 14
      refine lv_bipush (v := (6 : Int32)) hx hb dX12_axisLine_137 (by decide) ?_
      refine lv_iload_n hx hb dX12_axisLine_139 rfl (lv_at hl 1 rfl) ?_
      refine lv_imul hx hb dX12_axisLine_140 ?_
      refine lv_iconst (v := (3 : Int32)) hx hb dX12_axisLine_141 (by decide) ?_
      refine lv_iadd hx hb dX12_axisLine_142 ?_
      refine lv_sipush (v := (1000 : Int32)) hx hb dX12_axisLine_143 (by decide) ?_
      obtain ⟨g_26, hd⟩ := zgd_some hd
      refine z_iast F hw t_25 g_26 dX12_axisLine_146 (fun H locs M_27 eM_27 hw => ?_)
      have hd := zbd_eq eM_27 hd
      refine lv_aload_n hx hb dX12_axisLine_147 rfl (lv_at hl 0 rfl) ?_
      refine z_gR F hw h0 zc12 15 (by decide) rfl zf12_30 dX12_axisLine_148 ?_
      have t_28 : zT sh (zR M_27 k0 15) 14 := hw.2.2.2.fld h0 15 14
      refine lv_bipush (v := (6 : Int32)) hx hb dX12_axisLine_151 (by decide) ?_
      refine lv_iload_n hx hb dX12_axisLine_153 rfl (lv_at hl 1 rfl) ?_
      refine lv_imul hx hb dX12_axisLine_154 ?_
      refine lv_iconst (v := (4 : Int32)) hx hb dX12_axisLine_155 (by decide) ?_
      refine lv_iadd hx hb dX12_axisLine_156 ?_
      refine lv_bipush (v := (40 : Int32)) hx hb dX12_axisLine_157 (by decide) ?_
      obtain ⟨g_29, hd⟩ := zgd_some hd
      refine z_iast F hw t_28 g_29 dX12_axisLine_159 (fun H locs M_30 eM_30 hw => ?_)
      have hd := zbd_eq eM_30 hd
      refine lv_aload_n hx hb dX12_axisLine_160 rfl (lv_at hl 0 rfl) ?_
      refine z_gR F hw h0 zc12 15 (by decide) rfl zf12_30 dX12_axisLine_161 ?_
      have t_31 : zT sh (zR M_30 k0 15) 14 := hw.2.2.2.fld h0 15 14
      refine lv_bipush (v := (6 : Int32)) hx hb dX12_axisLine_164 (by decide) ?_
      refine lv_iload_n hx hb dX12_axisLine_166 rfl (lv_at hl 1 rfl) ?_
      refine lv_imul hx hb dX12_axisLine_167 ?_
      refine lv_iconst (v := (5 : Int32)) hx hb dX12_axisLine_168 (by decide) ?_
      refine lv_iadd hx hb dX12_axisLine_169 ?_
      refine lv_bipush (v := (20 : Int32)) hx hb dX12_axisLine_170 (by decide) ?_
      obtain ⟨g_32, hd⟩ := zgd_some hd
      refine z_iast F hw t_31 g_32 dX12_axisLine_172 (fun H locs M_33 eM_33 hw => ?_)
      have hd := zbd_eq eM_33 hd
      refine lv_aload_n hx hb dX12_axisLine_173 rfl (lv_at hl 0 rfl) ?_
      refine z_gR F hw h0 zc12 21 (by decide) rfl zf12_49 dX12_axisLine_174 ?_
      have t_34 : zT sh (zR M_33 k0 21) 16 := hw.2.2.2.fld h0 21 16
      refine lv_iload_n hx hb dX12_axisLine_177 rfl (lv_at hl 1 rfl) ?_
      refine lv_iconst (v := (0 : Int32)) hx hb dX12_axisLine_178 (by decide) ?_
      obtain ⟨g_35, hd⟩ := zgd_some hd
      refine z_zast F hw t_34 g_35 dX12_axisLine_179 (fun H locs M_36 eM_36 hw => ?_)
      have hd := zbd_eq eM_36 hd
      refine lv_aload_n hx hb dX12_axisLine_180 rfl (lv_at hl 0 rfl) ?_
      refine lv_dup hx hb dX12_axisLine_181 rfl ?_
      refine z_gI F hw h0 zc12 23 (by decide) rfl zf12_180 dX12_axisLine_182 ?_
      refine lv_iconst (v := (1 : Int32)) hx hb dX12_axisLine_185 (by decide) ?_
      refine lv_iadd hx hb dX12_axisLine_186 ?_
      refine z_pI F hw h0 zc12 23 (by decide) rfl zf12_180 rfl rfl rfl dX12_axisLine_187 (fun H locs M_37 eM_37 hw => ?_)
      have hd := zbd_eq eM_37 hd
      exact z_vret F hr hlk hw (Option.some.inj hd) dX12_axisLine_190
    · have hd := zif_neg c_1 hd
      exact z_vret F hr hlk hw (Option.some.inj hd) dX12_axisLine_57
  have J26 : ∀ (x1 : Int32) (M : zMem) (H : Heap) (locs : List Loc) (ls : Array Slot), lv_has ls 2 [(0, .ref (ad k0)), (1, .int x1)] → zWd D cy sh ad s M H locs → zjX12_axisLine_26 sh k0  x1 M = some M1 → W p l e { frames := 4, cells := 0, slots := 0, locals := 95 } s m ([.ref (ad k0)] : List Value).toArray below meth c H locs 0 0 (zQV below D cy sh ad s [.ref (ad k0)] M1) (F0 m 26 ls []) := by
    intro  x1 M H locs ls hl hw hd
    unfold zjX12_axisLine_26 at hd
    refine lv_aload_n hx hb dX12_axisLine_26 rfl (lv_at hl 0 rfl) ?_
    obtain ⟨M_39, hc_38, hd⟩ := zob_some hd
    refine z_cvV F hw hl.1 (As := []) (rest := []) (ztX12_mustName l D cy sh ad h0 hc_38) zyX12_mustName h0 zc12 zk12_186 ⟨rfl, rfl⟩ ⟨by decide, by decide⟩ rfl rfl (Nat.le_of_ble_eq_true rfl) dX12_axisLine_27 (fun H locs hw => ?_)
    refine lv_aload_n hx hb dX12_axisLine_30 rfl (lv_at hl 0 rfl) ?_
    obtain ⟨r_41, hc_40, hd⟩ := zob_some hd
    refine z_cvI F hw hl.1 (As := []) (rest := []) (ztX12_isGood l D cy sh ad h0 hc_40) zyX12_isGood h0 zc12 zk12_168 ⟨rfl, rfl⟩ ⟨by decide, by decide⟩ rfl rfl (Nat.le_of_ble_eq_true rfl) dX12_axisLine_31 (fun H locs hw => ?_)
    refine lv_if_eq (tgt := 50) hx hb dX12_axisLine_34 (by decide) (fun c_42 => ?_) (fun c_42 => ?_)
    · have hd := zif_pos c_42 hd
      exact J50 _ _ _ _ _ (lv_sub hl [0, 1] rfl) hw hd
    · have hd := zif_neg c_42 hd
      refine lv_aload_n hx hb dX12_axisLine_37 rfl (lv_at hl 0 rfl) ?_
      obtain ⟨r_44, hc_43, hd⟩ := zob_some hd
      refine z_cvI F hw hl.1 (As := []) (rest := []) (ztX12_nameAt l D cy sh ad h0 hc_43) zyX12_nameAt h0 zc12 zk12_189 ⟨rfl, rfl⟩ ⟨by decide, by decide⟩ rfl rfl (Nat.le_of_ble_eq_true rfl) dX12_axisLine_38 (fun H locs hw => ?_)
      refine lv_iconst (v := (-1 : Int32)) hx hb dX12_axisLine_41 (by decide) ?_
      refine lv_icmp_eq (tgt := 50) hx hb dX12_axisLine_42 (by decide) (fun c_45 => ?_) (fun c_45 => ?_)
      · have hd := zif_pos c_45 hd
        exact J50 _ _ _ _ _ (lv_sub hl [0, 1] rfl) hw hd
      · have hd := zif_neg c_45 hd
        refine lv_aload_n hx hb dX12_axisLine_45 rfl (lv_at hl 0 rfl) ?_
        refine lv_iconst (v := (3 : Int32)) hx hb dX12_axisLine_46 (by decide) ?_
        obtain ⟨M_47, hc_46, hd⟩ := zob_some hd
        refine z_cvV F hw hl.1 (As := [.int (3 : Int32)]) (rest := []) (ztX12_wrong l D cy sh ad h0 hc_46) zyX12_wrong h0 zc12 zk12_161 ⟨rfl, rfl⟩ ⟨by decide, by decide⟩ rfl rfl (Nat.le_of_ble_eq_true rfl) dX12_axisLine_47 (fun H locs hw => ?_)
        exact J50 _ _ _ _ _ (lv_sub hl [0, 1] rfl) hw hd
  have J15 : ∀ (x1 : Int32) (M : zMem) (H : Heap) (locs : List Loc) (ls : Array Slot), lv_has ls 2 [(0, .ref (ad k0)), (1, .int x1)] → zWd D cy sh ad s M H locs → zjX12_axisLine_15 sh k0  x1 M = some M1 → W p l e { frames := 4, cells := 0, slots := 0, locals := 95 } s m ([.ref (ad k0)] : List Value).toArray below meth c H locs 0 0 (zQV below D cy sh ad s [.ref (ad k0)] M1) (F0 m 15 ls []) := by
    intro  x1 M H locs ls hl hw hd
    unfold zjX12_axisLine_15 at hd
    refine lv_aload_n hx hb dX12_axisLine_15 rfl (lv_at hl 0 rfl) ?_
    obtain ⟨r_49, hc_48, hd⟩ := zob_some hd
    refine z_cvI F hw hl.1 (As := []) (rest := []) (ztX12_isGood l D cy sh ad h0 hc_48) zyX12_isGood h0 zc12 zk12_168 ⟨rfl, rfl⟩ ⟨by decide, by decide⟩ rfl rfl (Nat.le_of_ble_eq_true rfl) dX12_axisLine_16 (fun H locs hw => ?_)
    refine lv_if_eq (tgt := 26) hx hb dX12_axisLine_19 (by decide) (fun c_50 => ?_) (fun c_50 => ?_)
    · have hd := zif_pos c_50 hd
      exact J26 _ _ _ _ _ (lv_sub hl [0, 1] rfl) hw hd
    · have hd := zif_neg c_50 hd
      refine lv_aload_n hx hb dX12_axisLine_22 rfl (lv_at hl 0 rfl) ?_
      obtain ⟨M_52, hc_51, hd⟩ := zob_some hd
      refine z_cvV F hw hl.1 (As := []) (rest := []) (ztX12_goOn l D cy sh ad h0 hc_51) zyX12_goOn h0 zc12 zk12_158 ⟨rfl, rfl⟩ ⟨by decide, by decide⟩ rfl rfl (Nat.le_of_ble_eq_true rfl) dX12_axisLine_23 (fun H locs hw => ?_)
      exact J26 _ _ _ _ _ (lv_sub hl [0, 1] rfl) hw hd
  unfold zX12_axisLine at hd
  refine lv_aload_n hx hb dX12_axisLine_0 rfl (lv_at hl 0 rfl) ?_
  refine z_gI F hw h0 zc12 23 (by decide) rfl zf12_180 dX12_axisLine_1 ?_
  refine lv_istore_n (lv' := [(1, .int (zI M k0 23)), (0, .ref (ad k0))]) hx hb dX12_axisLine_4 rfl hl (by decide) rfl (fun ls hl => ?_)
  refine lv_iload_n hx hb dX12_axisLine_5 rfl (lv_at hl 0 rfl) ?_
  refine lv_iconst (v := (3 : Int32)) hx hb dX12_axisLine_6 (by decide) ?_
  refine lv_icmp_ne (tgt := 15) hx hb dX12_axisLine_7 (by decide) (fun c_53 => ?_) (fun c_53 => ?_)
  · have hd := zif_neg c_53 hd
    exact J15 _ _ _ _ _ (lv_sub hl [1, 0] rfl) hw hd
  · have hd := zif_pos c_53 hd
    refine lv_aload_n hx hb dX12_axisLine_10 rfl (lv_at hl 1 rfl) ?_
    refine lv_iconst (v := (5 : Int32)) hx hb dX12_axisLine_11 (by decide) ?_
    obtain ⟨M_55, hc_54, hd⟩ := zob_some hd
    refine z_cvV F hw hl.1 (As := [.int (5 : Int32)]) (rest := []) (ztX12_wrong l D cy sh ad h0 hc_54) zyX12_wrong h0 zc12 zk12_161 ⟨rfl, rfl⟩ ⟨by decide, by decide⟩ rfl rfl (Nat.le_of_ble_eq_true rfl) dX12_axisLine_12 (fun H locs hw => ?_)
    exact J15 _ _ _ _ _ (lv_sub hl [1, 0] rfl) hw hd

def zjX12_axisHere_30 (sh : zShp) (k0 : Nat)  (x1 : Int32) (M : zMem) : Option (Int32 × zMem) :=
  some (x1, M)
def zX12_axisHere (sh : zShp) (k0 : Nat) (M : zMem) : Option (Int32 × zMem) :=
  zob (zX12_goOn sh k0 M) fun M_2 =>
  zob (zX12_mustName sh k0 M_2) fun M_4 =>
  zob (zX12_nameAt sh k0 M_4) fun r_6 =>
  zob (zX12_isGood sh k0 M_4) fun r_8 =>
  if r_8 = 0 then (
  zjX12_axisHere_30 sh k0 r_6 M_4)
  else (
  if r_6 = (-1 : Int32) then (
  zob (zX12_wrong sh k0 (3 : Int32) M_4) fun M_12 =>
  zjX12_axisHere_30 sh k0 r_6 M_12)
  else (
  zjX12_axisHere_30 sh k0 r_6 M_4))
set_option maxHeartbeats 4000000 in
set_option maxRecDepth 100000 in
theorem ztX12_axisHere (l : Launch) (D : va_G) (cy : Nat → ClassId) (sh : zShp) (ad : Nat → Nat) {k0 : Nat} (h0 : zT sh k0 12) {M : zMem} {r : Int32} {M1 : zMem} (hd : zX12_axisHere sh k0 M = some (r, M1)) : zCI l yX12_axisHere cX12_axisHere 2 .int { frames := 2, cells := 0, slots := 0, locals := 42 } [.ref (ad k0)] D cy sh ad M r M1 := by
  refine zci_of (by decide) (Nat.le_of_ble_eq_true rfl) (fun p e s m below meth c ls F hr hlk hl hw => ?_)
  have hx := F.1.1
  have hb := F.1.2.1
  have hl : lv_has ls 2 [(0, .ref (ad k0))] := hl
  have J30 : ∀ (x1 : Int32) (M : zMem) (H : Heap) (locs : List Loc) (ls : Array Slot), lv_has ls 2 [(1, .int x1)] → zWd D cy sh ad s M H locs → zjX12_axisHere_30 sh k0  x1 M = some (r, M1) → W p l e { frames := 2, cells := 0, slots := 0, locals := 42 } s m ([.ref (ad k0)] : List Value).toArray below meth c H locs 0 0 (zQI below D cy sh ad s [.ref (ad k0)] r M1) (F0 m 30 ls []) := by
    intro  x1 M H locs ls hl hw hd
    unfold zjX12_axisHere_30 at hd
    refine lv_iload_n hx hb dX12_axisHere_30 rfl (lv_at hl 0 rfl) ?_
    exact z_iret F hr hlk hw (zpr1 hd) (zpr2 hd) dX12_axisHere_31
  unfold zX12_axisHere at hd
  refine lv_aload_n hx hb dX12_axisHere_0 rfl (lv_at hl 0 rfl) ?_
  obtain ⟨M_2, hc_1, hd⟩ := zob_some hd
  refine z_cvV F hw hl.1 (As := []) (rest := []) (ztX12_goOn l D cy sh ad h0 hc_1) zyX12_goOn h0 zc12 zk12_158 ⟨rfl, rfl⟩ ⟨by decide, by decide⟩ rfl rfl (Nat.le_of_ble_eq_true rfl) dX12_axisHere_1 (fun H locs hw => ?_)
  refine lv_aload_n hx hb dX12_axisHere_4 rfl (lv_at hl 0 rfl) ?_
  obtain ⟨M_4, hc_3, hd⟩ := zob_some hd
  refine z_cvV F hw hl.1 (As := []) (rest := []) (ztX12_mustName l D cy sh ad h0 hc_3) zyX12_mustName h0 zc12 zk12_186 ⟨rfl, rfl⟩ ⟨by decide, by decide⟩ rfl rfl (Nat.le_of_ble_eq_true rfl) dX12_axisHere_5 (fun H locs hw => ?_)
  refine lv_aload_n hx hb dX12_axisHere_8 rfl (lv_at hl 0 rfl) ?_
  obtain ⟨r_6, hc_5, hd⟩ := zob_some hd
  refine z_cvI F hw hl.1 (As := []) (rest := []) (ztX12_nameAt l D cy sh ad h0 hc_5) zyX12_nameAt h0 zc12 zk12_189 ⟨rfl, rfl⟩ ⟨by decide, by decide⟩ rfl rfl (Nat.le_of_ble_eq_true rfl) dX12_axisHere_9 (fun H locs hw => ?_)
  refine lv_istore_n (lv' := [(1, .int r_6), (0, .ref (ad k0))]) hx hb dX12_axisHere_12 rfl hl (by decide) rfl (fun ls hl => ?_)
  refine lv_aload_n hx hb dX12_axisHere_13 rfl (lv_at hl 1 rfl) ?_
  obtain ⟨r_8, hc_7, hd⟩ := zob_some hd
  refine z_cvI F hw hl.1 (As := []) (rest := []) (ztX12_isGood l D cy sh ad h0 hc_7) zyX12_isGood h0 zc12 zk12_168 ⟨rfl, rfl⟩ ⟨by decide, by decide⟩ rfl rfl (Nat.le_of_ble_eq_true rfl) dX12_axisHere_14 (fun H locs hw => ?_)
  refine lv_if_eq (tgt := 30) hx hb dX12_axisHere_17 (by decide) (fun c_9 => ?_) (fun c_9 => ?_)
  · have hd := zif_pos c_9 hd
    exact J30 _ _ _ _ _ (lv_sub hl [0] rfl) hw hd
  · have hd := zif_neg c_9 hd
    refine lv_iload_n hx hb dX12_axisHere_20 rfl (lv_at hl 0 rfl) ?_
    refine lv_iconst (v := (-1 : Int32)) hx hb dX12_axisHere_21 (by decide) ?_
    refine lv_icmp_ne (tgt := 30) hx hb dX12_axisHere_22 (by decide) (fun c_10 => ?_) (fun c_10 => ?_)
    · have hd := zif_neg c_10 hd
      exact J30 _ _ _ _ _ (lv_sub hl [0] rfl) hw hd
    · have hd := zif_pos c_10 hd
      refine lv_aload_n hx hb dX12_axisHere_25 rfl (lv_at hl 1 rfl) ?_
      refine lv_iconst (v := (3 : Int32)) hx hb dX12_axisHere_26 (by decide) ?_
      obtain ⟨M_12, hc_11, hd⟩ := zob_some hd
      refine z_cvV F hw hl.1 (As := [.int (3 : Int32)]) (rest := []) (ztX12_wrong l D cy sh ad h0 hc_11) zyX12_wrong h0 zc12 zk12_161 ⟨rfl, rfl⟩ ⟨by decide, by decide⟩ rfl rfl (Nat.le_of_ble_eq_true rfl) dX12_axisHere_27 (fun H locs hw => ?_)
      exact J30 _ _ _ _ _ (lv_sub hl [0] rfl) hw hd

def zjX12_motorLine_26 (sh : zShp) (k0 : Nat)  (x1 : Int32) (M : zMem) : Option (zMem) :=
  if (zI M k0 8) ≤ 0 then (
  zgd (zin x1 (zlen sh (zR M k0 21))) <|
  zbd (zpI M (zR M k0 21) (x1.toNatClampNeg) (vp_nar .boolean (1 : Int32))) fun M_4 =>
  zob (zX12_goOn sh k0 M_4) fun M_6 =>
  zob2 (zX12_behind sh k0 (1752132708 : Int64) (1 : Int32) (9999 : Int32) M_6) fun r_9 M_10 =>
  zgd (zin (((6 : Int32) * x1) + (3 : Int32)) (zlen sh (zR M_6 k0 15))) <|
  zbd (zpI M_10 (zR M_6 k0 15) ((((6 : Int32) * x1) + (3 : Int32)).toNatClampNeg) r_9) fun M_12 =>
  zob2 (zX12_behind sh k0 (1835103091 : Int64) (1 : Int32) (999 : Int32) M_12) fun r_15 M_16 =>
  zgd (zin (((6 : Int32) * x1) + (4 : Int32)) (zlen sh (zR M_12 k0 15))) <|
  zbd (zpI M_16 (zR M_12 k0 15) ((((6 : Int32) * x1) + (4 : Int32)).toNatClampNeg) r_15) fun M_18 =>
  zob2 (zX12_behind sh k0 (1684106608 : Int64) (0 : Int32) (90 : Int32) M_18) fun r_21 M_22 =>
  zgd (zin (((6 : Int32) * x1) + (5 : Int32)) (zlen sh (zR M_18 k0 15))) <|
  zbd (zpI M_22 (zR M_18 k0 15) ((((6 : Int32) * x1) + (5 : Int32)).toNatClampNeg) r_21) fun M_24 =>
  some M_24)
  else (
  some M)
def zX12_motorLine (sh : zShp) (k0 : Nat) (M : zMem) : Option (zMem) :=
  zob2 (zX12_axisHere sh k0 M) fun r_26 M_27 =>
  zob (zX12_isGood sh k0 M_27) fun r_29 =>
  if r_29 = 0 then (
  zjX12_motorLine_26 sh k0 r_26 M_27)
  else (
  zgd (zin r_26 (zlen sh (zR M_27 k0 21))) <|
  if (zI M_27 (zR M_27 k0 21) r_26.toNatClampNeg) = 0 then (
  zjX12_motorLine_26 sh k0 r_26 M_27)
  else (
  zob (zX12_wrong sh k0 (5 : Int32) M_27) fun M_35 =>
  zjX12_motorLine_26 sh k0 r_26 M_35))
set_option maxHeartbeats 4000000 in
set_option maxRecDepth 100000 in
theorem ztX12_motorLine (l : Launch) (D : va_G) (cy : Nat → ClassId) (sh : zShp) (ad : Nat → Nat) {k0 : Nat} (h0 : zT sh k0 12) {M : zMem} {M1 : zMem} (hd : zX12_motorLine sh k0 M = some M1) : zCV l yX12_motorLine cX12_motorLine 2 { frames := 4, cells := 0, slots := 0, locals := 95 } [.ref (ad k0)] D cy sh ad M M1 := by
  refine zcv_of (by decide) (Nat.le_of_ble_eq_true rfl) (fun p e s m below meth c ls F hr hlk hl hw => ?_)
  have hx := F.1.1
  have hb := F.1.2.1
  have hl : lv_has ls 2 [(0, .ref (ad k0))] := hl
  have J26 : ∀ (x1 : Int32) (M : zMem) (H : Heap) (locs : List Loc) (ls : Array Slot), lv_has ls 2 [(0, .ref (ad k0)), (1, .int x1)] → zWd D cy sh ad s M H locs → zjX12_motorLine_26 sh k0  x1 M = some M1 → W p l e { frames := 4, cells := 0, slots := 0, locals := 95 } s m ([.ref (ad k0)] : List Value).toArray below meth c H locs 0 0 (zQV below D cy sh ad s [.ref (ad k0)] M1) (F0 m 26 ls []) := by
    intro  x1 M H locs ls hl hw hd
    unfold zjX12_motorLine_26 at hd
    refine lv_aload_n hx hb dX12_motorLine_26 rfl (lv_at hl 0 rfl) ?_
    refine z_gI F hw h0 zc12 8 (by decide) rfl zf12_125 dX12_motorLine_27 ?_
    refine lv_if_le (tgt := 34) hx hb dX12_motorLine_30 (by decide) (fun c_1 => ?_) (fun c_1 => ?_)
    · have hd := zif_pos c_1 hd
      refine lv_aload_n hx hb dX12_motorLine_34 rfl (lv_at hl 0 rfl) ?_
      refine z_gR F hw h0 zc12 21 (by decide) rfl zf12_49 dX12_motorLine_35 ?_
      have t_2 : zT sh (zR M k0 21) 16 := hw.2.2.2.fld h0 21 16
      refine lv_iload_n hx hb dX12_motorLine_38 rfl (lv_at hl 1 rfl) ?_
      refine lv_iconst (v := (1 : Int32)) hx hb dX12_motorLine_39 (by decide) ?_
      obtain ⟨g_3, hd⟩ := zgd_some hd
      refine z_zast F hw t_2 g_3 dX12_motorLine_40 (fun H locs M_4 eM_4 hw => ?_)
      have hd := zbd_eq eM_4 hd
      refine lv_aload_n hx hb dX12_motorLine_41 rfl (lv_at hl 0 rfl) ?_
      obtain ⟨M_6, hc_5, hd⟩ := zob_some hd
      refine z_cvV F hw hl.1 (As := []) (rest := []) (ztX12_goOn l D cy sh ad h0 hc_5) zyX12_goOn h0 zc12 zk12_158 ⟨rfl, rfl⟩ ⟨by decide, by decide⟩ rfl rfl (Nat.le_of_ble_eq_true rfl) dX12_motorLine_42 (fun H locs hw => ?_)
      refine lv_aload_n hx hb dX12_motorLine_45 rfl (lv_at hl 0 rfl) ?_
      refine z_gR F hw h0 zc12 15 (by decide) rfl zf12_30 dX12_motorLine_46 ?_
      have t_7 : zT sh (zR M_6 k0 15) 14 := hw.2.2.2.fld h0 15 14
      refine lv_bipush (v := (6 : Int32)) hx hb dX12_motorLine_49 (by decide) ?_
      refine lv_iload_n hx hb dX12_motorLine_51 rfl (lv_at hl 1 rfl) ?_
      refine lv_imul hx hb dX12_motorLine_52 ?_
      refine lv_iconst (v := (3 : Int32)) hx hb dX12_motorLine_53 (by decide) ?_
      refine lv_iadd hx hb dX12_motorLine_54 ?_
      refine lv_aload_n hx hb dX12_motorLine_55 rfl (lv_at hl 0 rfl) ?_
      refine lv_ldc2 (v := (1752132708 : Int64)) hx hb F.1.2.2.2.1 (F.1.2.2.2.2 _ zi12_144) dX12_motorLine_56 ?_
      refine lv_iconst (v := (1 : Int32)) hx hb dX12_motorLine_59 (by decide) ?_
      refine lv_sipush (v := (9999 : Int32)) hx hb dX12_motorLine_60 (by decide) ?_
      obtain ⟨r_9, M_10, hc_8, hd⟩ := zob2_some hd
      refine z_cvI F hw hl.1 (As := [.long (1752132708 : Int64), .int (1 : Int32), .int (9999 : Int32)]) (rest := [.int (((6 : Int32) * x1) + (3 : Int32)), .ref (ad (zR M_6 k0 15))]) (ztX12_behind l D cy sh ad h0 hc_8) zyX12_behind h0 zc12 zk12_193 ⟨rfl, rfl⟩ ⟨by decide, by decide⟩ rfl rfl (Nat.le_of_ble_eq_true rfl) dX12_motorLine_63 (fun H locs hw => ?_)
      obtain ⟨g_11, hd⟩ := zgd_some hd
      refine z_iast F hw t_7 g_11 dX12_motorLine_66 (fun H locs M_12 eM_12 hw => ?_)
      have hd := zbd_eq eM_12 hd
      refine lv_aload_n hx hb dX12_motorLine_67 rfl (lv_at hl 0 rfl) ?_
      refine z_gR F hw h0 zc12 15 (by decide) rfl zf12_30 dX12_motorLine_68 ?_
      have t_13 : zT sh (zR M_12 k0 15) 14 := hw.2.2.2.fld h0 15 14
      refine lv_bipush (v := (6 : Int32)) hx hb dX12_motorLine_71 (by decide) ?_
      refine lv_iload_n hx hb dX12_motorLine_73 rfl (lv_at hl 1 rfl) ?_
      refine lv_imul hx hb dX12_motorLine_74 ?_
      refine lv_iconst (v := (4 : Int32)) hx hb dX12_motorLine_75 (by decide) ?_
      refine lv_iadd hx hb dX12_motorLine_76 ?_
      refine lv_aload_n hx hb dX12_motorLine_77 rfl (lv_at hl 0 rfl) ?_
      refine lv_ldc2 (v := (1835103091 : Int64)) hx hb F.1.2.2.2.1 (F.1.2.2.2.2 _ zi12_146) dX12_motorLine_78 ?_
      refine lv_iconst (v := (1 : Int32)) hx hb dX12_motorLine_81 (by decide) ?_
      refine lv_sipush (v := (999 : Int32)) hx hb dX12_motorLine_82 (by decide) ?_
      obtain ⟨r_15, M_16, hc_14, hd⟩ := zob2_some hd
      refine z_cvI F hw hl.1 (As := [.long (1835103091 : Int64), .int (1 : Int32), .int (999 : Int32)]) (rest := [.int (((6 : Int32) * x1) + (4 : Int32)), .ref (ad (zR M_12 k0 15))]) (ztX12_behind l D cy sh ad h0 hc_14) zyX12_behind h0 zc12 zk12_193 ⟨rfl, rfl⟩ ⟨by decide, by decide⟩ rfl rfl (Nat.le_of_ble_eq_true rfl) dX12_motorLine_85 (fun H locs hw => ?_)
      obtain ⟨g_17, hd⟩ := zgd_some hd
      refine z_iast F hw t_13 g_17 dX12_motorLine_88 (fun H locs M_18 eM_18 hw => ?_)
      have hd := zbd_eq eM_18 hd
      refine lv_aload_n hx hb dX12_motorLine_89 rfl (lv_at hl 0 rfl) ?_
      refine z_gR F hw h0 zc12 15 (by decide) rfl zf12_30 dX12_motorLine_90 ?_
      have t_19 : zT sh (zR M_18 k0 15) 14 := hw.2.2.2.fld h0 15 14
      refine lv_bipush (v := (6 : Int32)) hx hb dX12_motorLine_93 (by decide) ?_
      refine lv_iload_n hx hb dX12_motorLine_95 rfl (lv_at hl 1 rfl) ?_
      refine lv_imul hx hb dX12_motorLine_96 ?_
      refine lv_iconst (v := (5 : Int32)) hx hb dX12_motorLine_97 (by decide) ?_
      refine lv_iadd hx hb dX12_motorLine_98 ?_
      refine lv_aload_n hx hb dX12_motorLine_99 rfl (lv_at hl 0 rfl) ?_
      refine lv_ldc2 (v := (1684106608 : Int64)) hx hb F.1.2.2.2.1 (F.1.2.2.2.2 _ zi12_148) dX12_motorLine_100 ?_
      refine lv_iconst (v := (0 : Int32)) hx hb dX12_motorLine_103 (by decide) ?_
      refine lv_bipush (v := (90 : Int32)) hx hb dX12_motorLine_104 (by decide) ?_
      obtain ⟨r_21, M_22, hc_20, hd⟩ := zob2_some hd
      refine z_cvI F hw hl.1 (As := [.long (1684106608 : Int64), .int (0 : Int32), .int (90 : Int32)]) (rest := [.int (((6 : Int32) * x1) + (5 : Int32)), .ref (ad (zR M_18 k0 15))]) (ztX12_behind l D cy sh ad h0 hc_20) zyX12_behind h0 zc12 zk12_193 ⟨rfl, rfl⟩ ⟨by decide, by decide⟩ rfl rfl (Nat.le_of_ble_eq_true rfl) dX12_motorLine_106 (fun H locs hw => ?_)
      obtain ⟨g_23, hd⟩ := zgd_some hd
      refine z_iast F hw t_19 g_23 dX12_motorLine_109 (fun H locs M_24 eM_24 hw => ?_)
      have hd := zbd_eq eM_24 hd
      exact z_vret F hr hlk hw (Option.some.inj hd) dX12_motorLine_110
    · have hd := zif_neg c_1 hd
      exact z_vret F hr hlk hw (Option.some.inj hd) dX12_motorLine_33
  unfold zX12_motorLine at hd
  refine lv_aload_n hx hb dX12_motorLine_0 rfl (lv_at hl 0 rfl) ?_
  obtain ⟨r_26, M_27, hc_25, hd⟩ := zob2_some hd
  refine z_cvI F hw hl.1 (As := []) (rest := []) (ztX12_axisHere l D cy sh ad h0 hc_25) zyX12_axisHere h0 zc12 zk12_197 ⟨rfl, rfl⟩ ⟨by decide, by decide⟩ rfl rfl (Nat.le_of_ble_eq_true rfl) dX12_motorLine_1 (fun H locs hw => ?_)
  refine lv_istore_n (lv' := [(1, .int r_26), (0, .ref (ad k0))]) hx hb dX12_motorLine_4 rfl hl (by decide) rfl (fun ls hl => ?_)
  refine lv_aload_n hx hb dX12_motorLine_5 rfl (lv_at hl 1 rfl) ?_
  obtain ⟨r_29, hc_28, hd⟩ := zob_some hd
  refine z_cvI F hw hl.1 (As := []) (rest := []) (ztX12_isGood l D cy sh ad h0 hc_28) zyX12_isGood h0 zc12 zk12_168 ⟨rfl, rfl⟩ ⟨by decide, by decide⟩ rfl rfl (Nat.le_of_ble_eq_true rfl) dX12_motorLine_6 (fun H locs hw => ?_)
  refine lv_if_eq (tgt := 26) hx hb dX12_motorLine_9 (by decide) (fun c_30 => ?_) (fun c_30 => ?_)
  · have hd := zif_pos c_30 hd
    exact J26 _ _ _ _ _ (lv_sub hl [1, 0] rfl) hw hd
  · have hd := zif_neg c_30 hd
    refine lv_aload_n hx hb dX12_motorLine_12 rfl (lv_at hl 1 rfl) ?_
    refine z_gR F hw h0 zc12 21 (by decide) rfl zf12_49 dX12_motorLine_13 ?_
    have t_31 : zT sh (zR M_27 k0 21) 16 := hw.2.2.2.fld h0 21 16
    refine lv_iload_n hx hb dX12_motorLine_16 rfl (lv_at hl 0 rfl) ?_
    obtain ⟨g_32, hd⟩ := zgd_some hd
    refine z_zald F hw t_31 g_32 dX12_motorLine_17 ?_
    refine lv_if_eq (tgt := 26) hx hb dX12_motorLine_18 (by decide) (fun c_33 => ?_) (fun c_33 => ?_)
    · have hd := zif_pos c_33 hd
      exact J26 _ _ _ _ _ (lv_sub hl [1, 0] rfl) hw hd
    · have hd := zif_neg c_33 hd
      refine lv_aload_n hx hb dX12_motorLine_21 rfl (lv_at hl 1 rfl) ?_
      refine lv_iconst (v := (5 : Int32)) hx hb dX12_motorLine_22 (by decide) ?_
      obtain ⟨M_35, hc_34, hd⟩ := zob_some hd
      refine z_cvV F hw hl.1 (As := [.int (5 : Int32)]) (rest := []) (ztX12_wrong l D cy sh ad h0 hc_34) zyX12_wrong h0 zc12 zk12_161 ⟨rfl, rfl⟩ ⟨by decide, by decide⟩ rfl rfl (Nat.le_of_ble_eq_true rfl) dX12_motorLine_23 (fun H locs hw => ?_)
      exact J26 _ _ _ _ _ (lv_sub hl [1, 0] rfl) hw hd
