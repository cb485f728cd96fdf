theorem dX11_feed_0 : decode cX11_feed 0 = .ok (.aload_n 0, 1) := by decide +kernel
theorem dX11_feed_1 : decode cX11_feed 1 = .ok (.getfield 24, 3) := by decide +kernel
theorem dX11_feed_4 : decode cX11_feed 4 = .ok (.getfield 89, 3) := by decide +kernel
theorem dX11_feed_7 : decode cX11_feed 7 = .ok (.bipush 20, 2) := by decide +kernel
theorem dX11_feed_9 : decode cX11_feed 9 = .ok (.iadd, 1) := by decide +kernel
theorem dX11_feed_10 : decode cX11_feed 10 = .ok (.sipush 900, 3) := by decide +kernel
theorem dX11_feed_13 : decode cX11_feed 13 = .ok (.if_icmp .le 5, 3) := by decide +kernel
theorem dX11_feed_16 : decode cX11_feed 16 = .ok (.iconst (-1), 1) := by decide +kernel
theorem dX11_feed_17 : decode cX11_feed 17 = .ok (.ireturn, 1) := by decide +kernel
theorem dX11_feed_18 : decode cX11_feed 18 = .ok (.aload_n 0, 1) := by decide +kernel
theorem dX11_feed_19 : decode cX11_feed 19 = .ok (.getfield 24, 3) := by decide +kernel
theorem dX11_feed_22 : decode cX11_feed 22 = .ok (.iload_n 1, 1) := by decide +kernel
theorem dX11_feed_23 : decode cX11_feed 23 = .ok (.invokevirtual 93, 3) := by decide +kernel
theorem dX11_feed_26 : decode cX11_feed 26 = .ok (.aload_n 0, 1) := by decide +kernel
theorem dX11_feed_27 : decode cX11_feed 27 = .ok (.getfield 24, 3) := by decide +kernel
theorem dX11_feed_30 : decode cX11_feed 30 = .ok (.iload_n 2, 1) := by decide +kernel
theorem dX11_feed_31 : decode cX11_feed 31 = .ok (.invokevirtual 93, 3) := by decide +kernel
theorem dX11_feed_34 : decode cX11_feed 34 = .ok (.aload_n 0, 1) := by decide +kernel
theorem dX11_feed_35 : decode cX11_feed 35 = .ok (.getfield 24, 3) := by decide +kernel
theorem dX11_feed_38 : decode cX11_feed 38 = .ok (.iload_n 3, 1) := by decide +kernel
theorem dX11_feed_39 : decode cX11_feed 39 = .ok (.invokevirtual 93, 3) := by decide +kernel
theorem dX11_feed_42 : decode cX11_feed 42 = .ok (.aload_n 0, 1) := by decide +kernel
theorem dX11_feed_43 : decode cX11_feed 43 = .ok (.getfield 24, 3) := by decide +kernel
theorem dX11_feed_46 : decode cX11_feed 46 = .ok (.iload 4, 2) := by decide +kernel
theorem dX11_feed_48 : decode cX11_feed 48 = .ok (.invokevirtual 93, 3) := by decide +kernel
theorem dX11_feed_51 : decode cX11_feed 51 = .ok (.aload_n 0, 1) := by decide +kernel
theorem dX11_feed_52 : decode cX11_feed 52 = .ok (.getfield 24, 3) := by decide +kernel
theorem dX11_feed_55 : decode cX11_feed 55 = .ok (.iload 5, 2) := by decide +kernel
theorem dX11_feed_57 : decode cX11_feed 57 = .ok (.invokevirtual 93, 3) := by decide +kernel
theorem dX11_feed_60 : decode cX11_feed 60 = .ok (.aload_n 0, 1) := by decide +kernel
theorem dX11_feed_61 : decode cX11_feed 61 = .ok (.getfield 24, 3) := by decide +kernel
theorem dX11_feed_64 : decode cX11_feed 64 = .ok (.getfield 89, 3) := by decide +kernel
theorem dX11_feed_67 : decode cX11_feed 67 = .ok (.ireturn, 1) := by decide +kernel
theorem dX11_end_0 : decode cX11_end 0 = .ok (.iload_n 1, 1) := by decide +kernel
theorem dX11_end_1 : decode cX11_end 1 = .ok (.ifCond .lt 14, 3) := by decide +kernel
theorem dX11_end_4 : decode cX11_end 4 = .ok (.iload_n 1, 1) := by decide +kernel
theorem dX11_end_5 : decode cX11_end 5 = .ok (.aload_n 0, 1) := by decide +kernel
theorem dX11_end_6 : decode cX11_end 6 = .ok (.getfield 24, 3) := by decide +kernel
theorem dX11_end_9 : decode cX11_end 9 = .ok (.getfield 89, 3) := by decide +kernel
theorem dX11_end_12 : decode cX11_end 12 = .ok (.if_icmp .le 5, 3) := by decide +kernel
theorem dX11_end_15 : decode cX11_end 15 = .ok (.iconst (-1), 1) := by decide +kernel
theorem dX11_end_16 : decode cX11_end 16 = .ok (.ireturn, 1) := by decide +kernel
theorem dX11_end_17 : decode cX11_end 17 = .ok (.aload_n 0, 1) := by decide +kernel
theorem dX11_end_18 : decode cX11_end 18 = .ok (.getfield 24, 3) := by decide +kernel
theorem dX11_end_21 : decode cX11_end 21 = .ok (.iload_n 1, 1) := by decide +kernel
theorem dX11_end_22 : decode cX11_end 22 = .ok (.putfield 89, 3) := by decide +kernel
theorem dX11_end_25 : decode cX11_end 25 = .ok (.iload_n 1, 1) := by decide +kernel
theorem dX11_end_26 : decode cX11_end 26 = .ok (.ireturn, 1) := by decide +kernel
theorem dX11_fault_0 : decode cX11_fault 0 = .ok (.iload_n 1, 1) := by decide +kernel
theorem dX11_fault_1 : decode cX11_fault 1 = .ok (.lookupswitch 43 #[(0, 27), (1, 35)], 27) := by decide +kernel
theorem dX11_fault_28 : decode cX11_fault 28 = .ok (.aload_n 0, 1) := by decide +kernel
theorem dX11_fault_29 : decode cX11_fault 29 = .ok (.getfield 33, 3) := by decide +kernel
theorem dX11_fault_32 : decode cX11_fault 32 = .ok (.getfield 117, 3) := by decide +kernel
theorem dX11_fault_35 : decode cX11_fault 35 = .ok (.ireturn, 1) := by decide +kernel
theorem dX11_fault_36 : decode cX11_fault 36 = .ok (.aload_n 0, 1) := by decide +kernel
theorem dX11_fault_37 : decode cX11_fault 37 = .ok (.getfield 33, 3) := by decide +kernel
theorem dX11_fault_40 : decode cX11_fault 40 = .ok (.getfield 120, 3) := by decide +kernel
theorem dX11_fault_43 : decode cX11_fault 43 = .ok (.ireturn, 1) := by decide +kernel
theorem dX11_fault_44 : decode cX11_fault 44 = .ok (.iconst (-1), 1) := by decide +kernel
theorem dX11_fault_45 : decode cX11_fault 45 = .ok (.ireturn, 1) := by decide +kernel
theorem dX11_table_0 : decode cX11_table 0 = .ok (.iload_n 1, 1) := by decide +kernel
theorem dX11_table_1 : decode cX11_table 1 = .ok (.iconst 0, 1) := by decide +kernel
theorem dX11_table_2 : decode cX11_table 2 = .ok (.bipush 64, 2) := by decide +kernel
theorem dX11_table_4 : decode cX11_table 4 = .ok (.invokestatic 123, 3) := by decide +kernel
theorem dX11_table_7 : decode cX11_table 7 = .ok (.ifCond .ne 6, 3) := by decide +kernel
theorem dX11_table_10 : decode cX11_table 10 = .ok (.ldc 127, 2) := by decide +kernel
theorem dX11_table_12 : decode cX11_table 12 = .ok (.ireturn, 1) := by decide +kernel
theorem dX11_table_13 : decode cX11_table 13 = .ok (.iload_n 2, 1) := by decide +kernel
theorem dX11_table_14 : decode cX11_table 14 = .ok (.lookupswitch 52 #[(0, 26), (1, 39)], 26) := by decide +kernel
theorem dX11_table_40 : decode cX11_table 40 = .ok (.aload_n 0, 1) := by decide +kernel
theorem dX11_table_41 : decode cX11_table 41 = .ok (.getfield 12, 3) := by decide +kernel
theorem dX11_table_44 : decode cX11_table 44 = .ok (.getfield 128, 3) := by decide +kernel
theorem dX11_table_47 : decode cX11_table 47 = .ok (.getfield 132, 3) := by decide +kernel
theorem dX11_table_50 : decode cX11_table 50 = .ok (.iload_n 1, 1) := by decide +kernel
theorem dX11_table_51 : decode cX11_table 51 = .ok (.iaload, 1) := by decide +kernel
theorem dX11_table_52 : decode cX11_table 52 = .ok (.ireturn, 1) := by decide +kernel
theorem dX11_table_53 : decode cX11_table 53 = .ok (.aload_n 0, 1) := by decide +kernel
theorem dX11_table_54 : decode cX11_table 54 = .ok (.getfield 12, 3) := by decide +kernel
theorem dX11_table_57 : decode cX11_table 57 = .ok (.getfield 128, 3) := by decide +kernel
theorem dX11_table_60 : decode cX11_table 60 = .ok (.getfield 137, 3) := by decide +kernel
theorem dX11_table_63 : decode cX11_table 63 = .ok (.iload_n 1, 1) := by decide +kernel
theorem dX11_table_64 : decode cX11_table 64 = .ok (.iaload, 1) := by decide +kernel
theorem dX11_table_65 : decode cX11_table 65 = .ok (.ireturn, 1) := by decide +kernel
theorem dX11_table_66 : decode cX11_table 66 = .ok (.ldc 127, 2) := by decide +kernel
theorem dX11_table_68 : decode cX11_table 68 = .ok (.ireturn, 1) := by decide +kernel
theorem dX11_current_0 : decode cX11_current 0 = .ok (.iload_n 2, 1) := by decide +kernel
theorem dX11_current_1 : decode cX11_current 1 = .ok (.lookupswitch 60 #[(0, 27), (1, 45)], 27) := by decide +kernel
theorem dX11_current_28 : decode cX11_current 28 = .ok (.aload_n 0, 1) := by decide +kernel
theorem dX11_current_29 : decode cX11_current 29 = .ok (.getfield 12, 3) := by decide +kernel
theorem dX11_current_32 : decode cX11_current 32 = .ok (.getfield 128, 3) := by decide +kernel
theorem dX11_current_35 : decode cX11_current 35 = .ok (.getfield 137, 3) := by decide +kernel
theorem dX11_current_38 : decode cX11_current 38 = .ok (.iload_n 1, 1) := by decide +kernel
theorem dX11_current_39 : decode cX11_current 39 = .ok (.bipush 64, 2) := by decide +kernel
theorem dX11_current_41 : decode cX11_current 41 = .ok (.iadd, 1) := by decide +kernel
theorem dX11_current_42 : decode cX11_current 42 = .ok (.invokestatic 140, 3) := by decide +kernel
theorem dX11_current_45 : decode cX11_current 45 = .ok (.ireturn, 1) := by decide +kernel
theorem dX11_current_46 : decode cX11_current 46 = .ok (.aload_n 0, 1) := by decide +kernel
theorem dX11_current_47 : decode cX11_current 47 = .ok (.getfield 12, 3) := by decide +kernel
theorem dX11_current_50 : decode cX11_current 50 = .ok (.getfield 128, 3) := by decide +kernel
theorem dX11_current_53 : decode cX11_current 53 = .ok (.getfield 137, 3) := by decide +kernel
theorem dX11_current_56 : decode cX11_current 56 = .ok (.iload_n 1, 1) := by decide +kernel
theorem dX11_current_57 : decode cX11_current 57 = .ok (.invokestatic 140, 3) := by decide +kernel
theorem dX11_current_60 : decode cX11_current 60 = .ok (.ireturn, 1) := by decide +kernel
theorem dX11_current_61 : decode cX11_current 61 = .ok (.ldc 127, 2) := by decide +kernel
theorem dX11_current_63 : decode cX11_current 63 = .ok (.ireturn, 1) := by decide +kernel
theorem dX11_field_0 : decode cX11_field 0 = .ok (.aload_n 0, 1) := by decide +kernel
theorem dX11_field_1 : decode cX11_field 1 = .ok (.getfield 12, 3) := by decide +kernel
theorem dX11_field_4 : decode cX11_field 4 = .ok (.getfield 128, 3) := by decide +kernel
theorem dX11_field_7 : decode cX11_field 7 = .ok (.getfield 137, 3) := by decide +kernel
theorem dX11_field_10 : decode cX11_field 10 = .ok (.iload_n 1, 1) := by decide +kernel
theorem dX11_field_11 : decode cX11_field 11 = .ok (.invokestatic 144, 3) := by decide +kernel
theorem dX11_field_14 : decode cX11_field 14 = .ok (.ireturn, 1) := by decide +kernel
theorem dX11_mend_0 : decode cX11_mend 0 = .ok (.iload_n 1, 1) := by decide +kernel
theorem dX11_mend_1 : decode cX11_mend 1 = .ok (.iconst 0, 1) := by decide +kernel
theorem dX11_mend_2 : decode cX11_mend 2 = .ok (.bipush 64, 2) := by decide +kernel
theorem dX11_mend_4 : decode cX11_mend 4 = .ok (.invokestatic 123, 3) := by decide +kernel
theorem dX11_mend_7 : decode cX11_mend 7 = .ok (.ifCond .ne 6, 3) := by decide +kernel
theorem dX11_mend_10 : decode cX11_mend 10 = .ok (.ldc 127, 2) := by decide +kernel
theorem dX11_mend_12 : decode cX11_mend 12 = .ok (.ireturn, 1) := by decide +kernel
theorem dX11_mend_13 : decode cX11_mend 13 = .ok (.aload_n 0, 1) := by decide +kernel
theorem dX11_mend_14 : decode cX11_mend 14 = .ok (.getfield 12, 3) := by decide +kernel
theorem dX11_mend_17 : decode cX11_mend 17 = .ok (.getfield 128, 3) := by decide +kernel
theorem dX11_mend_20 : decode cX11_mend 20 = .ok (.aload_n 0, 1) := by decide +kernel
theorem dX11_mend_21 : decode cX11_mend 21 = .ok (.getfield 12, 3) := by decide +kernel
theorem dX11_mend_24 : decode cX11_mend 24 = .ok (.getfield 128, 3) := by decide +kernel
theorem dX11_mend_27 : decode cX11_mend 27 = .ok (.getfield 137, 3) := by decide +kernel
theorem dX11_mend_30 : decode cX11_mend 30 = .ok (.iload_n 1, 1) := by decide +kernel
theorem dX11_mend_31 : decode cX11_mend 31 = .ok (.invokevirtual 147, 3) := by decide +kernel
theorem dX11_mend_34 : decode cX11_mend 34 = .ok (.ireturn, 1) := by decide +kernel
theorem dX11_tuned_0 : decode cX11_tuned 0 = .ok (.iload_n 1, 1) := by decide +kernel
theorem dX11_tuned_1 : decode cX11_tuned 1 = .ok (.iconst 0, 1) := by decide +kernel
theorem dX11_tuned_2 : decode cX11_tuned 2 = .ok (.iconst 2, 1) := by decide +kernel
theorem dX11_tuned_3 : decode cX11_tuned 3 = .ok (.invokestatic 123, 3) := by decide +kernel
theorem dX11_tuned_6 : decode cX11_tuned 6 = .ok (.ifCond .ne 5, 3) := by decide +kernel
theorem dX11_tuned_9 : decode cX11_tuned 9 = .ok (.iconst (-1), 1) := by decide +kernel
theorem dX11_tuned_10 : decode cX11_tuned 10 = .ok (.ireturn, 1) := by decide +kernel
theorem dX11_tuned_11 : decode cX11_tuned 11 = .ok (.aload_n 0, 1) := by decide +kernel
theorem dX11_tuned_12 : decode cX11_tuned 12 = .ok (.getfield 12, 3) := by decide +kernel
theorem dX11_tuned_15 : decode cX11_tuned 15 = .ok (.getfield 128, 3) := by decide +kernel
theorem dX11_tuned_18 : decode cX11_tuned 18 = .ok (.astore_n 2, 1) := by decide +kernel
theorem dX11_tuned_19 : decode cX11_tuned 19 = .ok (.iconst 0, 1) := by decide +kernel
theorem dX11_tuned_20 : decode cX11_tuned 20 = .ok (.istore_n 3, 1) := by decide +kernel
theorem dX11_tuned_21 : decode cX11_tuned 21 = .ok (.aload_n 2, 1) := by decide +kernel
theorem dX11_tuned_22 : decode cX11_tuned 22 = .ok (.getfield 137, 3) := by decide +kernel
theorem dX11_tuned_25 : decode cX11_tuned 25 = .ok (.iconst 0, 1) := by decide +kernel
theorem dX11_tuned_26 : decode cX11_tuned 26 = .ok (.aload_n 0, 1) := by decide +kernel
theorem dX11_tuned_27 : decode cX11_tuned 27 = .ok (.getfield 86, 3) := by decide +kernel
theorem dX11_tuned_30 : decode cX11_tuned 30 = .ok (.iconst 0, 1) := by decide +kernel
theorem dX11_tuned_31 : decode cX11_tuned 31 = .ok (.aload_n 0, 1) := by decide +kernel
theorem dX11_tuned_32 : decode cX11_tuned 32 = .ok (.getfield 86, 3) := by decide +kernel
theorem dX11_tuned_35 : decode cX11_tuned 35 = .ok (.arraylength, 1) := by decide +kernel
theorem dX11_tuned_36 : decode cX11_tuned 36 = .ok (.invokestatic 150, 3) := by decide +kernel
theorem dX11_tuned_39 : decode cX11_tuned 39 = .ok (.iconst 0, 1) := by decide +kernel
theorem dX11_tuned_40 : decode cX11_tuned 40 = .ok (.istore 4, 2) := by decide +kernel
theorem dX11_tuned_42 : decode cX11_tuned 42 = .ok (.iload 4, 2) := by decide +kernel
theorem dX11_tuned_44 : decode cX11_tuned 44 = .ok (.bipush 64, 2) := by decide +kernel
theorem dX11_tuned_46 : decode cX11_tuned 46 = .ok (.if_icmp .gt 54, 3) := by decide +kernel
theorem dX11_tuned_49 : decode cX11_tuned 49 = .ok (.aload_n 0, 1) := by decide +kernel
theorem dX11_tuned_50 : decode cX11_tuned 50 = .ok (.getfield 86, 3) := by decide +kernel
theorem dX11_tuned_53 : decode cX11_tuned 53 = .ok (.iload 4, 2) := by decide +kernel
theorem dX11_tuned_55 : decode cX11_tuned 55 = .ok (.aload_n 2, 1) := by decide +kernel
theorem dX11_tuned_56 : decode cX11_tuned 56 = .ok (.getfield 132, 3) := by decide +kernel
theorem dX11_tuned_59 : decode cX11_tuned 59 = .ok (.iload 4, 2) := by decide +kernel
theorem dX11_tuned_61 : decode cX11_tuned 61 = .ok (.iaload, 1) := by decide +kernel
theorem dX11_tuned_62 : decode cX11_tuned 62 = .ok (.aload_n 2, 1) := by decide +kernel
theorem dX11_tuned_63 : decode cX11_tuned 63 = .ok (.aload_n 0, 1) := by decide +kernel
theorem dX11_tuned_64 : decode cX11_tuned 64 = .ok (.getfield 86, 3) := by decide +kernel
theorem dX11_tuned_67 : decode cX11_tuned 67 = .ok (.iload 4, 2) := by decide +kernel
theorem dX11_tuned_69 : decode cX11_tuned 69 = .ok (.invokevirtual 147, 3) := by decide +kernel
theorem dX11_tuned_72 : decode cX11_tuned 72 = .ok (.iadd, 1) := by decide +kernel
theorem dX11_tuned_73 : decode cX11_tuned 73 = .ok (.iastore, 1) := by decide +kernel
theorem dX11_tuned_74 : decode cX11_tuned 74 = .ok (.aload_n 0, 1) := by decide +kernel
theorem dX11_tuned_75 : decode cX11_tuned 75 = .ok (.getfield 86, 3) := by decide +kernel
theorem dX11_tuned_78 : decode cX11_tuned 78 = .ok (.iload 4, 2) := by decide +kernel
theorem dX11_tuned_80 : decode cX11_tuned 80 = .ok (.iaload, 1) := by decide +kernel
theorem dX11_tuned_81 : decode cX11_tuned 81 = .ok (.aload_n 2, 1) := by decide +kernel
theorem dX11_tuned_82 : decode cX11_tuned 82 = .ok (.getfield 137, 3) := by decide +kernel
theorem dX11_tuned_85 : decode cX11_tuned 85 = .ok (.iload 4, 2) := by decide +kernel
theorem dX11_tuned_87 : decode cX11_tuned 87 = .ok (.iaload, 1) := by decide +kernel
theorem dX11_tuned_88 : decode cX11_tuned 88 = .ok (.if_icmp .eq 6, 3) := by decide +kernel
theorem dX11_tuned_91 : decode cX11_tuned 91 = .ok (.iinc 3 1, 3) := by decide +kernel
theorem dX11_tuned_94 : decode cX11_tuned 94 = .ok (.iinc 4 1, 3) := by decide +kernel
theorem dX11_tuned_97 : decode cX11_tuned 97 = .ok (.goto (-55), 3) := by decide +kernel
theorem dX11_tuned_100 : decode cX11_tuned 100 = .ok (.iload_n 1, 1) := by decide +kernel
theorem dX11_tuned_101 : decode cX11_tuned 101 = .ok (.iconst 2, 1) := by decide +kernel
theorem dX11_tuned_102 : decode cX11_tuned 102 = .ok (.if_icmp .ne 7, 3) := by decide +kernel
theorem dX11_tuned_105 : decode cX11_tuned 105 = .ok (.iload_n 3, 1) := by decide +kernel
theorem dX11_tuned_106 : decode cX11_tuned 106 = .ok (.goto 11, 3) := by decide +kernel
theorem dX11_tuned_109 : decode cX11_tuned 109 = .ok (.aload_n 0, 1) := by decide +kernel
theorem dX11_tuned_110 : decode cX11_tuned 110 = .ok (.getfield 86, 3) := by decide +kernel
theorem dX11_tuned_113 : decode cX11_tuned 113 = .ok (.iload_n 1, 1) := by decide +kernel
theorem dX11_tuned_114 : decode cX11_tuned 114 = .ok (.invokestatic 144, 3) := by decide +kernel
theorem dX11_tuned_117 : decode cX11_tuned 117 = .ok (.ireturn, 1) := by decide +kernel
theorem dX11_askRamp_0 : decode cX11_askRamp 0 = .ok (.iload_n 1, 1) := by decide +kernel
theorem dX11_askRamp_1 : decode cX11_askRamp 1 = .ok (.iconst 0, 1) := by decide +kernel
theorem dX11_askRamp_2 : decode cX11_askRamp 2 = .ok (.bipush 60, 2) := by decide +kernel
theorem dX11_askRamp_4 : decode cX11_askRamp 4 = .ok (.invokestatic 123, 3) := by decide +kernel
theorem dX11_askRamp_7 : decode cX11_askRamp 7 = .ok (.ifCond .eq 23, 3) := by decide +kernel
theorem dX11_askRamp_10 : decode cX11_askRamp 10 = .ok (.iload_n 2, 1) := by decide +kernel
theorem dX11_askRamp_11 : decode cX11_askRamp 11 = .ok (.iconst 1, 1) := by decide +kernel
theorem dX11_askRamp_12 : decode cX11_askRamp 12 = .ok (.bipush 30, 2) := by decide +kernel
theorem dX11_askRamp_14 : decode cX11_askRamp 14 = .ok (.invokestatic 123, 3) := by decide +kernel
theorem dX11_askRamp_17 : decode cX11_askRamp 17 = .ok (.ifCond .eq 13, 3) := by decide +kernel
theorem dX11_askRamp_20 : decode cX11_askRamp 20 = .ok (.iload_n 3, 1) := by decide +kernel
theorem dX11_askRamp_21 : decode cX11_askRamp 21 = .ok (.iconst 1, 1) := by decide +kernel
theorem dX11_askRamp_22 : decode cX11_askRamp 22 = .ok (.bipush 10, 2) := by decide +kernel
theorem dX11_askRamp_24 : decode cX11_askRamp 24 = .ok (.invokestatic 123, 3) := by decide +kernel
theorem dX11_askRamp_27 : decode cX11_askRamp 27 = .ok (.ifCond .ne 5, 3) := by decide +kernel
theorem dX11_askRamp_30 : decode cX11_askRamp 30 = .ok (.iconst 0, 1) := by decide +kernel
theorem dX11_askRamp_31 : decode cX11_askRamp 31 = .ok (.ireturn, 1) := by decide +kernel
theorem dX11_askRamp_32 : decode cX11_askRamp 32 = .ok (.aload_n 0, 1) := by decide +kernel
theorem dX11_askRamp_33 : decode cX11_askRamp 33 = .ok (.getfield 64, 3) := by decide +kernel
theorem dX11_askRamp_36 : decode cX11_askRamp 36 = .ok (.iload_n 1, 1) := by decide +kernel
theorem dX11_askRamp_37 : decode cX11_askRamp 37 = .ok (.iload_n 2, 1) := by decide +kernel
theorem dX11_askRamp_38 : decode cX11_askRamp 38 = .ok (.iload_n 3, 1) := by decide +kernel
theorem dX11_askRamp_39 : decode cX11_askRamp 39 = .ok (.invokevirtual 281, 3) := by decide +kernel
theorem dX11_askRamp_42 : decode cX11_askRamp 42 = .ok (.iconst 1, 1) := by decide +kernel
theorem dX11_askRamp_43 : decode cX11_askRamp 43 = .ok (.ireturn, 1) := by decide +kernel
theorem dX11_ramp_0 : decode cX11_ramp 0 = .ok (.aload_n 0, 1) := by decide +kernel
theorem dX11_ramp_1 : decode cX11_ramp 1 = .ok (.iload_n 1, 1) := by decide +kernel
theorem dX11_ramp_2 : decode cX11_ramp 2 = .ok (.iload_n 2, 1) := by decide +kernel
theorem dX11_ramp_3 : decode cX11_ramp 3 = .ok (.iload_n 3, 1) := by decide +kernel
theorem dX11_ramp_4 : decode cX11_ramp 4 = .ok (.invokevirtual 156, 3) := by decide +kernel
theorem dX11_ramp_7 : decode cX11_ramp 7 = .ok (.ifCond .ne 5, 3) := by decide +kernel
theorem dX11_ramp_10 : decode cX11_ramp 10 = .ok (.iconst (-1), 1) := by decide +kernel
theorem dX11_ramp_11 : decode cX11_ramp 11 = .ok (.ireturn, 1) := by decide +kernel
theorem dX11_ramp_12 : decode cX11_ramp 12 = .ok (.iload 4, 2) := by decide +kernel
theorem dX11_ramp_14 : decode cX11_ramp 14 = .ok (.tableswitch 50 0 2 #[26, 34, 42], 26) := by decide +kernel
theorem dX11_ramp_40 : decode cX11_ramp 40 = .ok (.aload_n 0, 1) := by decide +kernel
theorem dX11_ramp_41 : decode cX11_ramp 41 = .ok (.getfield 64, 3) := by decide +kernel
theorem dX11_ramp_44 : decode cX11_ramp 44 = .ok (.getfield 159, 3) := by decide +kernel
theorem dX11_ramp_47 : decode cX11_ramp 47 = .ok (.ireturn, 1) := by decide +kernel
theorem dX11_ramp_48 : decode cX11_ramp 48 = .ok (.aload_n 0, 1) := by decide +kernel
theorem dX11_ramp_49 : decode cX11_ramp 49 = .ok (.getfield 64, 3) := by decide +kernel
theorem dX11_ramp_52 : decode cX11_ramp 52 = .ok (.invokevirtual 162, 3) := by decide +kernel
theorem dX11_ramp_55 : decode cX11_ramp 55 = .ok (.ireturn, 1) := by decide +kernel
theorem dX11_ramp_56 : decode cX11_ramp 56 = .ok (.aload_n 0, 1) := by decide +kernel
theorem dX11_ramp_57 : decode cX11_ramp 57 = .ok (.getfield 64, 3) := by decide +kernel
theorem dX11_ramp_60 : decode cX11_ramp 60 = .ok (.invokevirtual 166, 3) := by decide +kernel
theorem dX11_ramp_63 : decode cX11_ramp 63 = .ok (.ireturn, 1) := by decide +kernel
theorem dX11_ramp_64 : decode cX11_ramp 64 = .ok (.iconst (-1), 1) := by decide +kernel
theorem dX11_ramp_65 : decode cX11_ramp 65 = .ok (.ireturn, 1) := by decide +kernel
theorem dX11_rampAt_0 : decode cX11_rampAt 0 = .ok (.aload_n 0, 1) := by decide +kernel
theorem dX11_rampAt_1 : decode cX11_rampAt 1 = .ok (.iload_n 1, 1) := by decide +kernel
theorem dX11_rampAt_2 : decode cX11_rampAt 2 = .ok (.iload_n 2, 1) := by decide +kernel
theorem dX11_rampAt_3 : decode cX11_rampAt 3 = .ok (.iload_n 3, 1) := by decide +kernel
theorem dX11_rampAt_4 : decode cX11_rampAt 4 = .ok (.invokevirtual 156, 3) := by decide +kernel
theorem dX11_rampAt_7 : decode cX11_rampAt 7 = .ok (.ifCond .eq 19, 3) := by decide +kernel
theorem dX11_rampAt_10 : decode cX11_rampAt 10 = .ok (.iload 4, 2) := by decide +kernel
theorem dX11_rampAt_12 : decode cX11_rampAt 12 = .ok (.iconst 1, 1) := by decide +kernel
theorem dX11_rampAt_13 : decode cX11_rampAt 13 = .ok (.aload_n 0, 1) := by decide +kernel
theorem dX11_rampAt_14 : decode cX11_rampAt 14 = .ok (.getfield 64, 3) := by decide +kernel
theorem dX11_rampAt_17 : decode cX11_rampAt 17 = .ok (.getfield 159, 3) := by decide +kernel
theorem dX11_rampAt_20 : decode cX11_rampAt 20 = .ok (.invokestatic 123, 3) := by decide +kernel
theorem dX11_rampAt_23 : decode cX11_rampAt 23 = .ok (.ifCond .ne 5, 3) := by decide +kernel
theorem dX11_rampAt_26 : decode cX11_rampAt 26 = .ok (.iconst (-1), 1) := by decide +kernel
theorem dX11_rampAt_27 : decode cX11_rampAt 27 = .ok (.ireturn, 1) := by decide +kernel
theorem dX11_rampAt_28 : decode cX11_rampAt 28 = .ok (.aload_n 0, 1) := by decide +kernel
theorem dX11_rampAt_29 : decode cX11_rampAt 29 = .ok (.getfield 64, 3) := by decide +kernel
theorem dX11_rampAt_32 : decode cX11_rampAt 32 = .ok (.iload 4, 2) := by decide +kernel
theorem dX11_rampAt_34 : decode cX11_rampAt 34 = .ok (.invokevirtual 169, 3) := by decide +kernel
theorem dX11_rampAt_37 : decode cX11_rampAt 37 = .ok (.ireturn, 1) := by decide +kernel
theorem dX11_takeGoal_0 : decode cX11_takeGoal 0 = .ok (.aload_n 0, 1) := by decide +kernel
theorem dX11_takeGoal_1 : decode cX11_takeGoal 1 = .ok (.getfield 82, 3) := by decide +kernel
theorem dX11_takeGoal_4 : decode cX11_takeGoal 4 = .ok (.iconst 0, 1) := by decide +kernel
theorem dX11_takeGoal_5 : decode cX11_takeGoal 5 = .ok (.iload_n 1, 1) := by decide +kernel
theorem dX11_takeGoal_6 : decode cX11_takeGoal 6 = .ok (.iastore, 1) := by decide +kernel
theorem dX11_takeGoal_7 : decode cX11_takeGoal 7 = .ok (.aload_n 0, 1) := by decide +kernel
theorem dX11_takeGoal_8 : decode cX11_takeGoal 8 = .ok (.getfield 82, 3) := by decide +kernel
theorem dX11_takeGoal_11 : decode cX11_takeGoal 11 = .ok (.iconst 1, 1) := by decide +kernel
theorem dX11_takeGoal_12 : decode cX11_takeGoal 12 = .ok (.iload_n 2, 1) := by decide +kernel
theorem dX11_takeGoal_13 : decode cX11_takeGoal 13 = .ok (.iastore, 1) := by decide +kernel
theorem dX11_takeGoal_14 : decode cX11_takeGoal 14 = .ok (.aload_n 0, 1) := by decide +kernel
theorem dX11_takeGoal_15 : decode cX11_takeGoal 15 = .ok (.getfield 82, 3) := by decide +kernel
theorem dX11_takeGoal_18 : decode cX11_takeGoal 18 = .ok (.iconst 2, 1) := by decide +kernel
theorem dX11_takeGoal_19 : decode cX11_takeGoal 19 = .ok (.iload_n 3, 1) := by decide +kernel
theorem dX11_takeGoal_20 : decode cX11_takeGoal 20 = .ok (.iastore, 1) := by decide +kernel
theorem dX11_takeGoal_21 : decode cX11_takeGoal 21 = .ok (.iconst 0, 1) := by decide +kernel
theorem dX11_takeGoal_22 : decode cX11_takeGoal 22 = .ok (.istore 4, 2) := by decide +kernel
theorem dX11_takeGoal_24 : decode cX11_takeGoal 24 = .ok (.iload 4, 2) := by decide +kernel
theorem dX11_takeGoal_26 : decode cX11_takeGoal 26 = .ok (.aload_n 0, 1) := by decide +kernel
theorem dX11_takeGoal_27 : decode cX11_takeGoal 27 = .ok (.getfield 12, 3) := by decide +kernel
theorem dX11_takeGoal_30 : decode cX11_takeGoal 30 = .ok (.getfield 114, 3) := by decide +kernel
theorem dX11_takeGoal_33 : decode cX11_takeGoal 33 = .ok (.if_icmp .ge 30, 3) := by decide +kernel
theorem dX11_takeGoal_36 : decode cX11_takeGoal 36 = .ok (.aload_n 0, 1) := by decide +kernel
theorem dX11_takeGoal_37 : decode cX11_takeGoal 37 = .ok (.getfield 82, 3) := by decide +kernel
theorem dX11_takeGoal_40 : decode cX11_takeGoal 40 = .ok (.iload 4, 2) := by decide +kernel
theorem dX11_takeGoal_42 : decode cX11_takeGoal 42 = .ok (.iaload, 1) := by decide +kernel
theorem dX11_takeGoal_43 : decode cX11_takeGoal 43 = .ok (.sipush (-30000), 3) := by decide +kernel
theorem dX11_takeGoal_46 : decode cX11_takeGoal 46 = .ok (.sipush 30000, 3) := by decide +kernel
theorem dX11_takeGoal_49 : decode cX11_takeGoal 49 = .ok (.invokestatic 123, 3) := by decide +kernel
theorem dX11_takeGoal_52 : decode cX11_takeGoal 52 = .ok (.ifCond .ne 5, 3) := by decide +kernel
theorem dX11_takeGoal_55 : decode cX11_takeGoal 55 = .ok (.iconst 0, 1) := by decide +kernel
theorem dX11_takeGoal_56 : decode cX11_takeGoal 56 = .ok (.ireturn, 1) := by decide +kernel
theorem dX11_takeGoal_57 : decode cX11_takeGoal 57 = .ok (.iinc 4 1, 3) := by decide +kernel
theorem dX11_takeGoal_60 : decode cX11_takeGoal 60 = .ok (.goto (-36), 3) := by decide +kernel
theorem dX11_takeGoal_63 : decode cX11_takeGoal 63 = .ok (.iconst 1, 1) := by decide +kernel
theorem dX11_takeGoal_64 : decode cX11_takeGoal 64 = .ok (.ireturn, 1) := by decide +kernel
theorem dX11_askMove_0 : decode cX11_askMove 0 = .ok (.aload_n 0, 1) := by decide +kernel
theorem dX11_askMove_1 : decode cX11_askMove 1 = .ok (.iload_n 1, 1) := by decide +kernel
theorem dX11_askMove_2 : decode cX11_askMove 2 = .ok (.iload_n 2, 1) := by decide +kernel
theorem dX11_askMove_3 : decode cX11_askMove 3 = .ok (.iload_n 3, 1) := by decide +kernel
theorem dX11_askMove_4 : decode cX11_askMove 4 = .ok (.invokevirtual 301, 3) := by decide +kernel
theorem dX11_askMove_7 : decode cX11_askMove 7 = .ok (.ifCond .eq 32, 3) := by decide +kernel
theorem dX11_askMove_10 : decode cX11_askMove 10 = .ok (.aload_n 0, 1) := by decide +kernel
theorem dX11_askMove_11 : decode cX11_askMove 11 = .ok (.getfield 57, 3) := by decide +kernel
theorem dX11_askMove_14 : decode cX11_askMove 14 = .ok (.aload_n 0, 1) := by decide +kernel
theorem dX11_askMove_15 : decode cX11_askMove 15 = .ok (.getfield 40, 3) := by decide +kernel
theorem dX11_askMove_18 : decode cX11_askMove 18 = .ok (.getfield 308, 3) := by decide +kernel
theorem dX11_askMove_21 : decode cX11_askMove 21 = .ok (.aload_n 0, 1) := by decide +kernel
theorem dX11_askMove_22 : decode cX11_askMove 22 = .ok (.getfield 82, 3) := by decide +kernel
theorem dX11_askMove_25 : decode cX11_askMove 25 = .ok (.aload_n 0, 1) := by decide +kernel
theorem dX11_askMove_26 : decode cX11_askMove 26 = .ok (.getfield 12, 3) := by decide +kernel
theorem dX11_askMove_29 : decode cX11_askMove 29 = .ok (.invokevirtual 415, 3) := by decide +kernel
theorem dX11_askMove_32 : decode cX11_askMove 32 = .ok (.ifCond .eq 7, 3) := by decide +kernel
theorem dX11_askMove_35 : decode cX11_askMove 35 = .ok (.iconst 1, 1) := by decide +kernel
theorem dX11_askMove_36 : decode cX11_askMove 36 = .ok (.goto 4, 3) := by decide +kernel
theorem dX11_askMove_39 : decode cX11_askMove 39 = .ok (.iconst 0, 1) := by decide +kernel
theorem dX11_askMove_40 : decode cX11_askMove 40 = .ok (.ireturn, 1) := by decide +kernel
theorem dX11_path_0 : decode cX11_path 0 = .ok (.aload_n 0, 1) := by decide +kernel
theorem dX11_path_1 : decode cX11_path 1 = .ok (.iload_n 1, 1) := by decide +kernel
theorem dX11_path_2 : decode cX11_path 2 = .ok (.iload_n 2, 1) := by decide +kernel
theorem dX11_path_3 : decode cX11_path 3 = .ok (.iload_n 3, 1) := by decide +kernel
theorem dX11_path_4 : decode cX11_path 4 = .ok (.invokevirtual 173, 3) := by decide +kernel
theorem dX11_path_7 : decode cX11_path 7 = .ok (.ifCond .ne 5, 3) := by decide +kernel
theorem dX11_path_10 : decode cX11_path 10 = .ok (.iconst (-1), 1) := by decide +kernel
theorem dX11_path_11 : decode cX11_path 11 = .ok (.ireturn, 1) := by decide +kernel
theorem dX11_path_12 : decode cX11_path 12 = .ok (.iload 4, 2) := by decide +kernel
theorem dX11_path_14 : decode cX11_path 14 = .ok (.tableswitch 108 0 6 #[42, 50, 58, 66, 74, 85, 96], 42) := by decide +kernel
theorem dX11_path_56 : decode cX11_path 56 = .ok (.aload_n 0, 1) := by decide +kernel
theorem dX11_path_57 : decode cX11_path 57 = .ok (.getfield 57, 3) := by decide +kernel
theorem dX11_path_60 : decode cX11_path 60 = .ok (.invokevirtual 176, 3) := by decide +kernel
theorem dX11_path_63 : decode cX11_path 63 = .ok (.ireturn, 1) := by decide +kernel
theorem dX11_path_64 : decode cX11_path 64 = .ok (.aload_n 0, 1) := by decide +kernel
theorem dX11_path_65 : decode cX11_path 65 = .ok (.getfield 57, 3) := by decide +kernel
theorem dX11_path_68 : decode cX11_path 68 = .ok (.getfield 178, 3) := by decide +kernel
theorem dX11_path_71 : decode cX11_path 71 = .ok (.ireturn, 1) := by decide +kernel
theorem dX11_path_72 : decode cX11_path 72 = .ok (.aload_n 0, 1) := by decide +kernel
theorem dX11_path_73 : decode cX11_path 73 = .ok (.getfield 57, 3) := by decide +kernel
theorem dX11_path_76 : decode cX11_path 76 = .ok (.getfield 181, 3) := by decide +kernel
theorem dX11_path_79 : decode cX11_path 79 = .ok (.ireturn, 1) := by decide +kernel
theorem dX11_path_80 : decode cX11_path 80 = .ok (.aload_n 0, 1) := by decide +kernel
theorem dX11_path_81 : decode cX11_path 81 = .ok (.getfield 57, 3) := by decide +kernel
theorem dX11_path_84 : decode cX11_path 84 = .ok (.getfield 184, 3) := by decide +kernel
theorem dX11_path_87 : decode cX11_path 87 = .ok (.ireturn, 1) := by decide +kernel
theorem dX11_path_88 : decode cX11_path 88 = .ok (.aload_n 0, 1) := by decide +kernel
theorem dX11_path_89 : decode cX11_path 89 = .ok (.getfield 57, 3) := by decide +kernel
theorem dX11_path_92 : decode cX11_path 92 = .ok (.getfield 187, 3) := by decide +kernel
theorem dX11_path_95 : decode cX11_path 95 = .ok (.invokevirtual 162, 3) := by decide +kernel
theorem dX11_path_98 : decode cX11_path 98 = .ok (.ireturn, 1) := by decide +kernel
theorem dX11_path_99 : decode cX11_path 99 = .ok (.aload_n 0, 1) := by decide +kernel
theorem dX11_path_100 : decode cX11_path 100 = .ok (.getfield 57, 3) := by decide +kernel
theorem dX11_path_103 : decode cX11_path 103 = .ok (.getfield 187, 3) := by decide +kernel
theorem dX11_path_106 : decode cX11_path 106 = .ok (.getfield 159, 3) := by decide +kernel
theorem dX11_path_109 : decode cX11_path 109 = .ok (.ireturn, 1) := by decide +kernel
theorem dX11_path_110 : decode cX11_path 110 = .ok (.aload_n 0, 1) := by decide +kernel
theorem dX11_path_111 : decode cX11_path 111 = .ok (.getfield 57, 3) := by decide +kernel
theorem dX11_path_114 : decode cX11_path 114 = .ok (.aload_n 0, 1) := by decide +kernel
theorem dX11_path_115 : decode cX11_path 115 = .ok (.getfield 12, 3) := by decide +kernel
theorem dX11_path_118 : decode cX11_path 118 = .ok (.invokevirtual 190, 3) := by decide +kernel
theorem dX11_path_121 : decode cX11_path 121 = .ok (.ireturn, 1) := by decide +kernel
theorem dX11_path_122 : decode cX11_path 122 = .ok (.iconst (-1), 1) := by decide +kernel
theorem dX11_path_123 : decode cX11_path 123 = .ok (.ireturn, 1) := by decide +kernel
theorem dX11_isAxis_0 : decode cX11_isAxis 0 = .ok (.iload_n 1, 1) := by decide +kernel
theorem dX11_isAxis_1 : decode cX11_isAxis 1 = .ok (.ifCond .lt 18, 3) := by decide +kernel
theorem dX11_isAxis_4 : decode cX11_isAxis 4 = .ok (.iload_n 1, 1) := by decide +kernel
theorem dX11_isAxis_5 : decode cX11_isAxis 5 = .ok (.aload_n 0, 1) := by decide +kernel
theorem dX11_isAxis_6 : decode cX11_isAxis 6 = .ok (.getfield 12, 3) := by decide +kernel
theorem dX11_isAxis_9 : decode cX11_isAxis 9 = .ok (.getfield 114, 3) := by decide +kernel
theorem dX11_isAxis_12 : decode cX11_isAxis 12 = .ok (.if_icmp .ge 7, 3) := by decide +kernel
theorem dX11_isAxis_15 : decode cX11_isAxis 15 = .ok (.iconst 1, 1) := by decide +kernel
theorem dX11_isAxis_16 : decode cX11_isAxis 16 = .ok (.goto 4, 3) := by decide +kernel
theorem dX11_isAxis_19 : decode cX11_isAxis 19 = .ok (.iconst 0, 1) := by decide +kernel
theorem dX11_isAxis_20 : decode cX11_isAxis 20 = .ok (.ireturn, 1) := by decide +kernel
theorem dX11_pathAt_0 : decode cX11_pathAt 0 = .ok (.aload_n 0, 1) := by decide +kernel
theorem dX11_pathAt_1 : decode cX11_pathAt 1 = .ok (.iload 4, 2) := by decide +kernel
theorem dX11_pathAt_3 : decode cX11_pathAt 3 = .ok (.invokevirtual 194, 3) := by decide +kernel
theorem dX11_pathAt_6 : decode cX11_pathAt 6 = .ok (.ifCond .eq 29, 3) := by decide +kernel
theorem dX11_pathAt_9 : decode cX11_pathAt 9 = .ok (.aload_n 0, 1) := by decide +kernel
theorem dX11_pathAt_10 : decode cX11_pathAt 10 = .ok (.iload_n 1, 1) := by decide +kernel
theorem dX11_pathAt_11 : decode cX11_pathAt 11 = .ok (.iload_n 2, 1) := by decide +kernel
theorem dX11_pathAt_12 : decode cX11_pathAt 12 = .ok (.iload_n 3, 1) := by decide +kernel
theorem dX11_pathAt_13 : decode cX11_pathAt 13 = .ok (.invokevirtual 173, 3) := by decide +kernel
theorem dX11_pathAt_16 : decode cX11_pathAt 16 = .ok (.ifCond .eq 19, 3) := by decide +kernel
theorem dX11_pathAt_19 : decode cX11_pathAt 19 = .ok (.iload 5, 2) := by decide +kernel
theorem dX11_pathAt_21 : decode cX11_pathAt 21 = .ok (.iconst 0, 1) := by decide +kernel
theorem dX11_pathAt_22 : decode cX11_pathAt 22 = .ok (.aload_n 0, 1) := by decide +kernel
theorem dX11_pathAt_23 : decode cX11_pathAt 23 = .ok (.getfield 57, 3) := by decide +kernel
theorem dX11_pathAt_26 : decode cX11_pathAt 26 = .ok (.invokevirtual 176, 3) := by decide +kernel
theorem dX11_pathAt_29 : decode cX11_pathAt 29 = .ok (.invokestatic 123, 3) := by decide +kernel
theorem dX11_pathAt_32 : decode cX11_pathAt 32 = .ok (.ifCond .ne 6, 3) := by decide +kernel
theorem dX11_pathAt_35 : decode cX11_pathAt 35 = .ok (.ldc 127, 2) := by decide +kernel
theorem dX11_pathAt_37 : decode cX11_pathAt 37 = .ok (.ireturn, 1) := by decide +kernel
theorem dX11_pathAt_38 : decode cX11_pathAt 38 = .ok (.aload_n 0, 1) := by decide +kernel
theorem dX11_pathAt_39 : decode cX11_pathAt 39 = .ok (.getfield 57, 3) := by decide +kernel
theorem dX11_pathAt_42 : decode cX11_pathAt 42 = .ok (.iload 4, 2) := by decide +kernel
theorem dX11_pathAt_44 : decode cX11_pathAt 44 = .ok (.aload_n 0, 1) := by decide +kernel
theorem dX11_pathAt_45 : decode cX11_pathAt 45 = .ok (.getfield 57, 3) := by decide +kernel
theorem dX11_pathAt_48 : decode cX11_pathAt 48 = .ok (.iload 5, 2) := by decide +kernel
theorem dX11_pathAt_50 : decode cX11_pathAt 50 = .ok (.invokevirtual 198, 3) := by decide +kernel
theorem dX11_pathAt_53 : decode cX11_pathAt 53 = .ok (.invokevirtual 201, 3) := by decide +kernel
theorem dX11_pathAt_56 : decode cX11_pathAt 56 = .ok (.ireturn, 1) := by decide +kernel
theorem dX11_stamp_0 : decode cX11_stamp 0 = .ok (.aload_n 0, 1) := by decide +kernel
theorem dX11_stamp_1 : decode cX11_stamp 1 = .ok (.iload 4, 2) := by decide +kernel
theorem dX11_stamp_3 : decode cX11_stamp 3 = .ok (.invokevirtual 194, 3) := by decide +kernel
theorem dX11_stamp_6 : decode cX11_stamp 6 = .ok (.ifCond .eq 31, 3) := by decide +kernel
theorem dX11_stamp_9 : decode cX11_stamp 9 = .ok (.aload_n 0, 1) := by decide +kernel
theorem dX11_stamp_10 : decode cX11_stamp 10 = .ok (.iload_n 1, 1) := by decide +kernel
theorem dX11_stamp_11 : decode cX11_stamp 11 = .ok (.iload_n 2, 1) := by decide +kernel
theorem dX11_stamp_12 : decode cX11_stamp 12 = .ok (.iload_n 3, 1) := by decide +kernel
theorem dX11_stamp_13 : decode cX11_stamp 13 = .ok (.invokevirtual 173, 3) := by decide +kernel
theorem dX11_stamp_16 : decode cX11_stamp 16 = .ok (.ifCond .eq 21, 3) := by decide +kernel
theorem dX11_stamp_19 : decode cX11_stamp 19 = .ok (.iload 5, 2) := by decide +kernel
theorem dX11_stamp_21 : decode cX11_stamp 21 = .ok (.iconst 1, 1) := by decide +kernel
theorem dX11_stamp_22 : decode cX11_stamp 22 = .ok (.aload_n 0, 1) := by decide +kernel
theorem dX11_stamp_23 : decode cX11_stamp 23 = .ok (.getfield 57, 3) := by decide +kernel
theorem dX11_stamp_26 : decode cX11_stamp 26 = .ok (.iload 4, 2) := by decide +kernel
theorem dX11_stamp_28 : decode cX11_stamp 28 = .ok (.invokevirtual 205, 3) := by decide +kernel
theorem dX11_stamp_31 : decode cX11_stamp 31 = .ok (.invokestatic 123, 3) := by decide +kernel
theorem dX11_stamp_34 : decode cX11_stamp 34 = .ok (.ifCond .ne 5, 3) := by decide +kernel
theorem dX11_stamp_37 : decode cX11_stamp 37 = .ok (.iconst (-1), 1) := by decide +kernel
theorem dX11_stamp_38 : decode cX11_stamp 38 = .ok (.ireturn, 1) := by decide +kernel
theorem dX11_stamp_39 : decode cX11_stamp 39 = .ok (.aload_n 0, 1) := by decide +kernel
theorem dX11_stamp_40 : decode cX11_stamp 40 = .ok (.getfield 57, 3) := by decide +kernel
theorem dX11_stamp_43 : decode cX11_stamp 43 = .ok (.aload_n 0, 1) := by decide +kernel
theorem dX11_stamp_44 : decode cX11_stamp 44 = .ok (.getfield 57, 3) := by decide +kernel
theorem dX11_stamp_47 : decode cX11_stamp 47 = .ok (.iload 4, 2) := by decide +kernel
theorem dX11_stamp_49 : decode cX11_stamp 49 = .ok (.iload 5, 2) := by decide +kernel
theorem dX11_stamp_51 : decode cX11_stamp 51 = .ok (.invokevirtual 208, 3) := by decide +kernel
theorem dX11_stamp_54 : decode cX11_stamp 54 = .ok (.invokevirtual 211, 3) := by decide +kernel
theorem dX11_stamp_57 : decode cX11_stamp 57 = .ok (.ireturn, 1) := by decide +kernel
theorem dX11_peak_0 : decode cX11_peak 0 = .ok (.iload 4, 2) := by decide +kernel
theorem dX11_peak_2 : decode cX11_peak 2 = .ok (.iconst 0, 1) := by decide +kernel
theorem dX11_peak_3 : decode cX11_peak 3 = .ok (.iconst 1, 1) := by decide +kernel
theorem dX11_peak_4 : decode cX11_peak 4 = .ok (.invokestatic 123, 3) := by decide +kernel
theorem dX11_peak_7 : decode cX11_peak 7 = .ok (.ifCond .eq 13, 3) := by decide +kernel
theorem dX11_peak_10 : decode cX11_peak 10 = .ok (.aload_n 0, 1) := by decide +kernel
theorem dX11_peak_11 : decode cX11_peak 11 = .ok (.iload_n 1, 1) := by decide +kernel
theorem dX11_peak_12 : decode cX11_peak 12 = .ok (.iload_n 2, 1) := by decide +kernel
theorem dX11_peak_13 : decode cX11_peak 13 = .ok (.iload_n 3, 1) := by decide +kernel
theorem dX11_peak_14 : decode cX11_peak 14 = .ok (.invokevirtual 173, 3) := by decide +kernel
theorem dX11_peak_17 : decode cX11_peak 17 = .ok (.ifCond .ne 5, 3) := by decide +kernel
theorem dX11_peak_20 : decode cX11_peak 20 = .ok (.iconst (-1), 1) := by decide +kernel
theorem dX11_peak_21 : decode cX11_peak 21 = .ok (.ireturn, 1) := by decide +kernel
theorem dX11_peak_22 : decode cX11_peak 22 = .ok (.aload_n 0, 1) := by decide +kernel
theorem dX11_peak_23 : decode cX11_peak 23 = .ok (.getfield 57, 3) := by decide +kernel
theorem dX11_peak_26 : decode cX11_peak 26 = .ok (.iload 4, 2) := by decide +kernel
theorem dX11_peak_28 : decode cX11_peak 28 = .ok (.iconst 1, 1) := by decide +kernel
theorem dX11_peak_29 : decode cX11_peak 29 = .ok (.if_icmp .ne 7, 3) := by decide +kernel
theorem dX11_peak_32 : decode cX11_peak 32 = .ok (.iconst 1, 1) := by decide +kernel
theorem dX11_peak_33 : decode cX11_peak 33 = .ok (.goto 4, 3) := by decide +kernel
theorem dX11_peak_36 : decode cX11_peak 36 = .ok (.iconst 0, 1) := by decide +kernel
theorem dX11_peak_37 : decode cX11_peak 37 = .ok (.invokevirtual 214, 3) := by decide +kernel
theorem dX11_peak_40 : decode cX11_peak 40 = .ok (.ireturn, 1) := by decide +kernel
theorem dX11_needed_0 : decode cX11_needed 0 = .ok (.aload_n 0, 1) := by decide +kernel
theorem dX11_needed_1 : decode cX11_needed 1 = .ok (.iload_n 1, 1) := by decide +kernel
theorem dX11_needed_2 : decode cX11_needed 2 = .ok (.invokevirtual 194, 3) := by decide +kernel
theorem dX11_needed_5 : decode cX11_needed 5 = .ok (.ifCond .eq 24, 3) := by decide +kernel
theorem dX11_needed_8 : decode cX11_needed 8 = .ok (.iload_n 2, 1) := by decide +kernel
theorem dX11_needed_9 : decode cX11_needed 9 = .ok (.iconst 1, 1) := by decide +kernel
theorem dX11_needed_10 : decode cX11_needed 10 = .ok (.sipush 30000, 3) := by decide +kernel
theorem dX11_needed_13 : decode cX11_needed 13 = .ok (.invokestatic 123, 3) := by decide +kernel
theorem dX11_needed_16 : decode cX11_needed 16 = .ok (.ifCond .eq 13, 3) := by decide +kernel
theorem dX11_needed_19 : decode cX11_needed 19 = .ok (.iload_n 3, 1) := by decide +kernel
theorem dX11_needed_20 : decode cX11_needed 20 = .ok (.iconst 1, 1) := by decide +kernel
theorem dX11_needed_21 : decode cX11_needed 21 = .ok (.ldc 218, 2) := by decide +kernel
theorem dX11_needed_23 : decode cX11_needed 23 = .ok (.invokestatic 123, 3) := by decide +kernel
theorem dX11_needed_26 : decode cX11_needed 26 = .ok (.ifCond .ne 5, 3) := by decide +kernel
theorem dX11_needed_29 : decode cX11_needed 29 = .ok (.iconst (-1), 1) := by decide +kernel
theorem dX11_needed_30 : decode cX11_needed 30 = .ok (.ireturn, 1) := by decide +kernel
theorem dX11_needed_31 : decode cX11_needed 31 = .ok (.aload_n 0, 1) := by decide +kernel
theorem dX11_needed_32 : decode cX11_needed 32 = .ok (.getfield 57, 3) := by decide +kernel
theorem dX11_needed_35 : decode cX11_needed 35 = .ok (.aload_n 0, 1) := by decide +kernel
theorem dX11_needed_36 : decode cX11_needed 36 = .ok (.getfield 12, 3) := by decide +kernel
theorem dX11_needed_39 : decode cX11_needed 39 = .ok (.iload_n 1, 1) := by decide +kernel
theorem dX11_needed_40 : decode cX11_needed 40 = .ok (.iload_n 2, 1) := by decide +kernel
theorem dX11_needed_41 : decode cX11_needed 41 = .ok (.invokevirtual 219, 3) := by decide +kernel
theorem dX11_needed_44 : decode cX11_needed 44 = .ok (.istore 4, 2) := by decide +kernel
theorem dX11_needed_46 : decode cX11_needed 46 = .ok (.iconst 1, 1) := by decide +kernel
theorem dX11_needed_47 : decode cX11_needed 47 = .ok (.istore 5, 2) := by decide +kernel
theorem dX11_needed_49 : decode cX11_needed 49 = .ok (.iload 5, 2) := by decide +kernel
theorem dX11_needed_51 : decode cX11_needed 51 = .ok (.bipush 60, 2) := by decide +kernel
theorem dX11_needed_53 : decode cX11_needed 53 = .ok (.if_icmp .gt 48, 3) := by decide +kernel
theorem dX11_needed_56 : decode cX11_needed 56 = .ok (.aload_n 0, 1) := by decide +kernel
theorem dX11_needed_57 : decode cX11_needed 57 = .ok (.getfield 57, 3) := by decide +kernel
theorem dX11_needed_60 : decode cX11_needed 60 = .ok (.aload_n 0, 1) := by decide +kernel
theorem dX11_needed_61 : decode cX11_needed 61 = .ok (.getfield 12, 3) := by decide +kernel
theorem dX11_needed_64 : decode cX11_needed 64 = .ok (.iload 5, 2) := by decide +kernel
theorem dX11_needed_66 : decode cX11_needed 66 = .ok (.invokevirtual 223, 3) := by decide +kernel
theorem dX11_needed_69 : decode cX11_needed 69 = .ok (.ifCond .eq 13, 3) := by decide +kernel
theorem dX11_needed_72 : decode cX11_needed 72 = .ok (.aload_n 0, 1) := by decide +kernel
theorem dX11_needed_73 : decode cX11_needed 73 = .ok (.getfield 57, 3) := by decide +kernel
theorem dX11_needed_76 : decode cX11_needed 76 = .ok (.invokevirtual 176, 3) := by decide +kernel
theorem dX11_needed_79 : decode cX11_needed 79 = .ok (.goto 5, 3) := by decide +kernel
theorem dX11_needed_82 : decode cX11_needed 82 = .ok (.iload 4, 2) := by decide +kernel
theorem dX11_needed_84 : decode cX11_needed 84 = .ok (.istore 4, 2) := by decide +kernel
theorem dX11_needed_86 : decode cX11_needed 86 = .ok (.iload 4, 2) := by decide +kernel
theorem dX11_needed_88 : decode cX11_needed 88 = .ok (.iload_n 3, 1) := by decide +kernel
theorem dX11_needed_89 : decode cX11_needed 89 = .ok (.if_icmp .gt 6, 3) := by decide +kernel
theorem dX11_needed_92 : decode cX11_needed 92 = .ok (.iload 5, 2) := by decide +kernel
theorem dX11_needed_94 : decode cX11_needed 94 = .ok (.ireturn, 1) := by decide +kernel
theorem dX11_needed_95 : decode cX11_needed 95 = .ok (.iinc 5 1, 3) := by decide +kernel
theorem dX11_needed_98 : decode cX11_needed 98 = .ok (.goto (-49), 3) := by decide +kernel
theorem dX11_needed_101 : decode cX11_needed 101 = .ok (.iconst (-1), 1) := by decide +kernel
theorem dX11_needed_102 : decode cX11_needed 102 = .ok (.ireturn, 1) := by decide +kernel
theorem dX11_most_0 : decode cX11_most 0 = .ok (.aload_n 0, 1) := by decide +kernel
theorem dX11_most_1 : decode cX11_most 1 = .ok (.iload 4, 2) := by decide +kernel
theorem dX11_most_3 : decode cX11_most 3 = .ok (.invokevirtual 194, 3) := by decide +kernel
theorem dX11_most_6 : decode cX11_most 6 = .ok (.ifCond .eq 13, 3) := by decide +kernel
theorem dX11_most_9 : decode cX11_most 9 = .ok (.aload_n 0, 1) := by decide +kernel
theorem dX11_most_10 : decode cX11_most 10 = .ok (.iload_n 1, 1) := by decide +kernel
theorem dX11_most_11 : decode cX11_most 11 = .ok (.iload_n 2, 1) := by decide +kernel
theorem dX11_most_12 : decode cX11_most 12 = .ok (.iload_n 3, 1) := by decide +kernel
theorem dX11_most_13 : decode cX11_most 13 = .ok (.invokevirtual 173, 3) := by decide +kernel
theorem dX11_most_16 : decode cX11_most 16 = .ok (.ifCond .ne 5, 3) := by decide +kernel
theorem dX11_most_19 : decode cX11_most 19 = .ok (.iconst (-1), 1) := by decide +kernel
theorem dX11_most_20 : decode cX11_most 20 = .ok (.ireturn, 1) := by decide +kernel
theorem dX11_most_21 : decode cX11_most 21 = .ok (.iconst 0, 1) := by decide +kernel
theorem dX11_most_22 : decode cX11_most 22 = .ok (.istore 5, 2) := by decide +kernel
theorem dX11_most_24 : decode cX11_most 24 = .ok (.aload_n 0, 1) := by decide +kernel
theorem dX11_most_25 : decode cX11_most 25 = .ok (.getfield 57, 3) := by decide +kernel
theorem dX11_most_28 : decode cX11_most 28 = .ok (.getfield 227, 3) := by decide +kernel
theorem dX11_most_31 : decode cX11_most 31 = .ok (.iload 4, 2) := by decide +kernel
theorem dX11_most_33 : decode cX11_most 33 = .ok (.iaload, 1) := by decide +kernel
theorem dX11_most_34 : decode cX11_most 34 = .ok (.istore 6, 2) := by decide +kernel
theorem dX11_most_36 : decode cX11_most 36 = .ok (.aload_n 0, 1) := by decide +kernel
theorem dX11_most_37 : decode cX11_most 37 = .ok (.getfield 57, 3) := by decide +kernel
theorem dX11_most_40 : decode cX11_most 40 = .ok (.invokevirtual 176, 3) := by decide +kernel
theorem dX11_most_43 : decode cX11_most 43 = .ok (.istore 7, 2) := by decide +kernel
theorem dX11_most_45 : decode cX11_most 45 = .ok (.iconst 1, 1) := by decide +kernel
theorem dX11_most_46 : decode cX11_most 46 = .ok (.istore 8, 2) := by decide +kernel
theorem dX11_most_48 : decode cX11_most 48 = .ok (.iload 8, 2) := by decide +kernel
theorem dX11_most_50 : decode cX11_most 50 = .ok (.iload 7, 2) := by decide +kernel
theorem dX11_most_52 : decode cX11_most 52 = .ok (.if_icmp .gt 48, 3) := by decide +kernel
theorem dX11_most_55 : decode cX11_most 55 = .ok (.aload_n 0, 1) := by decide +kernel
theorem dX11_most_56 : decode cX11_most 56 = .ok (.getfield 57, 3) := by decide +kernel
theorem dX11_most_59 : decode cX11_most 59 = .ok (.iload 4, 2) := by decide +kernel
theorem dX11_most_61 : decode cX11_most 61 = .ok (.aload_n 0, 1) := by decide +kernel
theorem dX11_most_62 : decode cX11_most 62 = .ok (.getfield 57, 3) := by decide +kernel
theorem dX11_most_65 : decode cX11_most 65 = .ok (.iload 8, 2) := by decide +kernel
theorem dX11_most_67 : decode cX11_most 67 = .ok (.invokevirtual 198, 3) := by decide +kernel
theorem dX11_most_70 : decode cX11_most 70 = .ok (.invokevirtual 201, 3) := by decide +kernel
theorem dX11_most_73 : decode cX11_most 73 = .ok (.istore 9, 2) := by decide +kernel
theorem dX11_most_75 : decode cX11_most 75 = .ok (.iload 5, 2) := by decide +kernel
theorem dX11_most_77 : decode cX11_most 77 = .ok (.iload 9, 2) := by decide +kernel
theorem dX11_most_79 : decode cX11_most 79 = .ok (.iload 6, 2) := by decide +kernel
theorem dX11_most_81 : decode cX11_most 81 = .ok (.isub, 1) := by decide +kernel
theorem dX11_most_82 : decode cX11_most 82 = .ok (.invokestatic 230, 3) := by decide +kernel
theorem dX11_most_85 : decode cX11_most 85 = .ok (.invokestatic 235, 3) := by decide +kernel
theorem dX11_most_88 : decode cX11_most 88 = .ok (.istore 5, 2) := by decide +kernel
theorem dX11_most_90 : decode cX11_most 90 = .ok (.iload 9, 2) := by decide +kernel
theorem dX11_most_92 : decode cX11_most 92 = .ok (.istore 6, 2) := by decide +kernel
theorem dX11_most_94 : decode cX11_most 94 = .ok (.iinc 8 1, 3) := by decide +kernel
theorem dX11_most_97 : decode cX11_most 97 = .ok (.goto (-49), 3) := by decide +kernel
theorem dX11_most_100 : decode cX11_most 100 = .ok (.iload 5, 2) := by decide +kernel
theorem dX11_most_102 : decode cX11_most 102 = .ok (.ireturn, 1) := by decide +kernel
theorem dX11_isMode_0 : decode cX11_isMode 0 = .ok (.iload_n 0, 1) := by decide +kernel
theorem dX11_isMode_1 : decode cX11_isMode 1 = .ok (.iconst 0, 1) := by decide +kernel
theorem dX11_isMode_2 : decode cX11_isMode 2 = .ok (.bipush 8, 2) := by decide +kernel
theorem dX11_isMode_4 : decode cX11_isMode 4 = .ok (.invokestatic 123, 3) := by decide +kernel
theorem dX11_isMode_7 : decode cX11_isMode 7 = .ok (.ireturn, 1) := by decide +kernel
theorem dX11_drives_0 : decode cX11_drives 0 = .ok (.aload_n 0, 1) := by decide +kernel
theorem dX11_drives_1 : decode cX11_drives 1 = .ok (.iload 4, 2) := by decide +kernel
theorem dX11_drives_3 : decode cX11_drives 3 = .ok (.invokevirtual 194, 3) := by decide +kernel
theorem dX11_drives_6 : decode cX11_drives 6 = .ok (.ifCond .eq 31, 3) := by decide +kernel
theorem dX11_drives_9 : decode cX11_drives 9 = .ok (.iload 5, 2) := by decide +kernel
theorem dX11_drives_11 : decode cX11_drives 11 = .ok (.invokestatic 238, 3) := by decide +kernel
theorem dX11_drives_14 : decode cX11_drives 14 = .ok (.ifCond .eq 23, 3) := by decide +kernel
theorem dX11_drives_17 : decode cX11_drives 17 = .ok (.iload 6, 2) := by decide +kernel
theorem dX11_drives_19 : decode cX11_drives 19 = .ok (.iconst 0, 1) := by decide +kernel
theorem dX11_drives_20 : decode cX11_drives 20 = .ok (.iconst 1, 1) := by decide +kernel
theorem dX11_drives_21 : decode cX11_drives 21 = .ok (.invokestatic 123, 3) := by decide +kernel
theorem dX11_drives_24 : decode cX11_drives 24 = .ok (.ifCond .eq 13, 3) := by decide +kernel
theorem dX11_drives_27 : decode cX11_drives 27 = .ok (.aload_n 0, 1) := by decide +kernel
theorem dX11_drives_28 : decode cX11_drives 28 = .ok (.iload_n 1, 1) := by decide +kernel
theorem dX11_drives_29 : decode cX11_drives 29 = .ok (.iload_n 2, 1) := by decide +kernel
theorem dX11_drives_30 : decode cX11_drives 30 = .ok (.iload_n 3, 1) := by decide +kernel
theorem dX11_drives_31 : decode cX11_drives 31 = .ok (.invokevirtual 173, 3) := by decide +kernel
theorem dX11_drives_34 : decode cX11_drives 34 = .ok (.ifCond .ne 5, 3) := by decide +kernel
theorem dX11_drives_37 : decode cX11_drives 37 = .ok (.iconst (-1), 1) := by decide +kernel
theorem dX11_drives_38 : decode cX11_drives 38 = .ok (.ireturn, 1) := by decide +kernel
theorem dX11_drives_39 : decode cX11_drives 39 = .ok (.iconst 0, 1) := by decide +kernel
theorem dX11_drives_40 : decode cX11_drives 40 = .ok (.istore 7, 2) := by decide +kernel
theorem dX11_drives_42 : decode cX11_drives 42 = .ok (.iconst 0, 1) := by decide +kernel
theorem dX11_drives_43 : decode cX11_drives 43 = .ok (.istore 8, 2) := by decide +kernel
theorem dX11_drives_45 : decode cX11_drives 45 = .ok (.aload_n 0, 1) := by decide +kernel
theorem dX11_drives_46 : decode cX11_drives 46 = .ok (.getfield 57, 3) := by decide +kernel
theorem dX11_drives_49 : decode cX11_drives 49 = .ok (.invokevirtual 176, 3) := by decide +kernel
theorem dX11_drives_52 : decode cX11_drives 52 = .ok (.istore 9, 2) := by decide +kernel
theorem dX11_drives_54 : decode cX11_drives 54 = .ok (.aload_n 0, 1) := by decide +kernel
theorem dX11_drives_55 : decode cX11_drives 55 = .ok (.getfield 78, 3) := by decide +kernel
theorem dX11_drives_58 : decode cX11_drives 58 = .ok (.aload_n 0, 1) := by decide +kernel
theorem dX11_drives_59 : decode cX11_drives 59 = .ok (.getfield 12, 3) := by decide +kernel
theorem dX11_drives_62 : decode cX11_drives 62 = .ok (.iload 5, 2) := by decide +kernel
theorem dX11_drives_64 : decode cX11_drives 64 = .ok (.invokevirtual 241, 3) := by decide +kernel
theorem dX11_drives_67 : decode cX11_drives 67 = .ok (.iconst 1, 1) := by decide +kernel
theorem dX11_drives_68 : decode cX11_drives 68 = .ok (.istore 10, 2) := by decide +kernel
theorem dX11_drives_70 : decode cX11_drives 70 = .ok (.iload 10, 2) := by decide +kernel
theorem dX11_drives_72 : decode cX11_drives 72 = .ok (.iload 9, 2) := by decide +kernel
theorem dX11_drives_74 : decode cX11_drives 74 = .ok (.if_icmp .gt 89, 3) := by decide +kernel
theorem dX11_drives_77 : decode cX11_drives 77 = .ok (.aload_n 0, 1) := by decide +kernel
theorem dX11_drives_78 : decode cX11_drives 78 = .ok (.getfield 57, 3) := by decide +kernel
theorem dX11_drives_81 : decode cX11_drives 81 = .ok (.iload 4, 2) := by decide +kernel
theorem dX11_drives_83 : decode cX11_drives 83 = .ok (.aload_n 0, 1) := by decide +kernel
theorem dX11_drives_84 : decode cX11_drives 84 = .ok (.getfield 57, 3) := by decide +kernel
theorem dX11_drives_87 : decode cX11_drives 87 = .ok (.iload 10, 2) := by decide +kernel
theorem dX11_drives_89 : decode cX11_drives 89 = .ok (.invokevirtual 198, 3) := by decide +kernel
theorem dX11_drives_92 : decode cX11_drives 92 = .ok (.invokevirtual 201, 3) := by decide +kernel
theorem dX11_drives_95 : decode cX11_drives 95 = .ok (.istore 11, 2) := by decide +kernel
theorem dX11_drives_97 : decode cX11_drives 97 = .ok (.aload_n 0, 1) := by decide +kernel
theorem dX11_drives_98 : decode cX11_drives 98 = .ok (.getfield 12, 3) := by decide +kernel
theorem dX11_drives_101 : decode cX11_drives 101 = .ok (.getfield 128, 3) := by decide +kernel
theorem dX11_drives_104 : decode cX11_drives 104 = .ok (.getfield 137, 3) := by decide +kernel
theorem dX11_drives_107 : decode cX11_drives 107 = .ok (.iload 11, 2) := by decide +kernel
theorem dX11_drives_109 : decode cX11_drives 109 = .ok (.invokestatic 140, 3) := by decide +kernel
theorem dX11_drives_112 : decode cX11_drives 112 = .ok (.invokestatic 230, 3) := by decide +kernel
theorem dX11_drives_115 : decode cX11_drives 115 = .ok (.istore 12, 2) := by decide +kernel
theorem dX11_drives_117 : decode cX11_drives 117 = .ok (.aload_n 0, 1) := by decide +kernel
theorem dX11_drives_118 : decode cX11_drives 118 = .ok (.getfield 78, 3) := by decide +kernel
theorem dX11_drives_121 : decode cX11_drives 121 = .ok (.iload 12, 2) := by decide +kernel
theorem dX11_drives_123 : decode cX11_drives 123 = .ok (.invokevirtual 244, 3) := by decide +kernel
theorem dX11_drives_126 : decode cX11_drives 126 = .ok (.aload_n 0, 1) := by decide +kernel
theorem dX11_drives_127 : decode cX11_drives 127 = .ok (.getfield 78, 3) := by decide +kernel
theorem dX11_drives_130 : decode cX11_drives 130 = .ok (.getfield 247, 3) := by decide +kernel
theorem dX11_drives_133 : decode cX11_drives 133 = .ok (.iload 12, 2) := by decide +kernel
theorem dX11_drives_135 : decode cX11_drives 135 = .ok (.isub, 1) := by decide +kernel
theorem dX11_drives_136 : decode cX11_drives 136 = .ok (.invokestatic 230, 3) := by decide +kernel
theorem dX11_drives_139 : decode cX11_drives 139 = .ok (.istore 13, 2) := by decide +kernel
theorem dX11_drives_141 : decode cX11_drives 141 = .ok (.iload 7, 2) := by decide +kernel
theorem dX11_drives_143 : decode cX11_drives 143 = .ok (.iload 13, 2) := by decide +kernel
theorem dX11_drives_145 : decode cX11_drives 145 = .ok (.invokestatic 235, 3) := by decide +kernel
theorem dX11_drives_148 : decode cX11_drives 148 = .ok (.istore 7, 2) := by decide +kernel
theorem dX11_drives_150 : decode cX11_drives 150 = .ok (.iload 8, 2) := by decide +kernel
theorem dX11_drives_152 : decode cX11_drives 152 = .ok (.iload 13, 2) := by decide +kernel
theorem dX11_drives_154 : decode cX11_drives 154 = .ok (.iadd, 1) := by decide +kernel
theorem dX11_drives_155 : decode cX11_drives 155 = .ok (.istore 8, 2) := by decide +kernel
theorem dX11_drives_157 : decode cX11_drives 157 = .ok (.iinc 10 1, 3) := by decide +kernel
theorem dX11_drives_160 : decode cX11_drives 160 = .ok (.goto (-90), 3) := by decide +kernel
theorem dX11_drives_163 : decode cX11_drives 163 = .ok (.iload 6, 2) := by decide +kernel
theorem dX11_drives_165 : decode cX11_drives 165 = .ok (.ifCond .ne 8, 3) := by decide +kernel
theorem dX11_drives_168 : decode cX11_drives 168 = .ok (.iload 7, 2) := by decide +kernel
theorem dX11_drives_170 : decode cX11_drives 170 = .ok (.goto 5, 3) := by decide +kernel
theorem dX11_drives_173 : decode cX11_drives 173 = .ok (.iload 8, 2) := by decide +kernel
theorem dX11_drives_175 : decode cX11_drives 175 = .ok (.ireturn, 1) := by decide +kernel
theorem dX11_quickest_0 : decode cX11_quickest 0 = .ok (.aload_n 0, 1) := by decide +kernel
theorem dX11_quickest_1 : decode cX11_quickest 1 = .ok (.iload_n 1, 1) := by decide +kernel
theorem dX11_quickest_2 : decode cX11_quickest 2 = .ok (.invokevirtual 194, 3) := by decide +kernel
theorem dX11_quickest_5 : decode cX11_quickest 5 = .ok (.ifCond .eq 23, 3) := by decide +kernel
theorem dX11_quickest_8 : decode cX11_quickest 8 = .ok (.iload_n 2, 1) := by decide +kernel
theorem dX11_quickest_9 : decode cX11_quickest 9 = .ok (.iconst 1, 1) := by decide +kernel
theorem dX11_quickest_10 : decode cX11_quickest 10 = .ok (.sipush 30000, 3) := by decide +kernel
theorem dX11_quickest_13 : decode cX11_quickest 13 = .ok (.invokestatic 123, 3) := by decide +kernel
theorem dX11_quickest_16 : decode cX11_quickest 16 = .ok (.ifCond .eq 12, 3) := by decide +kernel
theorem dX11_quickest_19 : decode cX11_quickest 19 = .ok (.iload_n 3, 1) := by decide +kernel
theorem dX11_quickest_20 : decode cX11_quickest 20 = .ok (.iconst 0, 1) := by decide +kernel
theorem dX11_quickest_21 : decode cX11_quickest 21 = .ok (.iconst 1, 1) := by decide +kernel
theorem dX11_quickest_22 : decode cX11_quickest 22 = .ok (.invokestatic 123, 3) := by decide +kernel
theorem dX11_quickest_25 : decode cX11_quickest 25 = .ok (.ifCond .ne 5, 3) := by decide +kernel
theorem dX11_quickest_28 : decode cX11_quickest 28 = .ok (.iconst (-1), 1) := by decide +kernel
theorem dX11_quickest_29 : decode cX11_quickest 29 = .ok (.ireturn, 1) := by decide +kernel
theorem dX11_quickest_30 : decode cX11_quickest 30 = .ok (.iconst (-1), 1) := by decide +kernel
theorem dX11_quickest_31 : decode cX11_quickest 31 = .ok (.istore 4, 2) := by decide +kernel
theorem dX11_quickest_33 : decode cX11_quickest 33 = .ok (.ldc 250, 2) := by decide +kernel
theorem dX11_quickest_35 : decode cX11_quickest 35 = .ok (.istore 5, 2) := by decide +kernel
theorem dX11_quickest_37 : decode cX11_quickest 37 = .ok (.aload_n 0, 1) := by decide +kernel
theorem dX11_quickest_38 : decode cX11_quickest 38 = .ok (.getfield 57, 3) := by decide +kernel
theorem dX11_quickest_41 : decode cX11_quickest 41 = .ok (.aload_n 0, 1) := by decide +kernel
theorem dX11_quickest_42 : decode cX11_quickest 42 = .ok (.getfield 12, 3) := by decide +kernel
theorem dX11_quickest_45 : decode cX11_quickest 45 = .ok (.iload_n 1, 1) := by decide +kernel
theorem dX11_quickest_46 : decode cX11_quickest 46 = .ok (.iload_n 2, 1) := by decide +kernel
theorem dX11_quickest_47 : decode cX11_quickest 47 = .ok (.invokevirtual 219, 3) := by decide +kernel
theorem dX11_quickest_50 : decode cX11_quickest 50 = .ok (.istore 6, 2) := by decide +kernel
theorem dX11_quickest_52 : decode cX11_quickest 52 = .ok (.iconst 1, 1) := by decide +kernel
theorem dX11_quickest_53 : decode cX11_quickest 53 = .ok (.istore 7, 2) := by decide +kernel
theorem dX11_quickest_55 : decode cX11_quickest 55 = .ok (.iload 7, 2) := by decide +kernel
theorem dX11_quickest_57 : decode cX11_quickest 57 = .ok (.bipush 60, 2) := by decide +kernel
theorem dX11_quickest_59 : decode cX11_quickest 59 = .ok (.if_icmp .gt 54, 3) := by decide +kernel
theorem dX11_quickest_62 : decode cX11_quickest 62 = .ok (.aload_n 0, 1) := by decide +kernel
theorem dX11_quickest_63 : decode cX11_quickest 63 = .ok (.getfield 57, 3) := by decide +kernel
theorem dX11_quickest_66 : decode cX11_quickest 66 = .ok (.aload_n 0, 1) := by decide +kernel
theorem dX11_quickest_67 : decode cX11_quickest 67 = .ok (.getfield 12, 3) := by decide +kernel
theorem dX11_quickest_70 : decode cX11_quickest 70 = .ok (.iload 7, 2) := by decide +kernel
theorem dX11_quickest_72 : decode cX11_quickest 72 = .ok (.invokevirtual 223, 3) := by decide +kernel
theorem dX11_quickest_75 : decode cX11_quickest 75 = .ok (.ifCond .eq 13, 3) := by decide +kernel
theorem dX11_quickest_78 : decode cX11_quickest 78 = .ok (.aload_n 0, 1) := by decide +kernel
theorem dX11_quickest_79 : decode cX11_quickest 79 = .ok (.getfield 57, 3) := by decide +kernel
theorem dX11_quickest_82 : decode cX11_quickest 82 = .ok (.invokevirtual 176, 3) := by decide +kernel
theorem dX11_quickest_85 : decode cX11_quickest 85 = .ok (.goto 5, 3) := by decide +kernel
theorem dX11_quickest_88 : decode cX11_quickest 88 = .ok (.iload 6, 2) := by decide +kernel
theorem dX11_quickest_90 : decode cX11_quickest 90 = .ok (.istore 6, 2) := by decide +kernel
theorem dX11_quickest_92 : decode cX11_quickest 92 = .ok (.iload 6, 2) := by decide +kernel
theorem dX11_quickest_94 : decode cX11_quickest 94 = .ok (.iload 5, 2) := by decide +kernel
theorem dX11_quickest_96 : decode cX11_quickest 96 = .ok (.if_icmp .ge 11, 3) := by decide +kernel
theorem dX11_quickest_99 : decode cX11_quickest 99 = .ok (.iload 6, 2) := by decide +kernel
theorem dX11_quickest_101 : decode cX11_quickest 101 = .ok (.istore 5, 2) := by decide +kernel
theorem dX11_quickest_103 : decode cX11_quickest 103 = .ok (.iload 7, 2) := by decide +kernel
theorem dX11_quickest_105 : decode cX11_quickest 105 = .ok (.istore 4, 2) := by decide +kernel
theorem dX11_quickest_107 : decode cX11_quickest 107 = .ok (.iinc 7 1, 3) := by decide +kernel
theorem dX11_quickest_110 : decode cX11_quickest 110 = .ok (.goto (-55), 3) := by decide +kernel
theorem dX11_quickest_113 : decode cX11_quickest 113 = .ok (.iload_n 3, 1) := by decide +kernel
theorem dX11_quickest_114 : decode cX11_quickest 114 = .ok (.ifCond .ne 8, 3) := by decide +kernel
theorem dX11_quickest_117 : decode cX11_quickest 117 = .ok (.iload 4, 2) := by decide +kernel
theorem dX11_quickest_119 : decode cX11_quickest 119 = .ok (.goto 5, 3) := by decide +kernel
theorem dX11_quickest_122 : decode cX11_quickest 122 = .ok (.iload 5, 2) := by decide +kernel
theorem dX11_quickest_124 : decode cX11_quickest 124 = .ok (.ireturn, 1) := by decide +kernel
def zX11_feed (sh : zShp) (k0 : Nat) (p1 : Int32) (p2 : Int32) (p3 : Int32) (p4 : Int32) (p5 : Int32) (M : zMem) : Option (Int32 × zMem) :=
  if ((zI M (zR M k0 0) 1) + (20 : Int32)) ≤ (900 : Int32) then (
  zob (zX10_put sh (zR M k0 0) p1 M) fun M_5 =>
  zob (zX10_put sh (zR M_5 k0 0) p2 M_5) fun M_8 =>
  zob (zX10_put sh (zR M_8 k0 0) p3 M_8) fun M_11 =>
  zob (zX10_put sh (zR M_11 k0 0) p4 M_11) fun M_14 =>
  zob (zX10_put sh (zR M_14 k0 0) p5 M_14) fun M_17 =>
  some ((zI M_17 (zR M_17 k0 0) 1), M_17))
  else (
  some ((-1 : Int32), M))
set_option maxHeartbeats 4000000 in
set_option maxRecDepth 100000 in
theorem ztX11_feed (l : Launch) (D : va_G) (cy : Nat → ClassId) (sh : zShp) (ad : Nat → Nat) {k0 : Nat} {p1 : Int32} {p2 : Int32} {p3 : Int32} {p4 : Int32} {p5 : Int32} (h0 : zT sh k0 11) {M : zMem} {r : Int32} {M1 : zMem} (hd : zX11_feed sh k0 p1 p2 p3 p4 p5 M = some (r, M1)) : zCI l yX11_feed cX11_feed 6 .int { frames := 1, cells := 0, slots := 0, locals := 22 } [.ref (ad k0), .int p1, .int p2, .int p3, .int p4, .int p5] D cy sh ad M r M1 := by
  refine zci_of (by decide) (Nat.le_of_ble_eq_true rfl) (fun p e s m below meth c ls F hr hlk hl hw => ?_)
  have hx := F.1.1
  have hb := F.1.2.1
  have hl : lv_has ls 6 [(0, .ref (ad k0)), (1, .int p1), (2, .int p2), (3, .int p3), (4, .int p4), (5, .int p5)] := hl
  unfold zX11_feed at hd
  refine lv_aload_n hx hb dX11_feed_0 rfl (lv_at hl 0 rfl) ?_
  refine z_gR F hw h0 zc11 0 (by decide) rfl zf11_24 dX11_feed_1 ?_
  have t_1 : zT sh (zR M k0 0) 10 := hw.2.2.2.fld h0 0 10
  refine z_gI F hw t_1 zc10 1 (by decide) rfl zf11_89 dX11_feed_4 ?_
  refine lv_bipush (v := (20 : Int32)) hx hb dX11_feed_7 (by decide) ?_
  refine lv_iadd hx hb dX11_feed_9 ?_
  refine lv_sipush (v := (900 : Int32)) hx hb dX11_feed_10 (by decide) ?_
  refine lv_icmp_le (tgt := 18) hx hb dX11_feed_13 (by decide) (fun c_2 => ?_) (fun c_2 => ?_)
  · have hd := zif_pos c_2 hd
    refine lv_aload_n hx hb dX11_feed_18 rfl (lv_at hl 0 rfl) ?_
    refine z_gR F hw h0 zc11 0 (by decide) rfl zf11_24 dX11_feed_19 ?_
    have t_3 : zT sh (zR M k0 0) 10 := hw.2.2.2.fld h0 0 10
    refine lv_iload_n hx hb dX11_feed_22 rfl (lv_at hl 1 rfl) ?_
    obtain ⟨M_5, hc_4, hd⟩ := zob_some hd
    refine z_cvV F hw hl.1 (As := [.int p1]) (rest := []) (ztX10_put l D cy sh ad t_3 hc_4) zyX10_put t_3 zc10 zk11_93 ⟨rfl, rfl⟩ ⟨by decide, by decide⟩ rfl rfl (Nat.le_of_ble_eq_true rfl) dX11_feed_23 (fun H locs hw => ?_)
    refine lv_aload_n hx hb dX11_feed_26 rfl (lv_at hl 0 rfl) ?_
    refine z_gR F hw h0 zc11 0 (by decide) rfl zf11_24 dX11_feed_27 ?_
    have t_6 : zT sh (zR M_5 k0 0) 10 := hw.2.2.2.fld h0 0 10
    refine lv_iload_n hx hb dX11_feed_30 rfl (lv_at hl 2 rfl) ?_
    obtain ⟨M_8, hc_7, hd⟩ := zob_some hd
    refine z_cvV F hw hl.1 (As := [.int p2]) (rest := []) (ztX10_put l D cy sh ad t_6 hc_7) zyX10_put t_6 zc10 zk11_93 ⟨rfl, rfl⟩ ⟨by decide, by decide⟩ rfl rfl (Nat.le_of_ble_eq_true rfl) dX11_feed_31 (fun H locs hw => ?_)
    refine lv_aload_n hx hb dX11_feed_34 rfl (lv_at hl 0 rfl) ?_
    refine z_gR F hw h0 zc11 0 (by decide) rfl zf11_24 dX11_feed_35 ?_
    have t_9 : zT sh (zR M_8 k0 0) 10 := hw.2.2.2.fld h0 0 10
    refine lv_iload_n hx hb dX11_feed_38 rfl (lv_at hl 3 rfl) ?_
    obtain ⟨M_11, hc_10, hd⟩ := zob_some hd
    refine z_cvV F hw hl.1 (As := [.int p3]) (rest := []) (ztX10_put l D cy sh ad t_9 hc_10) zyX10_put t_9 zc10 zk11_93 ⟨rfl, rfl⟩ ⟨by decide, by decide⟩ rfl rfl (Nat.le_of_ble_eq_true rfl) dX11_feed_39 (fun H locs hw => ?_)
    refine lv_aload_n hx hb dX11_feed_42 rfl (lv_at hl 0 rfl) ?_
    refine z_gR F hw h0 zc11 0 (by decide) rfl zf11_24 dX11_feed_43 ?_
    have t_12 : zT sh (zR M_11 k0 0) 10 := hw.2.2.2.fld h0 0 10
    refine lv_iload hx hb dX11_feed_46 (lv_at hl 4 rfl) ?_
    obtain ⟨M_14, hc_13, hd⟩ := zob_some hd
    refine z_cvV F hw hl.1 (As := [.int p4]) (rest := []) (ztX10_put l D cy sh ad t_12 hc_13) zyX10_put t_12 zc10 zk11_93 ⟨rfl, rfl⟩ ⟨by decide, by decide⟩ rfl rfl (Nat.le_of_ble_eq_true rfl) dX11_feed_48 (fun H locs hw => ?_)
    refine lv_aload_n hx hb dX11_feed_51 rfl (lv_at hl 0 rfl) ?_
    refine z_gR F hw h0 zc11 0 (by decide) rfl zf11_24 dX11_feed_52 ?_
    have t_15 : zT sh (zR M_14 k0 0) 10 := hw.2.2.2.fld h0 0 10
    refine lv_iload hx hb dX11_feed_55 (lv_at hl 5 rfl) ?_
    obtain ⟨M_17, hc_16, hd⟩ := zob_some hd
    refine z_cvV F hw hl.1 (As := [.int p5]) (rest := []) (ztX10_put l D cy sh ad t_15 hc_16) zyX10_put t_15 zc10 zk11_93 ⟨rfl, rfl⟩ ⟨by decide, by decide⟩ rfl rfl (Nat.le_of_ble_eq_true rfl) dX11_feed_57 (fun H locs hw => ?_)
    refine lv_aload_n hx hb dX11_feed_60 rfl (lv_at hl 0 rfl) ?_
    refine z_gR F hw h0 zc11 0 (by decide) rfl zf11_24 dX11_feed_61 ?_
    have t_18 : zT sh (zR M_17 k0 0) 10 := hw.2.2.2.fld h0 0 10
    refine z_gI F hw t_18 zc10 1 (by decide) rfl zf11_89 dX11_feed_64 ?_
    exact z_iret F hr hlk hw (zpr1 hd) (zpr2 hd) dX11_feed_67
  · have hd := zif_neg c_2 hd
    refine lv_iconst (v := (-1 : Int32)) hx hb dX11_feed_16 (by decide) ?_
    exact z_iret F hr hlk hw (zpr1 hd) (zpr2 hd) dX11_feed_17

def zjX11_end_15 (sh : zShp) (k0 : Nat) (p1 : Int32)  (M : zMem) : Option (Int32 × zMem) :=
  some ((-1 : Int32), M)
def zX11_end (sh : zShp) (k0 : Nat) (p1 : Int32) (M : zMem) : Option (Int32 × zMem) :=
  if p1 < 0 then (
  zjX11_end_15 sh k0 p1 M)
  else (
  if p1 ≤ (zI M (zR M k0 0) 1) then (
  zbd (zpI M (zR M k0 0) 1 p1) fun M_5 =>
  some (p1, M_5))
  else (
  zjX11_end_15 sh k0 p1 M))
set_option maxHeartbeats 4000000 in
set_option maxRecDepth 100000 in
theorem ztX11_end (l : Launch) (D : va_G) (cy : Nat → ClassId) (sh : zShp) (ad : Nat → Nat) {k0 : Nat} {p1 : Int32} (h0 : zT sh k0 11) {M : zMem} {r : Int32} {M1 : zMem} (hd : zX11_end sh k0 p1 M = some (r, M1)) : zCI l yX11_end cX11_end 2 .int { frames := 0, cells := 0, slots := 0, locals := 0 } [.ref (ad k0), .int p1] D cy sh ad M r M1 := by
  refine zci_of (by decide) (Nat.le_of_ble_eq_true rfl) (fun p e s m below meth c ls F hr hlk hl hw => ?_)
  have hx := F.1.1
  have hb := F.1.2.1
  have hl : lv_has ls 2 [(0, .ref (ad k0)), (1, .int p1)] := hl
  have J15 : ∀ (M : zMem) (H : Heap) (locs : List Loc) (ls : Array Slot), lv_has ls 2 [] → zWd D cy sh ad s M H locs → zjX11_end_15 sh k0 p1  M = some (r, M1) → W p l e { frames := 0, cells := 0, slots := 0, locals := 0 } s m ([.ref (ad k0), .int p1] : List Value).toArray below meth c H locs 0 0 (zQI below D cy sh ad s [.ref (ad k0), .int p1] r M1) (F0 m 15 ls []) := by
    intro  M H locs ls hl hw hd
    unfold zjX11_end_15 at hd
    refine lv_iconst (v := (-1 : Int32)) hx hb dX11_end_15 (by decide) ?_
    exact z_iret F hr hlk hw (zpr1 hd) (zpr2 hd) dX11_end_16
  unfold zX11_end at hd
  refine lv_iload_n hx hb dX11_end_0 rfl (lv_at hl 1 rfl) ?_
  refine lv_if_lt (tgt := 15) hx hb dX11_end_1 (by decide) (fun c_1 => ?_) (fun c_1 => ?_)
  · have hd := zif_pos c_1 hd
    exact J15 _ _ _ _ (lv_sub hl [] rfl) hw hd
  · have hd := zif_neg c_1 hd
    refine lv_iload_n hx hb dX11_end_4 rfl (lv_at hl 1 rfl) ?_
    refine lv_aload_n hx hb dX11_end_5 rfl (lv_at hl 0 rfl) ?_
    refine z_gR F hw h0 zc11 0 (by decide) rfl zf11_24 dX11_end_6 ?_
    have t_2 : zT sh (zR M k0 0) 10 := hw.2.2.2.fld h0 0 10
    refine z_gI F hw t_2 zc10 1 (by decide) rfl zf11_89 dX11_end_9 ?_
    refine lv_icmp_le (tgt := 17) hx hb dX11_end_12 (by decide) (fun c_3 => ?_) (fun c_3 => ?_)
    · have hd := zif_pos c_3 hd
      refine lv_aload_n hx hb dX11_end_17 rfl (lv_at hl 0 rfl) ?_
      refine z_gR F hw h0 zc11 0 (by decide) rfl zf11_24 dX11_end_18 ?_
      have t_4 : zT sh (zR M k0 0) 10 := hw.2.2.2.fld h0 0 10
      refine lv_iload_n hx hb dX11_end_21 rfl (lv_at hl 1 rfl) ?_
      refine z_pI F hw t_4 zc10 1 (by decide) rfl zf11_89 rfl rfl rfl dX11_end_22 (fun H locs M_5 eM_5 hw => ?_)
      have hd := zbd_eq eM_5 hd
      refine lv_iload_n hx hb dX11_end_25 rfl (lv_at hl 1 rfl) ?_
      exact z_iret F hr hlk hw (zpr1 hd) (zpr2 hd) dX11_end_26
    · have hd := zif_neg c_3 hd
      exact J15 _ _ _ _ (lv_sub hl [] rfl) hw hd

def zX11_fault (sh : zShp) (k0 : Nat) (p1 : Int32) (M : zMem) : Option (Int32) :=
  if p1 = (0 : Int32) then (
  some (zI M (zR M k0 1) 7))
  else if p1 = (1 : Int32) then (
  some (zI M (zR M k0 1) 8))
  else (
  some (-1 : Int32))
set_option maxHeartbeats 4000000 in
set_option maxRecDepth 100000 in
theorem ztX11_fault (l : Launch) (D : va_G) (cy : Nat → ClassId) (sh : zShp) (ad : Nat → Nat) {k0 : Nat} {p1 : Int32} (h0 : zT sh k0 11) {M : zMem} {r : Int32} (hd : zX11_fault sh k0 p1 M = some r) : zCI l yX11_fault cX11_fault 2 .int { frames := 0, cells := 0, slots := 0, locals := 0 } [.ref (ad k0), .int p1] D cy sh ad M r M := by
  refine zci_of (by decide) (Nat.le_of_ble_eq_true rfl) (fun p e s m below meth c ls F hr hlk hl hw => ?_)
  have hx := F.1.1
  have hb := F.1.2.1
  have hl : lv_has ls 2 [(0, .ref (ad k0)), (1, .int p1)] := hl
  unfold zX11_fault at hd
  refine lv_iload_n hx hb dX11_fault_0 rfl (lv_at hl 1 rfl) ?_
  by_cases c_1 : p1 = (0 : Int32)
  · have hd := zif_pos c_1 hd
    refine lv_lookup (tgt := 28) (off := 27) hx hb dX11_fault_1 (by decide) (by rw [c_1]; decide) (by decide) ?_
    refine lv_aload_n hx hb dX11_fault_28 rfl (lv_at hl 0 rfl) ?_
    refine z_gR F hw h0 zc11 1 (by decide) rfl zf11_33 dX11_fault_29 ?_
    have t_2 : zT sh (zR M k0 1) 6 := hw.2.2.2.fld h0 1 6
    refine z_gI F hw t_2 zc6 7 (by decide) rfl zf11_117 dX11_fault_32 ?_
    exact z_iret F hr hlk hw (Option.some.inj hd) rfl dX11_fault_35
  have hd := zif_neg c_1 hd
  by_cases c_3 : p1 = (1 : Int32)
  · have hd := zif_pos c_3 hd
    refine lv_lookup (tgt := 36) (off := 35) hx hb dX11_fault_1 (by decide) (by rw [c_3]; decide) (by decide) ?_
    refine lv_aload_n hx hb dX11_fault_36 rfl (lv_at hl 0 rfl) ?_
    refine z_gR F hw h0 zc11 1 (by decide) rfl zf11_33 dX11_fault_37 ?_
    have t_4 : zT sh (zR M k0 1) 6 := hw.2.2.2.fld h0 1 6
    refine z_gI F hw t_4 zc6 8 (by decide) rfl zf11_120 dX11_fault_40 ?_
    exact z_iret F hr hlk hw (Option.some.inj hd) rfl dX11_fault_43
  have hd := zif_neg c_3 hd
  refine lv_lookup (tgt := 44) (off := 43) hx hb dX11_fault_1 (by decide) (by rw [lv_osw c_1 (by decide)]; rw [lv_osw c_3 (by decide)]; rfl) (by decide) ?_
  refine lv_iconst (v := (-1 : Int32)) hx hb dX11_fault_44 (by decide) ?_
  exact z_iret F hr hlk hw (Option.some.inj hd) rfl dX11_fault_45

def zX11_table (sh : zShp) (k0 : Nat) (p1 : Int32) (p2 : Int32) (M : zMem) : Option (Int32) :=
  zob (zX11_isWithin sh p1 (0 : Int32) (64 : Int32) M) fun r_2 =>
  if r_2 = 0 then (
  some (-2147483648 : Int32))
  else (
  if p2 = (0 : Int32) then (
  zgd (zin p1 (zlen sh (zR M (zR M (zR M k0 11) 4) 0))) <|
  some (zI M (zR M (zR M (zR M k0 11) 4) 0) p1.toNatClampNeg))
  else if p2 = (1 : Int32) then (
  zgd (zin p1 (zlen sh (zR M (zR M (zR M k0 11) 4) 1))) <|
  some (zI M (zR M (zR M (zR M k0 11) 4) 1) p1.toNatClampNeg))
  else (
  some (-2147483648 : Int32)))
set_option maxHeartbeats 4000000 in
set_option maxRecDepth 100000 in
theorem ztX11_table (l : Launch) (D : va_G) (cy : Nat → ClassId) (sh : zShp) (ad : Nat → Nat) {k0 : Nat} {p1 : Int32} {p2 : Int32} (h0 : zT sh k0 11) {M : zMem} {r : Int32} (hd : zX11_table sh k0 p1 p2 M = some r) : zCI l yX11_table cX11_table 3 .int { frames := 1, cells := 0, slots := 0, locals := 22 } [.ref (ad k0), .int p1, .int p2] D cy sh ad M r M := by
  refine zci_of (by decide) (Nat.le_of_ble_eq_true rfl) (fun p e s m below meth c ls F hr hlk hl hw => ?_)
  have hx := F.1.1
  have hb := F.1.2.1
  have hl : lv_has ls 3 [(0, .ref (ad k0)), (1, .int p1), (2, .int p2)] := hl
  unfold zX11_table at hd
  refine lv_iload_n hx hb dX11_table_0 rfl (lv_at hl 1 rfl) ?_
  refine lv_iconst (v := (0 : Int32)) hx hb dX11_table_1 (by decide) ?_
  refine lv_bipush (v := (64 : Int32)) hx hb dX11_table_2 (by decide) ?_
  obtain ⟨r_2, hc_1, hd⟩ := zob_some hd
  refine z_csI F hw hl.1 (As := [.int p1, .int (0 : Int32), .int (64 : Int32)]) (rest := []) (ztX11_isWithin l D cy sh ad  hc_1) zyX11_isWithin zk11_123 ⟨rfl, rfl⟩ ⟨by decide, by decide⟩ rfl rfl (Nat.le_of_ble_eq_true rfl) dX11_table_4 (fun H locs hw => ?_)
  refine lv_if_ne (tgt := 13) hx hb dX11_table_7 (by decide) (fun c_3 => ?_) (fun c_3 => ?_)
  · have hd := zif_neg c_3 hd
    refine lv_iload_n hx hb dX11_table_13 rfl (lv_at hl 2 rfl) ?_
    by_cases c_4 : p2 = (0 : Int32)
    · have hd := zif_pos c_4 hd
      refine lv_lookup (tgt := 40) (off := 26) hx hb dX11_table_14 (by decide) (by rw [c_4]; decide) (by decide) ?_
      refine lv_aload_n hx hb dX11_table_40 rfl (lv_at hl 0 rfl) ?_
      refine z_gR F hw h0 zc11 11 (by decide) rfl zf11_12 dX11_table_41 ?_
      have t_5 : zT sh (zR M k0 11) 1 := hw.2.2.2.fld h0 11 1
      refine z_gR F hw t_5 zc1 4 (by decide) rfl zf11_128 dX11_table_44 ?_
      have t_6 : zT sh (zR M (zR M k0 11) 4) 9 := hw.2.2.2.fld t_5 4 9
      refine z_gR F hw t_6 zc9 0 (by decide) rfl zf11_132 dX11_table_47 ?_
      have t_7 : zT sh (zR M (zR M (zR M k0 11) 4) 0) 14 := hw.2.2.2.fld t_6 0 14
      refine lv_iload_n hx hb dX11_table_50 rfl (lv_at hl 1 rfl) ?_
      obtain ⟨g_8, hd⟩ := zgd_some hd
      refine z_iald F hw t_7 g_8 dX11_table_51 ?_
      exact z_iret F hr hlk hw (Option.some.inj hd) rfl dX11_table_52
    have hd := zif_neg c_4 hd
    by_cases c_9 : p2 = (1 : Int32)
    · have hd := zif_pos c_9 hd
      refine lv_lookup (tgt := 53) (off := 39) hx hb dX11_table_14 (by decide) (by rw [c_9]; decide) (by decide) ?_
      refine lv_aload_n hx hb dX11_table_53 rfl (lv_at hl 0 rfl) ?_
      refine z_gR F hw h0 zc11 11 (by decide) rfl zf11_12 dX11_table_54 ?_
      have t_10 : zT sh (zR M k0 11) 1 := hw.2.2.2.fld h0 11 1
      refine z_gR F hw t_10 zc1 4 (by decide) rfl zf11_128 dX11_table_57 ?_
      have t_11 : zT sh (zR M (zR M k0 11) 4) 9 := hw.2.2.2.fld t_10 4 9
      refine z_gR F hw t_11 zc9 1 (by decide) rfl zf11_137 dX11_table_60 ?_
      have t_12 : zT sh (zR M (zR M (zR M k0 11) 4) 1) 14 := hw.2.2.2.fld t_11 1 14
      refine lv_iload_n hx hb dX11_table_63 rfl (lv_at hl 1 rfl) ?_
      obtain ⟨g_13, hd⟩ := zgd_some hd
      refine z_iald F hw t_12 g_13 dX11_table_64 ?_
      exact z_iret F hr hlk hw (Option.some.inj hd) rfl dX11_table_65
    have hd := zif_neg c_9 hd
    refine lv_lookup (tgt := 66) (off := 52) hx hb dX11_table_14 (by decide) (by rw [lv_osw c_4 (by decide)]; rw [lv_osw c_9 (by decide)]; rfl) (by decide) ?_
    refine lv_ldc (v := (-2147483648 : Int32)) hx hb F.1.2.2.2.1 (F.1.2.2.2.2 _ zi11_127) dX11_table_66 ?_
    exact z_iret F hr hlk hw (Option.some.inj hd) rfl dX11_table_68
  · have hd := zif_pos c_3 hd
    refine lv_ldc (v := (-2147483648 : Int32)) hx hb F.1.2.2.2.1 (F.1.2.2.2.2 _ zi11_127) dX11_table_10 ?_
    exact z_iret F hr hlk hw (Option.some.inj hd) rfl dX11_table_12

def zX11_current (sh : zShp) (k0 : Nat) (p1 : Int32) (p2 : Int32) (M : zMem) : Option (Int32) :=
  if p2 = (0 : Int32) then (
  zob (zX9_wave sh (zR M (zR M (zR M k0 11) 4) 1) (p1 + (64 : Int32)) M) fun r_6 =>
  some r_6)
  else if p2 = (1 : Int32) then (
  zob (zX9_wave sh (zR M (zR M (zR M k0 11) 4) 1) p1 M) fun r_12 =>
  some r_12)
  else (
  some (-2147483648 : Int32))
set_option maxHeartbeats 4000000 in
set_option maxRecDepth 100000 in
theorem ztX11_current (l : Launch) (D : va_G) (cy : Nat → ClassId) (sh : zShp) (ad : Nat → Nat) {k0 : Nat} {p1 : Int32} {p2 : Int32} (h0 : zT sh k0 11) {M : zMem} {r : Int32} (hd : zX11_current sh k0 p1 p2 M = some r) : zCI l yX11_current cX11_current 3 .int { frames := 1, cells := 0, slots := 0, locals := 22 } [.ref (ad k0), .int p1, .int p2] D cy sh ad M r M := by
  refine zci_of (by decide) (Nat.le_of_ble_eq_true rfl) (fun p e s m below meth c ls F hr hlk hl hw => ?_)
  have hx := F.1.1
  have hb := F.1.2.1
  have hl : lv_has ls 3 [(0, .ref (ad k0)), (1, .int p1), (2, .int p2)] := hl
  unfold zX11_current at hd
  refine lv_iload_n hx hb dX11_current_0 rfl (lv_at hl 2 rfl) ?_
  by_cases c_1 : p2 = (0 : Int32)
  · have hd := zif_pos c_1 hd
    refine lv_lookup (tgt := 28) (off := 27) hx hb dX11_current_1 (by decide) (by rw [c_1]; decide) (by decide) ?_
    refine lv_aload_n hx hb dX11_current_28 rfl (lv_at hl 0 rfl) ?_
    refine z_gR F hw h0 zc11 11 (by decide) rfl zf11_12 dX11_current_29 ?_
    have t_2 : zT sh (zR M k0 11) 1 := hw.2.2.2.fld h0 11 1
    refine z_gR F hw t_2 zc1 4 (by decide) rfl zf11_128 dX11_current_32 ?_
    have t_3 : zT sh (zR M (zR M k0 11) 4) 9 := hw.2.2.2.fld t_2 4 9
    refine z_gR F hw t_3 zc9 1 (by decide) rfl zf11_137 dX11_current_35 ?_
    have t_4 : zT sh (zR M (zR M (zR M k0 11) 4) 1) 14 := hw.2.2.2.fld t_3 1 14
    refine lv_iload_n hx hb dX11_current_38 rfl (lv_at hl 1 rfl) ?_
    refine lv_bipush (v := (64 : Int32)) hx hb dX11_current_39 (by decide) ?_
    refine lv_iadd hx hb dX11_current_41 ?_
    obtain ⟨r_6, hc_5, hd⟩ := zob_some hd
    refine z_csI F hw hl.1 (As := [.ref (ad (zR M (zR M (zR M k0 11) 4) 1)), .int (p1 + (64 : Int32))]) (rest := []) (ztX9_wave l D cy sh ad t_4 hc_5) zyX9_wave zk11_140 ⟨rfl, rfl⟩ ⟨by decide, by decide⟩ rfl rfl (Nat.le_of_ble_eq_true rfl) dX11_current_42 (fun H locs hw => ?_)
    exact z_iret F hr hlk hw (Option.some.inj hd) rfl dX11_current_45
  have hd := zif_neg c_1 hd
  by_cases c_7 : p2 = (1 : Int32)
  · have hd := zif_pos c_7 hd
    refine lv_lookup (tgt := 46) (off := 45) hx hb dX11_current_1 (by decide) (by rw [c_7]; decide) (by decide) ?_
    refine lv_aload_n hx hb dX11_current_46 rfl (lv_at hl 0 rfl) ?_
    refine z_gR F hw h0 zc11 11 (by decide) rfl zf11_12 dX11_current_47 ?_
    have t_8 : zT sh (zR M k0 11) 1 := hw.2.2.2.fld h0 11 1
    refine z_gR F hw t_8 zc1 4 (by decide) rfl zf11_128 dX11_current_50 ?_
    have t_9 : zT sh (zR M (zR M k0 11) 4) 9 := hw.2.2.2.fld t_8 4 9
    refine z_gR F hw t_9 zc9 1 (by decide) rfl zf11_137 dX11_current_53 ?_
    have t_10 : zT sh (zR M (zR M (zR M k0 11) 4) 1) 14 := hw.2.2.2.fld t_9 1 14
    refine lv_iload_n hx hb dX11_current_56 rfl (lv_at hl 1 rfl) ?_
    obtain ⟨r_12, hc_11, hd⟩ := zob_some hd
    refine z_csI F hw hl.1 (As := [.ref (ad (zR M (zR M (zR M k0 11) 4) 1)), .int p1]) (rest := []) (ztX9_wave l D cy sh ad t_10 hc_11) zyX9_wave zk11_140 ⟨rfl, rfl⟩ ⟨by decide, by decide⟩ rfl rfl (Nat.le_of_ble_eq_true rfl) dX11_current_57 (fun H locs hw => ?_)
    exact z_iret F hr hlk hw (Option.some.inj hd) rfl dX11_current_60
  have hd := zif_neg c_7 hd
  refine lv_lookup (tgt := 61) (off := 60) hx hb dX11_current_1 (by decide) (by rw [lv_osw c_1 (by decide)]; rw [lv_osw c_7 (by decide)]; rfl) (by decide) ?_
  refine lv_ldc (v := (-2147483648 : Int32)) hx hb F.1.2.2.2.1 (F.1.2.2.2.2 _ zi11_127) dX11_current_61 ?_
  exact z_iret F hr hlk hw (Option.some.inj hd) rfl dX11_current_63

def zX11_field (sh : zShp) (k0 : Nat) (p1 : Int32) (M : zMem) : Option (Int32) :=
  zob (zX9_rootsOf sh (zR M (zR M (zR M k0 11) 4) 1) p1 M) fun r_5 =>
  some r_5
set_option maxHeartbeats 4000000 in
set_option maxRecDepth 100000 in
theorem ztX11_field (l : Launch) (D : va_G) (cy : Nat → ClassId) (sh : zShp) (ad : Nat → Nat) {k0 : Nat} {p1 : Int32} (h0 : zT sh k0 11) {M : zMem} {r : Int32} (hd : zX11_field sh k0 p1 M = some r) : zCI l yX11_field cX11_field 2 .int { frames := 3, cells := 0, slots := 0, locals := 72 } [.ref (ad k0), .int p1] D cy sh ad M r M := by
  refine zci_of (by decide) (Nat.le_of_ble_eq_true rfl) (fun p e s m below meth c ls F hr hlk hl hw => ?_)
  have hx := F.1.1
  have hb := F.1.2.1
  have hl : lv_has ls 2 [(0, .ref (ad k0)), (1, .int p1)] := hl
  unfold zX11_field at hd
  refine lv_aload_n hx hb dX11_field_0 rfl (lv_at hl 0 rfl) ?_
  refine z_gR F hw h0 zc11 11 (by decide) rfl zf11_12 dX11_field_1 ?_
  have t_1 : zT sh (zR M k0 11) 1 := hw.2.2.2.fld h0 11 1
  refine z_gR F hw t_1 zc1 4 (by decide) rfl zf11_128 dX11_field_4 ?_
  have t_2 : zT sh (zR M (zR M k0 11) 4) 9 := hw.2.2.2.fld t_1 4 9
  refine z_gR F hw t_2 zc9 1 (by decide) rfl zf11_137 dX11_field_7 ?_
  have t_3 : zT sh (zR M (zR M (zR M k0 11) 4) 1) 14 := hw.2.2.2.fld t_2 1 14
  refine lv_iload_n hx hb dX11_field_10 rfl (lv_at hl 1 rfl) ?_
  obtain ⟨r_5, hc_4, hd⟩ := zob_some hd
  refine z_csI F hw hl.1 (As := [.ref (ad (zR M (zR M (zR M k0 11) 4) 1)), .int p1]) (rest := []) (ztX9_rootsOf l D cy sh ad t_3 hc_4) zyX9_rootsOf zk11_144 ⟨rfl, rfl⟩ ⟨by decide, by decide⟩ rfl rfl (Nat.le_of_ble_eq_true rfl) dX11_field_11 (fun H locs hw => ?_)
  exact z_iret F hr hlk hw (Option.some.inj hd) rfl dX11_field_14

def zX11_mend (sh : zShp) (k0 : Nat) (p1 : Int32) (M : zMem) : Option (Int32 × zMem) :=
  zob (zX11_isWithin sh p1 (0 : Int32) (64 : Int32) M) fun r_2 =>
  if r_2 = 0 then (
  some ((-2147483648 : Int32), M))
  else (
  zob2 (zX9_bestAt sh (zR M (zR M k0 11) 4) (zR M (zR M (zR M k0 11) 4) 1) p1 M) fun r_10 M_11 =>
  some (r_10, M_11))
set_option maxHeartbeats 4000000 in
set_option maxRecDepth 100000 in
theorem ztX11_mend (l : Launch) (D : va_G) (cy : Nat → ClassId) (sh : zShp) (ad : Nat → Nat) {k0 : Nat} {p1 : Int32} (h0 : zT sh k0 11) {M : zMem} {r : Int32} {M1 : zMem} (hd : zX11_mend sh k0 p1 M = some (r, M1)) : zCI l yX11_mend cX11_mend 2 .int { frames := 3, cells := 0, slots := 0, locals := 75 } [.ref (ad k0), .int p1] D cy sh ad M r M1 := by
  refine zci_of (by decide) (Nat.le_of_ble_eq_true rfl) (fun p e s m below meth c ls F hr hlk hl hw => ?_)
  have hx := F.1.1
  have hb := F.1.2.1
  have hl : lv_has ls 2 [(0, .ref (ad k0)), (1, .int p1)] := hl
  unfold zX11_mend at hd
  refine lv_iload_n hx hb dX11_mend_0 rfl (lv_at hl 1 rfl) ?_
  refine lv_iconst (v := (0 : Int32)) hx hb dX11_mend_1 (by decide) ?_
  refine lv_bipush (v := (64 : Int32)) hx hb dX11_mend_2 (by decide) ?_
  obtain ⟨r_2, hc_1, hd⟩ := zob_some hd
  refine z_csI F hw hl.1 (As := [.int p1, .int (0 : Int32), .int (64 : Int32)]) (rest := []) (ztX11_isWithin l D cy sh ad  hc_1) zyX11_isWithin zk11_123 ⟨rfl, rfl⟩ ⟨by decide, by decide⟩ rfl rfl (Nat.le_of_ble_eq_true rfl) dX11_mend_4 (fun H locs hw => ?_)
  refine lv_if_ne (tgt := 13) hx hb dX11_mend_7 (by decide) (fun c_3 => ?_) (fun c_3 => ?_)
  · have hd := zif_neg c_3 hd
    refine lv_aload_n hx hb dX11_mend_13 rfl (lv_at hl 0 rfl) ?_
    refine z_gR F hw h0 zc11 11 (by decide) rfl zf11_12 dX11_mend_14 ?_
    have t_4 : zT sh (zR M k0 11) 1 := hw.2.2.2.fld h0 11 1
    refine z_gR F hw t_4 zc1 4 (by decide) rfl zf11_128 dX11_mend_17 ?_
    have t_5 : zT sh (zR M (zR M k0 11) 4) 9 := hw.2.2.2.fld t_4 4 9
    refine lv_aload_n hx hb dX11_mend_20 rfl (lv_at hl 0 rfl) ?_
    refine z_gR F hw h0 zc11 11 (by decide) rfl zf11_12 dX11_mend_21 ?_
    have t_6 : zT sh (zR M k0 11) 1 := hw.2.2.2.fld h0 11 1
    refine z_gR F hw t_6 zc1 4 (by decide) rfl zf11_128 dX11_mend_24 ?_
    have t_7 : zT sh (zR M (zR M k0 11) 4) 9 := hw.2.2.2.fld t_6 4 9
    refine z_gR F hw t_7 zc9 1 (by decide) rfl zf11_137 dX11_mend_27 ?_
    have t_8 : zT sh (zR M (zR M (zR M k0 11) 4) 1) 14 := hw.2.2.2.fld t_7 1 14
    refine lv_iload_n hx hb dX11_mend_30 rfl (lv_at hl 1 rfl) ?_
    obtain ⟨r_10, M_11, hc_9, hd⟩ := zob2_some hd
    refine z_cvI F hw hl.1 (As := [.ref (ad (zR M (zR M (zR M k0 11) 4) 1)), .int p1]) (rest := []) (ztX9_bestAt l D cy sh ad t_5 t_8 hc_9) zyX9_bestAt t_5 zc9 zk11_147 ⟨rfl, rfl⟩ ⟨by decide, by decide⟩ rfl rfl (Nat.le_of_ble_eq_true rfl) dX11_mend_31 (fun H locs hw => ?_)
    exact z_iret F hr hlk hw (zpr1 hd) (zpr2 hd) dX11_mend_34
  · have hd := zif_pos c_3 hd
    refine lv_ldc (v := (-2147483648 : Int32)) hx hb F.1.2.2.2.1 (F.1.2.2.2.2 _ zi11_127) dX11_mend_10 ?_
    exact z_iret F hr hlk hw (zpr1 hd) (zpr2 hd) dX11_mend_12

def zjX11_tuned_117 (sh : zShp) (k0 : Nat) (p1 : Int32)  (s0 : Int32) (M : zMem) : Option (Int32 × zMem) :=
  some (s0, M)
def zjX11_tuned_94 (sh : zShp) (k0 : Nat) (p1 : Int32) (kk42 : Nat → Int32 → Int32 → zMem → Option (Int32 × zMem)) (x2 : Nat) (x3 : Int32) (x4 : Int32) (M : zMem) : Option (Int32 × zMem) :=
  kk42 x2 x3 (x4 + (1 : Int32)) M
def zbX11_tuned_42 (sh : zShp) (k0 : Nat) (p1 : Int32)  (kk42 : Nat → Int32 → Int32 → zMem → Option (Int32 × zMem)) (x2 : Nat) (x3 : Int32) (x4 : Int32) (M : zMem) : Option (Int32 × zMem) :=
  if (64 : Int32) < x4 then (
  if p1 = (2 : Int32) then (
  zjX11_tuned_117 sh k0 p1 x3 M)
  else (
  zob (zX9_rootsOf sh (zR M k0 10) p1 M) fun r_5 =>
  zjX11_tuned_117 sh k0 p1 r_5 M))
  else (
  zgd (zin x4 (zlen sh (zR M x2 0))) <|
  zob2 (zX9_bestAt sh x2 (zR M k0 10) x4 M) fun r_11 M_12 =>
  zgd (zin x4 (zlen sh (zR M k0 10))) <|
  zbd (zpI M_12 (zR M k0 10) (x4.toNatClampNeg) ((zI M (zR M x2 0) x4.toNatClampNeg) + r_11)) fun M_14 =>
  zgd (zin x4 (zlen sh (zR M_14 k0 10))) <|
  zgd (zin x4 (zlen sh (zR M_14 x2 1))) <|
  if (zI M_14 (zR M_14 k0 10) x4.toNatClampNeg) = (zI M_14 (zR M_14 x2 1) x4.toNatClampNeg) then (
  zjX11_tuned_94 sh k0 p1 kk42 x2 x3 x4 M_14)
  else (
  zjX11_tuned_94 sh k0 p1 kk42 x2 (x3 + (1 : Int32)) x4 M_14))
def zlX11_tuned_42 (sh : zShp) (k0 : Nat) (p1 : Int32)  : Nat → Nat → Int32 → Int32 → zMem → Option (Int32 × zMem)
  | 0 => fun _ _ _ _ => none
  | n + 1 => fun x2 x3 x4 M => zbX11_tuned_42 sh k0 p1  (zlX11_tuned_42 sh k0 p1  n) x2 x3 x4 M
def zX11_tuned (sh : zShp) (k0 : Nat) (p1 : Int32) (M : zMem) : Option (Int32 × zMem) :=
  zob (zX11_isWithin sh p1 (0 : Int32) (2 : Int32) M) fun r_21 =>
  if r_21 = 0 then (
  some ((-1 : Int32), M))
  else (
  zgd (zcpok (0 : Int32) (0 : Int32) (Int32.ofNat (zlen sh (zR M k0 10))) (zlen sh (zR M (zR M (zR M k0 11) 4) 1)) (zlen sh (zR M k0 10))) <|
  zbd (zpC M (zR M (zR M (zR M k0 11) 4) 1) (0 : Int32).toNatClampNeg (zR M k0 10) (0 : Int32).toNatClampNeg (Int32.ofNat (zlen sh (zR M k0 10))).toNatClampNeg) fun M_29 =>
  zlX11_tuned_42 sh k0 p1 zF (zR M (zR M k0 11) 4) (0 : Int32) (0 : Int32) M_29)
set_option maxHeartbeats 4000000 in
set_option maxRecDepth 100000 in
theorem ztX11_tuned (l : Launch) (D : va_G) (cy : Nat → ClassId) (sh : zShp) (ad : Nat → Nat) {k0 : Nat} {p1 : Int32} (h0 : zT sh k0 11) {M : zMem} {r : Int32} {M1 : zMem} (hd : zX11_tuned sh k0 p1 M = some (r, M1)) : zCI l yX11_tuned cX11_tuned 5 .int { frames := 3, cells := 0, slots := 0, locals := 75 } [.ref (ad k0), .int p1] D cy sh ad M r M1 := by
  refine zci_of (by decide) (Nat.le_of_ble_eq_true rfl) (fun p e s m below meth c ls F hr hlk hl hw => ?_)
  have hx := F.1.1
  have hb := F.1.2.1
  have hl : lv_has ls 5 [(0, .ref (ad k0)), (1, .int p1)] := hl
  have J117 : ∀ (s0 : Int32) (M : zMem) (H : Heap) (locs : List Loc) (ls : Array Slot), lv_has ls 5 [] → zWd D cy sh ad s M H locs → zjX11_tuned_117 sh k0 p1  s0 M = some (r, M1) → W p l e { frames := 3, cells := 0, slots := 0, locals := 75 } s m ([.ref (ad k0), .int p1] : List Value).toArray below meth c H locs 0 0 (zQI below D cy sh ad s [.ref (ad k0), .int p1] r M1) (F0 m 117 ls [.int s0]) := by
    intro  s0 M H locs ls hl hw hd
    unfold zjX11_tuned_117 at hd
    exact z_iret F hr hlk hw (zpr1 hd) (zpr2 hd) dX11_tuned_117
  have J94 : ∀ (kk42 : Nat → Int32 → Int32 → zMem → Option (Int32 × zMem)) (hk42 : ∀ (x2 : Nat) (x3 : Int32) (x4 : Int32) (tx2 : zT sh x2 9) (M : zMem) (H : Heap) (locs : List Loc) (ls : Array Slot), lv_has ls 5 [(0, .ref (ad k0)), (1, .int p1), (2, .ref (ad x2)), (3, .int x3), (4, .int x4)] → zWd D cy sh ad s M H locs → kk42 x2 x3 x4 M = some (r, M1) → W p l e { frames := 3, cells := 0, slots := 0, locals := 75 } s m ([.ref (ad k0), .int p1] : List Value).toArray below meth c H locs 0 0 (zQI below D cy sh ad s [.ref (ad k0), .int p1] r M1) (F0 m 42 ls [])), ∀ (x2 : Nat) (x3 : Int32) (x4 : Int32) (tx2 : zT sh x2 9) (M : zMem) (H : Heap) (locs : List Loc) (ls : Array Slot), lv_has ls 5 [(0, .ref (ad k0)), (1, .int p1), (2, .ref (ad x2)), (3, .int x3), (4, .int x4)] → zWd D cy sh ad s M H locs → zjX11_tuned_94 sh k0 p1 kk42 x2 x3 x4 M = some (r, M1) → W p l e { frames := 3, cells := 0, slots := 0, locals := 75 } s m ([.ref (ad k0), .int p1] : List Value).toArray below meth c H locs 0 0 (zQI below D cy sh ad s [.ref (ad k0), .int p1] r M1) (F0 m 94 ls []) := by
    intro kk42 hk42 x2 x3 x4 tx2 M H locs ls hl hw hd
    unfold zjX11_tuned_94 at hd
    refine lv_iinc (v := (x4 + (1 : Int32))) (lv' := [(4, .int (x4 + (1 : Int32))), (0, .ref (ad k0)), (1, .int p1), (2, .ref (ad x2)), (3, .int x3)]) hx hb dX11_tuned_94 hl (k := 4) rfl (ziinc (by decide)) (by decide) rfl (fun ls hl => ?_)
    refine lv_goto (tgt := 42) hx hb dX11_tuned_97 (by decide) ?_
    exact hk42 _ _ _ tx2 _ _ _ _ (lv_sub hl [1, 2, 3, 4, 0] rfl) hw hd
  have L42 : ∀  (n : Nat), ∀ (x2 : Nat) (x3 : Int32) (x4 : Int32) (tx2 : zT sh x2 9) (M : zMem) (H : Heap) (locs : List Loc) (ls : Array Slot), lv_has ls 5 [(0, .ref (ad k0)), (1, .int p1), (2, .ref (ad x2)), (3, .int x3), (4, .int x4)] → zWd D cy sh ad s M H locs → zlX11_tuned_42 sh k0 p1  n x2 x3 x4 M = some (r, M1) → W p l e { frames := 3, cells := 0, slots := 0, locals := 75 } s m ([.ref (ad k0), .int p1] : List Value).toArray below meth c H locs 0 0 (zQI below D cy sh ad s [.ref (ad k0), .int p1] r M1) (F0 m 42 ls []) := by
    intro  n
    induction n with
    | zero => intro x2 x3 x4 tx2 M H locs ls hl hw hd; exact (znone hd).elim
    | succ n hk42 =>
      intro x2 x3 x4 tx2 M H locs ls hl hw hd
      have hd : zbX11_tuned_42 sh k0 p1  (zlX11_tuned_42 sh k0 p1  n) x2 x3 x4 M = some (r, M1) := hd
      unfold zbX11_tuned_42 at hd
      refine lv_iload hx hb dX11_tuned_42 (lv_at hl 4 rfl) ?_
      refine lv_bipush (v := (64 : Int32)) hx hb dX11_tuned_44 (by decide) ?_
      refine lv_icmp_gt (tgt := 100) hx hb dX11_tuned_46 (by decide) (fun c_1 => ?_) (fun c_1 => ?_)
      · have hd := zif_pos c_1 hd
        refine lv_iload_n hx hb dX11_tuned_100 rfl (lv_at hl 1 rfl) ?_
        refine lv_iconst (v := (2 : Int32)) hx hb dX11_tuned_101 (by decide) ?_
        refine lv_icmp_ne (tgt := 109) hx hb dX11_tuned_102 (by decide) (fun c_2 => ?_) (fun c_2 => ?_)
        · have hd := zif_neg c_2 hd
          refine lv_aload_n hx hb dX11_tuned_109 rfl (lv_at hl 0 rfl) ?_
          refine z_gR F hw h0 zc11 10 (by decide) rfl zf11_86 dX11_tuned_110 ?_
          have t_3 : zT sh (zR M k0 10) 14 := hw.2.2.2.fld h0 10 14
          refine lv_iload_n hx hb dX11_tuned_113 rfl (lv_at hl 1 rfl) ?_
          obtain ⟨r_5, hc_4, hd⟩ := zob_some hd
          refine z_csI F hw hl.1 (As := [.ref (ad (zR M k0 10)), .int p1]) (rest := []) (ztX9_rootsOf l D cy sh ad t_3 hc_4) zyX9_rootsOf zk11_144 ⟨rfl, rfl⟩ ⟨by decide, by decide⟩ rfl rfl (Nat.le_of_ble_eq_true rfl) dX11_tuned_114 (fun H locs hw => ?_)
          exact J117 _ _ _ _ _ (lv_sub hl [] rfl) hw hd
        · have hd := zif_pos c_2 hd
          refine lv_iload_n hx hb dX11_tuned_105 rfl (lv_at hl 3 rfl) ?_
          refine lv_goto (tgt := 117) hx hb dX11_tuned_106 (by decide) ?_
          exact J117 _ _ _ _ _ (lv_sub hl [] rfl) hw hd
      · have hd := zif_neg c_1 hd
        refine lv_aload_n hx hb dX11_tuned_49 rfl (lv_at hl 0 rfl) ?_
        refine z_gR F hw h0 zc11 10 (by decide) rfl zf11_86 dX11_tuned_50 ?_
        have t_6 : zT sh (zR M k0 10) 14 := hw.2.2.2.fld h0 10 14
        refine lv_iload hx hb dX11_tuned_53 (lv_at hl 4 rfl) ?_
        refine lv_aload_n hx hb dX11_tuned_55 rfl (lv_at hl 2 rfl) ?_
        refine z_gR F hw tx2 zc9 0 (by decide) rfl zf11_132 dX11_tuned_56 ?_
        have t_7 : zT sh (zR M x2 0) 14 := hw.2.2.2.fld tx2 0 14
        refine lv_iload hx hb dX11_tuned_59 (lv_at hl 4 rfl) ?_
        obtain ⟨g_8, hd⟩ := zgd_some hd
        refine z_iald F hw t_7 g_8 dX11_tuned_61 ?_
        refine lv_aload_n hx hb dX11_tuned_62 rfl (lv_at hl 2 rfl) ?_
        refine lv_aload_n hx hb dX11_tuned_63 rfl (lv_at hl 0 rfl) ?_
        refine z_gR F hw h0 zc11 10 (by decide) rfl zf11_86 dX11_tuned_64 ?_
        have t_9 : zT sh (zR M k0 10) 14 := hw.2.2.2.fld h0 10 14
        refine lv_iload hx hb dX11_tuned_67 (lv_at hl 4 rfl) ?_
        obtain ⟨r_11, M_12, hc_10, hd⟩ := zob2_some hd
        refine z_cvI F hw hl.1 (As := [.ref (ad (zR M k0 10)), .int x4]) (rest := [.int (zI M (zR M x2 0) x4.toNatClampNeg), .int x4, .ref (ad (zR M k0 10))]) (ztX9_bestAt l D cy sh ad tx2 t_9 hc_10) zyX9_bestAt tx2 zc9 zk11_147 ⟨rfl, rfl⟩ ⟨by decide, by decide⟩ rfl rfl (Nat.le_of_ble_eq_true rfl) dX11_tuned_69 (fun H locs hw => ?_)
        refine lv_iadd hx hb dX11_tuned_72 ?_
        obtain ⟨g_13, hd⟩ := zgd_some hd
        refine z_iast F hw t_6 g_13 dX11_tuned_73 (fun H locs M_14 eM_14 hw => ?_)
        have hd := zbd_eq eM_14 hd
        refine lv_aload_n hx hb dX11_tuned_74 rfl (lv_at hl 0 rfl) ?_
        refine z_gR F hw h0 zc11 10 (by decide) rfl zf11_86 dX11_tuned_75 ?_
        have t_15 : zT sh (zR M_14 k0 10) 14 := hw.2.2.2.fld h0 10 14
        refine lv_iload hx hb dX11_tuned_78 (lv_at hl 4 rfl) ?_
        obtain ⟨g_16, hd⟩ := zgd_some hd
        refine z_iald F hw t_15 g_16 dX11_tuned_80 ?_
        refine lv_aload_n hx hb dX11_tuned_81 rfl (lv_at hl 2 rfl) ?_
        refine z_gR F hw tx2 zc9 1 (by decide) rfl zf11_137 dX11_tuned_82 ?_
        have t_17 : zT sh (zR M_14 x2 1) 14 := hw.2.2.2.fld tx2 1 14
        refine lv_iload hx hb dX11_tuned_85 (lv_at hl 4 rfl) ?_
        obtain ⟨g_18, hd⟩ := zgd_some hd
        refine z_iald F hw t_17 g_18 dX11_tuned_87 ?_
        refine lv_icmp_eq (tgt := 94) hx hb dX11_tuned_88 (by decide) (fun c_19 => ?_) (fun c_19 => ?_)
        · have hd := zif_pos c_19 hd
          exact J94 _ hk42 _ _ _ tx2 _ _ _ _ (lv_sub hl [0, 1, 2, 3, 4] rfl) hw hd
        · have hd := zif_neg c_19 hd
          refine lv_iinc (v := (x3 + (1 : Int32))) (lv' := [(3, .int (x3 + (1 : Int32))), (0, .ref (ad k0)), (1, .int p1), (2, .ref (ad x2)), (4, .int x4)]) hx hb dX11_tuned_91 hl (k := 3) rfl (ziinc (by decide)) (by decide) rfl (fun ls hl => ?_)
          exact J94 _ hk42 _ _ _ tx2 _ _ _ _ (lv_sub hl [1, 2, 3, 0, 4] rfl) hw hd
  unfold zX11_tuned at hd
  refine lv_iload_n hx hb dX11_tuned_0 rfl (lv_at hl 1 rfl) ?_
  refine lv_iconst (v := (0 : Int32)) hx hb dX11_tuned_1 (by decide) ?_
  refine lv_iconst (v := (2 : Int32)) hx hb dX11_tuned_2 (by decide) ?_
  obtain ⟨r_21, hc_20, hd⟩ := zob_some hd
  refine z_csI F hw hl.1 (As := [.int p1, .int (0 : Int32), .int (2 : Int32)]) (rest := []) (ztX11_isWithin l D cy sh ad  hc_20) zyX11_isWithin zk11_123 ⟨rfl, rfl⟩ ⟨by decide, by decide⟩ rfl rfl (Nat.le_of_ble_eq_true rfl) dX11_tuned_3 (fun H locs hw => ?_)
  refine lv_if_ne (tgt := 11) hx hb dX11_tuned_6 (by decide) (fun c_22 => ?_) (fun c_22 => ?_)
  · have hd := zif_neg c_22 hd
    refine lv_aload_n hx hb dX11_tuned_11 rfl (lv_at hl 0 rfl) ?_
    refine z_gR F hw h0 zc11 11 (by decide) rfl zf11_12 dX11_tuned_12 ?_
    have t_23 : zT sh (zR M k0 11) 1 := hw.2.2.2.fld h0 11 1
    refine z_gR F hw t_23 zc1 4 (by decide) rfl zf11_128 dX11_tuned_15 ?_
    have t_24 : zT sh (zR M (zR M k0 11) 4) 9 := hw.2.2.2.fld t_23 4 9
    refine lv_astore_n (lv' := [(2, .ref (ad (zR M (zR M k0 11) 4))), (0, .ref (ad k0)), (1, .int p1)]) hx hb dX11_tuned_18 rfl hl (by decide) rfl (fun ls hl => ?_)
    refine lv_iconst (v := (0 : Int32)) hx hb dX11_tuned_19 (by decide) ?_
    refine lv_istore_n (lv' := [(3, .int (0 : Int32)), (2, .ref (ad (zR M (zR M k0 11) 4))), (0, .ref (ad k0)), (1, .int p1)]) hx hb dX11_tuned_20 rfl hl (by decide) rfl (fun ls hl => ?_)
    refine lv_aload_n hx hb dX11_tuned_21 rfl (lv_at hl 1 rfl) ?_
    refine z_gR F hw t_24 zc9 1 (by decide) rfl zf11_137 dX11_tuned_22 ?_
    have t_25 : zT sh (zR M (zR M (zR M k0 11) 4) 1) 14 := hw.2.2.2.fld t_24 1 14
    refine lv_iconst (v := (0 : Int32)) hx hb dX11_tuned_25 (by decide) ?_
    refine lv_aload_n hx hb dX11_tuned_26 rfl (lv_at hl 2 rfl) ?_
    refine z_gR F hw h0 zc11 10 (by decide) rfl zf11_86 dX11_tuned_27 ?_
    have t_26 : zT sh (zR M k0 10) 14 := hw.2.2.2.fld h0 10 14
    refine lv_iconst (v := (0 : Int32)) hx hb dX11_tuned_30 (by decide) ?_
    refine lv_aload_n hx hb dX11_tuned_31 rfl (lv_at hl 2 rfl) ?_
    refine z_gR F hw h0 zc11 10 (by decide) rfl zf11_86 dX11_tuned_32 ?_
    have t_27 : zT sh (zR M k0 10) 14 := hw.2.2.2.fld h0 10 14
    refine z_alen F hw t_27 (by decide) (t0 := 1) rfl dX11_tuned_35 ?_
    obtain ⟨g_28, hd⟩ := zgd_some hd
    refine z_copy F hw hl.1 t_25 t_26 zk11_150 zac1 zac2 zac3 g_28 (by decide) (Nat.le_of_ble_eq_true rfl) dX11_tuned_36 (fun H locs M_29 eM_29 hw => ?_)
    have hd := zbd_eq eM_29 hd
    refine lv_iconst (v := (0 : Int32)) hx hb dX11_tuned_39 (by decide) ?_
    refine lv_istore (lv' := [(4, .int (0 : Int32)), (3, .int (0 : Int32)), (2, .ref (ad (zR M (zR M k0 11) 4))), (0, .ref (ad k0)), (1, .int p1)]) hx hb dX11_tuned_40 hl (by decide) rfl (fun ls hl => ?_)
    exact L42 zF _ _ _ t_24 _ _ _ _ (lv_sub hl [3, 4, 2, 1, 0] rfl) hw hd
  · have hd := zif_pos c_22 hd
    refine lv_iconst (v := (-1 : Int32)) hx hb dX11_tuned_9 (by decide) ?_
    exact z_iret F hr hlk hw (zpr1 hd) (zpr2 hd) dX11_tuned_10

def zjX11_askRamp_30 (sh : zShp) (k0 : Nat) (p1 : Int32) (p2 : Int32) (p3 : Int32)  (M : zMem) : Option (Int32 × zMem) :=
  some ((0 : Int32), M)
def zX11_askRamp (sh : zShp) (k0 : Nat) (p1 : Int32) (p2 : Int32) (p3 : Int32) (M : zMem) : Option (Int32 × zMem) :=
  zob (zX11_isWithin sh p1 (0 : Int32) (60 : Int32) M) fun r_2 =>
  if r_2 = 0 then (
  zjX11_askRamp_30 sh k0 p1 p2 p3 M)
  else (
  zob (zX11_isWithin sh p2 (1 : Int32) (30 : Int32) M) fun r_5 =>
  if r_5 = 0 then (
  zjX11_askRamp_30 sh k0 p1 p2 p3 M)
  else (
  zob (zX11_isWithin sh p3 (1 : Int32) (10 : Int32) M) fun r_8 =>
  if r_8 = 0 then (
  zjX11_askRamp_30 sh k0 p1 p2 p3 M)
  else (
  zob (zX5_build sh (zR M k0 6) p1 p2 p3 M) fun M_12 =>
  some ((1 : Int32), M_12))))
set_option maxHeartbeats 4000000 in
set_option maxRecDepth 100000 in
theorem ztX11_askRamp (l : Launch) (D : va_G) (cy : Nat → ClassId) (sh : zShp) (ad : Nat → Nat) {k0 : Nat} {p1 : Int32} {p2 : Int32} {p3 : Int32} (h0 : zT sh k0 11) {M : zMem} {r : Int32} {M1 : zMem} (hd : zX11_askRamp sh k0 p1 p2 p3 M = some (r, M1)) : zCI l yX11_askRamp cX11_askRamp 4 .boolean { frames := 2, cells := 0, slots := 0, locals := 52 } [.ref (ad k0), .int p1, .int p2, .int p3] D cy sh ad M r M1 := by
  refine zci_of (by decide) (Nat.le_of_ble_eq_true rfl) (fun p e s m below meth c ls F hr hlk hl hw => ?_)
  have hx := F.1.1
  have hb := F.1.2.1
  have hl : lv_has ls 4 [(0, .ref (ad k0)), (1, .int p1), (2, .int p2), (3, .int p3)] := hl
  have J30 : ∀ (M : zMem) (H : Heap) (locs : List Loc) (ls : Array Slot), lv_has ls 4 [] → zWd D cy sh ad s M H locs → zjX11_askRamp_30 sh k0 p1 p2 p3  M = some (r, M1) → W p l e { frames := 2, cells := 0, slots := 0, locals := 52 } s m ([.ref (ad k0), .int p1, .int p2, .int p3] : List Value).toArray below meth c H locs 0 0 (zQI below D cy sh ad s [.ref (ad k0), .int p1, .int p2, .int p3] r M1) (F0 m 30 ls []) := by
    intro  M H locs ls hl hw hd
    unfold zjX11_askRamp_30 at hd
    refine lv_iconst (v := (0 : Int32)) hx hb dX11_askRamp_30 (by decide) ?_
    exact z_zret F hr hlk hw (by decide) (zpr1 hd) (zpr2 hd) dX11_askRamp_31
  unfold zX11_askRamp at hd
  refine lv_iload_n hx hb dX11_askRamp_0 rfl (lv_at hl 1 rfl) ?_
  refine lv_iconst (v := (0 : Int32)) hx hb dX11_askRamp_1 (by decide) ?_
  refine lv_bipush (v := (60 : Int32)) hx hb dX11_askRamp_2 (by decide) ?_
  obtain ⟨r_2, hc_1, hd⟩ := zob_some hd
  refine z_csI F hw hl.1 (As := [.int p1, .int (0 : Int32), .int (60 : Int32)]) (rest := []) (ztX11_isWithin l D cy sh ad  hc_1) zyX11_isWithin zk11_123 ⟨rfl, rfl⟩ ⟨by decide, by decide⟩ rfl rfl (Nat.le_of_ble_eq_true rfl) dX11_askRamp_4 (fun H locs hw => ?_)
  refine lv_if_eq (tgt := 30) hx hb dX11_askRamp_7 (by decide) (fun c_3 => ?_) (fun c_3 => ?_)
  · have hd := zif_pos c_3 hd
    exact J30 _ _ _ _ (lv_sub hl [] rfl) hw hd
  · have hd := zif_neg c_3 hd
    refine lv_iload_n hx hb dX11_askRamp_10 rfl (lv_at hl 2 rfl) ?_
    refine lv_iconst (v := (1 : Int32)) hx hb dX11_askRamp_11 (by decide) ?_
    refine lv_bipush (v := (30 : Int32)) hx hb dX11_askRamp_12 (by decide) ?_
    obtain ⟨r_5, hc_4, hd⟩ := zob_some hd
    refine z_csI F hw hl.1 (As := [.int p2, .int (1 : Int32), .int (30 : Int32)]) (rest := []) (ztX11_isWithin l D cy sh ad  hc_4) zyX11_isWithin zk11_123 ⟨rfl, rfl⟩ ⟨by decide, by decide⟩ rfl rfl (Nat.le_of_ble_eq_true rfl) dX11_askRamp_14 (fun H locs hw => ?_)
    refine lv_if_eq (tgt := 30) hx hb dX11_askRamp_17 (by decide) (fun c_6 => ?_) (fun c_6 => ?_)
    · have hd := zif_pos c_6 hd
      exact J30 _ _ _ _ (lv_sub hl [] rfl) hw hd
    · have hd := zif_neg c_6 hd
      refine lv_iload_n hx hb dX11_askRamp_20 rfl (lv_at hl 3 rfl) ?_
      refine lv_iconst (v := (1 : Int32)) hx hb dX11_askRamp_21 (by decide) ?_
      refine lv_bipush (v := (10 : Int32)) hx hb dX11_askRamp_22 (by decide) ?_
      obtain ⟨r_8, hc_7, hd⟩ := zob_some hd
      refine z_csI F hw hl.1 (As := [.int p3, .int (1 : Int32), .int (10 : Int32)]) (rest := []) (ztX11_isWithin l D cy sh ad  hc_7) zyX11_isWithin zk11_123 ⟨rfl, rfl⟩ ⟨by decide, by decide⟩ rfl rfl (Nat.le_of_ble_eq_true rfl) dX11_askRamp_24 (fun H locs hw => ?_)
      refine lv_if_ne (tgt := 32) hx hb dX11_askRamp_27 (by decide) (fun c_9 => ?_) (fun c_9 => ?_)
      · have hd := zif_neg c_9 hd
        refine lv_aload_n hx hb dX11_askRamp_32 rfl (lv_at hl 0 rfl) ?_
        refine z_gR F hw h0 zc11 6 (by decide) rfl zf11_64 dX11_askRamp_33 ?_
        have t_10 : zT sh (zR M k0 6) 5 := hw.2.2.2.fld h0 6 5
        refine lv_iload_n hx hb dX11_askRamp_36 rfl (lv_at hl 1 rfl) ?_
        refine lv_iload_n hx hb dX11_askRamp_37 rfl (lv_at hl 2 rfl) ?_
        refine lv_iload_n hx hb dX11_askRamp_38 rfl (lv_at hl 3 rfl) ?_
        obtain ⟨M_12, hc_11, hd⟩ := zob_some hd
        refine z_cvV F hw hl.1 (As := [.int p1, .int p2, .int p3]) (rest := []) (ztX5_build l D cy sh ad t_10 hc_11) zyX5_build t_10 zc5 zk11_281 ⟨rfl, rfl⟩ ⟨by decide, by decide⟩ rfl rfl (Nat.le_of_ble_eq_true rfl) dX11_askRamp_39 (fun H locs hw => ?_)
        refine lv_iconst (v := (1 : Int32)) hx hb dX11_askRamp_42 (by decide) ?_
        exact z_zret F hr hlk hw (by decide) (zpr1 hd) (zpr2 hd) dX11_askRamp_43
      · have hd := zif_pos c_9 hd
        exact J30 _ _ _ _ (lv_sub hl [] rfl) hw hd

def zX11_ramp (sh : zShp) (k0 : Nat) (p1 : Int32) (p2 : Int32) (p3 : Int32) (p4 : Int32) (M : zMem) : Option (Int32 × zMem) :=
  zob2 (zX11_askRamp sh k0 p1 p2 p3 M) fun r_2 M_3 =>
  if r_2 = 0 then (
  some ((-1 : Int32), M_3))
  else (
  if p4 = (0 : Int32) then (
  some ((zI M_3 (zR M_3 k0 6) 1), M_3))
  else if p4 = (1 : Int32) then (
  zob (zX5_reached sh (zR M_3 k0 6) M_3) fun r_10 =>
  some (r_10, M_3))
  else if p4 = (2 : Int32) then (
  zob (zX5_micros sh (zR M_3 k0 6) M_3) fun r_14 =>
  some (r_14, M_3))
  else (
  some ((-1 : Int32), M_3)))
set_option maxHeartbeats 4000000 in
set_option maxRecDepth 100000 in
theorem ztX11_ramp (l : Launch) (D : va_G) (cy : Nat → ClassId) (sh : zShp) (ad : Nat → Nat) {k0 : Nat} {p1 : Int32} {p2 : Int32} {p3 : Int32} {p4 : Int32} (h0 : zT sh k0 11) {M : zMem} {r : Int32} {M1 : zMem} (hd : zX11_ramp sh k0 p1 p2 p3 p4 M = some (r, M1)) : zCI l yX11_ramp cX11_ramp 5 .int { frames := 3, cells := 0, slots := 0, locals := 75 } [.ref (ad k0), .int p1, .int p2, .int p3, .int p4] D cy sh ad M r M1 := by
  refine zci_of (by decide) (Nat.le_of_ble_eq_true rfl) (fun p e s m below meth c ls F hr hlk hl hw => ?_)
  have hx := F.1.1
  have hb := F.1.2.1
  have hl : lv_has ls 5 [(0, .ref (ad k0)), (1, .int p1), (2, .int p2), (3, .int p3), (4, .int p4)] := hl
  unfold zX11_ramp at hd
  refine lv_aload_n hx hb dX11_ramp_0 rfl (lv_at hl 0 rfl) ?_
  refine lv_iload_n hx hb dX11_ramp_1 rfl (lv_at hl 1 rfl) ?_
  refine lv_iload_n hx hb dX11_ramp_2 rfl (lv_at hl 2 rfl) ?_
  refine lv_iload_n hx hb dX11_ramp_3 rfl (lv_at hl 3 rfl) ?_
  obtain ⟨r_2, M_3, hc_1, hd⟩ := zob2_some hd
  refine z_cvI F hw hl.1 (As := [.int p1, .int p2, .int p3]) (rest := []) (ztX11_askRamp l D cy sh ad h0 hc_1) zyX11_askRamp h0 zc11 zk11_156 ⟨rfl, rfl⟩ ⟨by decide, by decide⟩ rfl rfl (Nat.le_of_ble_eq_true rfl) dX11_ramp_4 (fun H locs hw => ?_)
  refine lv_if_ne (tgt := 12) hx hb dX11_ramp_7 (by decide) (fun c_4 => ?_) (fun c_4 => ?_)
  · have hd := zif_neg c_4 hd
    refine lv_iload hx hb dX11_ramp_12 (lv_at hl 4 rfl) ?_
    by_cases c_5 : p4 = (0 : Int32)
    · have hd := zif_pos c_5 hd
      refine lv_tableIn (tgt := 40) (off := 26) hx hb dX11_ramp_14 (by rw [c_5]; decide) (by rw [c_5]; decide) (by rw [c_5]; decide) (by decide) ?_
      refine lv_aload_n hx hb dX11_ramp_40 rfl (lv_at hl 0 rfl) ?_
      refine z_gR F hw h0 zc11 6 (by decide) rfl zf11_64 dX11_ramp_41 ?_
      have t_6 : zT sh (zR M_3 k0 6) 5 := hw.2.2.2.fld h0 6 5
      refine z_gI F hw t_6 zc5 1 (by decide) rfl zf11_159 dX11_ramp_44 ?_
      exact z_iret F hr hlk hw (zpr1 hd) (zpr2 hd) dX11_ramp_47
    have hd := zif_neg c_5 hd
    by_cases c_7 : p4 = (1 : Int32)
    · have hd := zif_pos c_7 hd
      refine lv_tableIn (tgt := 48) (off := 34) hx hb dX11_ramp_14 (by rw [c_7]; decide) (by rw [c_7]; decide) (by rw [c_7]; decide) (by decide) ?_
      refine lv_aload_n hx hb dX11_ramp_48 rfl (lv_at hl 0 rfl) ?_
      refine z_gR F hw h0 zc11 6 (by decide) rfl zf11_64 dX11_ramp_49 ?_
      have t_8 : zT sh (zR M_3 k0 6) 5 := hw.2.2.2.fld h0 6 5
      obtain ⟨r_10, hc_9, hd⟩ := zob_some hd
      refine z_cvI F hw hl.1 (As := []) (rest := []) (ztX5_reached l D cy sh ad t_8 hc_9) zyX5_reached t_8 zc5 zk11_162 ⟨rfl, rfl⟩ ⟨by decide, by decide⟩ rfl rfl (Nat.le_of_ble_eq_true rfl) dX11_ramp_52 (fun H locs hw => ?_)
      exact z_iret F hr hlk hw (zpr1 hd) (zpr2 hd) dX11_ramp_55
    have hd := zif_neg c_7 hd
    by_cases c_11 : p4 = (2 : Int32)
    · have hd := zif_pos c_11 hd
      refine lv_tableIn (tgt := 56) (off := 42) hx hb dX11_ramp_14 (by rw [c_11]; decide) (by rw [c_11]; decide) (by rw [c_11]; decide) (by decide) ?_
      refine lv_aload_n hx hb dX11_ramp_56 rfl (lv_at hl 0 rfl) ?_
      refine z_gR F hw h0 zc11 6 (by decide) rfl zf11_64 dX11_ramp_57 ?_
      have t_12 : zT sh (zR M_3 k0 6) 5 := hw.2.2.2.fld h0 6 5
      obtain ⟨r_14, hc_13, hd⟩ := zob_some hd
      refine z_cvI F hw hl.1 (As := []) (rest := []) (ztX5_micros l D cy sh ad t_12 hc_13) zyX5_micros t_12 zc5 zk11_166 ⟨rfl, rfl⟩ ⟨by decide, by decide⟩ rfl rfl (Nat.le_of_ble_eq_true rfl) dX11_ramp_60 (fun H locs hw => ?_)
      exact z_iret F hr hlk hw (zpr1 hd) (zpr2 hd) dX11_ramp_63
    have hd := zif_neg c_11 hd
    have nc_5 := zne c_5 (a := 0) (by decide)
    have nc_7 := zne c_7 (a := 1) (by decide)
    have nc_11 := zne c_11 (a := 2) (by decide)
    refine lv_tableOut (tgt := 64) hx hb dX11_ramp_14 (by omega) (by decide) ?_
    refine lv_iconst (v := (-1 : Int32)) hx hb dX11_ramp_64 (by decide) ?_
    exact z_iret F hr hlk hw (zpr1 hd) (zpr2 hd) dX11_ramp_65
  · have hd := zif_pos c_4 hd
    refine lv_iconst (v := (-1 : Int32)) hx hb dX11_ramp_10 (by decide) ?_
    exact z_iret F hr hlk hw (zpr1 hd) (zpr2 hd) dX11_ramp_11

def zjX11_rampAt_26 (sh : zShp) (k0 : Nat) (p1 : Int32) (p2 : Int32) (p3 : Int32) (p4 : Int32)  (M : zMem) : Option (Int32 × zMem) :=
  some ((-1 : Int32), M)
def zX11_rampAt (sh : zShp) (k0 : Nat) (p1 : Int32) (p2 : Int32) (p3 : Int32) (p4 : Int32) (M : zMem) : Option (Int32 × zMem) :=
  zob2 (zX11_askRamp sh k0 p1 p2 p3 M) fun r_2 M_3 =>
  if r_2 = 0 then (
  zjX11_rampAt_26 sh k0 p1 p2 p3 p4 M_3)
  else (
  zob (zX11_isWithin sh p4 (1 : Int32) (zI M_3 (zR M_3 k0 6) 1) M_3) fun r_7 =>
  if r_7 = 0 then (
  zjX11_rampAt_26 sh k0 p1 p2 p3 p4 M_3)
  else (
  zob (zX5_speedIn sh (zR M_3 k0 6) p4 M_3) fun r_11 =>
  some (r_11, M_3)))
set_option maxHeartbeats 4000000 in
set_option maxRecDepth 100000 in
theorem ztX11_rampAt (l : Launch) (D : va_G) (cy : Nat → ClassId) (sh : zShp) (ad : Nat → Nat) {k0 : Nat} {p1 : Int32} {p2 : Int32} {p3 : Int32} {p4 : Int32} (h0 : zT sh k0 11) {M : zMem} {r : Int32} {M1 : zMem} (hd : zX11_rampAt sh k0 p1 p2 p3 p4 M = some (r, M1)) : zCI l yX11_rampAt cX11_rampAt 5 .int { frames := 3, cells := 0, slots := 0, locals := 75 } [.ref (ad k0), .int p1, .int p2, .int p3, .int p4] D cy sh ad M r M1 := by
  refine zci_of (by decide) (Nat.le_of_ble_eq_true rfl) (fun p e s m below meth c ls F hr hlk hl hw => ?_)
  have hx := F.1.1
  have hb := F.1.2.1
  have hl : lv_has ls 5 [(0, .ref (ad k0)), (1, .int p1), (2, .int p2), (3, .int p3), (4, .int p4)] := hl
  have J26 : ∀ (M : zMem) (H : Heap) (locs : List Loc) (ls : Array Slot), lv_has ls 5 [] → zWd D cy sh ad s M H locs → zjX11_rampAt_26 sh k0 p1 p2 p3 p4  M = some (r, M1) → W p l e { frames := 3, cells := 0, slots := 0, locals := 75 } s m ([.ref (ad k0), .int p1, .int p2, .int p3, .int p4] : List Value).toArray below meth c H locs 0 0 (zQI below D cy sh ad s [.ref (ad k0), .int p1, .int p2, .int p3, .int p4] r M1) (F0 m 26 ls []) := by
    intro  M H locs ls hl hw hd
    unfold zjX11_rampAt_26 at hd
    refine lv_iconst (v := (-1 : Int32)) hx hb dX11_rampAt_26 (by decide) ?_
    exact z_iret F hr hlk hw (zpr1 hd) (zpr2 hd) dX11_rampAt_27
  unfold zX11_rampAt at hd
  refine lv_aload_n hx hb dX11_rampAt_0 rfl (lv_at hl 0 rfl) ?_
  refine lv_iload_n hx hb dX11_rampAt_1 rfl (lv_at hl 1 rfl) ?_
  refine lv_iload_n hx hb dX11_rampAt_2 rfl (lv_at hl 2 rfl) ?_
  refine lv_iload_n hx hb dX11_rampAt_3 rfl (lv_at hl 3 rfl) ?_
  obtain ⟨r_2, M_3, hc_1, hd⟩ := zob2_some hd
  refine z_cvI F hw hl.1 (As := [.int p1, .int p2, .int p3]) (rest := []) (ztX11_askRamp l D cy sh ad h0 hc_1) zyX11_askRamp h0 zc11 zk11_156 ⟨rfl, rfl⟩ ⟨by decide, by decide⟩ rfl rfl (Nat.le_of_ble_eq_true rfl) dX11_rampAt_4 (fun H locs hw => ?_)
  refine lv_if_eq (tgt := 26) hx hb dX11_rampAt_7 (by decide) (fun c_4 => ?_) (fun c_4 => ?_)
  · have hd := zif_pos c_4 hd
    exact J26 _ _ _ _ (lv_sub hl [] rfl) hw hd
  · have hd := zif_neg c_4 hd
    refine lv_iload hx hb dX11_rampAt_10 (lv_at hl 4 rfl) ?_
    refine lv_iconst (v := (1 : Int32)) hx hb dX11_rampAt_12 (by decide) ?_
    refine lv_aload_n hx hb dX11_rampAt_13 rfl (lv_at hl 0 rfl) ?_
    refine z_gR F hw h0 zc11 6 (by decide) rfl zf11_64 dX11_rampAt_14 ?_
    have t_5 : zT sh (zR M_3 k0 6) 5 := hw.2.2.2.fld h0 6 5
    refine z_gI F hw t_5 zc5 1 (by decide) rfl zf11_159 dX11_rampAt_17 ?_
    obtain ⟨r_7, hc_6, hd⟩ := zob_some hd
    refine z_csI F hw hl.1 (As := [.int p4, .int (1 : Int32), .int (zI M_3 (zR M_3 k0 6) 1)]) (rest := []) (ztX11_isWithin l D cy sh ad  hc_6) zyX11_isWithin zk11_123 ⟨rfl, rfl⟩ ⟨by decide, by decide⟩ rfl rfl (Nat.le_of_ble_eq_true rfl) dX11_rampAt_20 (fun H locs hw => ?_)
    refine lv_if_ne (tgt := 28) hx hb dX11_rampAt_23 (by decide) (fun c_8 => ?_) (fun c_8 => ?_)
    · have hd := zif_neg c_8 hd
      refine lv_aload_n hx hb dX11_rampAt_28 rfl (lv_at hl 0 rfl) ?_
      refine z_gR F hw h0 zc11 6 (by decide) rfl zf11_64 dX11_rampAt_29 ?_
      have t_9 : zT sh (zR M_3 k0 6) 5 := hw.2.2.2.fld h0 6 5
      refine lv_iload hx hb dX11_rampAt_32 (lv_at hl 4 rfl) ?_
      obtain ⟨r_11, hc_10, hd⟩ := zob_some hd
      refine z_cvI F hw hl.1 (As := [.int p4]) (rest := []) (ztX5_speedIn l D cy sh ad t_9 hc_10) zyX5_speedIn t_9 zc5 zk11_169 ⟨rfl, rfl⟩ ⟨by decide, by decide⟩ rfl rfl (Nat.le_of_ble_eq_true rfl) dX11_rampAt_34 (fun H locs hw => ?_)
      exact z_iret F hr hlk hw (zpr1 hd) (zpr2 hd) dX11_rampAt_37
    · have hd := zif_pos c_8 hd
      exact J26 _ _ _ _ (lv_sub hl [] rfl) hw hd

def zbX11_takeGoal_24 (sh : zShp) (k0 : Nat) (p1 : Int32) (p2 : Int32) (p3 : Int32)  (kk24 : Int32 → zMem → Option (Int32 × zMem)) (x4 : Int32) (M : zMem) : Option (Int32 × zMem) :=
  if (zI M (zR M k0 11) 6) ≤ x4 then (
  some ((1 : Int32), M))
  else (
  zgd (zin x4 (zlen sh (zR M k0 9))) <|
  zob (zX11_isWithin sh (zI M (zR M k0 9) x4.toNatClampNeg) (-30000 : Int32) (30000 : Int32) M) fun r_6 =>
  if r_6 = 0 then (
  some ((0 : Int32), M))
  else (
  kk24 (x4 + (1 : Int32)) M))
def zlX11_takeGoal_24 (sh : zShp) (k0 : Nat) (p1 : Int32) (p2 : Int32) (p3 : Int32)  : Nat → Int32 → zMem → Option (Int32 × zMem)
  | 0 => fun _ _ => none
  | n + 1 => fun x4 M => zbX11_takeGoal_24 sh k0 p1 p2 p3  (zlX11_takeGoal_24 sh k0 p1 p2 p3  n) x4 M
def zX11_takeGoal (sh : zShp) (k0 : Nat) (p1 : Int32) (p2 : Int32) (p3 : Int32) (M : zMem) : Option (Int32 × zMem) :=
  zgd (zin (0 : Int32) (zlen sh (zR M k0 9))) <|
  zbd (zpI M (zR M k0 9) ((0 : Int32).toNatClampNeg) p1) fun M_10 =>
  zgd (zin (1 : Int32) (zlen sh (zR M_10 k0 9))) <|
  zbd (zpI M_10 (zR M_10 k0 9) ((1 : Int32).toNatClampNeg) p2) fun M_13 =>
  zgd (zin (2 : Int32) (zlen sh (zR M_13 k0 9))) <|
  zbd (zpI M_13 (zR M_13 k0 9) ((2 : Int32).toNatClampNeg) p3) fun M_16 =>
  zlX11_takeGoal_24 sh k0 p1 p2 p3 zF (0 : Int32) M_16
set_option maxHeartbeats 4000000 in
set_option maxRecDepth 100000 in
theorem ztX11_takeGoal (l : Launch) (D : va_G) (cy : Nat → ClassId) (sh : zShp) (ad : Nat → Nat) {k0 : Nat} {p1 : Int32} {p2 : Int32} {p3 : Int32} (h0 : zT sh k0 11) {M : zMem} {r : Int32} {M1 : zMem} (hd : zX11_takeGoal sh k0 p1 p2 p3 M = some (r, M1)) : zCI l yX11_takeGoal cX11_takeGoal 5 .boolean { frames := 1, cells := 0, slots := 0, locals := 22 } [.ref (ad k0), .int p1, .int p2, .int p3] D cy sh ad M r M1 := by
  refine zci_of (by decide) (Nat.le_of_ble_eq_true rfl) (fun p e s m below meth c ls F hr hlk hl hw => ?_)
  have hx := F.1.1
  have hb := F.1.2.1
  have hl : lv_has ls 5 [(0, .ref (ad k0)), (1, .int p1), (2, .int p2), (3, .int p3)] := hl
  have L24 : ∀  (n : Nat), ∀ (x4 : Int32) (M : zMem) (H : Heap) (locs : List Loc) (ls : Array Slot), lv_has ls 5 [(0, .ref (ad k0)), (4, .int x4)] → zWd D cy sh ad s M H locs → zlX11_takeGoal_24 sh k0 p1 p2 p3  n x4 M = some (r, M1) → W p l e { frames := 1, cells := 0, slots := 0, locals := 22 } s m ([.ref (ad k0), .int p1, .int p2, .int p3] : List Value).toArray below meth c H locs 0 0 (zQI below D cy sh ad s [.ref (ad k0), .int p1, .int p2, .int p3] r M1) (F0 m 24 ls []) := by
    intro  n
    induction n with
    | zero => intro x4 M H locs ls hl hw hd; exact (znone hd).elim
    | succ n hk24 =>
      intro x4 M H locs ls hl hw hd
      have hd : zbX11_takeGoal_24 sh k0 p1 p2 p3  (zlX11_takeGoal_24 sh k0 p1 p2 p3  n) x4 M = some (r, M1) := hd
      unfold zbX11_takeGoal_24 at hd
      refine lv_iload hx hb dX11_takeGoal_24 (lv_at hl 1 rfl) ?_
      refine lv_aload_n hx hb dX11_takeGoal_26 rfl (lv_at hl 0 rfl) ?_
      refine z_gR F hw h0 zc11 11 (by decide) rfl zf11_12 dX11_takeGoal_27 ?_
      have t_1 : zT sh (zR M k0 11) 1 := hw.2.2.2.fld h0 11 1
      refine z_gI F hw t_1 zc1 6 (by decide) rfl zf11_114 dX11_takeGoal_30 ?_
      refine lv_icmp_ge (tgt := 63) hx hb dX11_takeGoal_33 (by decide) (fun c_2 => ?_) (fun c_2 => ?_)
      · have hd := zif_pos c_2 hd
        refine lv_iconst (v := (1 : Int32)) hx hb dX11_takeGoal_63 (by decide) ?_
        exact z_zret F hr hlk hw (by decide) (zpr1 hd) (zpr2 hd) dX11_takeGoal_64
      · have hd := zif_neg c_2 hd
        refine lv_aload_n hx hb dX11_takeGoal_36 rfl (lv_at hl 0 rfl) ?_
        refine z_gR F hw h0 zc11 9 (by decide) rfl zf11_82 dX11_takeGoal_37 ?_
        have t_3 : zT sh (zR M k0 9) 14 := hw.2.2.2.fld h0 9 14
        refine lv_iload hx hb dX11_takeGoal_40 (lv_at hl 1 rfl) ?_
        obtain ⟨g_4, hd⟩ := zgd_some hd
        refine z_iald F hw t_3 g_4 dX11_takeGoal_42 ?_
        refine lv_sipush (v := (-30000 : Int32)) hx hb dX11_takeGoal_43 (by decide) ?_
        refine lv_sipush (v := (30000 : Int32)) hx hb dX11_takeGoal_46 (by decide) ?_
        obtain ⟨r_6, hc_5, hd⟩ := zob_some hd
        refine z_csI F hw hl.1 (As := [.int (zI M (zR M k0 9) x4.toNatClampNeg), .int (-30000 : Int32), .int (30000 : Int32)]) (rest := []) (ztX11_isWithin l D cy sh ad  hc_5) zyX11_isWithin zk11_123 ⟨rfl, rfl⟩ ⟨by decide, by decide⟩ rfl rfl (Nat.le_of_ble_eq_true rfl) dX11_takeGoal_49 (fun H locs hw => ?_)
        refine lv_if_ne (tgt := 57) hx hb dX11_takeGoal_52 (by decide) (fun c_7 => ?_) (fun c_7 => ?_)
        · have hd := zif_neg c_7 hd
          refine lv_iinc (v := (x4 + (1 : Int32))) (lv' := [(4, .int (x4 + (1 : Int32))), (0, .ref (ad k0))]) hx hb dX11_takeGoal_57 hl (k := 1) rfl (ziinc (by decide)) (by decide) rfl (fun ls hl => ?_)
          refine lv_goto (tgt := 24) hx hb dX11_takeGoal_60 (by decide) ?_
          exact hk24 _ _ _ _ _ (lv_sub hl [1, 0] rfl) hw hd
        · have hd := zif_pos c_7 hd
          refine lv_iconst (v := (0 : Int32)) hx hb dX11_takeGoal_55 (by decide) ?_
          exact z_zret F hr hlk hw (by decide) (zpr1 hd) (zpr2 hd) dX11_takeGoal_56
  unfold zX11_takeGoal at hd
  refine lv_aload_n hx hb dX11_takeGoal_0 rfl (lv_at hl 0 rfl) ?_
  refine z_gR F hw h0 zc11 9 (by decide) rfl zf11_82 dX11_takeGoal_1 ?_
  have t_8 : zT sh (zR M k0 9) 14 := hw.2.2.2.fld h0 9 14
  refine lv_iconst (v := (0 : Int32)) hx hb dX11_takeGoal_4 (by decide) ?_
  refine lv_iload_n hx hb dX11_takeGoal_5 rfl (lv_at hl 1 rfl) ?_
  obtain ⟨g_9, hd⟩ := zgd_some hd
  refine z_iast F hw t_8 g_9 dX11_takeGoal_6 (fun H locs M_10 eM_10 hw => ?_)
  have hd := zbd_eq eM_10 hd
  refine lv_aload_n hx hb dX11_takeGoal_7 rfl (lv_at hl 0 rfl) ?_
  refine z_gR F hw h0 zc11 9 (by decide) rfl zf11_82 dX11_takeGoal_8 ?_
  have t_11 : zT sh (zR M_10 k0 9) 14 := hw.2.2.2.fld h0 9 14
  refine lv_iconst (v := (1 : Int32)) hx hb dX11_takeGoal_11 (by decide) ?_
  refine lv_iload_n hx hb dX11_takeGoal_12 rfl (lv_at hl 2 rfl) ?_
  obtain ⟨g_12, hd⟩ := zgd_some hd
  refine z_iast F hw t_11 g_12 dX11_takeGoal_13 (fun H locs M_13 eM_13 hw => ?_)
  have hd := zbd_eq eM_13 hd
  refine lv_aload_n hx hb dX11_takeGoal_14 rfl (lv_at hl 0 rfl) ?_
  refine z_gR F hw h0 zc11 9 (by decide) rfl zf11_82 dX11_takeGoal_15 ?_
  have t_14 : zT sh (zR M_13 k0 9) 14 := hw.2.2.2.fld h0 9 14
  refine lv_iconst (v := (2 : Int32)) hx hb dX11_takeGoal_18 (by decide) ?_
  refine lv_iload_n hx hb dX11_takeGoal_19 rfl (lv_at hl 3 rfl) ?_
  obtain ⟨g_15, hd⟩ := zgd_some hd
  refine z_iast F hw t_14 g_15 dX11_takeGoal_20 (fun H locs M_16 eM_16 hw => ?_)
  have hd := zbd_eq eM_16 hd
  refine lv_iconst (v := (0 : Int32)) hx hb dX11_takeGoal_21 (by decide) ?_
  refine lv_istore (lv' := [(4, .int (0 : Int32)), (0, .ref (ad k0)), (1, .int p1), (2, .int p2), (3, .int p3)]) hx hb dX11_takeGoal_22 hl (by decide) rfl (fun ls hl => ?_)
  exact L24 zF _ _ _ _ _ (lv_sub hl [1, 0] rfl) hw hd

def zjX11_askMove_40 (sh : zShp) (k0 : Nat) (p1 : Int32) (p2 : Int32) (p3 : Int32)  (s0 : Int32) (M : zMem) : Option (Int32 × zMem) :=
  zgd (zisB s0) <|
  some (s0, M)
def zjX11_askMove_39 (sh : zShp) (k0 : Nat) (p1 : Int32) (p2 : Int32) (p3 : Int32)  (M : zMem) : Option (Int32 × zMem) :=
  zjX11_askMove_40 sh k0 p1 p2 p3 (0 : Int32) M
def zX11_askMove (sh : zShp) (k0 : Nat) (p1 : Int32) (p2 : Int32) (p3 : Int32) (M : zMem) : Option (Int32 × zMem) :=
  zob2 (zX11_takeGoal sh k0 p1 p2 p3 M) fun r_3 M_4 =>
  if r_3 = 0 then (
  zjX11_askMove_39 sh k0 p1 p2 p3 M_4)
  else (
  zob2 (zX4_plan sh (zR M_4 k0 5) (zR M_4 (zR M_4 k0 2) 0) (zR M_4 k0 9) (zR M_4 k0 11) M_4) fun r_12 M_13 =>
  if r_12 = 0 then (
  zjX11_askMove_39 sh k0 p1 p2 p3 M_13)
  else (
  zjX11_askMove_40 sh k0 p1 p2 p3 (1 : Int32) M_13))
set_option maxHeartbeats 4000000 in
set_option maxRecDepth 100000 in
theorem ztX11_askMove (l : Launch) (D : va_G) (cy : Nat → ClassId) (sh : zShp) (ad : Nat → Nat) {k0 : Nat} {p1 : Int32} {p2 : Int32} {p3 : Int32} (h0 : zT sh k0 11) {M : zMem} {r : Int32} {M1 : zMem} (hd : zX11_askMove sh k0 p1 p2 p3 M = some (r, M1)) : zCI l yX11_askMove cX11_askMove 4 .boolean { frames := 4, cells := 0, slots := 0, locals := 100 } [.ref (ad k0), .int p1, .int p2, .int p3] D cy sh ad M r M1 := by
  refine zci_of (by decide) (Nat.le_of_ble_eq_true rfl) (fun p e s m below meth c ls F hr hlk hl hw => ?_)
  have hx := F.1.1
  have hb := F.1.2.1
  have hl : lv_has ls 4 [(0, .ref (ad k0)), (1, .int p1), (2, .int p2), (3, .int p3)] := hl
  have J40 : ∀ (s0 : Int32) (M : zMem) (H : Heap) (locs : List Loc) (ls : Array Slot), lv_has ls 4 [] → zWd D cy sh ad s M H locs → zjX11_askMove_40 sh k0 p1 p2 p3  s0 M = some (r, M1) → W p l e { frames := 4, cells := 0, slots := 0, locals := 100 } s m ([.ref (ad k0), .int p1, .int p2, .int p3] : List Value).toArray below meth c H locs 0 0 (zQI below D cy sh ad s [.ref (ad k0), .int p1, .int p2, .int p3] r M1) (F0 m 40 ls [.int s0]) := by
    intro  s0 M H locs ls hl hw hd
    unfold zjX11_askMove_40 at hd
    obtain ⟨g_1, hd⟩ := zgd_some hd
    exact z_zret F hr hlk hw g_1 (zpr1 hd) (zpr2 hd) dX11_askMove_40
  have J39 : ∀ (M : zMem) (H : Heap) (locs : List Loc) (ls : Array Slot), lv_has ls 4 [] → zWd D cy sh ad s M H locs → zjX11_askMove_39 sh k0 p1 p2 p3  M = some (r, M1) → W p l e { frames := 4, cells := 0, slots := 0, locals := 100 } s m ([.ref (ad k0), .int p1, .int p2, .int p3] : List Value).toArray below meth c H locs 0 0 (zQI below D cy sh ad s [.ref (ad k0), .int p1, .int p2, .int p3] r M1) (F0 m 39 ls []) := by
    intro  M H locs ls hl hw hd
    unfold zjX11_askMove_39 at hd
    refine lv_iconst (v := (0 : Int32)) hx hb dX11_askMove_39 (by decide) ?_
    exact J40 _ _ _ _ _ (lv_sub hl [] rfl) hw hd
  unfold zX11_askMove at hd
  refine lv_aload_n hx hb dX11_askMove_0 rfl (lv_at hl 0 rfl) ?_
  refine lv_iload_n hx hb dX11_askMove_1 rfl (lv_at hl 1 rfl) ?_
  refine lv_iload_n hx hb dX11_askMove_2 rfl (lv_at hl 2 rfl) ?_
  refine lv_iload_n hx hb dX11_askMove_3 rfl (lv_at hl 3 rfl) ?_
  obtain ⟨r_3, M_4, hc_2, hd⟩ := zob2_some hd
  refine z_cvI F hw hl.1 (As := [.int p1, .int p2, .int p3]) (rest := []) (ztX11_takeGoal l D cy sh ad h0 hc_2) zyX11_takeGoal h0 zc11 zk11_301 ⟨rfl, rfl⟩ ⟨by decide, by decide⟩ rfl rfl (Nat.le_of_ble_eq_true rfl) dX11_askMove_4 (fun H locs hw => ?_)
  refine lv_if_eq (tgt := 39) hx hb dX11_askMove_7 (by decide) (fun c_5 => ?_) (fun c_5 => ?_)
  · have hd := zif_pos c_5 hd
    exact J39 _ _ _ _ (lv_sub hl [] rfl) hw hd
  · have hd := zif_neg c_5 hd
    refine lv_aload_n hx hb dX11_askMove_10 rfl (lv_at hl 0 rfl) ?_
    refine z_gR F hw h0 zc11 5 (by decide) rfl zf11_57 dX11_askMove_11 ?_
    have t_6 : zT sh (zR M_4 k0 5) 4 := hw.2.2.2.fld h0 5 4
    refine lv_aload_n hx hb dX11_askMove_14 rfl (lv_at hl 0 rfl) ?_
    refine z_gR F hw h0 zc11 2 (by decide) rfl zf11_40 dX11_askMove_15 ?_
    have t_7 : zT sh (zR M_4 k0 2) 8 := hw.2.2.2.fld h0 2 8
    refine z_gR F hw t_7 zc8 0 (by decide) rfl zf11_308 dX11_askMove_18 ?_
    have t_8 : zT sh (zR M_4 (zR M_4 k0 2) 0) 18 := hw.2.2.2.fld t_7 0 18
    refine lv_aload_n hx hb dX11_askMove_21 rfl (lv_at hl 0 rfl) ?_
    refine z_gR F hw h0 zc11 9 (by decide) rfl zf11_82 dX11_askMove_22 ?_
    have t_9 : zT sh (zR M_4 k0 9) 14 := hw.2.2.2.fld h0 9 14
    refine lv_aload_n hx hb dX11_askMove_25 rfl (lv_at hl 0 rfl) ?_
    refine z_gR F hw h0 zc11 11 (by decide) rfl zf11_12 dX11_askMove_26 ?_
    have t_10 : zT sh (zR M_4 k0 11) 1 := hw.2.2.2.fld h0 11 1
    obtain ⟨r_12, M_13, hc_11, hd⟩ := zob2_some hd
    refine z_cvI F hw hl.1 (As := [.ref (ad (zR M_4 (zR M_4 k0 2) 0)), .ref (ad (zR M_4 k0 9)), .ref (ad (zR M_4 k0 11))]) (rest := []) (ztX4_plan l D cy sh ad t_6 t_8 t_9 t_10 hc_11) zyX4_plan t_6 zc4 zk11_415 ⟨rfl, rfl⟩ ⟨by decide, by decide⟩ rfl rfl (Nat.le_of_ble_eq_true rfl) dX11_askMove_29 (fun H locs hw => ?_)
    refine lv_if_eq (tgt := 39) hx hb dX11_askMove_32 (by decide) (fun c_14 => ?_) (fun c_14 => ?_)
    · have hd := zif_pos c_14 hd
      exact J39 _ _ _ _ (lv_sub hl [] rfl) hw hd
    · have hd := zif_neg c_14 hd
      refine lv_iconst (v := (1 : Int32)) hx hb dX11_askMove_35 (by decide) ?_
      refine lv_goto (tgt := 40) hx hb dX11_askMove_36 (by decide) ?_
      exact J40 _ _ _ _ _ (lv_sub hl [] rfl) hw hd

def zX11_path (sh : zShp) (k0 : Nat) (p1 : Int32) (p2 : Int32) (p3 : Int32) (p4 : Int32) (M : zMem) : Option (Int32 × zMem) :=
  zob2 (zX11_askMove sh k0 p1 p2 p3 M) fun r_2 M_3 =>
  if r_2 = 0 then (
  some ((-1 : Int32), M_3))
  else (
  if p4 = (0 : Int32) then (
  zob (zX4_ticks sh (zR M_3 k0 5) M_3) fun r_8 =>
  some (r_8, M_3))
  else if p4 = (1 : Int32) then (
  some ((zI M_3 (zR M_3 k0 5) 3), M_3))
  else if p4 = (2 : Int32) then (
  some ((zI M_3 (zR M_3 k0 5) 4), M_3))
  else if p4 = (3 : Int32) then (
  some ((zI M_3 (zR M_3 k0 5) 5), M_3))
  else if p4 = (4 : Int32) then (
  zob (zX5_reached sh (zR M_3 (zR M_3 k0 5) 2) M_3) fun r_19 =>
  some (r_19, M_3))
  else if p4 = (5 : Int32) then (
  some ((zI M_3 (zR M_3 (zR M_3 k0 5) 2) 1), M_3))
  else if p4 = (6 : Int32) then (
  zob (zX4_ticksInBands sh (zR M_3 k0 5) (zR M_3 k0 11) M_3) fun r_27 =>
  some (r_27, M_3))
  else (
  some ((-1 : Int32), M_3)))
set_option maxHeartbeats 4000000 in
set_option maxRecDepth 100000 in
theorem ztX11_path (l : Launch) (D : va_G) (cy : Nat → ClassId) (sh : zShp) (ad : Nat → Nat) {k0 : Nat} {p1 : Int32} {p2 : Int32} {p3 : Int32} {p4 : Int32} (h0 : zT sh k0 11) {M : zMem} {r : Int32} {M1 : zMem} (hd : zX11_path sh k0 p1 p2 p3 p4 M = some (r, M1)) : zCI l yX11_path cX11_path 5 .int { frames := 5, cells := 0, slots := 0, locals := 123 } [.ref (ad k0), .int p1, .int p2, .int p3, .int p4] D cy sh ad M r M1 := by
  refine zci_of (by decide) (Nat.le_of_ble_eq_true rfl) (fun p e s m below meth c ls F hr hlk hl hw => ?_)
  have hx := F.1.1
  have hb := F.1.2.1
  have hl : lv_has ls 5 [(0, .ref (ad k0)), (1, .int p1), (2, .int p2), (3, .int p3), (4, .int p4)] := hl
  unfold zX11_path at hd
  refine lv_aload_n hx hb dX11_path_0 rfl (lv_at hl 0 rfl) ?_
  refine lv_iload_n hx hb dX11_path_1 rfl (lv_at hl 1 rfl) ?_
  refine lv_iload_n hx hb dX11_path_2 rfl (lv_at hl 2 rfl) ?_
  refine lv_iload_n hx hb dX11_path_3 rfl (lv_at hl 3 rfl) ?_
  obtain ⟨r_2, M_3, hc_1, hd⟩ := zob2_some hd
  refine z_cvI F hw hl.1 (As := [.int p1, .int p2, .int p3]) (rest := []) (ztX11_askMove l D cy sh ad h0 hc_1) zyX11_askMove h0 zc11 zk11_173 ⟨rfl, rfl⟩ ⟨by decide, by decide⟩ rfl rfl (Nat.le_of_ble_eq_true rfl) dX11_path_4 (fun H locs hw => ?_)
  refine lv_if_ne (tgt := 12) hx hb dX11_path_7 (by decide) (fun c_4 => ?_) (fun c_4 => ?_)
  · have hd := zif_neg c_4 hd
    refine lv_iload hx hb dX11_path_12 (lv_at hl 4 rfl) ?_
    by_cases c_5 : p4 = (0 : Int32)
    · have hd := zif_pos c_5 hd
      refine lv_tableIn (tgt := 56) (off := 42) hx hb dX11_path_14 (by rw [c_5]; decide) (by rw [c_5]; decide) (by rw [c_5]; decide) (by decide) ?_
      refine lv_aload_n hx hb dX11_path_56 rfl (lv_at hl 0 rfl) ?_
      refine z_gR F hw h0 zc11 5 (by decide) rfl zf11_57 dX11_path_57 ?_
      have t_6 : zT sh (zR M_3 k0 5) 4 := hw.2.2.2.fld h0 5 4
      obtain ⟨r_8, hc_7, hd⟩ := zob_some hd
      refine z_cvI F hw hl.1 (As := []) (rest := []) (ztX4_ticks l D cy sh ad t_6 hc_7) zyX4_ticks t_6 zc4 zk11_176 ⟨rfl, rfl⟩ ⟨by decide, by decide⟩ rfl rfl (Nat.le_of_ble_eq_true rfl) dX11_path_60 (fun H locs hw => ?_)
      exact z_iret F hr hlk hw (zpr1 hd) (zpr2 hd) dX11_path_63
    have hd := zif_neg c_5 hd
    by_cases c_9 : p4 = (1 : Int32)
    · have hd := zif_pos c_9 hd
      refine lv_tableIn (tgt := 64) (off := 50) hx hb dX11_path_14 (by rw [c_9]; decide) (by rw [c_9]; decide) (by rw [c_9]; decide) (by decide) ?_
      refine lv_aload_n hx hb dX11_path_64 rfl (lv_at hl 0 rfl) ?_
      refine z_gR F hw h0 zc11 5 (by decide) rfl zf11_57 dX11_path_65 ?_
      have t_10 : zT sh (zR M_3 k0 5) 4 := hw.2.2.2.fld h0 5 4
      refine z_gI F hw t_10 zc4 3 (by decide) rfl zf11_178 dX11_path_68 ?_
      exact z_iret F hr hlk hw (zpr1 hd) (zpr2 hd) dX11_path_71
    have hd := zif_neg c_9 hd
    by_cases c_11 : p4 = (2 : Int32)
    · have hd := zif_pos c_11 hd
      refine lv_tableIn (tgt := 72) (off := 58) hx hb dX11_path_14 (by rw [c_11]; decide) (by rw [c_11]; decide) (by rw [c_11]; decide) (by decide) ?_
      refine lv_aload_n hx hb dX11_path_72 rfl (lv_at hl 0 rfl) ?_
      refine z_gR F hw h0 zc11 5 (by decide) rfl zf11_57 dX11_path_73 ?_
      have t_12 : zT sh (zR M_3 k0 5) 4 := hw.2.2.2.fld h0 5 4
      refine z_gI F hw t_12 zc4 4 (by decide) rfl zf11_181 dX11_path_76 ?_
      exact z_iret F hr hlk hw (zpr1 hd) (zpr2 hd) dX11_path_79
    have hd := zif_neg c_11 hd
    by_cases c_13 : p4 = (3 : Int32)
    · have hd := zif_pos c_13 hd
      refine lv_tableIn (tgt := 80) (off := 66) hx hb dX11_path_14 (by rw [c_13]; decide) (by rw [c_13]; decide) (by rw [c_13]; decide) (by decide) ?_
      refine lv_aload_n hx hb dX11_path_80 rfl (lv_at hl 0 rfl) ?_
      refine z_gR F hw h0 zc11 5 (by decide) rfl zf11_57 dX11_path_81 ?_
      have t_14 : zT sh (zR M_3 k0 5) 4 := hw.2.2.2.fld h0 5 4
      refine z_gI F hw t_14 zc4 5 (by decide) rfl zf11_184 dX11_path_84 ?_
      exact z_iret F hr hlk hw (zpr1 hd) (zpr2 hd) dX11_path_87
    have hd := zif_neg c_13 hd
    by_cases c_15 : p4 = (4 : Int32)
    · have hd := zif_pos c_15 hd
      refine lv_tableIn (tgt := 88) (off := 74) hx hb dX11_path_14 (by rw [c_15]; decide) (by rw [c_15]; decide) (by rw [c_15]; decide) (by decide) ?_
      refine lv_aload_n hx hb dX11_path_88 rfl (lv_at hl 0 rfl) ?_
      refine z_gR F hw h0 zc11 5 (by decide) rfl zf11_57 dX11_path_89 ?_
      have t_16 : zT sh (zR M_3 k0 5) 4 := hw.2.2.2.fld h0 5 4
      refine z_gR F hw t_16 zc4 2 (by decide) rfl zf11_187 dX11_path_92 ?_
      have t_17 : zT sh (zR M_3 (zR M_3 k0 5) 2) 5 := hw.2.2.2.fld t_16 2 5
      obtain ⟨r_19, hc_18, hd⟩ := zob_some hd
      refine z_cvI F hw hl.1 (As := []) (rest := []) (ztX5_reached l D cy sh ad t_17 hc_18) zyX5_reached t_17 zc5 zk11_162 ⟨rfl, rfl⟩ ⟨by decide, by decide⟩ rfl rfl (Nat.le_of_ble_eq_true rfl) dX11_path_95 (fun H locs hw => ?_)
      exact z_iret F hr hlk hw (zpr1 hd) (zpr2 hd) dX11_path_98
    have hd := zif_neg c_15 hd
    by_cases c_20 : p4 = (5 : Int32)
    · have hd := zif_pos c_20 hd
      refine lv_tableIn (tgt := 99) (off := 85) hx hb dX11_path_14 (by rw [c_20]; decide) (by rw [c_20]; decide) (by rw [c_20]; decide) (by decide) ?_
      refine lv_aload_n hx hb dX11_path_99 rfl (lv_at hl 0 rfl) ?_
      refine z_gR F hw h0 zc11 5 (by decide) rfl zf11_57 dX11_path_100 ?_
      have t_21 : zT sh (zR M_3 k0 5) 4 := hw.2.2.2.fld h0 5 4
      refine z_gR F hw t_21 zc4 2 (by decide) rfl zf11_187 dX11_path_103 ?_
      have t_22 : zT sh (zR M_3 (zR M_3 k0 5) 2) 5 := hw.2.2.2.fld t_21 2 5
      refine z_gI F hw t_22 zc5 1 (by decide) rfl zf11_159 dX11_path_106 ?_
      exact z_iret F hr hlk hw (zpr1 hd) (zpr2 hd) dX11_path_109
    have hd := zif_neg c_20 hd
    by_cases c_23 : p4 = (6 : Int32)
    · have hd := zif_pos c_23 hd
      refine lv_tableIn (tgt := 110) (off := 96) hx hb dX11_path_14 (by rw [c_23]; decide) (by rw [c_23]; decide) (by rw [c_23]; decide) (by decide) ?_
      refine lv_aload_n hx hb dX11_path_110 rfl (lv_at hl 0 rfl) ?_
      refine z_gR F hw h0 zc11 5 (by decide) rfl zf11_57 dX11_path_111 ?_
      have t_24 : zT sh (zR M_3 k0 5) 4 := hw.2.2.2.fld h0 5 4
      refine lv_aload_n hx hb dX11_path_114 rfl (lv_at hl 0 rfl) ?_
      refine z_gR F hw h0 zc11 11 (by decide) rfl zf11_12 dX11_path_115 ?_
      have t_25 : zT sh (zR M_3 k0 11) 1 := hw.2.2.2.fld h0 11 1
      obtain ⟨r_27, hc_26, hd⟩ := zob_some hd
      refine z_cvI F hw hl.1 (As := [.ref (ad (zR M_3 k0 11))]) (rest := []) (ztX4_ticksInBands l D cy sh ad t_24 t_25 hc_26) zyX4_ticksInBands t_24 zc4 zk11_190 ⟨rfl, rfl⟩ ⟨by decide, by decide⟩ rfl rfl (Nat.le_of_ble_eq_true rfl) dX11_path_118 (fun H locs hw => ?_)
      exact z_iret F hr hlk hw (zpr1 hd) (zpr2 hd) dX11_path_121
    have hd := zif_neg c_23 hd
    have nc_5 := zne c_5 (a := 0) (by decide)
    have nc_9 := zne c_9 (a := 1) (by decide)
    have nc_11 := zne c_11 (a := 2) (by decide)
    have nc_13 := zne c_13 (a := 3) (by decide)
    have nc_15 := zne c_15 (a := 4) (by decide)
    have nc_20 := zne c_20 (a := 5) (by decide)
    have nc_23 := zne c_23 (a := 6) (by decide)
    refine lv_tableOut (tgt := 122) hx hb dX11_path_14 (by omega) (by decide) ?_
    refine lv_iconst (v := (-1 : Int32)) hx hb dX11_path_122 (by decide) ?_
    exact z_iret F hr hlk hw (zpr1 hd) (zpr2 hd) dX11_path_123
  · have hd := zif_pos c_4 hd
    refine lv_iconst (v := (-1 : Int32)) hx hb dX11_path_10 (by decide) ?_
    exact z_iret F hr hlk hw (zpr1 hd) (zpr2 hd) dX11_path_11

def zjX11_isAxis_20 (sh : zShp) (k0 : Nat) (p1 : Int32) (M : zMem)  (s0 : Int32) : Option (Int32) :=
  zgd (zisB s0) <|
  some s0
def zjX11_isAxis_19 (sh : zShp) (k0 : Nat) (p1 : Int32) (M : zMem)   : Option (Int32) :=
  zjX11_isAxis_20 sh k0 p1 M (0 : Int32)
def zX11_isAxis (sh : zShp) (k0 : Nat) (p1 : Int32) (M : zMem) : Option (Int32) :=
  if p1 < 0 then (
  zjX11_isAxis_19 sh k0 p1 M)
  else (
  if (zI M (zR M k0 11) 6) ≤ p1 then (
  zjX11_isAxis_19 sh k0 p1 M)
  else (
  zjX11_isAxis_20 sh k0 p1 M (1 : Int32)))
set_option maxHeartbeats 4000000 in
set_option maxRecDepth 100000 in
theorem ztX11_isAxis (l : Launch) (D : va_G) (cy : Nat → ClassId) (sh : zShp) (ad : Nat → Nat) {k0 : Nat} {p1 : Int32} (h0 : zT sh k0 11) {M : zMem} {r : Int32} (hd : zX11_isAxis sh k0 p1 M = some r) : zCI l yX11_isAxis cX11_isAxis 2 .boolean { frames := 0, cells := 0, slots := 0, locals := 0 } [.ref (ad k0), .int p1] D cy sh ad M r M := by
  refine zci_of (by decide) (Nat.le_of_ble_eq_true rfl) (fun p e s m below meth c ls F hr hlk hl hw => ?_)
  have hx := F.1.1
  have hb := F.1.2.1
  have hl : lv_has ls 2 [(0, .ref (ad k0)), (1, .int p1)] := hl
  have J20 : ∀ (s0 : Int32) (H : Heap) (locs : List Loc) (ls : Array Slot), lv_has ls 2 [] → zWd D cy sh ad s M H locs → zjX11_isAxis_20 sh k0 p1 M  s0 = some r → W p l e { frames := 0, cells := 0, slots := 0, locals := 0 } s m ([.ref (ad k0), .int p1] : List Value).toArray below meth c H locs 0 0 (zQI below D cy sh ad s [.ref (ad k0), .int p1] r M) (F0 m 20 ls [.int s0]) := by
    intro  s0 H locs ls hl hw hd
    unfold zjX11_isAxis_20 at hd
    obtain ⟨g_1, hd⟩ := zgd_some hd
    exact z_zret F hr hlk hw g_1 (Option.some.inj hd) rfl dX11_isAxis_20
  have J19 : ∀  (H : Heap) (locs : List Loc) (ls : Array Slot), lv_has ls 2 [] → zWd D cy sh ad s M H locs → zjX11_isAxis_19 sh k0 p1 M   = some r → W p l e { frames := 0, cells := 0, slots := 0, locals := 0 } s m ([.ref (ad k0), .int p1] : List Value).toArray below meth c H locs 0 0 (zQI below D cy sh ad s [.ref (ad k0), .int p1] r M) (F0 m 19 ls []) := by
    intro  H locs ls hl hw hd
    unfold zjX11_isAxis_19 at hd
    refine lv_iconst (v := (0 : Int32)) hx hb dX11_isAxis_19 (by decide) ?_
    exact J20 _ _ _ _ (lv_sub hl [] rfl) hw hd
  unfold zX11_isAxis at hd
  refine lv_iload_n hx hb dX11_isAxis_0 rfl (lv_at hl 1 rfl) ?_
  refine lv_if_lt (tgt := 19) hx hb dX11_isAxis_1 (by decide) (fun c_2 => ?_) (fun c_2 => ?_)
  · have hd := zif_pos c_2 hd
    exact J19 _ _ _ (lv_sub hl [] rfl) hw hd
  · have hd := zif_neg c_2 hd
    refine lv_iload_n hx hb dX11_isAxis_4 rfl (lv_at hl 1 rfl) ?_
    refine lv_aload_n hx hb dX11_isAxis_5 rfl (lv_at hl 0 rfl) ?_
    refine z_gR F hw h0 zc11 11 (by decide) rfl zf11_12 dX11_isAxis_6 ?_
    have t_3 : zT sh (zR M k0 11) 1 := hw.2.2.2.fld h0 11 1
    refine z_gI F hw t_3 zc1 6 (by decide) rfl zf11_114 dX11_isAxis_9 ?_
    refine lv_icmp_ge (tgt := 19) hx hb dX11_isAxis_12 (by decide) (fun c_4 => ?_) (fun c_4 => ?_)
    · have hd := zif_pos c_4 hd
      exact J19 _ _ _ (lv_sub hl [] rfl) hw hd
    · have hd := zif_neg c_4 hd
      refine lv_iconst (v := (1 : Int32)) hx hb dX11_isAxis_15 (by decide) ?_
      refine lv_goto (tgt := 20) hx hb dX11_isAxis_16 (by decide) ?_
      exact J20 _ _ _ _ (lv_sub hl [] rfl) hw hd

def zjX11_pathAt_35 (sh : zShp) (k0 : Nat) (p1 : Int32) (p2 : Int32) (p3 : Int32) (p4 : Int32) (p5 : Int32)  (M : zMem) : Option (Int32 × zMem) :=
  some ((-2147483648 : Int32), M)
def zX11_pathAt (sh : zShp) (k0 : Nat) (p1 : Int32) (p2 : Int32) (p3 : Int32) (p4 : Int32) (p5 : Int32) (M : zMem) : Option (Int32 × zMem) :=
  zob (zX11_isAxis sh k0 p4 M) fun r_2 =>
  if r_2 = 0 then (
  zjX11_pathAt_35 sh k0 p1 p2 p3 p4 p5 M)
  else (
  zob2 (zX11_askMove sh k0 p1 p2 p3 M) fun r_5 M_6 =>
  if r_5 = 0 then (
  zjX11_pathAt_35 sh k0 p1 p2 p3 p4 p5 M_6)
  else (
  zob (zX4_ticks sh (zR M_6 k0 5) M_6) fun r_10 =>
  zob (zX11_isWithin sh p5 (0 : Int32) r_10 M_6) fun r_12 =>
  if r_12 = 0 then (
  zjX11_pathAt_35 sh k0 p1 p2 p3 p4 p5 M_6)
  else (
  zob (zX4_goneBehind sh (zR M_6 k0 5) p5 M_6) fun r_17 =>
  zob (zX4_placeOf sh (zR M_6 k0 5) p4 r_17 M_6) fun r_19 =>
  some (r_19, M_6))))
set_option maxHeartbeats 4000000 in
set_option maxRecDepth 100000 in
theorem ztX11_pathAt (l : Launch) (D : va_G) (cy : Nat → ClassId) (sh : zShp) (ad : Nat → Nat) {k0 : Nat} {p1 : Int32} {p2 : Int32} {p3 : Int32} {p4 : Int32} {p5 : Int32} (h0 : zT sh k0 11) {M : zMem} {r : Int32} {M1 : zMem} (hd : zX11_pathAt sh k0 p1 p2 p3 p4 p5 M = some (r, M1)) : zCI l yX11_pathAt cX11_pathAt 6 .int { frames := 5, cells := 0, slots := 0, locals := 123 } [.ref (ad k0), .int p1, .int p2, .int p3, .int p4, .int p5] D cy sh ad M r M1 := by
  refine zci_of (by decide) (Nat.le_of_ble_eq_true rfl) (fun p e s m below meth c ls F hr hlk hl hw => ?_)
  have hx := F.1.1
  have hb := F.1.2.1
  have hl : lv_has ls 6 [(0, .ref (ad k0)), (1, .int p1), (2, .int p2), (3, .int p3), (4, .int p4), (5, .int p5)] := hl
  have J35 : ∀ (M : zMem) (H : Heap) (locs : List Loc) (ls : Array Slot), lv_has ls 6 [] → zWd D cy sh ad s M H locs → zjX11_pathAt_35 sh k0 p1 p2 p3 p4 p5  M = some (r, M1) → W p l e { frames := 5, cells := 0, slots := 0, locals := 123 } s m ([.ref (ad k0), .int p1, .int p2, .int p3, .int p4, .int p5] : List Value).toArray below meth c H locs 0 0 (zQI below D cy sh ad s [.ref (ad k0), .int p1, .int p2, .int p3, .int p4, .int p5] r M1) (F0 m 35 ls []) := by
    intro  M H locs ls hl hw hd
    unfold zjX11_pathAt_35 at hd
    refine lv_ldc (v := (-2147483648 : Int32)) hx hb F.1.2.2.2.1 (F.1.2.2.2.2 _ zi11_127) dX11_pathAt_35 ?_
    exact z_iret F hr hlk hw (zpr1 hd) (zpr2 hd) dX11_pathAt_37
  unfold zX11_pathAt at hd
  refine lv_aload_n hx hb dX11_pathAt_0 rfl (lv_at hl 0 rfl) ?_
  refine lv_iload hx hb dX11_pathAt_1 (lv_at hl 4 rfl) ?_
  obtain ⟨r_2, hc_1, hd⟩ := zob_some hd
  refine z_cvI F hw hl.1 (As := [.int p4]) (rest := []) (ztX11_isAxis l D cy sh ad h0 hc_1) zyX11_isAxis h0 zc11 zk11_194 ⟨rfl, rfl⟩ ⟨by decide, by decide⟩ rfl rfl (Nat.le_of_ble_eq_true rfl) dX11_pathAt_3 (fun H locs hw => ?_)
  refine lv_if_eq (tgt := 35) hx hb dX11_pathAt_6 (by decide) (fun c_3 => ?_) (fun c_3 => ?_)
  · have hd := zif_pos c_3 hd
    exact J35 _ _ _ _ (lv_sub hl [] rfl) hw hd
  · have hd := zif_neg c_3 hd
    refine lv_aload_n hx hb dX11_pathAt_9 rfl (lv_at hl 0 rfl) ?_
    refine lv_iload_n hx hb dX11_pathAt_10 rfl (lv_at hl 1 rfl) ?_
    refine lv_iload_n hx hb dX11_pathAt_11 rfl (lv_at hl 2 rfl) ?_
    refine lv_iload_n hx hb dX11_pathAt_12 rfl (lv_at hl 3 rfl) ?_
    obtain ⟨r_5, M_6, hc_4, hd⟩ := zob2_some hd
    refine z_cvI F hw hl.1 (As := [.int p1, .int p2, .int p3]) (rest := []) (ztX11_askMove l D cy sh ad h0 hc_4) zyX11_askMove h0 zc11 zk11_173 ⟨rfl, rfl⟩ ⟨by decide, by decide⟩ rfl rfl (Nat.le_of_ble_eq_true rfl) dX11_pathAt_13 (fun H locs hw => ?_)
    refine lv_if_eq (tgt := 35) hx hb dX11_pathAt_16 (by decide) (fun c_7 => ?_) (fun c_7 => ?_)
    · have hd := zif_pos c_7 hd
      exact J35 _ _ _ _ (lv_sub hl [] rfl) hw hd
    · have hd := zif_neg c_7 hd
      refine lv_iload hx hb dX11_pathAt_19 (lv_at hl 5 rfl) ?_
      refine lv_iconst (v := (0 : Int32)) hx hb dX11_pathAt_21 (by decide) ?_
      refine lv_aload_n hx hb dX11_pathAt_22 rfl (lv_at hl 0 rfl) ?_
      refine z_gR F hw h0 zc11 5 (by decide) rfl zf11_57 dX11_pathAt_23 ?_
      have t_8 : zT sh (zR M_6 k0 5) 4 := hw.2.2.2.fld h0 5 4
      obtain ⟨r_10, hc_9, hd⟩ := zob_some hd
      refine z_cvI F hw hl.1 (As := []) (rest := [.int (0 : Int32), .int p5]) (ztX4_ticks l D cy sh ad t_8 hc_9) zyX4_ticks t_8 zc4 zk11_176 ⟨rfl, rfl⟩ ⟨by decide, by decide⟩ rfl rfl (Nat.le_of_ble_eq_true rfl) dX11_pathAt_26 (fun H locs hw => ?_)
      obtain ⟨r_12, hc_11, hd⟩ := zob_some hd
      refine z_csI F hw hl.1 (As := [.int p5, .int (0 : Int32), .int r_10]) (rest := []) (ztX11_isWithin l D cy sh ad  hc_11) zyX11_isWithin zk11_123 ⟨rfl, rfl⟩ ⟨by decide, by decide⟩ rfl rfl (Nat.le_of_ble_eq_true rfl) dX11_pathAt_29 (fun H locs hw => ?_)
      refine lv_if_ne (tgt := 38) hx hb dX11_pathAt_32 (by decide) (fun c_13 => ?_) (fun c_13 => ?_)
      · have hd := zif_neg c_13 hd
        refine lv_aload_n hx hb dX11_pathAt_38 rfl (lv_at hl 0 rfl) ?_
        refine z_gR F hw h0 zc11 5 (by decide) rfl zf11_57 dX11_pathAt_39 ?_
        have t_14 : zT sh (zR M_6 k0 5) 4 := hw.2.2.2.fld h0 5 4
        refine lv_iload hx hb dX11_pathAt_42 (lv_at hl 4 rfl) ?_
        refine lv_aload_n hx hb dX11_pathAt_44 rfl (lv_at hl 0 rfl) ?_
        refine z_gR F hw h0 zc11 5 (by decide) rfl zf11_57 dX11_pathAt_45 ?_
        have t_15 : zT sh (zR M_6 k0 5) 4 := hw.2.2.2.fld h0 5 4
        refine lv_iload hx hb dX11_pathAt_48 (lv_at hl 5 rfl) ?_
        obtain ⟨r_17, hc_16, hd⟩ := zob_some hd
        refine z_cvI F hw hl.1 (As := [.int p5]) (rest := [.int p4, .ref (ad (zR M_6 k0 5))]) (ztX4_goneBehind l D cy sh ad t_15 hc_16) zyX4_goneBehind t_15 zc4 zk11_198 ⟨rfl, rfl⟩ ⟨by decide, by decide⟩ rfl rfl (Nat.le_of_ble_eq_true rfl) dX11_pathAt_50 (fun H locs hw => ?_)
        obtain ⟨r_19, hc_18, hd⟩ := zob_some hd
        refine z_cvI F hw hl.1 (As := [.int p4, .int r_17]) (rest := []) (ztX4_placeOf l D cy sh ad t_14 hc_18) zyX4_placeOf t_14 zc4 zk11_201 ⟨rfl, rfl⟩ ⟨by decide, by decide⟩ rfl rfl (Nat.le_of_ble_eq_true rfl) dX11_pathAt_53 (fun H locs hw => ?_)
        exact z_iret F hr hlk hw (zpr1 hd) (zpr2 hd) dX11_pathAt_56
      · have hd := zif_pos c_13 hd
        exact J35 _ _ _ _ (lv_sub hl [] rfl) hw hd

def zjX11_stamp_37 (sh : zShp) (k0 : Nat) (p1 : Int32) (p2 : Int32) (p3 : Int32) (p4 : Int32) (p5 : Int32)  (M : zMem) : Option (Int32 × zMem) :=
  some ((-1 : Int32), M)
def zX11_stamp (sh : zShp) (k0 : Nat) (p1 : Int32) (p2 : Int32) (p3 : Int32) (p4 : Int32) (p5 : Int32) (M : zMem) : Option (Int32 × zMem) :=
  zob (zX11_isAxis sh k0 p4 M) fun r_2 =>
  if r_2 = 0 then (
  zjX11_stamp_37 sh k0 p1 p2 p3 p4 p5 M)
  else (
  zob2 (zX11_askMove sh k0 p1 p2 p3 M) fun r_5 M_6 =>
  if r_5 = 0 then (
  zjX11_stamp_37 sh k0 p1 p2 p3 p4 p5 M_6)
  else (
  zob (zX4_wayOf sh (zR M_6 k0 5) p4 M_6) fun r_10 =>
  zob (zX11_isWithin sh p5 (1 : Int32) r_10 M_6) fun r_12 =>
  if r_12 = 0 then (
  zjX11_stamp_37 sh k0 p1 p2 p3 p4 p5 M_6)
  else (
  zob (zX4_leadFor sh (zR M_6 k0 5) p4 p5 M_6) fun r_17 =>
  zob (zX4_dueAt sh (zR M_6 k0 5) r_17 M_6) fun r_19 =>
  some (r_19, M_6))))
set_option maxHeartbeats 4000000 in
set_option maxRecDepth 100000 in
theorem ztX11_stamp (l : Launch) (D : va_G) (cy : Nat → ClassId) (sh : zShp) (ad : Nat → Nat) {k0 : Nat} {p1 : Int32} {p2 : Int32} {p3 : Int32} {p4 : Int32} {p5 : Int32} (h0 : zT sh k0 11) {M : zMem} {r : Int32} {M1 : zMem} (hd : zX11_stamp sh k0 p1 p2 p3 p4 p5 M = some (r, M1)) : zCI l yX11_stamp cX11_stamp 6 .int { frames := 5, cells := 0, slots := 0, locals := 123 } [.ref (ad k0), .int p1, .int p2, .int p3, .int p4, .int p5] D cy sh ad M r M1 := by
  refine zci_of (by decide) (Nat.le_of_ble_eq_true rfl) (fun p e s m below meth c ls F hr hlk hl hw => ?_)
  have hx := F.1.1
  have hb := F.1.2.1
  have hl : lv_has ls 6 [(0, .ref (ad k0)), (1, .int p1), (2, .int p2), (3, .int p3), (4, .int p4), (5, .int p5)] := hl
  have J37 : ∀ (M : zMem) (H : Heap) (locs : List Loc) (ls : Array Slot), lv_has ls 6 [] → zWd D cy sh ad s M H locs → zjX11_stamp_37 sh k0 p1 p2 p3 p4 p5  M = some (r, M1) → W p l e { frames := 5, cells := 0, slots := 0, locals := 123 } s m ([.ref (ad k0), .int p1, .int p2, .int p3, .int p4, .int p5] : List Value).toArray below meth c H locs 0 0 (zQI below D cy sh ad s [.ref (ad k0), .int p1, .int p2, .int p3, .int p4, .int p5] r M1) (F0 m 37 ls []) := by
    intro  M H locs ls hl hw hd
    unfold zjX11_stamp_37 at hd
    refine lv_iconst (v := (-1 : Int32)) hx hb dX11_stamp_37 (by decide) ?_
    exact z_iret F hr hlk hw (zpr1 hd) (zpr2 hd) dX11_stamp_38
  unfold zX11_stamp at hd
  refine lv_aload_n hx hb dX11_stamp_0 rfl (lv_at hl 0 rfl) ?_
  refine lv_iload hx hb dX11_stamp_1 (lv_at hl 4 rfl) ?_
  obtain ⟨r_2, hc_1, hd⟩ := zob_some hd
  refine z_cvI F hw hl.1 (As := [.int p4]) (rest := []) (ztX11_isAxis l D cy sh ad h0 hc_1) zyX11_isAxis h0 zc11 zk11_194 ⟨rfl, rfl⟩ ⟨by decide, by decide⟩ rfl rfl (Nat.le_of_ble_eq_true rfl) dX11_stamp_3 (fun H locs hw => ?_)
  refine lv_if_eq (tgt := 37) hx hb dX11_stamp_6 (by decide) (fun c_3 => ?_) (fun c_3 => ?_)
  · have hd := zif_pos c_3 hd
    exact J37 _ _ _ _ (lv_sub hl [] rfl) hw hd
  · have hd := zif_neg c_3 hd
    refine lv_aload_n hx hb dX11_stamp_9 rfl (lv_at hl 0 rfl) ?_
    refine lv_iload_n hx hb dX11_stamp_10 rfl (lv_at hl 1 rfl) ?_
    refine lv_iload_n hx hb dX11_stamp_11 rfl (lv_at hl 2 rfl) ?_
    refine lv_iload_n hx hb dX11_stamp_12 rfl (lv_at hl 3 rfl) ?_
    obtain ⟨r_5, M_6, hc_4, hd⟩ := zob2_some hd
    refine z_cvI F hw hl.1 (As := [.int p1, .int p2, .int p3]) (rest := []) (ztX11_askMove l D cy sh ad h0 hc_4) zyX11_askMove h0 zc11 zk11_173 ⟨rfl, rfl⟩ ⟨by decide, by decide⟩ rfl rfl (Nat.le_of_ble_eq_true rfl) dX11_stamp_13 (fun H locs hw => ?_)
    refine lv_if_eq (tgt := 37) hx hb dX11_stamp_16 (by decide) (fun c_7 => ?_) (fun c_7 => ?_)
    · have hd := zif_pos c_7 hd
      exact J37 _ _ _ _ (lv_sub hl [] rfl) hw hd
    · have hd := zif_neg c_7 hd
      refine lv_iload hx hb dX11_stamp_19 (lv_at hl 5 rfl) ?_
      refine lv_iconst (v := (1 : Int32)) hx hb dX11_stamp_21 (by decide) ?_
      refine lv_aload_n hx hb dX11_stamp_22 rfl (lv_at hl 0 rfl) ?_
      refine z_gR F hw h0 zc11 5 (by decide) rfl zf11_57 dX11_stamp_23 ?_
      have t_8 : zT sh (zR M_6 k0 5) 4 := hw.2.2.2.fld h0 5 4
      refine lv_iload hx hb dX11_stamp_26 (lv_at hl 4 rfl) ?_
      obtain ⟨r_10, hc_9, hd⟩ := zob_some hd
      refine z_cvI F hw hl.1 (As := [.int p4]) (rest := [.int (1 : Int32), .int p5]) (ztX4_wayOf l D cy sh ad t_8 hc_9) zyX4_wayOf t_8 zc4 zk11_205 ⟨rfl, rfl⟩ ⟨by decide, by decide⟩ rfl rfl (Nat.le_of_ble_eq_true rfl) dX11_stamp_28 (fun H locs hw => ?_)
      obtain ⟨r_12, hc_11, hd⟩ := zob_some hd
      refine z_csI F hw hl.1 (As := [.int p5, .int (1 : Int32), .int r_10]) (rest := []) (ztX11_isWithin l D cy sh ad  hc_11) zyX11_isWithin zk11_123 ⟨rfl, rfl⟩ ⟨by decide, by decide⟩ rfl rfl (Nat.le_of_ble_eq_true rfl) dX11_stamp_31 (fun H locs hw => ?_)
      refine lv_if_ne (tgt := 39) hx hb dX11_stamp_34 (by decide) (fun c_13 => ?_) (fun c_13 => ?_)
      · have hd := zif_neg c_13 hd
        refine lv_aload_n hx hb dX11_stamp_39 rfl (lv_at hl 0 rfl) ?_
        refine z_gR F hw h0 zc11 5 (by decide) rfl zf11_57 dX11_stamp_40 ?_
        have t_14 : zT sh (zR M_6 k0 5) 4 := hw.2.2.2.fld h0 5 4
        refine lv_aload_n hx hb dX11_stamp_43 rfl (lv_at hl 0 rfl) ?_
        refine z_gR F hw h0 zc11 5 (by decide) rfl zf11_57 dX11_stamp_44 ?_
        have t_15 : zT sh (zR M_6 k0 5) 4 := hw.2.2.2.fld h0 5 4
        refine lv_iload hx hb dX11_stamp_47 (lv_at hl 4 rfl) ?_
        refine lv_iload hx hb dX11_stamp_49 (lv_at hl 5 rfl) ?_
        obtain ⟨r_17, hc_16, hd⟩ := zob_some hd
        refine z_cvI F hw hl.1 (As := [.int p4, .int p5]) (rest := [.ref (ad (zR M_6 k0 5))]) (ztX4_leadFor l D cy sh ad t_15 hc_16) zyX4_leadFor t_15 zc4 zk11_208 ⟨rfl, rfl⟩ ⟨by decide, by decide⟩ rfl rfl (Nat.le_of_ble_eq_true rfl) dX11_stamp_51 (fun H locs hw => ?_)
        obtain ⟨r_19, hc_18, hd⟩ := zob_some hd
        refine z_cvI F hw hl.1 (As := [.int r_17]) (rest := []) (ztX4_dueAt l D cy sh ad t_14 hc_18) zyX4_dueAt t_14 zc4 zk11_211 ⟨rfl, rfl⟩ ⟨by decide, by decide⟩ rfl rfl (Nat.le_of_ble_eq_true rfl) dX11_stamp_54 (fun H locs hw => ?_)
        exact z_iret F hr hlk hw (zpr1 hd) (zpr2 hd) dX11_stamp_57
      · have hd := zif_pos c_13 hd
        exact J37 _ _ _ _ (lv_sub hl [] rfl) hw hd

def zjX11_peak_20 (sh : zShp) (k0 : Nat) (p1 : Int32) (p2 : Int32) (p3 : Int32) (p4 : Int32)  (M : zMem) : Option (Int32 × zMem) :=
  some ((-1 : Int32), M)
def zjX11_peak_37 (sh : zShp) (k0 : Nat) (p1 : Int32) (p2 : Int32) (p3 : Int32) (p4 : Int32)  (s0 : Nat) (s1 : Int32) (M : zMem) : Option (Int32 × zMem) :=
  zob (zX4_greatestChange sh s0 s1 M) fun r_2 =>
  some (r_2, M)
def zX11_peak (sh : zShp) (k0 : Nat) (p1 : Int32) (p2 : Int32) (p3 : Int32) (p4 : Int32) (M : zMem) : Option (Int32 × zMem) :=
  zob (zX11_isWithin sh p4 (0 : Int32) (1 : Int32) M) fun r_4 =>
  if r_4 = 0 then (
  zjX11_peak_20 sh k0 p1 p2 p3 p4 M)
  else (
  zob2 (zX11_askMove sh k0 p1 p2 p3 M) fun r_7 M_8 =>
  if r_7 = 0 then (
  zjX11_peak_20 sh k0 p1 p2 p3 p4 M_8)
  else (
  if p4 = (1 : Int32) then (
  zjX11_peak_37 sh k0 p1 p2 p3 p4 (zR M_8 k0 5) (1 : Int32) M_8)
  else (
  zjX11_peak_37 sh k0 p1 p2 p3 p4 (zR M_8 k0 5) (0 : Int32) M_8)))
set_option maxHeartbeats 4000000 in
set_option maxRecDepth 100000 in
theorem ztX11_peak (l : Launch) (D : va_G) (cy : Nat → ClassId) (sh : zShp) (ad : Nat → Nat) {k0 : Nat} {p1 : Int32} {p2 : Int32} {p3 : Int32} {p4 : Int32} (h0 : zT sh k0 11) {M : zMem} {r : Int32} {M1 : zMem} (hd : zX11_peak sh k0 p1 p2 p3 p4 M = some (r, M1)) : zCI l yX11_peak cX11_peak 5 .int { frames := 5, cells := 0, slots := 0, locals := 123 } [.ref (ad k0), .int p1, .int p2, .int p3, .int p4] D cy sh ad M r M1 := by
  refine zci_of (by decide) (Nat.le_of_ble_eq_true rfl) (fun p e s m below meth c ls F hr hlk hl hw => ?_)
  have hx := F.1.1
  have hb := F.1.2.1
  have hl : lv_has ls 5 [(0, .ref (ad k0)), (1, .int p1), (2, .int p2), (3, .int p3), (4, .int p4)] := hl
  have J20 : ∀ (M : zMem) (H : Heap) (locs : List Loc) (ls : Array Slot), lv_has ls 5 [] → zWd D cy sh ad s M H locs → zjX11_peak_20 sh k0 p1 p2 p3 p4  M = some (r, M1) → W p l e { frames := 5, cells := 0, slots := 0, locals := 123 } s m ([.ref (ad k0), .int p1, .int p2, .int p3, .int p4] : List Value).toArray below meth c H locs 0 0 (zQI below D cy sh ad s [.ref (ad k0), .int p1, .int p2, .int p3, .int p4] r M1) (F0 m 20 ls []) := by
    intro  M H locs ls hl hw hd
    unfold zjX11_peak_20 at hd
    refine lv_iconst (v := (-1 : Int32)) hx hb dX11_peak_20 (by decide) ?_
    exact z_iret F hr hlk hw (zpr1 hd) (zpr2 hd) dX11_peak_21
  have J37 : ∀ (s0 : Nat) (s1 : Int32) (ts0 : zT sh s0 4) (M : zMem) (H : Heap) (locs : List Loc) (ls : Array Slot), lv_has ls 5 [] → zWd D cy sh ad s M H locs → zjX11_peak_37 sh k0 p1 p2 p3 p4  s0 s1 M = some (r, M1) → W p l e { frames := 5, cells := 0, slots := 0, locals := 123 } s m ([.ref (ad k0), .int p1, .int p2, .int p3, .int p4] : List Value).toArray below meth c H locs 0 0 (zQI below D cy sh ad s [.ref (ad k0), .int p1, .int p2, .int p3, .int p4] r M1) (F0 m 37 ls [.int s1, .ref (ad s0)]) := by
    intro  s0 s1 ts0 M H locs ls hl hw hd
    unfold zjX11_peak_37 at hd
    obtain ⟨r_2, hc_1, hd⟩ := zob_some hd
    refine z_cvI F hw hl.1 (As := [.int s1]) (rest := []) (ztX4_greatestChange l D cy sh ad ts0 hc_1) zyX4_greatestChange ts0 zc4 zk11_214 ⟨rfl, rfl⟩ ⟨by decide, by decide⟩ rfl rfl (Nat.le_of_ble_eq_true rfl) dX11_peak_37 (fun H locs hw => ?_)
    exact z_iret F hr hlk hw (zpr1 hd) (zpr2 hd) dX11_peak_40
  unfold zX11_peak at hd
  refine lv_iload hx hb dX11_peak_0 (lv_at hl 4 rfl) ?_
  refine lv_iconst (v := (0 : Int32)) hx hb dX11_peak_2 (by decide) ?_
  refine lv_iconst (v := (1 : Int32)) hx hb dX11_peak_3 (by decide) ?_
  obtain ⟨r_4, hc_3, hd⟩ := zob_some hd
  refine z_csI F hw hl.1 (As := [.int p4, .int (0 : Int32), .int (1 : Int32)]) (rest := []) (ztX11_isWithin l D cy sh ad  hc_3) zyX11_isWithin zk11_123 ⟨rfl, rfl⟩ ⟨by decide, by decide⟩ rfl rfl (Nat.le_of_ble_eq_true rfl) dX11_peak_4 (fun H locs hw => ?_)
  refine lv_if_eq (tgt := 20) hx hb dX11_peak_7 (by decide) (fun c_5 => ?_) (fun c_5 => ?_)
  · have hd := zif_pos c_5 hd
    exact J20 _ _ _ _ (lv_sub hl [] rfl) hw hd
  · have hd := zif_neg c_5 hd
    refine lv_aload_n hx hb dX11_peak_10 rfl (lv_at hl 0 rfl) ?_
    refine lv_iload_n hx hb dX11_peak_11 rfl (lv_at hl 1 rfl) ?_
    refine lv_iload_n hx hb dX11_peak_12 rfl (lv_at hl 2 rfl) ?_
    refine lv_iload_n hx hb dX11_peak_13 rfl (lv_at hl 3 rfl) ?_
    obtain ⟨r_7, M_8, hc_6, hd⟩ := zob2_some hd
    refine z_cvI F hw hl.1 (As := [.int p1, .int p2, .int p3]) (rest := []) (ztX11_askMove l D cy sh ad h0 hc_6) zyX11_askMove h0 zc11 zk11_173 ⟨rfl, rfl⟩ ⟨by decide, by decide⟩ rfl rfl (Nat.le_of_ble_eq_true rfl) dX11_peak_14 (fun H locs hw => ?_)
    refine lv_if_ne (tgt := 22) hx hb dX11_peak_17 (by decide) (fun c_9 => ?_) (fun c_9 => ?_)
    · have hd := zif_neg c_9 hd
      refine lv_aload_n hx hb dX11_peak_22 rfl (lv_at hl 0 rfl) ?_
      refine z_gR F hw h0 zc11 5 (by decide) rfl zf11_57 dX11_peak_23 ?_
      have t_10 : zT sh (zR M_8 k0 5) 4 := hw.2.2.2.fld h0 5 4
      refine lv_iload hx hb dX11_peak_26 (lv_at hl 4 rfl) ?_
      refine lv_iconst (v := (1 : Int32)) hx hb dX11_peak_28 (by decide) ?_
      refine lv_icmp_ne (tgt := 36) hx hb dX11_peak_29 (by decide) (fun c_11 => ?_) (fun c_11 => ?_)
      · have hd := zif_neg c_11 hd
        refine lv_iconst (v := (0 : Int32)) hx hb dX11_peak_36 (by decide) ?_
        exact J37 _ _ t_10 _ _ _ _ (lv_sub hl [] rfl) hw hd
      · have hd := zif_pos c_11 hd
        refine lv_iconst (v := (1 : Int32)) hx hb dX11_peak_32 (by decide) ?_
        refine lv_goto (tgt := 37) hx hb dX11_peak_33 (by decide) ?_
        exact J37 _ _ t_10 _ _ _ _ (lv_sub hl [] rfl) hw hd
    · have hd := zif_pos c_9 hd
      exact J20 _ _ _ _ (lv_sub hl [] rfl) hw hd

def zjX11_needed_29 (sh : zShp) (k0 : Nat) (p1 : Int32) (p2 : Int32) (p3 : Int32)  (M : zMem) : Option (Int32 × zMem) :=
  some ((-1 : Int32), M)
def zjX11_needed_84 (sh : zShp) (k0 : Nat) (p1 : Int32) (p2 : Int32) (p3 : Int32) (kk49 : Int32 → Int32 → zMem → Option (Int32 × zMem)) (x5 : Int32) (s0 : Int32) (M : zMem) : Option (Int32 × zMem) :=
  if p3 < s0 then (
  kk49 s0 (x5 + (1 : Int32)) M)
  else (
  some (x5, M))
def zbX11_needed_49 (sh : zShp) (k0 : Nat) (p1 : Int32) (p2 : Int32) (p3 : Int32)  (kk49 : Int32 → Int32 → zMem → Option (Int32 × zMem)) (x4 : Int32) (x5 : Int32) (M : zMem) : Option (Int32 × zMem) :=
  if (60 : Int32) < x5 then (
  some ((-1 : Int32), M))
  else (
  zob2 (zX4_takeTop sh (zR M k0 5) (zR M k0 11) x5 M) fun r_6 M_7 =>
  if r_6 = 0 then (
  zjX11_needed_84 sh k0 p1 p2 p3 kk49 x5 x4 M_7)
  else (
  zob (zX4_ticks sh (zR M_7 k0 5) M_7) fun r_11 =>
  zjX11_needed_84 sh k0 p1 p2 p3 kk49 x5 r_11 M_7))
def zlX11_needed_49 (sh : zShp) (k0 : Nat) (p1 : Int32) (p2 : Int32) (p3 : Int32)  : Nat → Int32 → Int32 → zMem → Option (Int32 × zMem)
  | 0 => fun _ _ _ => none
  | n + 1 => fun x4 x5 M => zbX11_needed_49 sh k0 p1 p2 p3  (zlX11_needed_49 sh k0 p1 p2 p3  n) x4 x5 M
def zX11_needed (sh : zShp) (k0 : Nat) (p1 : Int32) (p2 : Int32) (p3 : Int32) (M : zMem) : Option (Int32 × zMem) :=
  zob (zX11_isAxis sh k0 p1 M) fun r_13 =>
  if r_13 = 0 then (
  zjX11_needed_29 sh k0 p1 p2 p3 M)
  else (
  zob (zX11_isWithin sh p2 (1 : Int32) (30000 : Int32) M) fun r_16 =>
  if r_16 = 0 then (
  zjX11_needed_29 sh k0 p1 p2 p3 M)
  else (
  zob (zX11_isWithin sh p3 (1 : Int32) (60000 : Int32) M) fun r_19 =>
  if r_19 = 0 then (
  zjX11_needed_29 sh k0 p1 p2 p3 M)
  else (
  zob2 (zX4_startAlone sh (zR M k0 5) (zR M k0 11) p1 p2 M) fun r_24 M_25 =>
  zlX11_needed_49 sh k0 p1 p2 p3 zF r_24 (1 : Int32) M_25)))
set_option maxHeartbeats 4000000 in
set_option maxRecDepth 100000 in
theorem ztX11_needed (l : Launch) (D : va_G) (cy : Nat → ClassId) (sh : zShp) (ad : Nat → Nat) {k0 : Nat} {p1 : Int32} {p2 : Int32} {p3 : Int32} (h0 : zT sh k0 11) {M : zMem} {r : Int32} {M1 : zMem} (hd : zX11_needed sh k0 p1 p2 p3 M = some (r, M1)) : zCI l yX11_needed cX11_needed 6 .int { frames := 4, cells := 0, slots := 0, locals := 99 } [.ref (ad k0), .int p1, .int p2, .int p3] D cy sh ad M r M1 := by
  refine zci_of (by decide) (Nat.le_of_ble_eq_true rfl) (fun p e s m below meth c ls F hr hlk hl hw => ?_)
  have hx := F.1.1
  have hb := F.1.2.1
  have hl : lv_has ls 6 [(0, .ref (ad k0)), (1, .int p1), (2, .int p2), (3, .int p3)] := hl
  have J29 : ∀ (M : zMem) (H : Heap) (locs : List Loc) (ls : Array Slot), lv_has ls 6 [] → zWd D cy sh ad s M H locs → zjX11_needed_29 sh k0 p1 p2 p3  M = some (r, M1) → W p l e { frames := 4, cells := 0, slots := 0, locals := 99 } s m ([.ref (ad k0), .int p1, .int p2, .int p3] : List Value).toArray below meth c H locs 0 0 (zQI below D cy sh ad s [.ref (ad k0), .int p1, .int p2, .int p3] r M1) (F0 m 29 ls []) := by
    intro  M H locs ls hl hw hd
    unfold zjX11_needed_29 at hd
    refine lv_iconst (v := (-1 : Int32)) hx hb dX11_needed_29 (by decide) ?_
    exact z_iret F hr hlk hw (zpr1 hd) (zpr2 hd) dX11_needed_30
  have J84 : ∀ (kk49 : Int32 → Int32 → zMem → Option (Int32 × zMem)) (hk49 : ∀ (x4 : Int32) (x5 : Int32) (M : zMem) (H : Heap) (locs : List Loc) (ls : Array Slot), lv_has ls 6 [(0, .ref (ad k0)), (3, .int p3), (4, .int x4), (5, .int x5)] → zWd D cy sh ad s M H locs → kk49 x4 x5 M = some (r, M1) → W p l e { frames := 4, cells := 0, slots := 0, locals := 99 } s m ([.ref (ad k0), .int p1, .int p2, .int p3] : List Value).toArray below meth c H locs 0 0 (zQI below D cy sh ad s [.ref (ad k0), .int p1, .int p2, .int p3] r M1) (F0 m 49 ls [])), ∀ (x5 : Int32) (s0 : Int32) (M : zMem) (H : Heap) (locs : List Loc) (ls : Array Slot), lv_has ls 6 [(0, .ref (ad k0)), (3, .int p3), (5, .int x5)] → zWd D cy sh ad s M H locs → zjX11_needed_84 sh k0 p1 p2 p3 kk49 x5 s0 M = some (r, M1) → W p l e { frames := 4, cells := 0, slots := 0, locals := 99 } s m ([.ref (ad k0), .int p1, .int p2, .int p3] : List Value).toArray below meth c H locs 0 0 (zQI below D cy sh ad s [.ref (ad k0), .int p1, .int p2, .int p3] r M1) (F0 m 84 ls [.int s0]) := by
    intro kk49 hk49 x5 s0 M H locs ls hl hw hd
    unfold zjX11_needed_84 at hd
    refine lv_istore (lv' := [(4, .int s0), (0, .ref (ad k0)), (3, .int p3), (5, .int x5)]) hx hb dX11_needed_84 hl (by decide) rfl (fun ls hl => ?_)
    refine lv_iload hx hb dX11_needed_86 (lv_at hl 0 rfl) ?_
    refine lv_iload_n hx hb dX11_needed_88 rfl (lv_at hl 2 rfl) ?_
    refine lv_icmp_gt (tgt := 95) hx hb dX11_needed_89 (by decide) (fun c_1 => ?_) (fun c_1 => ?_)
    · have hd := zif_pos c_1 hd
      refine lv_iinc (v := (x5 + (1 : Int32))) (lv' := [(5, .int (x5 + (1 : Int32))), (4, .int s0), (0, .ref (ad k0)), (3, .int p3)]) hx hb dX11_needed_95 hl (k := 3) rfl (ziinc (by decide)) (by decide) rfl (fun ls hl => ?_)
      refine lv_goto (tgt := 49) hx hb dX11_needed_98 (by decide) ?_
      exact hk49 _ _ _ _ _ _ (lv_sub hl [2, 3, 1, 0] rfl) hw hd
    · have hd := zif_neg c_1 hd
      refine lv_iload hx hb dX11_needed_92 (lv_at hl 3 rfl) ?_
      exact z_iret F hr hlk hw (zpr1 hd) (zpr2 hd) dX11_needed_94
  have L49 : ∀  (n : Nat), ∀ (x4 : Int32) (x5 : Int32) (M : zMem) (H : Heap) (locs : List Loc) (ls : Array Slot), lv_has ls 6 [(0, .ref (ad k0)), (3, .int p3), (4, .int x4), (5, .int x5)] → zWd D cy sh ad s M H locs → zlX11_needed_49 sh k0 p1 p2 p3  n x4 x5 M = some (r, M1) → W p l e { frames := 4, cells := 0, slots := 0, locals := 99 } s m ([.ref (ad k0), .int p1, .int p2, .int p3] : List Value).toArray below meth c H locs 0 0 (zQI below D cy sh ad s [.ref (ad k0), .int p1, .int p2, .int p3] r M1) (F0 m 49 ls []) := by
    intro  n
    induction n with
    | zero => intro x4 x5 M H locs ls hl hw hd; exact (znone hd).elim
    | succ n hk49 =>
      intro x4 x5 M H locs ls hl hw hd
      have hd : zbX11_needed_49 sh k0 p1 p2 p3  (zlX11_needed_49 sh k0 p1 p2 p3  n) x4 x5 M = some (r, M1) := hd
      unfold zbX11_needed_49 at hd
      refine lv_iload hx hb dX11_needed_49 (lv_at hl 3 rfl) ?_
      refine lv_bipush (v := (60 : Int32)) hx hb dX11_needed_51 (by decide) ?_
      refine lv_icmp_gt (tgt := 101) hx hb dX11_needed_53 (by decide) (fun c_2 => ?_) (fun c_2 => ?_)
      · have hd := zif_pos c_2 hd
        refine lv_iconst (v := (-1 : Int32)) hx hb dX11_needed_101 (by decide) ?_
        exact z_iret F hr hlk hw (zpr1 hd) (zpr2 hd) dX11_needed_102
      · have hd := zif_neg c_2 hd
        refine lv_aload_n hx hb dX11_needed_56 rfl (lv_at hl 0 rfl) ?_
        refine z_gR F hw h0 zc11 5 (by decide) rfl zf11_57 dX11_needed_57 ?_
        have t_3 : zT sh (zR M k0 5) 4 := hw.2.2.2.fld h0 5 4
        refine lv_aload_n hx hb dX11_needed_60 rfl (lv_at hl 0 rfl) ?_
        refine z_gR F hw h0 zc11 11 (by decide) rfl zf11_12 dX11_needed_61 ?_
        have t_4 : zT sh (zR M k0 11) 1 := hw.2.2.2.fld h0 11 1
        refine lv_iload hx hb dX11_needed_64 (lv_at hl 3 rfl) ?_
        obtain ⟨r_6, M_7, hc_5, hd⟩ := zob2_some hd
        refine z_cvI F hw hl.1 (As := [.ref (ad (zR M k0 11)), .int x5]) (rest := []) (ztX4_takeTop l D cy sh ad t_3 t_4 hc_5) zyX4_takeTop t_3 zc4 zk11_223 ⟨rfl, rfl⟩ ⟨by decide, by decide⟩ rfl rfl (Nat.le_of_ble_eq_true rfl) dX11_needed_66 (fun H locs hw => ?_)
        refine lv_if_eq (tgt := 82) hx hb dX11_needed_69 (by decide) (fun c_8 => ?_) (fun c_8 => ?_)
        · have hd := zif_pos c_8 hd
          refine lv_iload hx hb dX11_needed_82 (lv_at hl 2 rfl) ?_
          exact J84 _ hk49 _ _ _ _ _ _ (lv_sub hl [0, 1, 3] rfl) hw hd
        · have hd := zif_neg c_8 hd
          refine lv_aload_n hx hb dX11_needed_72 rfl (lv_at hl 0 rfl) ?_
          refine z_gR F hw h0 zc11 5 (by decide) rfl zf11_57 dX11_needed_73 ?_
          have t_9 : zT sh (zR M_7 k0 5) 4 := hw.2.2.2.fld h0 5 4
          obtain ⟨r_11, hc_10, hd⟩ := zob_some hd
          refine z_cvI F hw hl.1 (As := []) (rest := []) (ztX4_ticks l D cy sh ad t_9 hc_10) zyX4_ticks t_9 zc4 zk11_176 ⟨rfl, rfl⟩ ⟨by decide, by decide⟩ rfl rfl (Nat.le_of_ble_eq_true rfl) dX11_needed_76 (fun H locs hw => ?_)
          refine lv_goto (tgt := 84) hx hb dX11_needed_79 (by decide) ?_
          exact J84 _ hk49 _ _ _ _ _ _ (lv_sub hl [0, 1, 3] rfl) hw hd
  unfold zX11_needed at hd
  refine lv_aload_n hx hb dX11_needed_0 rfl (lv_at hl 0 rfl) ?_
  refine lv_iload_n hx hb dX11_needed_1 rfl (lv_at hl 1 rfl) ?_
  obtain ⟨r_13, hc_12, hd⟩ := zob_some hd
  refine z_cvI F hw hl.1 (As := [.int p1]) (rest := []) (ztX11_isAxis l D cy sh ad h0 hc_12) zyX11_isAxis h0 zc11 zk11_194 ⟨rfl, rfl⟩ ⟨by decide, by decide⟩ rfl rfl (Nat.le_of_ble_eq_true rfl) dX11_needed_2 (fun H locs hw => ?_)
  refine lv_if_eq (tgt := 29) hx hb dX11_needed_5 (by decide) (fun c_14 => ?_) (fun c_14 => ?_)
  · have hd := zif_pos c_14 hd
    exact J29 _ _ _ _ (lv_sub hl [] rfl) hw hd
  · have hd := zif_neg c_14 hd
    refine lv_iload_n hx hb dX11_needed_8 rfl (lv_at hl 2 rfl) ?_
    refine lv_iconst (v := (1 : Int32)) hx hb dX11_needed_9 (by decide) ?_
    refine lv_sipush (v := (30000 : Int32)) hx hb dX11_needed_10 (by decide) ?_
    obtain ⟨r_16, hc_15, hd⟩ := zob_some hd
    refine z_csI F hw hl.1 (As := [.int p2, .int (1 : Int32), .int (30000 : Int32)]) (rest := []) (ztX11_isWithin l D cy sh ad  hc_15) zyX11_isWithin zk11_123 ⟨rfl, rfl⟩ ⟨by decide, by decide⟩ rfl rfl (Nat.le_of_ble_eq_true rfl) dX11_needed_13 (fun H locs hw => ?_)
    refine lv_if_eq (tgt := 29) hx hb dX11_needed_16 (by decide) (fun c_17 => ?_) (fun c_17 => ?_)
    · have hd := zif_pos c_17 hd
      exact J29 _ _ _ _ (lv_sub hl [] rfl) hw hd
    · have hd := zif_neg c_17 hd
      refine lv_iload_n hx hb dX11_needed_19 rfl (lv_at hl 3 rfl) ?_
      refine lv_iconst (v := (1 : Int32)) hx hb dX11_needed_20 (by decide) ?_
      refine lv_ldc (v := (60000 : Int32)) hx hb F.1.2.2.2.1 (F.1.2.2.2.2 _ zi11_218) dX11_needed_21 ?_
      obtain ⟨r_19, hc_18, hd⟩ := zob_some hd
      refine z_csI F hw hl.1 (As := [.int p3, .int (1 : Int32), .int (60000 : Int32)]) (rest := []) (ztX11_isWithin l D cy sh ad  hc_18) zyX11_isWithin zk11_123 ⟨rfl, rfl⟩ ⟨by decide, by decide⟩ rfl rfl (Nat.le_of_ble_eq_true rfl) dX11_needed_23 (fun H locs hw => ?_)
      refine lv_if_ne (tgt := 31) hx hb dX11_needed_26 (by decide) (fun c_20 => ?_) (fun c_20 => ?_)
      · have hd := zif_neg c_20 hd
        refine lv_aload_n hx hb dX11_needed_31 rfl (lv_at hl 0 rfl) ?_
        refine z_gR F hw h0 zc11 5 (by decide) rfl zf11_57 dX11_needed_32 ?_
        have t_21 : zT sh (zR M k0 5) 4 := hw.2.2.2.fld h0 5 4
        refine lv_aload_n hx hb dX11_needed_35 rfl (lv_at hl 0 rfl) ?_
        refine z_gR F hw h0 zc11 11 (by decide) rfl zf11_12 dX11_needed_36 ?_
        have t_22 : zT sh (zR M k0 11) 1 := hw.2.2.2.fld h0 11 1
        refine lv_iload_n hx hb dX11_needed_39 rfl (lv_at hl 1 rfl) ?_
        refine lv_iload_n hx hb dX11_needed_40 rfl (lv_at hl 2 rfl) ?_
        obtain ⟨r_24, M_25, hc_23, hd⟩ := zob2_some hd
        refine z_cvI F hw hl.1 (As := [.ref (ad (zR M k0 11)), .int p1, .int p2]) (rest := []) (ztX4_startAlone l D cy sh ad t_21 t_22 hc_23) zyX4_startAlone t_21 zc4 zk11_219 ⟨rfl, rfl⟩ ⟨by decide, by decide⟩ rfl rfl (Nat.le_of_ble_eq_true rfl) dX11_needed_41 (fun H locs hw => ?_)
        refine lv_istore (lv' := [(4, .int r_24), (0, .ref (ad k0)), (1, .int p1), (2, .int p2), (3, .int p3)]) hx hb dX11_needed_44 hl (by decide) rfl (fun ls hl => ?_)
        refine lv_iconst (v := (1 : Int32)) hx hb dX11_needed_46 (by decide) ?_
        refine lv_istore (lv' := [(5, .int (1 : Int32)), (4, .int r_24), (0, .ref (ad k0)), (1, .int p1), (2, .int p2), (3, .int p3)]) hx hb dX11_needed_47 hl (by decide) rfl (fun ls hl => ?_)
        exact L49 zF _ _ _ _ _ _ (lv_sub hl [2, 5, 1, 0] rfl) hw hd
      · have hd := zif_pos c_20 hd
        exact J29 _ _ _ _ (lv_sub hl [] rfl) hw hd

def zjX11_most_19 (sh : zShp) (k0 : Nat) (p1 : Int32) (p2 : Int32) (p3 : Int32) (p4 : Int32)  (M : zMem) : Option (Int32 × zMem) :=
  some ((-1 : Int32), M)
def zbX11_most_48 (sh : zShp) (k0 : Nat) (p1 : Int32) (p2 : Int32) (p3 : Int32) (p4 : Int32)  (kk48 : Int32 → Int32 → Int32 → Int32 → zMem → Option (Int32 × zMem)) (x5 : Int32) (x6 : Int32) (x7 : Int32) (x8 : Int32) (M : zMem) : Option (Int32 × zMem) :=
  if x7 < x8 then (
  some (x5, M))
  else (
  zob (zX4_goneBehind sh (zR M k0 5) x8 M) fun r_5 =>
  zob (zX4_placeOf sh (zR M k0 5) p4 r_5 M) fun r_7 =>
  zbd ((zmax x5 (zabs (r_7 - x6)))) fun v_8 =>
  kk48 v_8 r_7 x7 (x8 + (1 : Int32)) M)
def zlX11_most_48 (sh : zShp) (k0 : Nat) (p1 : Int32) (p2 : Int32) (p3 : Int32) (p4 : Int32)  : Nat → Int32 → Int32 → Int32 → Int32 → zMem → Option (Int32 × zMem)
  | 0 => fun _ _ _ _ _ => none
  | n + 1 => fun x5 x6 x7 x8 M => zbX11_most_48 sh k0 p1 p2 p3 p4  (zlX11_most_48 sh k0 p1 p2 p3 p4  n) x5 x6 x7 x8 M
def zX11_most (sh : zShp) (k0 : Nat) (p1 : Int32) (p2 : Int32) (p3 : Int32) (p4 : Int32) (M : zMem) : Option (Int32 × zMem) :=
  zob (zX11_isAxis sh k0 p4 M) fun r_10 =>
  if r_10 = 0 then (
  zjX11_most_19 sh k0 p1 p2 p3 p4 M)
  else (
  zob2 (zX11_askMove sh k0 p1 p2 p3 M) fun r_13 M_14 =>
  if r_13 = 0 then (
  zjX11_most_19 sh k0 p1 p2 p3 p4 M_14)
  else (
  zgd (zin p4 (zlen sh (zR M_14 (zR M_14 k0 5) 0))) <|
  zbd ((zI M_14 (zR M_14 (zR M_14 k0 5) 0) p4.toNatClampNeg)) fun v_19 =>
  zob (zX4_ticks sh (zR M_14 k0 5) M_14) fun r_22 =>
  zlX11_most_48 sh k0 p1 p2 p3 p4 zF (0 : Int32) v_19 r_22 (1 : Int32) M_14))
set_option maxHeartbeats 4000000 in
set_option maxRecDepth 100000 in
theorem ztX11_most (l : Launch) (D : va_G) (cy : Nat → ClassId) (sh : zShp) (ad : Nat → Nat) {k0 : Nat} {p1 : Int32} {p2 : Int32} {p3 : Int32} {p4 : Int32} (h0 : zT sh k0 11) {M : zMem} {r : Int32} {M1 : zMem} (hd : zX11_most sh k0 p1 p2 p3 p4 M = some (r, M1)) : zCI l yX11_most cX11_most 10 .int { frames := 5, cells := 0, slots := 0, locals := 123 } [.ref (ad k0), .int p1, .int p2, .int p3, .int p4] D cy sh ad M r M1 := by
  refine zci_of (by decide) (Nat.le_of_ble_eq_true rfl) (fun p e s m below meth c ls F hr hlk hl hw => ?_)
  have hx := F.1.1
  have hb := F.1.2.1
  have hl : lv_has ls 10 [(0, .ref (ad k0)), (1, .int p1), (2, .int p2), (3, .int p3), (4, .int p4)] := hl
  have J19 : ∀ (M : zMem) (H : Heap) (locs : List Loc) (ls : Array Slot), lv_has ls 10 [] → zWd D cy sh ad s M H locs → zjX11_most_19 sh k0 p1 p2 p3 p4  M = some (r, M1) → W p l e { frames := 5, cells := 0, slots := 0, locals := 123 } s m ([.ref (ad k0), .int p1, .int p2, .int p3, .int p4] : List Value).toArray below meth c H locs 0 0 (zQI below D cy sh ad s [.ref (ad k0), .int p1, .int p2, .int p3, .int p4] r M1) (F0 m 19 ls []) := by
    intro  M H locs ls hl hw hd
    unfold zjX11_most_19 at hd
    refine lv_iconst (v := (-1 : Int32)) hx hb dX11_most_19 (by decide) ?_
    exact z_iret F hr hlk hw (zpr1 hd) (zpr2 hd) dX11_most_20
  have L48 : ∀  (n : Nat), ∀ (x5 : Int32) (x6 : Int32) (x7 : Int32) (x8 : Int32) (M : zMem) (H : Heap) (locs : List Loc) (ls : Array Slot), lv_has ls 10 [(0, .ref (ad k0)), (4, .int p4), (5, .int x5), (6, .int x6), (7, .int x7), (8, .int x8)] → zWd D cy sh ad s M H locs → zlX11_most_48 sh k0 p1 p2 p3 p4  n x5 x6 x7 x8 M = some (r, M1) → W p l e { frames := 5, cells := 0, slots := 0, locals := 123 } s m ([.ref (ad k0), .int p1, .int p2, .int p3, .int p4] : List Value).toArray below meth c H locs 0 0 (zQI below D cy sh ad s [.ref (ad k0), .int p1, .int p2, .int p3, .int p4] r M1) (F0 m 48 ls []) := by
    intro  n
    induction n with
    | zero => intro x5 x6 x7 x8 M H locs ls hl hw hd; exact (znone hd).elim
    | succ n hk48 =>
      intro x5 x6 x7 x8 M H locs ls hl hw hd
      have hd : zbX11_most_48 sh k0 p1 p2 p3 p4  (zlX11_most_48 sh k0 p1 p2 p3 p4  n) x5 x6 x7 x8 M = some (r, M1) := hd
      unfold zbX11_most_48 at hd
      refine lv_iload hx hb dX11_most_48 (lv_at hl 5 rfl) ?_
      refine lv_iload hx hb dX11_most_50 (lv_at hl 4 rfl) ?_
      refine lv_icmp_gt (tgt := 100) hx hb dX11_most_52 (by decide) (fun c_1 => ?_) (fun c_1 => ?_)
      · have hd := zif_pos c_1 hd
        refine lv_iload hx hb dX11_most_100 (lv_at hl 2 rfl) ?_
        exact z_iret F hr hlk hw (zpr1 hd) (zpr2 hd) dX11_most_102
      · have hd := zif_neg c_1 hd
        refine lv_aload_n hx hb dX11_most_55 rfl (lv_at hl 0 rfl) ?_
        refine z_gR F hw h0 zc11 5 (by decide) rfl zf11_57 dX11_most_56 ?_
        have t_2 : zT sh (zR M k0 5) 4 := hw.2.2.2.fld h0 5 4
        refine lv_iload hx hb dX11_most_59 (lv_at hl 1 rfl) ?_
        refine lv_aload_n hx hb dX11_most_61 rfl (lv_at hl 0 rfl) ?_
        refine z_gR F hw h0 zc11 5 (by decide) rfl zf11_57 dX11_most_62 ?_
        have t_3 : zT sh (zR M k0 5) 4 := hw.2.2.2.fld h0 5 4
        refine lv_iload hx hb dX11_most_65 (lv_at hl 5 rfl) ?_
        obtain ⟨r_5, hc_4, hd⟩ := zob_some hd
        refine z_cvI F hw hl.1 (As := [.int x8]) (rest := [.int p4, .ref (ad (zR M k0 5))]) (ztX4_goneBehind l D cy sh ad t_3 hc_4) zyX4_goneBehind t_3 zc4 zk11_198 ⟨rfl, rfl⟩ ⟨by decide, by decide⟩ rfl rfl (Nat.le_of_ble_eq_true rfl) dX11_most_67 (fun H locs hw => ?_)
        obtain ⟨r_7, hc_6, hd⟩ := zob_some hd
        refine z_cvI F hw hl.1 (As := [.int p4, .int r_5]) (rest := []) (ztX4_placeOf l D cy sh ad t_2 hc_6) zyX4_placeOf t_2 zc4 zk11_201 ⟨rfl, rfl⟩ ⟨by decide, by decide⟩ rfl rfl (Nat.le_of_ble_eq_true rfl) dX11_most_70 (fun H locs hw => ?_)
        refine lv_istore (lv' := [(9, .int r_7), (0, .ref (ad k0)), (4, .int p4), (5, .int x5), (6, .int x6), (7, .int x7), (8, .int x8)]) hx hb dX11_most_73 hl (by decide) rfl (fun ls hl => ?_)
        refine lv_iload hx hb dX11_most_75 (lv_at hl 3 rfl) ?_
        refine lv_iload hx hb dX11_most_77 (lv_at hl 0 rfl) ?_
        refine lv_iload hx hb dX11_most_79 (lv_at hl 4 rfl) ?_
        refine lv_isub hx hb dX11_most_81 ?_
        refine z_mabs F hl.1 zk11_230 (by decide) (Nat.le_of_ble_eq_true rfl) dX11_most_82 ?_
        refine z_mmax F hl.1 zk11_235 (by decide) (Nat.le_of_ble_eq_true rfl) dX11_most_85 ?_
        refine lv_topi (fun v_8 ev_8 => ?_)
        have hd := zbd_eq ev_8 hd
        refine lv_istore (lv' := [(5, .int v_8), (9, .int r_7), (0, .ref (ad k0)), (4, .int p4), (6, .int x6), (7, .int x7), (8, .int x8)]) hx hb dX11_most_88 hl (by decide) rfl (fun ls hl => ?_)
        refine lv_iload hx hb dX11_most_90 (lv_at hl 1 rfl) ?_
        refine lv_istore (lv' := [(6, .int r_7), (5, .int v_8), (9, .int r_7), (0, .ref (ad k0)), (4, .int p4), (7, .int x7), (8, .int x8)]) hx hb dX11_most_92 hl (by decide) rfl (fun ls hl => ?_)
        refine lv_iinc (v := (x8 + (1 : Int32))) (lv' := [(8, .int (x8 + (1 : Int32))), (6, .int r_7), (5, .int v_8), (9, .int r_7), (0, .ref (ad k0)), (4, .int p4), (7, .int x7)]) hx hb dX11_most_94 hl (k := 6) rfl (ziinc (by decide)) (by decide) rfl (fun ls hl => ?_)
        refine lv_goto (tgt := 48) hx hb dX11_most_97 (by decide) ?_
        exact hk48 _ _ _ _ _ _ _ _ (lv_sub hl [4, 5, 2, 1, 6, 0] rfl) hw hd
  unfold zX11_most at hd
  refine lv_aload_n hx hb dX11_most_0 rfl (lv_at hl 0 rfl) ?_
  refine lv_iload hx hb dX11_most_1 (lv_at hl 4 rfl) ?_
  obtain ⟨r_10, hc_9, hd⟩ := zob_some hd
  refine z_cvI F hw hl.1 (As := [.int p4]) (rest := []) (ztX11_isAxis l D cy sh ad h0 hc_9) zyX11_isAxis h0 zc11 zk11_194 ⟨rfl, rfl⟩ ⟨by decide, by decide⟩ rfl rfl (Nat.le_of_ble_eq_true rfl) dX11_most_3 (fun H locs hw => ?_)
  refine lv_if_eq (tgt := 19) hx hb dX11_most_6 (by decide) (fun c_11 => ?_) (fun c_11 => ?_)
  · have hd := zif_pos c_11 hd
    exact J19 _ _ _ _ (lv_sub hl [] rfl) hw hd
  · have hd := zif_neg c_11 hd
    refine lv_aload_n hx hb dX11_most_9 rfl (lv_at hl 0 rfl) ?_
    refine lv_iload_n hx hb dX11_most_10 rfl (lv_at hl 1 rfl) ?_
    refine lv_iload_n hx hb dX11_most_11 rfl (lv_at hl 2 rfl) ?_
    refine lv_iload_n hx hb dX11_most_12 rfl (lv_at hl 3 rfl) ?_
    obtain ⟨r_13, M_14, hc_12, hd⟩ := zob2_some hd
    refine z_cvI F hw hl.1 (As := [.int p1, .int p2, .int p3]) (rest := []) (ztX11_askMove l D cy sh ad h0 hc_12) zyX11_askMove h0 zc11 zk11_173 ⟨rfl, rfl⟩ ⟨by decide, by decide⟩ rfl rfl (Nat.le_of_ble_eq_true rfl) dX11_most_13 (fun H locs hw => ?_)
    refine lv_if_ne (tgt := 21) hx hb dX11_most_16 (by decide) (fun c_15 => ?_) (fun c_15 => ?_)
    · have hd := zif_neg c_15 hd
      refine lv_iconst (v := (0 : Int32)) hx hb dX11_most_21 (by decide) ?_
      refine lv_istore (lv' := [(5, .int (0 : Int32)), (0, .ref (ad k0)), (1, .int p1), (2, .int p2), (3, .int p3), (4, .int p4)]) hx hb dX11_most_22 hl (by decide) rfl (fun ls hl => ?_)
      refine lv_aload_n hx hb dX11_most_24 rfl (lv_at hl 1 rfl) ?_
      refine z_gR F hw h0 zc11 5 (by decide) rfl zf11_57 dX11_most_25 ?_
      have t_16 : zT sh (zR M_14 k0 5) 4 := hw.2.2.2.fld h0 5 4
      refine z_gR F hw t_16 zc4 0 (by decide) rfl zf11_227 dX11_most_28 ?_
      have t_17 : zT sh (zR M_14 (zR M_14 k0 5) 0) 14 := hw.2.2.2.fld t_16 0 14
      refine lv_iload hx hb dX11_most_31 (lv_at hl 5 rfl) ?_
      obtain ⟨g_18, hd⟩ := zgd_some hd
      refine z_iald F hw t_17 g_18 dX11_most_33 ?_
      refine lv_topi (fun v_19 ev_19 => ?_)
      have hd := zbd_eq ev_19 hd
      refine lv_istore (lv' := [(6, .int v_19), (5, .int (0 : Int32)), (0, .ref (ad k0)), (1, .int p1), (2, .int p2), (3, .int p3), (4, .int p4)]) hx hb dX11_most_34 hl (by decide) rfl (fun ls hl => ?_)
      refine lv_aload_n hx hb dX11_most_36 rfl (lv_at hl 2 rfl) ?_
      refine z_gR F hw h0 zc11 5 (by decide) rfl zf11_57 dX11_most_37 ?_
      have t_20 : zT sh (zR M_14 k0 5) 4 := hw.2.2.2.fld h0 5 4
      obtain ⟨r_22, hc_21, hd⟩ := zob_some hd
      refine z_cvI F hw hl.1 (As := []) (rest := []) (ztX4_ticks l D cy sh ad t_20 hc_21) zyX4_ticks t_20 zc4 zk11_176 ⟨rfl, rfl⟩ ⟨by decide, by decide⟩ rfl rfl (Nat.le_of_ble_eq_true rfl) dX11_most_40 (fun H locs hw => ?_)
      refine lv_istore (lv' := [(7, .int r_22), (6, .int v_19), (5, .int (0 : Int32)), (0, .ref (ad k0)), (1, .int p1), (2, .int p2), (3, .int p3), (4, .int p4)]) hx hb dX11_most_43 hl (by decide) rfl (fun ls hl => ?_)
      refine lv_iconst (v := (1 : Int32)) hx hb dX11_most_45 (by decide) ?_
      refine lv_istore (lv' := [(8, .int (1 : Int32)), (7, .int r_22), (6, .int v_19), (5, .int (0 : Int32)), (0, .ref (ad k0)), (1, .int p1), (2, .int p2), (3, .int p3), (4, .int p4)]) hx hb dX11_most_46 hl (by decide) rfl (fun ls hl => ?_)
      exact L48 zF _ _ _ _ _ _ _ _ (lv_sub hl [4, 8, 3, 2, 1, 0] rfl) hw hd
    · have hd := zif_pos c_15 hd
      exact J19 _ _ _ _ (lv_sub hl [] rfl) hw hd

def zX11_isMode (sh : zShp) (p0 : Int32) (M : zMem) : Option (Int32) :=
  zob (zX11_isWithin sh p0 (0 : Int32) (8 : Int32) M) fun r_2 =>
  zgd (zisB r_2) <|
  some r_2
set_option maxHeartbeats 4000000 in
set_option maxRecDepth 100000 in
theorem ztX11_isMode (l : Launch) (D : va_G) (cy : Nat → ClassId) (sh : zShp) (ad : Nat → Nat) {p0 : Int32}  {M : zMem} {r : Int32} (hd : zX11_isMode sh p0 M = some r) : zCI l yX11_isMode cX11_isMode 1 .boolean { frames := 1, cells := 0, slots := 0, locals := 22 } [.int p0] D cy sh ad M r M := by
  refine zci_of (by decide) (Nat.le_of_ble_eq_true rfl) (fun p e s m below meth c ls F hr hlk hl hw => ?_)
  have hx := F.1.1
  have hb := F.1.2.1
  have hl : lv_has ls 1 [(0, .int p0)] := hl
  unfold zX11_isMode at hd
  refine lv_iload_n hx hb dX11_isMode_0 rfl (lv_at hl 0 rfl) ?_
  refine lv_iconst (v := (0 : Int32)) hx hb dX11_isMode_1 (by decide) ?_
  refine lv_bipush (v := (8 : Int32)) hx hb dX11_isMode_2 (by decide) ?_
  obtain ⟨r_2, hc_1, hd⟩ := zob_some hd
  refine z_csI F hw hl.1 (As := [.int p0, .int (0 : Int32), .int (8 : Int32)]) (rest := []) (ztX11_isWithin l D cy sh ad  hc_1) zyX11_isWithin zk11_123 ⟨rfl, rfl⟩ ⟨by decide, by decide⟩ rfl rfl (Nat.le_of_ble_eq_true rfl) dX11_isMode_4 (fun H locs hw => ?_)
  obtain ⟨g_3, hd⟩ := zgd_some hd
  exact z_zret F hr hlk hw g_3 (Option.some.inj hd) rfl dX11_isMode_7

def zjX11_drives_37 (sh : zShp) (k0 : Nat) (p1 : Int32) (p2 : Int32) (p3 : Int32) (p4 : Int32) (p5 : Int32) (p6 : Int32)  (M : zMem) : Option (Int32 × zMem) :=
  some ((-1 : Int32), M)
def zjX11_drives_175 (sh : zShp) (k0 : Nat) (p1 : Int32) (p2 : Int32) (p3 : Int32) (p4 : Int32) (p5 : Int32) (p6 : Int32)  (s0 : Int32) (M : zMem) : Option (Int32 × zMem) :=
  some (s0, M)
def zbX11_drives_70 (sh : zShp) (k0 : Nat) (p1 : Int32) (p2 : Int32) (p3 : Int32) (p4 : Int32) (p5 : Int32) (p6 : Int32)  (kk70 : Int32 → Int32 → Int32 → Int32 → zMem → Option (Int32 × zMem)) (x7 : Int32) (x8 : Int32) (x9 : Int32) (x10 : Int32) (M : zMem) : Option (Int32 × zMem) :=
  if x9 < x10 then (
  if p6 = 0 then (
  zjX11_drives_175 sh k0 p1 p2 p3 p4 p5 p6 x7 M)
  else (
  zjX11_drives_175 sh k0 p1 p2 p3 p4 p5 p6 x8 M))
  else (
  zob (zX4_goneBehind sh (zR M k0 5) x10 M) fun r_6 =>
  zob (zX4_placeOf sh (zR M k0 5) p4 r_6 M) fun r_8 =>
  zob (zX9_wave sh (zR M (zR M (zR M k0 11) 4) 1) r_8 M) fun r_13 =>
  zob (zX2_step sh (zR M k0 8) (zabs r_13) M) fun M_16 =>
  zbd ((zabs ((zI M_16 (zR M_16 k0 8) 0) - (zabs r_13)))) fun v_18 =>
  kk70 (zmax x7 v_18) (x8 + v_18) x9 (x10 + (1 : Int32)) M_16)
def zlX11_drives_70 (sh : zShp) (k0 : Nat) (p1 : Int32) (p2 : Int32) (p3 : Int32) (p4 : Int32) (p5 : Int32) (p6 : Int32)  : Nat → Int32 → Int32 → Int32 → Int32 → zMem → Option (Int32 × zMem)
  | 0 => fun _ _ _ _ _ => none
  | n + 1 => fun x7 x8 x9 x10 M => zbX11_drives_70 sh k0 p1 p2 p3 p4 p5 p6  (zlX11_drives_70 sh k0 p1 p2 p3 p4 p5 p6  n) x7 x8 x9 x10 M
def zX11_drives (sh : zShp) (k0 : Nat) (p1 : Int32) (p2 : Int32) (p3 : Int32) (p4 : Int32) (p5 : Int32) (p6 : Int32) (M : zMem) : Option (Int32 × zMem) :=
  zob (zX11_isAxis sh k0 p4 M) fun r_20 =>
  if r_20 = 0 then (
  zjX11_drives_37 sh k0 p1 p2 p3 p4 p5 p6 M)
  else (
  zob (zX11_isMode sh p5 M) fun r_23 =>
  if r_23 = 0 then (
  zjX11_drives_37 sh k0 p1 p2 p3 p4 p5 p6 M)
  else (
  zob (zX11_isWithin sh p6 (0 : Int32) (1 : Int32) M) fun r_26 =>
  if r_26 = 0 then (
  zjX11_drives_37 sh k0 p1 p2 p3 p4 p5 p6 M)
  else (
  zob2 (zX11_askMove sh k0 p1 p2 p3 M) fun r_29 M_30 =>
  if r_29 = 0 then (
  zjX11_drives_37 sh k0 p1 p2 p3 p4 p5 p6 M_30)
  else (
  zob (zX4_ticks sh (zR M_30 k0 5) M_30) fun r_34 =>
  zob (zX2_start sh (zR M_30 k0 8) (zR M_30 k0 11) p5 M_30) fun M_38 =>
  zlX11_drives_70 sh k0 p1 p2 p3 p4 p5 p6 zF (0 : Int32) (0 : Int32) r_34 (1 : Int32) M_38))))
set_option maxHeartbeats 4000000 in
set_option maxRecDepth 100000 in
theorem ztX11_drives (l : Launch) (D : va_G) (cy : Nat → ClassId) (sh : zShp) (ad : Nat → Nat) {k0 : Nat} {p1 : Int32} {p2 : Int32} {p3 : Int32} {p4 : Int32} {p5 : Int32} {p6 : Int32} (h0 : zT sh k0 11) {M : zMem} {r : Int32} {M1 : zMem} (hd : zX11_drives sh k0 p1 p2 p3 p4 p5 p6 M = some (r, M1)) : zCI l yX11_drives cX11_drives 14 .int { frames := 5, cells := 0, slots := 0, locals := 123 } [.ref (ad k0), .int p1, .int p2, .int p3, .int p4, .int p5, .int p6] D cy sh ad M r M1 := by
  refine zci_of (by decide) (Nat.le_of_ble_eq_true rfl) (fun p e s m below meth c ls F hr hlk hl hw => ?_)
  have hx := F.1.1
  have hb := F.1.2.1
  have hl : lv_has ls 14 [(0, .ref (ad k0)), (1, .int p1), (2, .int p2), (3, .int p3), (4, .int p4), (5, .int p5), (6, .int p6)] := hl
  have J37 : ∀ (M : zMem) (H : Heap) (locs : List Loc) (ls : Array Slot), lv_has ls 14 [] → zWd D cy sh ad s M H locs → zjX11_drives_37 sh k0 p1 p2 p3 p4 p5 p6  M = some (r, M1) → W p l e { frames := 5, cells := 0, slots := 0, locals := 123 } s m ([.ref (ad k0), .int p1, .int p2, .int p3, .int p4, .int p5, .int p6] : List Value).toArray below meth c H locs 0 0 (zQI below D cy sh ad s [.ref (ad k0), .int p1, .int p2, .int p3, .int p4, .int p5, .int p6] r M1) (F0 m 37 ls []) := by
    intro  M H locs ls hl hw hd
    unfold zjX11_drives_37 at hd
    refine lv_iconst (v := (-1 : Int32)) hx hb dX11_drives_37 (by decide) ?_
    exact z_iret F hr hlk hw (zpr1 hd) (zpr2 hd) dX11_drives_38
  have J175 : ∀ (s0 : Int32) (M : zMem) (H : Heap) (locs : List Loc) (ls : Array Slot), lv_has ls 14 [] → zWd D cy sh ad s M H locs → zjX11_drives_175 sh k0 p1 p2 p3 p4 p5 p6  s0 M = some (r, M1) → W p l e { frames := 5, cells := 0, slots := 0, locals := 123 } s m ([.ref (ad k0), .int p1, .int p2, .int p3, .int p4, .int p5, .int p6] : List Value).toArray below meth c H locs 0 0 (zQI below D cy sh ad s [.ref (ad k0), .int p1, .int p2, .int p3, .int p4, .int p5, .int p6] r M1) (F0 m 175 ls [.int s0]) := by
    intro  s0 M H locs ls hl hw hd
    unfold zjX11_drives_175 at hd
    exact z_iret F hr hlk hw (zpr1 hd) (zpr2 hd) dX11_drives_175
  have L70 : ∀  (n : Nat), ∀ (x7 : Int32) (x8 : Int32) (x9 : Int32) (x10 : Int32) (M : zMem) (H : Heap) (locs : List Loc) (ls : Array Slot), lv_has ls 14 [(0, .ref (ad k0)), (4, .int p4), (6, .int p6), (7, .int x7), (8, .int x8), (9, .int x9), (10, .int x10)] → zWd D cy sh ad s M H locs → zlX11_drives_70 sh k0 p1 p2 p3 p4 p5 p6  n x7 x8 x9 x10 M = some (r, M1) → W p l e { frames := 5, cells := 0, slots := 0, locals := 123 } s m ([.ref (ad k0), .int p1, .int p2, .int p3, .int p4, .int p5, .int p6] : List Value).toArray below meth c H locs 0 0 (zQI below D cy sh ad s [.ref (ad k0), .int p1, .int p2, .int p3, .int p4, .int p5, .int p6] r M1) (F0 m 70 ls []) := by
    intro  n
    induction n with
    | zero => intro x7 x8 x9 x10 M H locs ls hl hw hd; exact (znone hd).elim
    | succ n hk70 =>
      intro x7 x8 x9 x10 M H locs ls hl hw hd
      have hd : zbX11_drives_70 sh k0 p1 p2 p3 p4 p5 p6  (zlX11_drives_70 sh k0 p1 p2 p3 p4 p5 p6  n) x7 x8 x9 x10 M = some (r, M1) := hd
      unfold zbX11_drives_70 at hd
      refine lv_iload hx hb dX11_drives_70 (lv_at hl 6 rfl) ?_
      refine lv_iload hx hb dX11_drives_72 (lv_at hl 5 rfl) ?_
      refine lv_icmp_gt (tgt := 163) hx hb dX11_drives_74 (by decide) (fun c_1 => ?_) (fun c_1 => ?_)
      · have hd := zif_pos c_1 hd
        refine lv_iload hx hb dX11_drives_163 (lv_at hl 2 rfl) ?_
        refine lv_if_ne (tgt := 173) hx hb dX11_drives_165 (by decide) (fun c_2 => ?_) (fun c_2 => ?_)
        · have hd := zif_neg c_2 hd
          refine lv_iload hx hb dX11_drives_173 (lv_at hl 4 rfl) ?_
          exact J175 _ _ _ _ _ (lv_sub hl [] rfl) hw hd
        · have hd := zif_pos c_2 hd
          refine lv_iload hx hb dX11_drives_168 (lv_at hl 3 rfl) ?_
          refine lv_goto (tgt := 175) hx hb dX11_drives_170 (by decide) ?_
          exact J175 _ _ _ _ _ (lv_sub hl [] rfl) hw hd
      · have hd := zif_neg c_1 hd
        refine lv_aload_n hx hb dX11_drives_77 rfl (lv_at hl 0 rfl) ?_
        refine z_gR F hw h0 zc11 5 (by decide) rfl zf11_57 dX11_drives_78 ?_
        have t_3 : zT sh (zR M k0 5) 4 := hw.2.2.2.fld h0 5 4
        refine lv_iload hx hb dX11_drives_81 (lv_at hl 1 rfl) ?_
        refine lv_aload_n hx hb dX11_drives_83 rfl (lv_at hl 0 rfl) ?_
        refine z_gR F hw h0 zc11 5 (by decide) rfl zf11_57 dX11_drives_84 ?_
        have t_4 : zT sh (zR M k0 5) 4 := hw.2.2.2.fld h0 5 4
        refine lv_iload hx hb dX11_drives_87 (lv_at hl 6 rfl) ?_
        obtain ⟨r_6, hc_5, hd⟩ := zob_some hd
        refine z_cvI F hw hl.1 (As := [.int x10]) (rest := [.int p4, .ref (ad (zR M k0 5))]) (ztX4_goneBehind l D cy sh ad t_4 hc_5) zyX4_goneBehind t_4 zc4 zk11_198 ⟨rfl, rfl⟩ ⟨by decide, by decide⟩ rfl rfl (Nat.le_of_ble_eq_true rfl) dX11_drives_89 (fun H locs hw => ?_)
        obtain ⟨r_8, hc_7, hd⟩ := zob_some hd
        refine z_cvI F hw hl.1 (As := [.int p4, .int r_6]) (rest := []) (ztX4_placeOf l D cy sh ad t_3 hc_7) zyX4_placeOf t_3 zc4 zk11_201 ⟨rfl, rfl⟩ ⟨by decide, by decide⟩ rfl rfl (Nat.le_of_ble_eq_true rfl) dX11_drives_92 (fun H locs hw => ?_)
        refine lv_istore (lv' := [(11, .int r_8), (0, .ref (ad k0)), (4, .int p4), (6, .int p6), (7, .int x7), (8, .int x8), (9, .int x9), (10, .int x10)]) hx hb dX11_drives_95 hl (by decide) rfl (fun ls hl => ?_)
        refine lv_aload_n hx hb dX11_drives_97 rfl (lv_at hl 1 rfl) ?_
        refine z_gR F hw h0 zc11 11 (by decide) rfl zf11_12 dX11_drives_98 ?_
        have t_9 : zT sh (zR M k0 11) 1 := hw.2.2.2.fld h0 11 1
        refine z_gR F hw t_9 zc1 4 (by decide) rfl zf11_128 dX11_drives_101 ?_
        have t_10 : zT sh (zR M (zR M k0 11) 4) 9 := hw.2.2.2.fld t_9 4 9
        refine z_gR F hw t_10 zc9 1 (by decide) rfl zf11_137 dX11_drives_104 ?_
        have t_11 : zT sh (zR M (zR M (zR M k0 11) 4) 1) 14 := hw.2.2.2.fld t_10 1 14
        refine lv_iload hx hb dX11_drives_107 (lv_at hl 0 rfl) ?_
        obtain ⟨r_13, hc_12, hd⟩ := zob_some hd
        refine z_csI F hw hl.1 (As := [.ref (ad (zR M (zR M (zR M k0 11) 4) 1)), .int r_8]) (rest := []) (ztX9_wave l D cy sh ad t_11 hc_12) zyX9_wave zk11_140 ⟨rfl, rfl⟩ ⟨by decide, by decide⟩ rfl rfl (Nat.le_of_ble_eq_true rfl) dX11_drives_109 (fun H locs hw => ?_)
        refine z_mabs F hl.1 zk11_230 (by decide) (Nat.le_of_ble_eq_true rfl) dX11_drives_112 ?_
        refine lv_istore (lv' := [(12, .int (zabs r_13)), (11, .int r_8), (0, .ref (ad k0)), (4, .int p4), (6, .int p6), (7, .int x7), (8, .int x8), (9, .int x9), (10, .int x10)]) hx hb dX11_drives_115 hl (by decide) rfl (fun ls hl => ?_)
        refine lv_aload_n hx hb dX11_drives_117 rfl (lv_at hl 2 rfl) ?_
        refine z_gR F hw h0 zc11 8 (by decide) rfl zf11_78 dX11_drives_118 ?_
        have t_14 : zT sh (zR M k0 8) 2 := hw.2.2.2.fld h0 8 2
        refine lv_iload hx hb dX11_drives_121 (lv_at hl 0 rfl) ?_
        obtain ⟨M_16, hc_15, hd⟩ := zob_some hd
        refine z_cvV F hw hl.1 (As := [.int (zabs r_13)]) (rest := []) (ztX2_step l D cy sh ad t_14 hc_15) zyX2_step t_14 zc2 zk11_244 ⟨rfl, rfl⟩ ⟨by decide, by decide⟩ rfl rfl (Nat.le_of_ble_eq_true rfl) dX11_drives_123 (fun H locs hw => ?_)
        refine lv_aload_n hx hb dX11_drives_126 rfl (lv_at hl 2 rfl) ?_
        refine z_gR F hw h0 zc11 8 (by decide) rfl zf11_78 dX11_drives_127 ?_
        have t_17 : zT sh (zR M_16 k0 8) 2 := hw.2.2.2.fld h0 8 2
        refine z_gI F hw t_17 zc2 0 (by decide) rfl zf11_247 dX11_drives_130 ?_
        refine lv_iload hx hb dX11_drives_133 (lv_at hl 0 rfl) ?_
        refine lv_isub hx hb dX11_drives_135 ?_
        refine z_mabs F hl.1 zk11_230 (by decide) (Nat.le_of_ble_eq_true rfl) dX11_drives_136 ?_
        refine lv_topi (fun v_18 ev_18 => ?_)
        have hd := zbd_eq ev_18 hd
        refine lv_istore (lv' := [(13, .int v_18), (12, .int (zabs r_13)), (11, .int r_8), (0, .ref (ad k0)), (4, .int p4), (6, .int p6), (7, .int x7), (8, .int x8), (9, .int x9), (10, .int x10)]) hx hb dX11_drives_139 hl (by decide) rfl (fun ls hl => ?_)
        refine lv_iload hx hb dX11_drives_141 (lv_at hl 6 rfl) ?_
        refine lv_iload hx hb dX11_drives_143 (lv_at hl 0 rfl) ?_
        refine z_mmax F hl.1 zk11_235 (by decide) (Nat.le_of_ble_eq_true rfl) dX11_drives_145 ?_
        refine lv_istore (lv' := [(7, .int (zmax x7 v_18)), (13, .int v_18), (12, .int (zabs r_13)), (11, .int r_8), (0, .ref (ad k0)), (4, .int p4), (6, .int p6), (8, .int x8), (9, .int x9), (10, .int x10)]) hx hb dX11_drives_148 hl (by decide) rfl (fun ls hl => ?_)
        refine lv_iload hx hb dX11_drives_150 (lv_at hl 7 rfl) ?_
        refine lv_iload hx hb dX11_drives_152 (lv_at hl 1 rfl) ?_
        refine lv_iadd hx hb dX11_drives_154 ?_
        refine lv_istore (lv' := [(8, .int (x8 + v_18)), (7, .int (zmax x7 v_18)), (13, .int v_18), (12, .int (zabs r_13)), (11, .int r_8), (0, .ref (ad k0)), (4, .int p4), (6, .int p6), (9, .int x9), (10, .int x10)]) hx hb dX11_drives_155 hl (by decide) rfl (fun ls hl => ?_)
        refine lv_iinc (v := (x10 + (1 : Int32))) (lv' := [(10, .int (x10 + (1 : Int32))), (8, .int (x8 + v_18)), (7, .int (zmax x7 v_18)), (13, .int v_18), (12, .int (zabs r_13)), (11, .int r_8), (0, .ref (ad k0)), (4, .int p4), (6, .int p6), (9, .int x9)]) hx hb dX11_drives_157 hl (k := 9) rfl (ziinc (by decide)) (by decide) rfl (fun ls hl => ?_)
        refine lv_goto (tgt := 70) hx hb dX11_drives_160 (by decide) ?_
        exact hk70 _ _ _ _ _ _ _ _ (lv_sub hl [6, 7, 8, 2, 1, 9, 0] rfl) hw hd
  unfold zX11_drives at hd
  refine lv_aload_n hx hb dX11_drives_0 rfl (lv_at hl 0 rfl) ?_
  refine lv_iload hx hb dX11_drives_1 (lv_at hl 4 rfl) ?_
  obtain ⟨r_20, hc_19, hd⟩ := zob_some hd
  refine z_cvI F hw hl.1 (As := [.int p4]) (rest := []) (ztX11_isAxis l D cy sh ad h0 hc_19) zyX11_isAxis h0 zc11 zk11_194 ⟨rfl, rfl⟩ ⟨by decide, by decide⟩ rfl rfl (Nat.le_of_ble_eq_true rfl) dX11_drives_3 (fun H locs hw => ?_)
  refine lv_if_eq (tgt := 37) hx hb dX11_drives_6 (by decide) (fun c_21 => ?_) (fun c_21 => ?_)
  · have hd := zif_pos c_21 hd
    exact J37 _ _ _ _ (lv_sub hl [] rfl) hw hd
  · have hd := zif_neg c_21 hd
    refine lv_iload hx hb dX11_drives_9 (lv_at hl 5 rfl) ?_
    obtain ⟨r_23, hc_22, hd⟩ := zob_some hd
    refine z_csI F hw hl.1 (As := [.int p5]) (rest := []) (ztX11_isMode l D cy sh ad  hc_22) zyX11_isMode zk11_238 ⟨rfl, rfl⟩ ⟨by decide, by decide⟩ rfl rfl (Nat.le_of_ble_eq_true rfl) dX11_drives_11 (fun H locs hw => ?_)
    refine lv_if_eq (tgt := 37) hx hb dX11_drives_14 (by decide) (fun c_24 => ?_) (fun c_24 => ?_)
    · have hd := zif_pos c_24 hd
      exact J37 _ _ _ _ (lv_sub hl [] rfl) hw hd
    · have hd := zif_neg c_24 hd
      refine lv_iload hx hb dX11_drives_17 (lv_at hl 6 rfl) ?_
      refine lv_iconst (v := (0 : Int32)) hx hb dX11_drives_19 (by decide) ?_
      refine lv_iconst (v := (1 : Int32)) hx hb dX11_drives_20 (by decide) ?_
      obtain ⟨r_26, hc_25, hd⟩ := zob_some hd
      refine z_csI F hw hl.1 (As := [.int p6, .int (0 : Int32), .int (1 : Int32)]) (rest := []) (ztX11_isWithin l D cy sh ad  hc_25) zyX11_isWithin zk11_123 ⟨rfl, rfl⟩ ⟨by decide, by decide⟩ rfl rfl (Nat.le_of_ble_eq_true rfl) dX11_drives_21 (fun H locs hw => ?_)
      refine lv_if_eq (tgt := 37) hx hb dX11_drives_24 (by decide) (fun c_27 => ?_) (fun c_27 => ?_)
      · have hd := zif_pos c_27 hd
        exact J37 _ _ _ _ (lv_sub hl [] rfl) hw hd
      · have hd := zif_neg c_27 hd
        refine lv_aload_n hx hb dX11_drives_27 rfl (lv_at hl 0 rfl) ?_
        refine lv_iload_n hx hb dX11_drives_28 rfl (lv_at hl 1 rfl) ?_
        refine lv_iload_n hx hb dX11_drives_29 rfl (lv_at hl 2 rfl) ?_
        refine lv_iload_n hx hb dX11_drives_30 rfl (lv_at hl 3 rfl) ?_
        obtain ⟨r_29, M_30, hc_28, hd⟩ := zob2_some hd
        refine z_cvI F hw hl.1 (As := [.int p1, .int p2, .int p3]) (rest := []) (ztX11_askMove l D cy sh ad h0 hc_28) zyX11_askMove h0 zc11 zk11_173 ⟨rfl, rfl⟩ ⟨by decide, by decide⟩ rfl rfl (Nat.le_of_ble_eq_true rfl) dX11_drives_31 (fun H locs hw => ?_)
        refine lv_if_ne (tgt := 39) hx hb dX11_drives_34 (by decide) (fun c_31 => ?_) (fun c_31 => ?_)
        · have hd := zif_neg c_31 hd
          refine lv_iconst (v := (0 : Int32)) hx hb dX11_drives_39 (by decide) ?_
          refine lv_istore (lv' := [(7, .int (0 : Int32)), (0, .ref (ad k0)), (1, .int p1), (2, .int p2), (3, .int p3), (4, .int p4), (5, .int p5), (6, .int p6)]) hx hb dX11_drives_40 hl (by decide) rfl (fun ls hl => ?_)
          refine lv_iconst (v := (0 : Int32)) hx hb dX11_drives_42 (by decide) ?_
          refine lv_istore (lv' := [(8, .int (0 : Int32)), (7, .int (0 : Int32)), (0, .ref (ad k0)), (1, .int p1), (2, .int p2), (3, .int p3), (4, .int p4), (5, .int p5), (6, .int p6)]) hx hb dX11_drives_43 hl (by decide) rfl (fun ls hl => ?_)
          refine lv_aload_n hx hb dX11_drives_45 rfl (lv_at hl 2 rfl) ?_
          refine z_gR F hw h0 zc11 5 (by decide) rfl zf11_57 dX11_drives_46 ?_
          have t_32 : zT sh (zR M_30 k0 5) 4 := hw.2.2.2.fld h0 5 4
          obtain ⟨r_34, hc_33, hd⟩ := zob_some hd
          refine z_cvI F hw hl.1 (As := []) (rest := []) (ztX4_ticks l D cy sh ad t_32 hc_33) zyX4_ticks t_32 zc4 zk11_176 ⟨rfl, rfl⟩ ⟨by decide, by decide⟩ rfl rfl (Nat.le_of_ble_eq_true rfl) dX11_drives_49 (fun H locs hw => ?_)
          refine lv_istore (lv' := [(9, .int r_34), (8, .int (0 : Int32)), (7, .int (0 : Int32)), (0, .ref (ad k0)), (1, .int p1), (2, .int p2), (3, .int p3), (4, .int p4), (5, .int p5), (6, .int p6)]) hx hb dX11_drives_52 hl (by decide) rfl (fun ls hl => ?_)
          refine lv_aload_n hx hb dX11_drives_54 rfl (lv_at hl 3 rfl) ?_
          refine z_gR F hw h0 zc11 8 (by decide) rfl zf11_78 dX11_drives_55 ?_
          have t_35 : zT sh (zR M_30 k0 8) 2 := hw.2.2.2.fld h0 8 2
          refine lv_aload_n hx hb dX11_drives_58 rfl (lv_at hl 3 rfl) ?_
          refine z_gR F hw h0 zc11 11 (by decide) rfl zf11_12 dX11_drives_59 ?_
          have t_36 : zT sh (zR M_30 k0 11) 1 := hw.2.2.2.fld h0 11 1
          refine lv_iload hx hb dX11_drives_62 (lv_at hl 8 rfl) ?_
          obtain ⟨M_38, hc_37, hd⟩ := zob_some hd
          refine z_cvV F hw hl.1 (As := [.ref (ad (zR M_30 k0 11)), .int p5]) (rest := []) (ztX2_start l D cy sh ad t_35 t_36 hc_37) zyX2_start t_35 zc2 zk11_241 ⟨rfl, rfl⟩ ⟨by decide, by decide⟩ rfl rfl (Nat.le_of_ble_eq_true rfl) dX11_drives_64 (fun H locs hw => ?_)
          refine lv_iconst (v := (1 : Int32)) hx hb dX11_drives_67 (by decide) ?_
          refine lv_istore (lv' := [(10, .int (1 : Int32)), (9, .int r_34), (8, .int (0 : Int32)), (7, .int (0 : Int32)), (0, .ref (ad k0)), (1, .int p1), (2, .int p2), (3, .int p3), (4, .int p4), (5, .int p5), (6, .int p6)]) hx hb dX11_drives_68 hl (by decide) rfl (fun ls hl => ?_)
          exact L70 zF _ _ _ _ _ _ _ _ (lv_sub hl [4, 8, 10, 3, 2, 1, 0] rfl) hw hd
        · have hd := zif_pos c_31 hd
          exact J37 _ _ _ _ (lv_sub hl [] rfl) hw hd

def zjX11_quickest_28 (sh : zShp) (k0 : Nat) (p1 : Int32) (p2 : Int32) (p3 : Int32)  (M : zMem) : Option (Int32 × zMem) :=
  some ((-1 : Int32), M)
def zjX11_quickest_124 (sh : zShp) (k0 : Nat) (p1 : Int32) (p2 : Int32) (p3 : Int32)  (s0 : Int32) (M : zMem) : Option (Int32 × zMem) :=
  some (s0, M)
def zjX11_quickest_107 (sh : zShp) (k0 : Nat) (p1 : Int32) (p2 : Int32) (p3 : Int32) (kk55 : Int32 → Int32 → Int32 → Int32 → zMem → Option (Int32 × zMem)) (x4 : Int32) (x5 : Int32) (x6 : Int32) (x7 : Int32) (M : zMem) : Option (Int32 × zMem) :=
  kk55 x4 x5 x6 (x7 + (1 : Int32)) M
def zjX11_quickest_90 (sh : zShp) (k0 : Nat) (p1 : Int32) (p2 : Int32) (p3 : Int32) (kk55 : Int32 → Int32 → Int32 → Int32 → zMem → Option (Int32 × zMem)) (x4 : Int32) (x5 : Int32) (x7 : Int32) (s0 : Int32) (M : zMem) : Option (Int32 × zMem) :=
  if x5 ≤ s0 then (
  zjX11_quickest_107 sh k0 p1 p2 p3 kk55 x4 x5 s0 x7 M)
  else (
  zjX11_quickest_107 sh k0 p1 p2 p3 kk55 x7 s0 s0 x7 M)
def zbX11_quickest_55 (sh : zShp) (k0 : Nat) (p1 : Int32) (p2 : Int32) (p3 : Int32)  (kk55 : Int32 → Int32 → Int32 → Int32 → zMem → Option (Int32 × zMem)) (x4 : Int32) (x5 : Int32) (x6 : Int32) (x7 : Int32) (M : zMem) : Option (Int32 × zMem) :=
  if (60 : Int32) < x7 then (
  if p3 = 0 then (
  zjX11_quickest_124 sh k0 p1 p2 p3 x4 M)
  else (
  zjX11_quickest_124 sh k0 p1 p2 p3 x5 M))
  else (
  zob2 (zX4_takeTop sh (zR M k0 5) (zR M k0 11) x7 M) fun r_7 M_8 =>
  if r_7 = 0 then (
  zjX11_quickest_90 sh k0 p1 p2 p3 kk55 x4 x5 x7 x6 M_8)
  else (
  zob (zX4_ticks sh (zR M_8 k0 5) M_8) fun r_12 =>
  zjX11_quickest_90 sh k0 p1 p2 p3 kk55 x4 x5 x7 r_12 M_8))
def zlX11_quickest_55 (sh : zShp) (k0 : Nat) (p1 : Int32) (p2 : Int32) (p3 : Int32)  : Nat → Int32 → Int32 → Int32 → Int32 → zMem → Option (Int32 × zMem)
  | 0 => fun _ _ _ _ _ => none
  | n + 1 => fun x4 x5 x6 x7 M => zbX11_quickest_55 sh k0 p1 p2 p3  (zlX11_quickest_55 sh k0 p1 p2 p3  n) x4 x5 x6 x7 M
def zX11_quickest (sh : zShp) (k0 : Nat) (p1 : Int32) (p2 : Int32) (p3 : Int32) (M : zMem) : Option (Int32 × zMem) :=
  zob (zX11_isAxis sh k0 p1 M) fun r_14 =>
  if r_14 = 0 then (
  zjX11_quickest_28 sh k0 p1 p2 p3 M)
  else (
  zob (zX11_isWithin sh p2 (1 : Int32) (30000 : Int32) M) fun r_17 =>
  if r_17 = 0 then (
  zjX11_quickest_28 sh k0 p1 p2 p3 M)
  else (
  zob (zX11_isWithin sh p3 (0 : Int32) (1 : Int32) M) fun r_20 =>
  if r_20 = 0 then (
  zjX11_quickest_28 sh k0 p1 p2 p3 M)
  else (
  zob2 (zX4_startAlone sh (zR M k0 5) (zR M k0 11) p1 p2 M) fun r_25 M_26 =>
  zlX11_quickest_55 sh k0 p1 p2 p3 zF (-1 : Int32) (2147483647 : Int32) r_25 (1 : Int32) M_26)))
set_option maxHeartbeats 4000000 in
set_option maxRecDepth 100000 in
theorem ztX11_quickest (l : Launch) (D : va_G) (cy : Nat → ClassId) (sh : zShp) (ad : Nat → Nat) {k0 : Nat} {p1 : Int32} {p2 : Int32} {p3 : Int32} (h0 : zT sh k0 11) {M : zMem} {r : Int32} {M1 : zMem} (hd : zX11_quickest sh k0 p1 p2 p3 M = some (r, M1)) : zCI l yX11_quickest cX11_quickest 8 .int { frames := 4, cells := 0, slots := 0, locals := 99 } [.ref (ad k0), .int p1, .int p2, .int p3] D cy sh ad M r M1 := by
  refine zci_of (by decide) (Nat.le_of_ble_eq_true rfl) (fun p e s m below meth c ls F hr hlk hl hw => ?_)
  have hx := F.1.1
  have hb := F.1.2.1
  have hl : lv_has ls 8 [(0, .ref (ad k0)), (1, .int p1), (2, .int p2), (3, .int p3)] := hl
  have J28 : ∀ (M : zMem) (H : Heap) (locs : List Loc) (ls : Array Slot), lv_has ls 8 [] → zWd D cy sh ad s M H locs → zjX11_quickest_28 sh k0 p1 p2 p3  M = some (r, M1) → W p l e { frames := 4, cells := 0, slots := 0, locals := 99 } s m ([.ref (ad k0), .int p1, .int p2, .int p3] : List Value).toArray below meth c H locs 0 0 (zQI below D cy sh ad s [.ref (ad k0), .int p1, .int p2, .int p3] r M1) (F0 m 28 ls []) := by
    intro  M H locs ls hl hw hd
    unfold zjX11_quickest_28 at hd
    refine lv_iconst (v := (-1 : Int32)) hx hb dX11_quickest_28 (by decide) ?_
    exact z_iret F hr hlk hw (zpr1 hd) (zpr2 hd) dX11_quickest_29
  have J124 : ∀ (s0 : Int32) (M : zMem) (H : Heap) (locs : List Loc) (ls : Array Slot), lv_has ls 8 [] → zWd D cy sh ad s M H locs → zjX11_quickest_124 sh k0 p1 p2 p3  s0 M = some (r, M1) → W p l e { frames := 4, cells := 0, slots := 0, locals := 99 } s m ([.ref (ad k0), .int p1, .int p2, .int p3] : List Value).toArray below meth c H locs 0 0 (zQI below D cy sh ad s [.ref (ad k0), .int p1, .int p2, .int p3] r M1) (F0 m 124 ls [.int s0]) := by
    intro  s0 M H locs ls hl hw hd
    unfold zjX11_quickest_124 at hd
    exact z_iret F hr hlk hw (zpr1 hd) (zpr2 hd) dX11_quickest_124
  have J107 : ∀ (kk55 : Int32 → Int32 → Int32 → Int32 → zMem → Option (Int32 × zMem)) (hk55 : ∀ (x4 : Int32) (x5 : Int32) (x6 : Int32) (x7 : Int32) (M : zMem) (H : Heap) (locs : List Loc) (ls : Array Slot), lv_has ls 8 [(0, .ref (ad k0)), (3, .int p3), (4, .int x4), (5, .int x5), (6, .int x6), (7, .int x7)] → zWd D cy sh ad s M H locs → kk55 x4 x5 x6 x7 M = some (r, M1) → W p l e { frames := 4, cells := 0, slots := 0, locals := 99 } s m ([.ref (ad k0), .int p1, .int p2, .int p3] : List Value).toArray below meth c H locs 0 0 (zQI below D cy sh ad s [.ref (ad k0), .int p1, .int p2, .int p3] r M1) (F0 m 55 ls [])), ∀ (x4 : Int32) (x5 : Int32) (x6 : Int32) (x7 : Int32) (M : zMem) (H : Heap) (locs : List Loc) (ls : Array Slot), lv_has ls 8 [(0, .ref (ad k0)), (3, .int p3), (4, .int x4), (5, .int x5), (6, .int x6), (7, .int x7)] → zWd D cy sh ad s M H locs → zjX11_quickest_107 sh k0 p1 p2 p3 kk55 x4 x5 x6 x7 M = some (r, M1) → W p l e { frames := 4, cells := 0, slots := 0, locals := 99 } s m ([.ref (ad k0), .int p1, .int p2, .int p3] : List Value).toArray below meth c H locs 0 0 (zQI below D cy sh ad s [.ref (ad k0), .int p1, .int p2, .int p3] r M1) (F0 m 107 ls []) := by
    intro kk55 hk55 x4 x5 x6 x7 M H locs ls hl hw hd
    unfold zjX11_quickest_107 at hd
    refine lv_iinc (v := (x7 + (1 : Int32))) (lv' := [(7, .int (x7 + (1 : Int32))), (0, .ref (ad k0)), (3, .int p3), (4, .int x4), (5, .int x5), (6, .int x6)]) hx hb dX11_quickest_107 hl (k := 5) rfl (ziinc (by decide)) (by decide) rfl (fun ls hl => ?_)
    refine lv_goto (tgt := 55) hx hb dX11_quickest_110 (by decide) ?_
    exact hk55 _ _ _ _ _ _ _ _ (lv_sub hl [1, 2, 3, 4, 5, 0] rfl) hw hd
  have J90 : ∀ (kk55 : Int32 → Int32 → Int32 → Int32 → zMem → Option (Int32 × zMem)) (hk55 : ∀ (x4 : Int32) (x5 : Int32) (x6 : Int32) (x7 : Int32) (M : zMem) (H : Heap) (locs : List Loc) (ls : Array Slot), lv_has ls 8 [(0, .ref (ad k0)), (3, .int p3), (4, .int x4), (5, .int x5), (6, .int x6), (7, .int x7)] → zWd D cy sh ad s M H locs → kk55 x4 x5 x6 x7 M = some (r, M1) → W p l e { frames := 4, cells := 0, slots := 0, locals := 99 } s m ([.ref (ad k0), .int p1, .int p2, .int p3] : List Value).toArray below meth c H locs 0 0 (zQI below D cy sh ad s [.ref (ad k0), .int p1, .int p2, .int p3] r M1) (F0 m 55 ls [])), ∀ (x4 : Int32) (x5 : Int32) (x7 : Int32) (s0 : Int32) (M : zMem) (H : Heap) (locs : List Loc) (ls : Array Slot), lv_has ls 8 [(0, .ref (ad k0)), (3, .int p3), (4, .int x4), (5, .int x5), (7, .int x7)] → zWd D cy sh ad s M H locs → zjX11_quickest_90 sh k0 p1 p2 p3 kk55 x4 x5 x7 s0 M = some (r, M1) → W p l e { frames := 4, cells := 0, slots := 0, locals := 99 } s m ([.ref (ad k0), .int p1, .int p2, .int p3] : List Value).toArray below meth c H locs 0 0 (zQI below D cy sh ad s [.ref (ad k0), .int p1, .int p2, .int p3] r M1) (F0 m 90 ls [.int s0]) := by
    intro kk55 hk55 x4 x5 x7 s0 M H locs ls hl hw hd
    unfold zjX11_quickest_90 at hd
    refine lv_istore (lv' := [(6, .int s0), (0, .ref (ad k0)), (3, .int p3), (4, .int x4), (5, .int x5), (7, .int x7)]) hx hb dX11_quickest_90 hl (by decide) rfl (fun ls hl => ?_)
    refine lv_iload hx hb dX11_quickest_92 (lv_at hl 0 rfl) ?_
    refine lv_iload hx hb dX11_quickest_94 (lv_at hl 4 rfl) ?_
    refine lv_icmp_ge (tgt := 107) hx hb dX11_quickest_96 (by decide) (fun c_1 => ?_) (fun c_1 => ?_)
    · have hd := zif_pos c_1 hd
      exact J107 _ hk55 _ _ _ _ _ _ _ _ (lv_sub hl [1, 2, 3, 4, 0, 5] rfl) hw hd
    · have hd := zif_neg c_1 hd
      refine lv_iload hx hb dX11_quickest_99 (lv_at hl 0 rfl) ?_
      refine lv_istore (lv' := [(5, .int s0), (6, .int s0), (0, .ref (ad k0)), (3, .int p3), (4, .int x4), (7, .int x7)]) hx hb dX11_quickest_101 hl (by decide) rfl (fun ls hl => ?_)
      refine lv_iload hx hb dX11_quickest_103 (lv_at hl 5 rfl) ?_
      refine lv_istore (lv' := [(4, .int x7), (5, .int s0), (6, .int s0), (0, .ref (ad k0)), (3, .int p3), (7, .int x7)]) hx hb dX11_quickest_105 hl (by decide) rfl (fun ls hl => ?_)
      exact J107 _ hk55 _ _ _ _ _ _ _ _ (lv_sub hl [3, 4, 0, 1, 2, 5] rfl) hw hd
  have L55 : ∀  (n : Nat), ∀ (x4 : Int32) (x5 : Int32) (x6 : Int32) (x7 : Int32) (M : zMem) (H : Heap) (locs : List Loc) (ls : Array Slot), lv_has ls 8 [(0, .ref (ad k0)), (3, .int p3), (4, .int x4), (5, .int x5), (6, .int x6), (7, .int x7)] → zWd D cy sh ad s M H locs → zlX11_quickest_55 sh k0 p1 p2 p3  n x4 x5 x6 x7 M = some (r, M1) → W p l e { frames := 4, cells := 0, slots := 0, locals := 99 } s m ([.ref (ad k0), .int p1, .int p2, .int p3] : List Value).toArray below meth c H locs 0 0 (zQI below D cy sh ad s [.ref (ad k0), .int p1, .int p2, .int p3] r M1) (F0 m 55 ls []) := by
    intro  n
    induction n with
    | zero => intro x4 x5 x6 x7 M H locs ls hl hw hd; exact (znone hd).elim
    | succ n hk55 =>
      intro x4 x5 x6 x7 M H locs ls hl hw hd
      have hd : zbX11_quickest_55 sh k0 p1 p2 p3  (zlX11_quickest_55 sh k0 p1 p2 p3  n) x4 x5 x6 x7 M = some (r, M1) := hd
      unfold zbX11_quickest_55 at hd
      refine lv_iload hx hb dX11_quickest_55 (lv_at hl 5 rfl) ?_
      refine lv_bipush (v := (60 : Int32)) hx hb dX11_quickest_57 (by decide) ?_
      refine lv_icmp_gt (tgt := 113) hx hb dX11_quickest_59 (by decide) (fun c_2 => ?_) (fun c_2 => ?_)
      · have hd := zif_pos c_2 hd
        refine lv_iload_n hx hb dX11_quickest_113 rfl (lv_at hl 1 rfl) ?_
        refine lv_if_ne (tgt := 122) hx hb dX11_quickest_114 (by decide) (fun c_3 => ?_) (fun c_3 => ?_)
        · have hd := zif_neg c_3 hd
          refine lv_iload hx hb dX11_quickest_122 (lv_at hl 3 rfl) ?_
          exact J124 _ _ _ _ _ (lv_sub hl [] rfl) hw hd
        · have hd := zif_pos c_3 hd
          refine lv_iload hx hb dX11_quickest_117 (lv_at hl 2 rfl) ?_
          refine lv_goto (tgt := 124) hx hb dX11_quickest_119 (by decide) ?_
          exact J124 _ _ _ _ _ (lv_sub hl [] rfl) hw hd
      · have hd := zif_neg c_2 hd
        refine lv_aload_n hx hb dX11_quickest_62 rfl (lv_at hl 0 rfl) ?_
        refine z_gR F hw h0 zc11 5 (by decide) rfl zf11_57 dX11_quickest_63 ?_
        have t_4 : zT sh (zR M k0 5) 4 := hw.2.2.2.fld h0 5 4
        refine lv_aload_n hx hb dX11_quickest_66 rfl (lv_at hl 0 rfl) ?_
        refine z_gR F hw h0 zc11 11 (by decide) rfl zf11_12 dX11_quickest_67 ?_
        have t_5 : zT sh (zR M k0 11) 1 := hw.2.2.2.fld h0 11 1
        refine lv_iload hx hb dX11_quickest_70 (lv_at hl 5 rfl) ?_
        obtain ⟨r_7, M_8, hc_6, hd⟩ := zob2_some hd
        refine z_cvI F hw hl.1 (As := [.ref (ad (zR M k0 11)), .int x7]) (rest := []) (ztX4_takeTop l D cy sh ad t_4 t_5 hc_6) zyX4_takeTop t_4 zc4 zk11_223 ⟨rfl, rfl⟩ ⟨by decide, by decide⟩ rfl rfl (Nat.le_of_ble_eq_true rfl) dX11_quickest_72 (fun H locs hw => ?_)
        refine lv_if_eq (tgt := 88) hx hb dX11_quickest_75 (by decide) (fun c_9 => ?_) (fun c_9 => ?_)
        · have hd := zif_pos c_9 hd
          refine lv_iload hx hb dX11_quickest_88 (lv_at hl 4 rfl) ?_
          exact J90 _ hk55 _ _ _ _ _ _ _ _ (lv_sub hl [0, 1, 2, 3, 5] rfl) hw hd
        · have hd := zif_neg c_9 hd
          refine lv_aload_n hx hb dX11_quickest_78 rfl (lv_at hl 0 rfl) ?_
          refine z_gR F hw h0 zc11 5 (by decide) rfl zf11_57 dX11_quickest_79 ?_
          have t_10 : zT sh (zR M_8 k0 5) 4 := hw.2.2.2.fld h0 5 4
          obtain ⟨r_12, hc_11, hd⟩ := zob_some hd
          refine z_cvI F hw hl.1 (As := []) (rest := []) (ztX4_ticks l D cy sh ad t_10 hc_11) zyX4_ticks t_10 zc4 zk11_176 ⟨rfl, rfl⟩ ⟨by decide, by decide⟩ rfl rfl (Nat.le_of_ble_eq_true rfl) dX11_quickest_82 (fun H locs hw => ?_)
          refine lv_goto (tgt := 90) hx hb dX11_quickest_85 (by decide) ?_
          exact J90 _ hk55 _ _ _ _ _ _ _ _ (lv_sub hl [0, 1, 2, 3, 5] rfl) hw hd
  unfold zX11_quickest at hd
  refine lv_aload_n hx hb dX11_quickest_0 rfl (lv_at hl 0 rfl) ?_
  refine lv_iload_n hx hb dX11_quickest_1 rfl (lv_at hl 1 rfl) ?_
  obtain ⟨r_14, hc_13, hd⟩ := zob_some hd
  refine z_cvI F hw hl.1 (As := [.int p1]) (rest := []) (ztX11_isAxis l D cy sh ad h0 hc_13) zyX11_isAxis h0 zc11 zk11_194 ⟨rfl, rfl⟩ ⟨by decide, by decide⟩ rfl rfl (Nat.le_of_ble_eq_true rfl) dX11_quickest_2 (fun H locs hw => ?_)
  refine lv_if_eq (tgt := 28) hx hb dX11_quickest_5 (by decide) (fun c_15 => ?_) (fun c_15 => ?_)
  · have hd := zif_pos c_15 hd
    exact J28 _ _ _ _ (lv_sub hl [] rfl) hw hd
  · have hd := zif_neg c_15 hd
    refine lv_iload_n hx hb dX11_quickest_8 rfl (lv_at hl 2 rfl) ?_
    refine lv_iconst (v := (1 : Int32)) hx hb dX11_quickest_9 (by decide) ?_
    refine lv_sipush (v := (30000 : Int32)) hx hb dX11_quickest_10 (by decide) ?_
    obtain ⟨r_17, hc_16, hd⟩ := zob_some hd
    refine z_csI F hw hl.1 (As := [.int p2, .int (1 : Int32), .int (30000 : Int32)]) (rest := []) (ztX11_isWithin l D cy sh ad  hc_16) zyX11_isWithin zk11_123 ⟨rfl, rfl⟩ ⟨by decide, by decide⟩ rfl rfl (Nat.le_of_ble_eq_true rfl) dX11_quickest_13 (fun H locs hw => ?_)
    refine lv_if_eq (tgt := 28) hx hb dX11_quickest_16 (by decide) (fun c_18 => ?_) (fun c_18 => ?_)
    · have hd := zif_pos c_18 hd
      exact J28 _ _ _ _ (lv_sub hl [] rfl) hw hd
    · have hd := zif_neg c_18 hd
      refine lv_iload_n hx hb dX11_quickest_19 rfl (lv_at hl 3 rfl) ?_
      refine lv_iconst (v := (0 : Int32)) hx hb dX11_quickest_20 (by decide) ?_
      refine lv_iconst (v := (1 : Int32)) hx hb dX11_quickest_21 (by decide) ?_
      obtain ⟨r_20, hc_19, hd⟩ := zob_some hd
      refine z_csI F hw hl.1 (As := [.int p3, .int (0 : Int32), .int (1 : Int32)]) (rest := []) (ztX11_isWithin l D cy sh ad  hc_19) zyX11_isWithin zk11_123 ⟨rfl, rfl⟩ ⟨by decide, by decide⟩ rfl rfl (Nat.le_of_ble_eq_true rfl) dX11_quickest_22 (fun H locs hw => ?_)
      refine lv_if_ne (tgt := 30) hx hb dX11_quickest_25 (by decide) (fun c_21 => ?_) (fun c_21 => ?_)
      · have hd := zif_neg c_21 hd
        refine lv_iconst (v := (-1 : Int32)) hx hb dX11_quickest_30 (by decide) ?_
        refine lv_istore (lv' := [(4, .int (-1 : Int32)), (0, .ref (ad k0)), (1, .int p1), (2, .int p2), (3, .int p3)]) hx hb dX11_quickest_31 hl (by decide) rfl (fun ls hl => ?_)
        refine lv_ldc (v := (2147483647 : Int32)) hx hb F.1.2.2.2.1 (F.1.2.2.2.2 _ zi11_250) dX11_quickest_33 ?_
        refine lv_istore (lv' := [(5, .int (2147483647 : Int32)), (4, .int (-1 : Int32)), (0, .ref (ad k0)), (1, .int p1), (2, .int p2), (3, .int p3)]) hx hb dX11_quickest_35 hl (by decide) rfl (fun ls hl => ?_)
        refine lv_aload_n hx hb dX11_quickest_37 rfl (lv_at hl 2 rfl) ?_
        refine z_gR F hw h0 zc11 5 (by decide) rfl zf11_57 dX11_quickest_38 ?_
        have t_22 : zT sh (zR M k0 5) 4 := hw.2.2.2.fld h0 5 4
        refine lv_aload_n hx hb dX11_quickest_41 rfl (lv_at hl 2 rfl) ?_
        refine z_gR F hw h0 zc11 11 (by decide) rfl zf11_12 dX11_quickest_42 ?_
        have t_23 : zT sh (zR M k0 11) 1 := hw.2.2.2.fld h0 11 1
        refine lv_iload_n hx hb dX11_quickest_45 rfl (lv_at hl 3 rfl) ?_
        refine lv_iload_n hx hb dX11_quickest_46 rfl (lv_at hl 4 rfl) ?_
        obtain ⟨r_25, M_26, hc_24, hd⟩ := zob2_some hd
        refine z_cvI F hw hl.1 (As := [.ref (ad (zR M k0 11)), .int p1, .int p2]) (rest := []) (ztX4_startAlone l D cy sh ad t_22 t_23 hc_24) zyX4_startAlone t_22 zc4 zk11_219 ⟨rfl, rfl⟩ ⟨by decide, by decide⟩ rfl rfl (Nat.le_of_ble_eq_true rfl) dX11_quickest_47 (fun H locs hw => ?_)
        refine lv_istore (lv' := [(6, .int r_25), (5, .int (2147483647 : Int32)), (4, .int (-1 : Int32)), (0, .ref (ad k0)), (1, .int p1), (2, .int p2), (3, .int p3)]) hx hb dX11_quickest_50 hl (by decide) rfl (fun ls hl => ?_)
        refine lv_iconst (v := (1 : Int32)) hx hb dX11_quickest_52 (by decide) ?_
        refine lv_istore (lv' := [(7, .int (1 : Int32)), (6, .int r_25), (5, .int (2147483647 : Int32)), (4, .int (-1 : Int32)), (0, .ref (ad k0)), (1, .int p1), (2, .int p2), (3, .int p3)]) hx hb dX11_quickest_53 hl (by decide) rfl (fun ls hl => ?_)
        exact L55 zF _ _ _ _ _ _ _ _ (lv_sub hl [4, 7, 3, 2, 1, 0] rfl) hw hd
      · have hd := zif_pos c_21 hd
        exact J28 _ _ _ _ (lv_sub hl [] rfl) hw hd
