/-! what each instruction decodes to (printed by TURN) -/
theorem dX12_days_84 : decode cX12_days 84 = .ok (.aload_n 0, 1) := by decide +kernel
theorem dX12_days_85 : decode cX12_days 85 = .ok (.getfield 7, 3) := by decide +kernel
theorem dX12_days_88 : decode cX12_days 88 = .ok (.bipush 9, 2) := by decide +kernel
theorem dX12_days_90 : decode cX12_days 90 = .ok (.aload_n 0, 1) := by decide +kernel
theorem dX12_days_91 : decode cX12_days 91 = .ok (.getfield 7, 3) := by decide +kernel
theorem dX12_days_94 : decode cX12_days 94 = .ok (.sipush 5609, 3) := by decide +kernel
theorem dX12_days_97 : decode cX12_days 97 = .ok (.iaload, 1) := by decide +kernel
theorem dX12_days_98 : decode cX12_days 98 = .ok (.iastore, 1) := by decide +kernel
theorem dX12_days_99 : decode cX12_days 99 = .ok (.sipush 1030, 3) := by decide +kernel
theorem dX12_days_102 : decode cX12_days 102 = .ok (.istore_n 3, 1) := by decide +kernel
theorem dX12_days_103 : decode cX12_days 103 = .ok (.iload_n 3, 1) := by decide +kernel
theorem dX12_days_104 : decode cX12_days 104 = .ok (.sipush 1395, 3) := by decide +kernel
theorem dX12_days_107 : decode cX12_days 107 = .ok (.if_icmp .ge 25, 3) := by decide +kernel
theorem dX12_days_110 : decode cX12_days 110 = .ok (.aload_n 0, 1) := by decide +kernel
theorem dX12_days_111 : decode cX12_days 111 = .ok (.getfield 7, 3) := by decide +kernel
theorem dX12_days_114 : decode cX12_days 114 = .ok (.iload_n 3, 1) := by decide +kernel
theorem dX12_days_115 : decode cX12_days 115 = .ok (.aload_n 0, 1) := by decide +kernel
theorem dX12_days_116 : decode cX12_days 116 = .ok (.getfield 7, 3) := by decide +kernel
theorem dX12_days_119 : decode cX12_days 119 = .ok (.sipush 5600, 3) := by decide +kernel
theorem dX12_days_122 : decode cX12_days 122 = .ok (.iload_n 3, 1) := by decide +kernel
theorem dX12_days_123 : decode cX12_days 123 = .ok (.iadd, 1) := by decide +kernel
theorem dX12_days_124 : decode cX12_days 124 = .ok (.iaload, 1) := by decide +kernel
theorem dX12_days_125 : decode cX12_days 125 = .ok (.iastore, 1) := by decide +kernel
theorem dX12_days_126 : decode cX12_days 126 = .ok (.iinc 3 1, 3) := by decide +kernel
theorem dX12_days_129 : decode cX12_days 129 = .ok (.goto (-26), 3) := by decide +kernel
theorem dX12_days_132 : decode cX12_days 132 = .ok (.aload_n 0, 1) := by decide +kernel
theorem dX12_days_133 : decode cX12_days 133 = .ok (.aload_n 0, 1) := by decide +kernel
theorem dX12_days_134 : decode cX12_days 134 = .ok (.getfield 256, 3) := by decide +kernel
theorem dX12_days_137 : decode cX12_days 137 = .ok (.invokevirtual 241, 3) := by decide +kernel
theorem dX12_days_140 : decode cX12_days 140 = .ok (.ireturn, 1) := by decide +kernel
theorem dX12_duels_0 : decode cX12_duels 0 = .ok (.iconst 0, 1) := by decide +kernel
theorem dX12_duels_1 : decode cX12_duels 1 = .ok (.istore_n 1, 1) := by decide +kernel
theorem dX12_duels_2 : decode cX12_duels 2 = .ok (.iconst 0, 1) := by decide +kernel
theorem dX12_duels_3 : decode cX12_duels 3 = .ok (.istore_n 2, 1) := by decide +kernel
theorem dX12_duels_4 : decode cX12_duels 4 = .ok (.iload_n 2, 1) := by decide +kernel
theorem dX12_duels_5 : decode cX12_duels 5 = .ok (.aload_n 0, 1) := by decide +kernel
theorem dX12_duels_6 : decode cX12_duels 6 = .ok (.getfield 7, 3) := by decide +kernel
theorem dX12_duels_9 : decode cX12_duels 9 = .ok (.iconst 2, 1) := by decide +kernel
theorem dX12_duels_10 : decode cX12_duels 10 = .ok (.iaload, 1) := by decide +kernel
theorem dX12_duels_11 : decode cX12_duels 11 = .ok (.if_icmp .ge 31, 3) := by decide +kernel
theorem dX12_duels_14 : decode cX12_duels 14 = .ok (.iload_n 1, 1) := by decide +kernel
theorem dX12_duels_15 : decode cX12_duels 15 = .ok (.aload_n 0, 1) := by decide +kernel
theorem dX12_duels_16 : decode cX12_duels 16 = .ok (.iload_n 2, 1) := by decide +kernel
theorem dX12_duels_17 : decode cX12_duels 17 = .ok (.invokevirtual 337, 3) := by decide +kernel
theorem dX12_duels_20 : decode cX12_duels 20 = .ok (.invokestatic 340, 3) := by decide +kernel
theorem dX12_duels_23 : decode cX12_duels 23 = .ok (.iconst 1, 1) := by decide +kernel
theorem dX12_duels_24 : decode cX12_duels 24 = .ok (.if_icmp .le 9, 3) := by decide +kernel
theorem dX12_duels_27 : decode cX12_duels 27 = .ok (.iconst 1, 1) := by decide +kernel
theorem dX12_duels_28 : decode cX12_duels 28 = .ok (.iload_n 2, 1) := by decide +kernel
theorem dX12_duels_29 : decode cX12_duels 29 = .ok (.ishl, 1) := by decide +kernel
theorem dX12_duels_30 : decode cX12_duels 30 = .ok (.goto 4, 3) := by decide +kernel
theorem dX12_duels_33 : decode cX12_duels 33 = .ok (.iconst 0, 1) := by decide +kernel
theorem dX12_duels_34 : decode cX12_duels 34 = .ok (.ior, 1) := by decide +kernel
theorem dX12_duels_35 : decode cX12_duels 35 = .ok (.istore_n 1, 1) := by decide +kernel
theorem dX12_duels_36 : decode cX12_duels 36 = .ok (.iinc 2 1, 3) := by decide +kernel
theorem dX12_duels_39 : decode cX12_duels 39 = .ok (.goto (-35), 3) := by decide +kernel
theorem dX12_duels_42 : decode cX12_duels 42 = .ok (.aload_n 0, 1) := by decide +kernel
theorem dX12_duels_43 : decode cX12_duels 43 = .ok (.iload_n 1, 1) := by decide +kernel
theorem dX12_duels_44 : decode cX12_duels 44 = .ok (.invokevirtual 82, 3) := by decide +kernel
theorem dX12_duels_47 : decode cX12_duels 47 = .ok (.ireturn, 1) := by decide +kernel
theorem dX12_stepsTo_0 : decode cX12_stepsTo 0 = .ok (.aload_n 0, 1) := by decide +kernel
theorem dX12_stepsTo_1 : decode cX12_stepsTo 1 = .ok (.getfield 7, 3) := by decide +kernel
theorem dX12_stepsTo_4 : decode cX12_stepsTo 4 = .ok (.iload_n 1, 1) := by decide +kernel
theorem dX12_stepsTo_5 : decode cX12_stepsTo 5 = .ok (.invokestatic 274, 3) := by decide +kernel
theorem dX12_stepsTo_8 : decode cX12_stepsTo 8 = .ok (.iconst 1, 1) := by decide +kernel
theorem dX12_stepsTo_9 : decode cX12_stepsTo 9 = .ok (.iadd, 1) := by decide +kernel
theorem dX12_stepsTo_10 : decode cX12_stepsTo 10 = .ok (.iaload, 1) := by decide +kernel
theorem dX12_stepsTo_11 : decode cX12_stepsTo 11 = .ok (.aload_n 0, 1) := by decide +kernel
theorem dX12_stepsTo_12 : decode cX12_stepsTo 12 = .ok (.getfield 7, 3) := by decide +kernel
theorem dX12_stepsTo_15 : decode cX12_stepsTo 15 = .ok (.iload_n 1, 1) := by decide +kernel
theorem dX12_stepsTo_16 : decode cX12_stepsTo 16 = .ok (.invokestatic 274, 3) := by decide +kernel
theorem dX12_stepsTo_19 : decode cX12_stepsTo 19 = .ok (.iaload, 1) := by decide +kernel
theorem dX12_stepsTo_20 : decode cX12_stepsTo 20 = .ok (.iload_n 2, 1) := by decide +kernel
theorem dX12_stepsTo_21 : decode cX12_stepsTo 21 = .ok (.isub, 1) := by decide +kernel
theorem dX12_stepsTo_22 : decode cX12_stepsTo 22 = .ok (.invokestatic 280, 3) := by decide +kernel
theorem dX12_stepsTo_25 : decode cX12_stepsTo 25 = .ok (.imul, 1) := by decide +kernel
theorem dX12_stepsTo_26 : decode cX12_stepsTo 26 = .ok (.ireturn, 1) := by decide +kernel
theorem dX12_farthest_0 : decode cX12_farthest 0 = .ok (.aload_n 0, 1) := by decide +kernel
theorem dX12_farthest_1 : decode cX12_farthest 1 = .ok (.iload_n 1, 1) := by decide +kernel
theorem dX12_farthest_2 : decode cX12_farthest 2 = .ok (.invokevirtual 271, 3) := by decide +kernel
theorem dX12_farthest_5 : decode cX12_farthest 5 = .ok (.ifCond .ne 9, 3) := by decide +kernel
theorem dX12_farthest_8 : decode cX12_farthest 8 = .ok (.aload_n 0, 1) := by decide +kernel
theorem dX12_farthest_9 : decode cX12_farthest 9 = .ok (.iconst 1, 1) := by decide +kernel
theorem dX12_farthest_10 : decode cX12_farthest 10 = .ok (.invokevirtual 78, 3) := by decide +kernel
theorem dX12_farthest_13 : decode cX12_farthest 13 = .ok (.ireturn, 1) := by decide +kernel
theorem dX12_farthest_14 : decode cX12_farthest 14 = .ok (.iconst (-1), 1) := by decide +kernel
theorem dX12_farthest_15 : decode cX12_farthest 15 = .ok (.istore_n 2, 1) := by decide +kernel
theorem dX12_farthest_16 : decode cX12_farthest 16 = .ok (.iconst (-1), 1) := by decide +kernel
theorem dX12_farthest_17 : decode cX12_farthest 17 = .ok (.istore_n 3, 1) := by decide +kernel
theorem dX12_farthest_18 : decode cX12_farthest 18 = .ok (.iconst 0, 1) := by decide +kernel
theorem dX12_farthest_19 : decode cX12_farthest 19 = .ok (.istore 4, 2) := by decide +kernel
theorem dX12_farthest_21 : decode cX12_farthest 21 = .ok (.iload 4, 2) := by decide +kernel
theorem dX12_farthest_23 : decode cX12_farthest 23 = .ok (.aload_n 0, 1) := by decide +kernel
theorem dX12_farthest_24 : decode cX12_farthest 24 = .ok (.getfield 7, 3) := by decide +kernel
theorem dX12_farthest_27 : decode cX12_farthest 27 = .ok (.iconst 2, 1) := by decide +kernel
theorem dX12_farthest_28 : decode cX12_farthest 28 = .ok (.iaload, 1) := by decide +kernel
theorem dX12_farthest_29 : decode cX12_farthest 29 = .ok (.if_icmp .ge 51, 3) := by decide +kernel
theorem dX12_farthest_32 : decode cX12_farthest 32 = .ok (.aload_n 0, 1) := by decide +kernel
theorem dX12_farthest_33 : decode cX12_farthest 33 = .ok (.iload_n 1, 1) := by decide +kernel
theorem dX12_farthest_34 : decode cX12_farthest 34 = .ok (.aload_n 0, 1) := by decide +kernel
theorem dX12_farthest_35 : decode cX12_farthest 35 = .ok (.getfield 7, 3) := by decide +kernel
theorem dX12_farthest_38 : decode cX12_farthest 38 = .ok (.iconst 0, 1) := by decide +kernel
theorem dX12_farthest_39 : decode cX12_farthest 39 = .ok (.iload 4, 2) := by decide +kernel
theorem dX12_farthest_41 : decode cX12_farthest 41 = .ok (.invokestatic 171, 3) := by decide +kernel
theorem dX12_farthest_44 : decode cX12_farthest 44 = .ok (.iaload, 1) := by decide +kernel
theorem dX12_farthest_45 : decode cX12_farthest 45 = .ok (.invokevirtual 283, 3) := by decide +kernel
theorem dX12_farthest_48 : decode cX12_farthest 48 = .ok (.istore 5, 2) := by decide +kernel
theorem dX12_farthest_50 : decode cX12_farthest 50 = .ok (.aload_n 0, 1) := by decide +kernel
theorem dX12_farthest_51 : decode cX12_farthest 51 = .ok (.iload 4, 2) := by decide +kernel
theorem dX12_farthest_53 : decode cX12_farthest 53 = .ok (.invokevirtual 268, 3) := by decide +kernel
theorem dX12_farthest_56 : decode cX12_farthest 56 = .ok (.ifCond .eq 18, 3) := by decide +kernel
theorem dX12_farthest_59 : decode cX12_farthest 59 = .ok (.iload 5, 2) := by decide +kernel
theorem dX12_farthest_61 : decode cX12_farthest 61 = .ok (.iload_n 3, 1) := by decide +kernel
theorem dX12_farthest_62 : decode cX12_farthest 62 = .ok (.if_icmp .gt 6, 3) := by decide +kernel
theorem dX12_farthest_65 : decode cX12_farthest 65 = .ok (.goto 9, 3) := by decide +kernel
theorem dX12_farthest_68 : decode cX12_farthest 68 = .ok (.iload 5, 2) := by decide +kernel
theorem dX12_farthest_70 : decode cX12_farthest 70 = .ok (.istore_n 3, 1) := by decide +kernel
theorem dX12_farthest_71 : decode cX12_farthest 71 = .ok (.iload 4, 2) := by decide +kernel
theorem dX12_farthest_73 : decode cX12_farthest 73 = .ok (.istore_n 2, 1) := by decide +kernel
theorem dX12_farthest_74 : decode cX12_farthest 74 = .ok (.iinc 4 1, 3) := by decide +kernel
theorem dX12_farthest_77 : decode cX12_farthest 77 = .ok (.goto (-56), 3) := by decide +kernel
theorem dX12_farthest_80 : decode cX12_farthest 80 = .ok (.aload_n 0, 1) := by decide +kernel
theorem dX12_farthest_81 : decode cX12_farthest 81 = .ok (.iload_n 2, 1) := by decide +kernel
theorem dX12_farthest_82 : decode cX12_farthest 82 = .ok (.invokevirtual 358, 3) := by decide +kernel
theorem dX12_farthest_85 : decode cX12_farthest 85 = .ok (.ireturn, 1) := by decide +kernel
theorem dX12_fault_0 : decode cX12_fault 0 = .ok (.iload_n 1, 1) := by decide +kernel
theorem dX12_fault_1 : decode cX12_fault 1 = .ok (.ifCond .ne 10, 3) := by decide +kernel
theorem dX12_fault_4 : decode cX12_fault 4 = .ok (.aload_n 0, 1) := by decide +kernel
theorem dX12_fault_5 : decode cX12_fault 5 = .ok (.getfield 37, 3) := by decide +kernel
theorem dX12_fault_8 : decode cX12_fault 8 = .ok (.goto 16, 3) := by decide +kernel
theorem dX12_fault_11 : decode cX12_fault 11 = .ok (.iload_n 1, 1) := by decide +kernel
theorem dX12_fault_12 : decode cX12_fault 12 = .ok (.iconst 1, 1) := by decide +kernel
theorem dX12_fault_13 : decode cX12_fault 13 = .ok (.if_icmp .ne 10, 3) := by decide +kernel
theorem dX12_fault_16 : decode cX12_fault 16 = .ok (.aload_n 0, 1) := by decide +kernel
theorem dX12_fault_17 : decode cX12_fault 17 = .ok (.getfield 41, 3) := by decide +kernel
theorem dX12_fault_20 : decode cX12_fault 20 = .ok (.goto 4, 3) := by decide +kernel
theorem dX12_fault_23 : decode cX12_fault 23 = .ok (.iconst (-1), 1) := by decide +kernel
theorem dX12_fault_24 : decode cX12_fault 24 = .ok (.ireturn, 1) := by decide +kernel
theorem dX12_four_0 : decode cX12_four 0 = .ok (.bipush 24, 2) := by decide +kernel
theorem dX12_four_2 : decode cX12_four 2 = .ok (.istore_n 2, 1) := by decide +kernel
theorem dX12_four_3 : decode cX12_four 3 = .ok (.iload_n 2, 1) := by decide +kernel
theorem dX12_four_4 : decode cX12_four 4 = .ok (.ifCond .lt 32, 3) := by decide +kernel
theorem dX12_four_7 : decode cX12_four 7 = .ok (.aload_n 0, 1) := by decide +kernel
theorem dX12_four_8 : decode cX12_four 8 = .ok (.getfield 30, 3) := by decide +kernel
theorem dX12_four_11 : decode cX12_four 11 = .ok (.aload_n 0, 1) := by decide +kernel
theorem dX12_four_12 : decode cX12_four 12 = .ok (.getfield 102, 3) := by decide +kernel
theorem dX12_four_15 : decode cX12_four 15 = .ok (.iload_n 1, 1) := by decide +kernel
theorem dX12_four_16 : decode cX12_four 16 = .ok (.iload_n 2, 1) := by decide +kernel
theorem dX12_four_17 : decode cX12_four 17 = .ok (.ishr, 1) := by decide +kernel
theorem dX12_four_18 : decode cX12_four 18 = .ok (.i2b, 1) := by decide +kernel
theorem dX12_four_19 : decode cX12_four 19 = .ok (.bastore, 1) := by decide +kernel
theorem dX12_four_20 : decode cX12_four 20 = .ok (.aload_n 0, 1) := by decide +kernel
theorem dX12_four_21 : decode cX12_four 21 = .ok (.dup, 1) := by decide +kernel
theorem dX12_four_22 : decode cX12_four 22 = .ok (.getfield 102, 3) := by decide +kernel
theorem dX12_four_25 : decode cX12_four 25 = .ok (.iconst 1, 1) := by decide +kernel
theorem dX12_four_26 : decode cX12_four 26 = .ok (.iadd, 1) := by decide +kernel
theorem dX12_four_27 : decode cX12_four 27 = .ok (.putfield 102, 3) := by decide +kernel
theorem dX12_four_30 : decode cX12_four 30 = .ok (.iinc 2 (-8), 3) := by decide +kernel
theorem dX12_four_33 : decode cX12_four 33 = .ok (.goto (-30), 3) := by decide +kernel
theorem dX12_four_36 : decode cX12_four 36 = .ok (.return_, 1) := by decide +kernel
theorem dX12_feed_0 : decode cX12_feed 0 = .ok (.aload_n 0, 1) := by decide +kernel
theorem dX12_feed_1 : decode cX12_feed 1 = .ok (.getfield 102, 3) := by decide +kernel
theorem dX12_feed_4 : decode cX12_feed 4 = .ok (.bipush 20, 2) := by decide +kernel
theorem dX12_feed_6 : decode cX12_feed 6 = .ok (.iadd, 1) := by decide +kernel
theorem dX12_feed_7 : decode cX12_feed 7 = .ok (.sipush 900, 3) := by decide +kernel
theorem dX12_feed_10 : decode cX12_feed 10 = .ok (.if_icmp .le 5, 3) := by decide +kernel
theorem dX12_feed_13 : decode cX12_feed 13 = .ok (.iconst (-1), 1) := by decide +kernel
theorem dX12_feed_14 : decode cX12_feed 14 = .ok (.ireturn, 1) := by decide +kernel
theorem dX12_feed_15 : decode cX12_feed 15 = .ok (.aload_n 0, 1) := by decide +kernel
theorem dX12_feed_16 : decode cX12_feed 16 = .ok (.iload_n 1, 1) := by decide +kernel
theorem dX12_feed_17 : decode cX12_feed 17 = .ok (.invokevirtual 105, 3) := by decide +kernel
theorem dX12_feed_20 : decode cX12_feed 20 = .ok (.aload_n 0, 1) := by decide +kernel
theorem dX12_feed_21 : decode cX12_feed 21 = .ok (.iload_n 2, 1) := by decide +kernel
theorem dX12_feed_22 : decode cX12_feed 22 = .ok (.invokevirtual 105, 3) := by decide +kernel
theorem dX12_feed_25 : decode cX12_feed 25 = .ok (.aload_n 0, 1) := by decide +kernel
theorem dX12_feed_26 : decode cX12_feed 26 = .ok (.iload_n 3, 1) := by decide +kernel
theorem dX12_feed_27 : decode cX12_feed 27 = .ok (.invokevirtual 105, 3) := by decide +kernel
theorem dX12_feed_30 : decode cX12_feed 30 = .ok (.aload_n 0, 1) := by decide +kernel
theorem dX12_feed_31 : decode cX12_feed 31 = .ok (.iload 4, 2) := by decide +kernel
theorem dX12_feed_33 : decode cX12_feed 33 = .ok (.invokevirtual 105, 3) := by decide +kernel
theorem dX12_feed_36 : decode cX12_feed 36 = .ok (.aload_n 0, 1) := by decide +kernel
theorem dX12_feed_37 : decode cX12_feed 37 = .ok (.iload 5, 2) := by decide +kernel
theorem dX12_feed_39 : decode cX12_feed 39 = .ok (.invokevirtual 105, 3) := by decide +kernel
theorem dX12_feed_42 : decode cX12_feed 42 = .ok (.aload_n 0, 1) := by decide +kernel
theorem dX12_feed_43 : decode cX12_feed 43 = .ok (.getfield 102, 3) := by decide +kernel
theorem dX12_feed_46 : decode cX12_feed 46 = .ok (.ireturn, 1) := by decide +kernel
theorem dX12_isFind_0 : decode cX12_isFind 0 = .ok (.iload_n 1, 1) := by decide +kernel
theorem dX12_isFind_1 : decode cX12_isFind 1 = .ok (.ifCond .lt 17, 3) := by decide +kernel
theorem dX12_isFind_4 : decode cX12_isFind 4 = .ok (.iload_n 1, 1) := by decide +kernel
theorem dX12_isFind_5 : decode cX12_isFind 5 = .ok (.aload_n 0, 1) := by decide +kernel
theorem dX12_isFind_6 : decode cX12_isFind 6 = .ok (.getfield 7, 3) := by decide +kernel
theorem dX12_isFind_9 : decode cX12_isFind 9 = .ok (.iconst 2, 1) := by decide +kernel
theorem dX12_isFind_10 : decode cX12_isFind 10 = .ok (.iaload, 1) := by decide +kernel
theorem dX12_isFind_11 : decode cX12_isFind 11 = .ok (.if_icmp .ge 7, 3) := by decide +kernel
theorem dX12_isFind_14 : decode cX12_isFind 14 = .ok (.iconst 1, 1) := by decide +kernel
theorem dX12_isFind_15 : decode cX12_isFind 15 = .ok (.goto 4, 3) := by decide +kernel
theorem dX12_isFind_18 : decode cX12_isFind 18 = .ok (.iconst 0, 1) := by decide +kernel
theorem dX12_isFind_19 : decode cX12_isFind 19 = .ok (.ireturn, 1) := by decide +kernel
theorem dX12_find_0 : decode cX12_find 0 = .ok (.aload_n 0, 1) := by decide +kernel
theorem dX12_find_1 : decode cX12_find 1 = .ok (.iload_n 1, 1) := by decide +kernel
theorem dX12_find_2 : decode cX12_find 2 = .ok (.invokevirtual 265, 3) := by decide +kernel
theorem dX12_find_5 : decode cX12_find 5 = .ok (.ifCond .eq 31, 3) := by decide +kernel
theorem dX12_find_8 : decode cX12_find 8 = .ok (.iload_n 2, 1) := by decide +kernel
theorem dX12_find_9 : decode cX12_find 9 = .ok (.ifCond .lt 27, 3) := by decide +kernel
theorem dX12_find_12 : decode cX12_find 12 = .ok (.iload_n 2, 1) := by decide +kernel
theorem dX12_find_13 : decode cX12_find 13 = .ok (.iconst 2, 1) := by decide +kernel
theorem dX12_find_14 : decode cX12_find 14 = .ok (.if_icmp .gt 22, 3) := by decide +kernel
theorem dX12_find_17 : decode cX12_find 17 = .ok (.aload_n 0, 1) := by decide +kernel
theorem dX12_find_18 : decode cX12_find 18 = .ok (.aload_n 0, 1) := by decide +kernel
theorem dX12_find_19 : decode cX12_find 19 = .ok (.getfield 7, 3) := by decide +kernel
theorem dX12_find_22 : decode cX12_find 22 = .ok (.iconst 0, 1) := by decide +kernel
theorem dX12_find_23 : decode cX12_find 23 = .ok (.iload_n 1, 1) := by decide +kernel
theorem dX12_find_24 : decode cX12_find 24 = .ok (.invokestatic 171, 3) := by decide +kernel
theorem dX12_find_27 : decode cX12_find 27 = .ok (.iload_n 2, 1) := by decide +kernel
theorem dX12_find_28 : decode cX12_find 28 = .ok (.iadd, 1) := by decide +kernel
theorem dX12_find_29 : decode cX12_find 29 = .ok (.iaload, 1) := by decide +kernel
theorem dX12_find_30 : decode cX12_find 30 = .ok (.invokevirtual 82, 3) := by decide +kernel
theorem dX12_find_33 : decode cX12_find 33 = .ok (.goto 8, 3) := by decide +kernel
theorem dX12_find_36 : decode cX12_find 36 = .ok (.aload_n 0, 1) := by decide +kernel
theorem dX12_find_37 : decode cX12_find 37 = .ok (.iconst 1, 1) := by decide +kernel
theorem dX12_find_38 : decode cX12_find 38 = .ok (.invokevirtual 78, 3) := by decide +kernel
theorem dX12_find_41 : decode cX12_find 41 = .ok (.ireturn, 1) := by decide +kernel
theorem dX12_finder_0 : decode cX12_finder 0 = .ok (.aload_n 0, 1) := by decide +kernel
theorem dX12_finder_1 : decode cX12_finder 1 = .ok (.iload_n 1, 1) := by decide +kernel
theorem dX12_finder_2 : decode cX12_finder 2 = .ok (.invokevirtual 271, 3) := by decide +kernel
theorem dX12_finder_5 : decode cX12_finder 5 = .ok (.ifCond .eq 30, 3) := by decide +kernel
theorem dX12_finder_8 : decode cX12_finder 8 = .ok (.iload_n 2, 1) := by decide +kernel
theorem dX12_finder_9 : decode cX12_finder 9 = .ok (.ifCond .lt 26, 3) := by decide +kernel
theorem dX12_finder_12 : decode cX12_finder 12 = .ok (.iload_n 2, 1) := by decide +kernel
theorem dX12_finder_13 : decode cX12_finder 13 = .ok (.iconst 4, 1) := by decide +kernel
theorem dX12_finder_14 : decode cX12_finder 14 = .ok (.if_icmp .gt 21, 3) := by decide +kernel
theorem dX12_finder_17 : decode cX12_finder 17 = .ok (.aload_n 0, 1) := by decide +kernel
theorem dX12_finder_18 : decode cX12_finder 18 = .ok (.aload_n 0, 1) := by decide +kernel
theorem dX12_finder_19 : decode cX12_finder 19 = .ok (.getfield 7, 3) := by decide +kernel
theorem dX12_finder_22 : decode cX12_finder 22 = .ok (.iload_n 1, 1) := by decide +kernel
theorem dX12_finder_23 : decode cX12_finder 23 = .ok (.invokestatic 274, 3) := by decide +kernel
theorem dX12_finder_26 : decode cX12_finder 26 = .ok (.iload_n 2, 1) := by decide +kernel
theorem dX12_finder_27 : decode cX12_finder 27 = .ok (.iadd, 1) := by decide +kernel
theorem dX12_finder_28 : decode cX12_finder 28 = .ok (.iaload, 1) := by decide +kernel
theorem dX12_finder_29 : decode cX12_finder 29 = .ok (.invokevirtual 82, 3) := by decide +kernel
theorem dX12_finder_32 : decode cX12_finder 32 = .ok (.goto 8, 3) := by decide +kernel
theorem dX12_finder_35 : decode cX12_finder 35 = .ok (.aload_n 0, 1) := by decide +kernel
theorem dX12_finder_36 : decode cX12_finder 36 = .ok (.iconst 1, 1) := by decide +kernel
theorem dX12_finder_37 : decode cX12_finder 37 = .ok (.invokevirtual 78, 3) := by decide +kernel
theorem dX12_finder_40 : decode cX12_finder 40 = .ok (.ireturn, 1) := by decide +kernel
theorem dX12_soonestOf_0 : decode cX12_soonestOf 0 = .ok (.aload_n 0, 1) := by decide +kernel
theorem dX12_soonestOf_1 : decode cX12_soonestOf 1 = .ok (.iload_n 2, 1) := by decide +kernel
theorem dX12_soonestOf_2 : decode cX12_soonestOf 2 = .ok (.invokevirtual 268, 3) := by decide +kernel
theorem dX12_soonestOf_5 : decode cX12_soonestOf 5 = .ok (.ifCond .eq 17, 3) := by decide +kernel
theorem dX12_soonestOf_8 : decode cX12_soonestOf 8 = .ok (.aload_n 0, 1) := by decide +kernel
theorem dX12_soonestOf_9 : decode cX12_soonestOf 9 = .ok (.getfield 7, 3) := by decide +kernel
theorem dX12_soonestOf_12 : decode cX12_soonestOf 12 = .ok (.iload_n 1, 1) := by decide +kernel
theorem dX12_soonestOf_13 : decode cX12_soonestOf 13 = .ok (.invokestatic 274, 3) := by decide +kernel
theorem dX12_soonestOf_16 : decode cX12_soonestOf 16 = .ok (.iconst 2, 1) := by decide +kernel
theorem dX12_soonestOf_17 : decode cX12_soonestOf 17 = .ok (.iadd, 1) := by decide +kernel
theorem dX12_soonestOf_18 : decode cX12_soonestOf 18 = .ok (.iaload, 1) := by decide +kernel
theorem dX12_soonestOf_19 : decode cX12_soonestOf 19 = .ok (.ifCond .ne 5, 3) := by decide +kernel
theorem dX12_soonestOf_22 : decode cX12_soonestOf 22 = .ok (.iconst (-1), 1) := by decide +kernel
theorem dX12_soonestOf_23 : decode cX12_soonestOf 23 = .ok (.ireturn, 1) := by decide +kernel
theorem dX12_soonestOf_24 : decode cX12_soonestOf 24 = .ok (.aload_n 0, 1) := by decide +kernel
theorem dX12_soonestOf_25 : decode cX12_soonestOf 25 = .ok (.getfield 7, 3) := by decide +kernel
theorem dX12_soonestOf_28 : decode cX12_soonestOf 28 = .ok (.iload_n 1, 1) := by decide +kernel
theorem dX12_soonestOf_29 : decode cX12_soonestOf 29 = .ok (.invokestatic 274, 3) := by decide +kernel
theorem dX12_soonestOf_32 : decode cX12_soonestOf 32 = .ok (.iconst 3, 1) := by decide +kernel
theorem dX12_soonestOf_33 : decode cX12_soonestOf 33 = .ok (.iadd, 1) := by decide +kernel
theorem dX12_soonestOf_34 : decode cX12_soonestOf 34 = .ok (.iaload, 1) := by decide +kernel
theorem dX12_soonestOf_35 : decode cX12_soonestOf 35 = .ok (.aload_n 0, 1) := by decide +kernel
theorem dX12_soonestOf_36 : decode cX12_soonestOf 36 = .ok (.iload_n 1, 1) := by decide +kernel
theorem dX12_soonestOf_37 : decode cX12_soonestOf 37 = .ok (.aload_n 0, 1) := by decide +kernel
theorem dX12_soonestOf_38 : decode cX12_soonestOf 38 = .ok (.getfield 7, 3) := by decide +kernel
theorem dX12_soonestOf_41 : decode cX12_soonestOf 41 = .ok (.iconst 0, 1) := by decide +kernel
theorem dX12_soonestOf_42 : decode cX12_soonestOf 42 = .ok (.iload_n 2, 1) := by decide +kernel
theorem dX12_soonestOf_43 : decode cX12_soonestOf 43 = .ok (.invokestatic 171, 3) := by decide +kernel
theorem dX12_soonestOf_46 : decode cX12_soonestOf 46 = .ok (.iaload, 1) := by decide +kernel
theorem dX12_soonestOf_47 : decode cX12_soonestOf 47 = .ok (.invokevirtual 283, 3) := by decide +kernel
theorem dX12_soonestOf_50 : decode cX12_soonestOf 50 = .ok (.iadd, 1) := by decide +kernel
theorem dX12_soonestOf_51 : decode cX12_soonestOf 51 = .ok (.aload_n 0, 1) := by decide +kernel
theorem dX12_soonestOf_52 : decode cX12_soonestOf 52 = .ok (.iload_n 1, 1) := by decide +kernel
theorem dX12_soonestOf_53 : decode cX12_soonestOf 53 = .ok (.iload_n 2, 1) := by decide +kernel
theorem dX12_soonestOf_54 : decode cX12_soonestOf 54 = .ok (.invokevirtual 387, 3) := by decide +kernel
theorem dX12_soonestOf_57 : decode cX12_soonestOf 57 = .ok (.invokestatic 375, 3) := by decide +kernel
theorem dX12_soonestOf_60 : decode cX12_soonestOf 60 = .ok (.istore_n 3, 1) := by decide +kernel
theorem dX12_soonestOf_61 : decode cX12_soonestOf 61 = .ok (.iload_n 3, 1) := by decide +kernel
theorem dX12_soonestOf_62 : decode cX12_soonestOf 62 = .ok (.aload_n 0, 1) := by decide +kernel
theorem dX12_soonestOf_63 : decode cX12_soonestOf 63 = .ok (.getfield 7, 3) := by decide +kernel
theorem dX12_soonestOf_66 : decode cX12_soonestOf 66 = .ok (.iconst 3, 1) := by decide +kernel
theorem dX12_soonestOf_67 : decode cX12_soonestOf 67 = .ok (.iaload, 1) := by decide +kernel
theorem dX12_soonestOf_68 : decode cX12_soonestOf 68 = .ok (.if_icmp .le 7, 3) := by decide +kernel
theorem dX12_soonestOf_71 : decode cX12_soonestOf 71 = .ok (.iconst (-1), 1) := by decide +kernel
theorem dX12_soonestOf_72 : decode cX12_soonestOf 72 = .ok (.goto 4, 3) := by decide +kernel
theorem dX12_soonestOf_75 : decode cX12_soonestOf 75 = .ok (.iload_n 3, 1) := by decide +kernel
theorem dX12_soonestOf_76 : decode cX12_soonestOf 76 = .ok (.ireturn, 1) := by decide +kernel
theorem dX12_gain_0 : decode cX12_gain 0 = .ok (.aload_n 0, 1) := by decide +kernel
theorem dX12_gain_1 : decode cX12_gain 1 = .ok (.iload_n 1, 1) := by decide +kernel
theorem dX12_gain_2 : decode cX12_gain 2 = .ok (.invokevirtual 271, 3) := by decide +kernel
theorem dX12_gain_5 : decode cX12_gain 5 = .ok (.ifCond .eq 11, 3) := by decide +kernel
theorem dX12_gain_8 : decode cX12_gain 8 = .ok (.aload_n 0, 1) := by decide +kernel
theorem dX12_gain_9 : decode cX12_gain 9 = .ok (.iload_n 2, 1) := by decide +kernel
theorem dX12_gain_10 : decode cX12_gain 10 = .ok (.invokevirtual 265, 3) := by decide +kernel
theorem dX12_gain_13 : decode cX12_gain 13 = .ok (.ifCond .ne 9, 3) := by decide +kernel
theorem dX12_gain_16 : decode cX12_gain 16 = .ok (.aload_n 0, 1) := by decide +kernel
theorem dX12_gain_17 : decode cX12_gain 17 = .ok (.iconst 1, 1) := by decide +kernel
theorem dX12_gain_18 : decode cX12_gain 18 = .ok (.invokevirtual 78, 3) := by decide +kernel
theorem dX12_gain_21 : decode cX12_gain 21 = .ok (.ireturn, 1) := by decide +kernel
theorem dX12_gain_22 : decode cX12_gain 22 = .ok (.aload_n 0, 1) := by decide +kernel
theorem dX12_gain_23 : decode cX12_gain 23 = .ok (.iload_n 1, 1) := by decide +kernel
theorem dX12_gain_24 : decode cX12_gain 24 = .ok (.iload_n 2, 1) := by decide +kernel
theorem dX12_gain_25 : decode cX12_gain 25 = .ok (.invokevirtual 390, 3) := by decide +kernel
theorem dX12_gain_28 : decode cX12_gain 28 = .ok (.iconst (-1), 1) := by decide +kernel
theorem dX12_gain_29 : decode cX12_gain 29 = .ok (.if_icmp .ne 12, 3) := by decide +kernel
theorem dX12_gain_32 : decode cX12_gain 32 = .ok (.aload_n 0, 1) := by decide +kernel
theorem dX12_gain_33 : decode cX12_gain 33 = .ok (.bipush 7, 2) := by decide +kernel
theorem dX12_gain_35 : decode cX12_gain 35 = .ok (.invokevirtual 78, 3) := by decide +kernel
theorem dX12_gain_38 : decode cX12_gain 38 = .ok (.goto 26, 3) := by decide +kernel
theorem dX12_gain_41 : decode cX12_gain 41 = .ok (.aload_n 0, 1) := by decide +kernel
theorem dX12_gain_42 : decode cX12_gain 42 = .ok (.aload_n 0, 1) := by decide +kernel
theorem dX12_gain_43 : decode cX12_gain 43 = .ok (.getfield 7, 3) := by decide +kernel
theorem dX12_gain_46 : decode cX12_gain 46 = .ok (.iconst 0, 1) := by decide +kernel
theorem dX12_gain_47 : decode cX12_gain 47 = .ok (.iload_n 2, 1) := by decide +kernel
theorem dX12_gain_48 : decode cX12_gain 48 = .ok (.invokestatic 171, 3) := by decide +kernel
theorem dX12_gain_51 : decode cX12_gain 51 = .ok (.iconst 1, 1) := by decide +kernel
theorem dX12_gain_52 : decode cX12_gain 52 = .ok (.iadd, 1) := by decide +kernel
theorem dX12_gain_53 : decode cX12_gain 53 = .ok (.iaload, 1) := by decide +kernel
theorem dX12_gain_54 : decode cX12_gain 54 = .ok (.aload_n 0, 1) := by decide +kernel
theorem dX12_gain_55 : decode cX12_gain 55 = .ok (.iload_n 1, 1) := by decide +kernel
theorem dX12_gain_56 : decode cX12_gain 56 = .ok (.iload_n 2, 1) := by decide +kernel
theorem dX12_gain_57 : decode cX12_gain 57 = .ok (.invokevirtual 346, 3) := by decide +kernel
theorem dX12_gain_60 : decode cX12_gain 60 = .ok (.isub, 1) := by decide +kernel
theorem dX12_gain_61 : decode cX12_gain 61 = .ok (.invokevirtual 82, 3) := by decide +kernel
theorem dX12_gain_64 : decode cX12_gain 64 = .ok (.ireturn, 1) := by decide +kernel
theorem dX12_mayTo_0 : decode cX12_mayTo 0 = .ok (.aload_n 0, 1) := by decide +kernel
theorem dX12_mayTo_1 : decode cX12_mayTo 1 = .ok (.getfield 7, 3) := by decide +kernel
theorem dX12_mayTo_4 : decode cX12_mayTo 4 = .ok (.iload_n 1, 1) := by decide +kernel
theorem dX12_mayTo_5 : decode cX12_mayTo 5 = .ok (.invokestatic 274, 3) := by decide +kernel
theorem dX12_mayTo_8 : decode cX12_mayTo 8 = .ok (.iconst 3, 1) := by decide +kernel
theorem dX12_mayTo_9 : decode cX12_mayTo 9 = .ok (.iadd, 1) := by decide +kernel
theorem dX12_mayTo_10 : decode cX12_mayTo 10 = .ok (.iaload, 1) := by decide +kernel
theorem dX12_mayTo_11 : decode cX12_mayTo 11 = .ok (.iload_n 2, 1) := by decide +kernel
theorem dX12_mayTo_12 : decode cX12_mayTo 12 = .ok (.iadd, 1) := by decide +kernel
theorem dX12_mayTo_13 : decode cX12_mayTo 13 = .ok (.aload_n 0, 1) := by decide +kernel
theorem dX12_mayTo_14 : decode cX12_mayTo 14 = .ok (.getfield 7, 3) := by decide +kernel
theorem dX12_mayTo_17 : decode cX12_mayTo 17 = .ok (.iconst 3, 1) := by decide +kernel
theorem dX12_mayTo_18 : decode cX12_mayTo 18 = .ok (.iaload, 1) := by decide +kernel
theorem dX12_mayTo_19 : decode cX12_mayTo 19 = .ok (.if_icmp .gt 7, 3) := by decide +kernel
theorem dX12_mayTo_22 : decode cX12_mayTo 22 = .ok (.iconst 1, 1) := by decide +kernel
theorem dX12_mayTo_23 : decode cX12_mayTo 23 = .ok (.goto 4, 3) := by decide +kernel
theorem dX12_mayTo_26 : decode cX12_mayTo 26 = .ok (.iconst 0, 1) := by decide +kernel
theorem dX12_mayTo_27 : decode cX12_mayTo 27 = .ok (.ireturn, 1) := by decide +kernel
theorem dX12_went_0 : decode cX12_went 0 = .ok (.aload_n 0, 1) := by decide +kernel
theorem dX12_went_1 : decode cX12_went 1 = .ok (.iload_n 1, 1) := by decide +kernel
theorem dX12_went_2 : decode cX12_went 2 = .ok (.aload_n 0, 1) := by decide +kernel
theorem dX12_went_3 : decode cX12_went 3 = .ok (.iload_n 1, 1) := by decide +kernel
theorem dX12_went_4 : decode cX12_went 4 = .ok (.iload_n 2, 1) := by decide +kernel
theorem dX12_went_5 : decode cX12_went 5 = .ok (.invokevirtual 283, 3) := by decide +kernel
theorem dX12_went_8 : decode cX12_went 8 = .ok (.invokevirtual 286, 3) := by decide +kernel
theorem dX12_went_11 : decode cX12_went 11 = .ok (.ifCond .ne 5, 3) := by decide +kernel
theorem dX12_went_14 : decode cX12_went 14 = .ok (.iconst 0, 1) := by decide +kernel
theorem dX12_went_15 : decode cX12_went 15 = .ok (.ireturn, 1) := by decide +kernel
theorem dX12_went_16 : decode cX12_went 16 = .ok (.aload_n 0, 1) := by decide +kernel
theorem dX12_went_17 : decode cX12_went 17 = .ok (.getfield 7, 3) := by decide +kernel
theorem dX12_went_20 : decode cX12_went 20 = .ok (.iload_n 1, 1) := by decide +kernel
theorem dX12_went_21 : decode cX12_went 21 = .ok (.invokestatic 274, 3) := by decide +kernel
theorem dX12_went_24 : decode cX12_went 24 = .ok (.iconst 3, 1) := by decide +kernel
theorem dX12_went_25 : decode cX12_went 25 = .ok (.iadd, 1) := by decide +kernel
theorem dX12_went_26 : decode cX12_went 26 = .ok (.dup2, 1) := by decide +kernel
theorem dX12_went_27 : decode cX12_went 27 = .ok (.iaload, 1) := by decide +kernel
theorem dX12_went_28 : decode cX12_went 28 = .ok (.aload_n 0, 1) := by decide +kernel
theorem dX12_went_29 : decode cX12_went 29 = .ok (.iload_n 1, 1) := by decide +kernel
theorem dX12_went_30 : decode cX12_went 30 = .ok (.iload_n 2, 1) := by decide +kernel
theorem dX12_went_31 : decode cX12_went 31 = .ok (.invokevirtual 283, 3) := by decide +kernel
theorem dX12_went_34 : decode cX12_went 34 = .ok (.iadd, 1) := by decide +kernel
theorem dX12_went_35 : decode cX12_went 35 = .ok (.iastore, 1) := by decide +kernel
theorem dX12_went_36 : decode cX12_went 36 = .ok (.aload_n 0, 1) := by decide +kernel
theorem dX12_went_37 : decode cX12_went 37 = .ok (.getfield 7, 3) := by decide +kernel
theorem dX12_went_40 : decode cX12_went 40 = .ok (.iload_n 1, 1) := by decide +kernel
theorem dX12_went_41 : decode cX12_went 41 = .ok (.invokestatic 274, 3) := by decide +kernel
theorem dX12_went_44 : decode cX12_went 44 = .ok (.iload_n 2, 1) := by decide +kernel
theorem dX12_went_45 : decode cX12_went 45 = .ok (.iastore, 1) := by decide +kernel
theorem dX12_went_46 : decode cX12_went 46 = .ok (.iconst 1, 1) := by decide +kernel
theorem dX12_went_47 : decode cX12_went 47 = .ok (.ireturn, 1) := by decide +kernel
theorem dX12_go_0 : decode cX12_go 0 = .ok (.aload_n 0, 1) := by decide +kernel
theorem dX12_go_1 : decode cX12_go 1 = .ok (.iload_n 1, 1) := by decide +kernel
theorem dX12_go_2 : decode cX12_go 2 = .ok (.invokevirtual 271, 3) := by decide +kernel
theorem dX12_go_5 : decode cX12_go 5 = .ok (.ifCond .eq 21, 3) := by decide +kernel
theorem dX12_go_8 : decode cX12_go 8 = .ok (.iload_n 2, 1) := by decide +kernel
theorem dX12_go_9 : decode cX12_go 9 = .ok (.i2l, 1) := by decide +kernel
theorem dX12_go_10 : decode cX12_go 10 = .ok (.lconst 0, 1) := by decide +kernel
theorem dX12_go_11 : decode cX12_go 11 = .ok (.aload_n 0, 1) := by decide +kernel
theorem dX12_go_12 : decode cX12_go 12 = .ok (.getfield 7, 3) := by decide +kernel
theorem dX12_go_15 : decode cX12_go 15 = .ok (.iconst 0, 1) := by decide +kernel
theorem dX12_go_16 : decode cX12_go 16 = .ok (.iaload, 1) := by decide +kernel
theorem dX12_go_17 : decode cX12_go 17 = .ok (.i2l, 1) := by decide +kernel
theorem dX12_go_18 : decode cX12_go 18 = .ok (.lconst 1, 1) := by decide +kernel
theorem dX12_go_19 : decode cX12_go 19 = .ok (.lsub, 1) := by decide +kernel
theorem dX12_go_20 : decode cX12_go 20 = .ok (.invokestatic 289, 3) := by decide +kernel
theorem dX12_go_23 : decode cX12_go 23 = .ok (.ifCond .ne 9, 3) := by decide +kernel
theorem dX12_go_26 : decode cX12_go 26 = .ok (.aload_n 0, 1) := by decide +kernel
theorem dX12_go_27 : decode cX12_go 27 = .ok (.iconst 1, 1) := by decide +kernel
theorem dX12_go_28 : decode cX12_go 28 = .ok (.invokevirtual 78, 3) := by decide +kernel
theorem dX12_go_31 : decode cX12_go 31 = .ok (.ireturn, 1) := by decide +kernel
theorem dX12_go_32 : decode cX12_go 32 = .ok (.aload_n 0, 1) := by decide +kernel
theorem dX12_go_33 : decode cX12_go 33 = .ok (.iload_n 1, 1) := by decide +kernel
theorem dX12_go_34 : decode cX12_go 34 = .ok (.iload_n 2, 1) := by decide +kernel
theorem dX12_go_35 : decode cX12_go 35 = .ok (.invokevirtual 293, 3) := by decide +kernel
theorem dX12_go_38 : decode cX12_go 38 = .ok (.ifCond .eq 21, 3) := by decide +kernel
theorem dX12_go_41 : decode cX12_go 41 = .ok (.aload_n 0, 1) := by decide +kernel
theorem dX12_go_42 : decode cX12_go 42 = .ok (.aload_n 0, 1) := by decide +kernel
theorem dX12_go_43 : decode cX12_go 43 = .ok (.getfield 7, 3) := by decide +kernel
theorem dX12_go_46 : decode cX12_go 46 = .ok (.iload_n 1, 1) := by decide +kernel
theorem dX12_go_47 : decode cX12_go 47 = .ok (.invokestatic 274, 3) := by decide +kernel
theorem dX12_go_50 : decode cX12_go 50 = .ok (.iconst 3, 1) := by decide +kernel
theorem dX12_go_51 : decode cX12_go 51 = .ok (.iadd, 1) := by decide +kernel
theorem dX12_go_52 : decode cX12_go 52 = .ok (.iaload, 1) := by decide +kernel
theorem dX12_go_53 : decode cX12_go 53 = .ok (.invokevirtual 82, 3) := by decide +kernel
theorem dX12_go_56 : decode cX12_go 56 = .ok (.goto 9, 3) := by decide +kernel
theorem dX12_go_59 : decode cX12_go 59 = .ok (.aload_n 0, 1) := by decide +kernel
theorem dX12_go_60 : decode cX12_go 60 = .ok (.bipush 7, 2) := by decide +kernel
theorem dX12_go_62 : decode cX12_go 62 = .ok (.invokevirtual 78, 3) := by decide +kernel
theorem dX12_go_65 : decode cX12_go 65 = .ok (.ireturn, 1) := by decide +kernel
theorem dX12_goes_0 : decode cX12_goes 0 = .ok (.iconst 0, 1) := by decide +kernel
theorem dX12_goes_1 : decode cX12_goes 1 = .ok (.iload_n 1, 1) := by decide +kernel
theorem dX12_goes_2 : decode cX12_goes 2 = .ok (.invokestatic 171, 3) := by decide +kernel
theorem dX12_goes_5 : decode cX12_goes 5 = .ok (.istore_n 3, 1) := by decide +kernel
theorem dX12_goes_6 : decode cX12_goes 6 = .ok (.aload_n 0, 1) := by decide +kernel
theorem dX12_goes_7 : decode cX12_goes 7 = .ok (.getfield 7, 3) := by decide +kernel
theorem dX12_goes_10 : decode cX12_goes 10 = .ok (.iload_n 3, 1) := by decide +kernel
theorem dX12_goes_11 : decode cX12_goes 11 = .ok (.iconst 2, 1) := by decide +kernel
theorem dX12_goes_12 : decode cX12_goes 12 = .ok (.iadd, 1) := by decide +kernel
theorem dX12_goes_13 : decode cX12_goes 13 = .ok (.dup2, 1) := by decide +kernel
theorem dX12_goes_14 : decode cX12_goes 14 = .ok (.iaload, 1) := by decide +kernel
theorem dX12_goes_15 : decode cX12_goes 15 = .ok (.iconst 1, 1) := by decide +kernel
theorem dX12_goes_16 : decode cX12_goes 16 = .ok (.isub, 1) := by decide +kernel
theorem dX12_goes_17 : decode cX12_goes 17 = .ok (.iastore, 1) := by decide +kernel
theorem dX12_goes_18 : decode cX12_goes 18 = .ok (.aload_n 0, 1) := by decide +kernel
theorem dX12_goes_19 : decode cX12_goes 19 = .ok (.getfield 7, 3) := by decide +kernel
theorem dX12_goes_22 : decode cX12_goes 22 = .ok (.bipush 8, 2) := by decide +kernel
theorem dX12_goes_24 : decode cX12_goes 24 = .ok (.dup2, 1) := by decide +kernel
theorem dX12_goes_25 : decode cX12_goes 25 = .ok (.iaload, 1) := by decide +kernel
theorem dX12_goes_26 : decode cX12_goes 26 = .ok (.iconst 1, 1) := by decide +kernel
theorem dX12_goes_27 : decode cX12_goes 27 = .ok (.isub, 1) := by decide +kernel
theorem dX12_goes_28 : decode cX12_goes 28 = .ok (.iastore, 1) := by decide +kernel
theorem dX12_goes_29 : decode cX12_goes 29 = .ok (.iload_n 2, 1) := by decide +kernel
theorem dX12_goes_30 : decode cX12_goes 30 = .ok (.istore 4, 2) := by decide +kernel
theorem dX12_goes_32 : decode cX12_goes 32 = .ok (.iload 4, 2) := by decide +kernel
theorem dX12_goes_34 : decode cX12_goes 34 = .ok (.aload_n 0, 1) := by decide +kernel
theorem dX12_goes_35 : decode cX12_goes 35 = .ok (.getfield 7, 3) := by decide +kernel
theorem dX12_goes_38 : decode cX12_goes 38 = .ok (.iload_n 3, 1) := by decide +kernel
theorem dX12_goes_39 : decode cX12_goes 39 = .ok (.iconst 2, 1) := by decide +kernel
theorem dX12_goes_40 : decode cX12_goes 40 = .ok (.iadd, 1) := by decide +kernel
theorem dX12_goes_41 : decode cX12_goes 41 = .ok (.iaload, 1) := by decide +kernel
theorem dX12_goes_42 : decode cX12_goes 42 = .ok (.if_icmp .ge 65, 3) := by decide +kernel
theorem dX12_goes_45 : decode cX12_goes 45 = .ok (.aload_n 0, 1) := by decide +kernel
theorem dX12_goes_46 : decode cX12_goes 46 = .ok (.getfield 7, 3) := by decide +kernel
theorem dX12_goes_49 : decode cX12_goes 49 = .ok (.iconst 0, 1) := by decide +kernel
theorem dX12_goes_50 : decode cX12_goes 50 = .ok (.iload_n 1, 1) := by decide +kernel
theorem dX12_goes_51 : decode cX12_goes 51 = .ok (.iload 4, 2) := by decide +kernel
theorem dX12_goes_53 : decode cX12_goes 53 = .ok (.invokestatic 174, 3) := by decide +kernel
theorem dX12_goes_56 : decode cX12_goes 56 = .ok (.aload_n 0, 1) := by decide +kernel
theorem dX12_goes_57 : decode cX12_goes 57 = .ok (.getfield 7, 3) := by decide +kernel
theorem dX12_goes_60 : decode cX12_goes 60 = .ok (.iconst 0, 1) := by decide +kernel
theorem dX12_goes_61 : decode cX12_goes 61 = .ok (.iload_n 1, 1) := by decide +kernel
theorem dX12_goes_62 : decode cX12_goes 62 = .ok (.iload 4, 2) := by decide +kernel
theorem dX12_goes_64 : decode cX12_goes 64 = .ok (.iconst 1, 1) := by decide +kernel
theorem dX12_goes_65 : decode cX12_goes 65 = .ok (.iadd, 1) := by decide +kernel
theorem dX12_goes_66 : decode cX12_goes 66 = .ok (.invokestatic 174, 3) := by decide +kernel
theorem dX12_goes_69 : decode cX12_goes 69 = .ok (.iaload, 1) := by decide +kernel
theorem dX12_goes_70 : decode cX12_goes 70 = .ok (.iastore, 1) := by decide +kernel
theorem dX12_goes_71 : decode cX12_goes 71 = .ok (.aload_n 0, 1) := by decide +kernel
theorem dX12_goes_72 : decode cX12_goes 72 = .ok (.getfield 7, 3) := by decide +kernel
theorem dX12_goes_75 : decode cX12_goes 75 = .ok (.iconst 0, 1) := by decide +kernel
theorem dX12_goes_76 : decode cX12_goes 76 = .ok (.iload_n 1, 1) := by decide +kernel
theorem dX12_goes_77 : decode cX12_goes 77 = .ok (.iload 4, 2) := by decide +kernel
theorem dX12_goes_79 : decode cX12_goes 79 = .ok (.invokestatic 174, 3) := by decide +kernel
theorem dX12_goes_82 : decode cX12_goes 82 = .ok (.iconst 1, 1) := by decide +kernel
theorem dX12_goes_83 : decode cX12_goes 83 = .ok (.iadd, 1) := by decide +kernel
theorem dX12_goes_84 : decode cX12_goes 84 = .ok (.aload_n 0, 1) := by decide +kernel
theorem dX12_goes_85 : decode cX12_goes 85 = .ok (.getfield 7, 3) := by decide +kernel
theorem dX12_goes_88 : decode cX12_goes 88 = .ok (.iconst 0, 1) := by decide +kernel
theorem dX12_goes_89 : decode cX12_goes 89 = .ok (.iload_n 1, 1) := by decide +kernel
theorem dX12_goes_90 : decode cX12_goes 90 = .ok (.iload 4, 2) := by decide +kernel
theorem dX12_goes_92 : decode cX12_goes 92 = .ok (.iconst 1, 1) := by decide +kernel
theorem dX12_goes_93 : decode cX12_goes 93 = .ok (.iadd, 1) := by decide +kernel
theorem dX12_goes_94 : decode cX12_goes 94 = .ok (.invokestatic 174, 3) := by decide +kernel
theorem dX12_goes_97 : decode cX12_goes 97 = .ok (.iconst 1, 1) := by decide +kernel
theorem dX12_goes_98 : decode cX12_goes 98 = .ok (.iadd, 1) := by decide +kernel
theorem dX12_goes_99 : decode cX12_goes 99 = .ok (.iaload, 1) := by decide +kernel
theorem dX12_goes_100 : decode cX12_goes 100 = .ok (.iastore, 1) := by decide +kernel
theorem dX12_goes_101 : decode cX12_goes 101 = .ok (.iinc 4 1, 3) := by decide +kernel
theorem dX12_goes_104 : decode cX12_goes 104 = .ok (.goto (-72), 3) := by decide +kernel
theorem dX12_goes_107 : decode cX12_goes 107 = .ok (.return_, 1) := by decide +kernel
theorem dX12_carries_0 : decode cX12_carries 0 = .ok (.aload_n 0, 1) := by decide +kernel
theorem dX12_carries_1 : decode cX12_carries 1 = .ok (.iload_n 1, 1) := by decide +kernel
theorem dX12_carries_2 : decode cX12_carries 2 = .ok (.invokevirtual 277, 3) := by decide +kernel
theorem dX12_carries_5 : decode cX12_carries 5 = .ok (.iconst 1, 1) := by decide +kernel
theorem dX12_carries_6 : decode cX12_carries 6 = .ok (.isub, 1) := by decide +kernel
theorem dX12_carries_7 : decode cX12_carries 7 = .ok (.istore_n 3, 1) := by decide +kernel
theorem dX12_carries_8 : decode cX12_carries 8 = .ok (.aload_n 0, 1) := by decide +kernel
theorem dX12_carries_9 : decode cX12_carries 9 = .ok (.iload_n 1, 1) := by decide +kernel
theorem dX12_carries_10 : decode cX12_carries 10 = .ok (.iload_n 3, 1) := by decide +kernel
theorem dX12_carries_11 : decode cX12_carries 11 = .ok (.invokevirtual 308, 3) := by decide +kernel
theorem dX12_carries_14 : decode cX12_carries 14 = .ok (.istore 4, 2) := by decide +kernel
theorem dX12_carries_16 : decode cX12_carries 16 = .ok (.aload_n 0, 1) := by decide +kernel
theorem dX12_carries_17 : decode cX12_carries 17 = .ok (.iload_n 1, 1) := by decide +kernel
theorem dX12_carries_18 : decode cX12_carries 18 = .ok (.iload_n 3, 1) := by decide +kernel
theorem dX12_carries_19 : decode cX12_carries 19 = .ok (.invokevirtual 314, 3) := by decide +kernel
theorem dX12_carries_22 : decode cX12_carries 22 = .ok (.istore 5, 2) := by decide +kernel
theorem dX12_carries_24 : decode cX12_carries 24 = .ok (.aload_n 0, 1) := by decide +kernel
theorem dX12_carries_25 : decode cX12_carries 25 = .ok (.iload_n 1, 1) := by decide +kernel
theorem dX12_carries_26 : decode cX12_carries 26 = .ok (.iload_n 3, 1) := by decide +kernel
theorem dX12_carries_27 : decode cX12_carries 27 = .ok (.invokevirtual 317, 3) := by decide +kernel
theorem dX12_carries_30 : decode cX12_carries 30 = .ok (.aload_n 0, 1) := by decide +kernel
theorem dX12_carries_31 : decode cX12_carries 31 = .ok (.iconst 0, 1) := by decide +kernel
theorem dX12_carries_32 : decode cX12_carries 32 = .ok (.iload_n 2, 1) := by decide +kernel
theorem dX12_carries_33 : decode cX12_carries 33 = .ok (.iload 4, 2) := by decide +kernel
theorem dX12_carries_35 : decode cX12_carries 35 = .ok (.iload 5, 2) := by decide +kernel
theorem dX12_carries_37 : decode cX12_carries 37 = .ok (.invokevirtual 210, 3) := by decide +kernel
theorem dX12_carries_40 : decode cX12_carries 40 = .ok (.iload 4, 2) := by decide +kernel
theorem dX12_carries_42 : decode cX12_carries 42 = .ok (.ireturn, 1) := by decide +kernel
theorem dX12_wrongGull_0 : decode cX12_wrongGull 0 = .ok (.aload_n 0, 1) := by decide +kernel
theorem dX12_wrongGull_1 : decode cX12_wrongGull 1 = .ok (.iload_n 1, 1) := by decide +kernel
theorem dX12_wrongGull_2 : decode cX12_wrongGull 2 = .ok (.invokevirtual 277, 3) := by decide +kernel
theorem dX12_wrongGull_5 : decode cX12_wrongGull 5 = .ok (.ifCond .ne 8, 3) := by decide +kernel
theorem dX12_wrongGull_8 : decode cX12_wrongGull 8 = .ok (.bipush 6, 2) := by decide +kernel
theorem dX12_wrongGull_10 : decode cX12_wrongGull 10 = .ok (.goto 25, 3) := by decide +kernel
theorem dX12_wrongGull_13 : decode cX12_wrongGull 13 = .ok (.aload_n 0, 1) := by decide +kernel
theorem dX12_wrongGull_14 : decode cX12_wrongGull 14 = .ok (.iload_n 1, 1) := by decide +kernel
theorem dX12_wrongGull_15 : decode cX12_wrongGull 15 = .ok (.invokevirtual 268, 3) := by decide +kernel
theorem dX12_wrongGull_18 : decode cX12_wrongGull 18 = .ok (.ifCond .eq 15, 3) := by decide +kernel
theorem dX12_wrongGull_21 : decode cX12_wrongGull 21 = .ok (.aload_n 0, 1) := by decide +kernel
theorem dX12_wrongGull_22 : decode cX12_wrongGull 22 = .ok (.iload_n 2, 1) := by decide +kernel
theorem dX12_wrongGull_23 : decode cX12_wrongGull 23 = .ok (.invokevirtual 268, 3) := by decide +kernel
theorem dX12_wrongGull_26 : decode cX12_wrongGull 26 = .ok (.ifCond .eq 7, 3) := by decide +kernel
theorem dX12_wrongGull_29 : decode cX12_wrongGull 29 = .ok (.iconst 0, 1) := by decide +kernel
theorem dX12_wrongGull_30 : decode cX12_wrongGull 30 = .ok (.goto 5, 3) := by decide +kernel
theorem dX12_wrongGull_33 : decode cX12_wrongGull 33 = .ok (.bipush 7, 2) := by decide +kernel
theorem dX12_wrongGull_35 : decode cX12_wrongGull 35 = .ok (.ireturn, 1) := by decide +kernel
theorem dX12_gull_0 : decode cX12_gull 0 = .ok (.aload_n 0, 1) := by decide +kernel
theorem dX12_gull_1 : decode cX12_gull 1 = .ok (.iload_n 1, 1) := by decide +kernel
theorem dX12_gull_2 : decode cX12_gull 2 = .ok (.invokevirtual 265, 3) := by decide +kernel
theorem dX12_gull_5 : decode cX12_gull 5 = .ok (.ifCond .eq 16, 3) := by decide +kernel
theorem dX12_gull_8 : decode cX12_gull 8 = .ok (.aload_n 0, 1) := by decide +kernel
theorem dX12_gull_9 : decode cX12_gull 9 = .ok (.iload_n 2, 1) := by decide +kernel
theorem dX12_gull_10 : decode cX12_gull 10 = .ok (.invokevirtual 265, 3) := by decide +kernel
theorem dX12_gull_13 : decode cX12_gull 13 = .ok (.ifCond .eq 8, 3) := by decide +kernel
theorem dX12_gull_16 : decode cX12_gull 16 = .ok (.iload_n 1, 1) := by decide +kernel
theorem dX12_gull_17 : decode cX12_gull 17 = .ok (.iload_n 2, 1) := by decide +kernel
theorem dX12_gull_18 : decode cX12_gull 18 = .ok (.if_icmp .ne 9, 3) := by decide +kernel
theorem dX12_gull_21 : decode cX12_gull 21 = .ok (.aload_n 0, 1) := by decide +kernel
theorem dX12_gull_22 : decode cX12_gull 22 = .ok (.iconst 1, 1) := by decide +kernel
theorem dX12_gull_23 : decode cX12_gull 23 = .ok (.invokevirtual 78, 3) := by decide +kernel
theorem dX12_gull_26 : decode cX12_gull 26 = .ok (.ireturn, 1) := by decide +kernel
theorem dX12_gull_27 : decode cX12_gull 27 = .ok (.aload_n 0, 1) := by decide +kernel
theorem dX12_gull_28 : decode cX12_gull 28 = .ok (.iload_n 1, 1) := by decide +kernel
theorem dX12_gull_29 : decode cX12_gull 29 = .ok (.iload_n 2, 1) := by decide +kernel
theorem dX12_gull_30 : decode cX12_gull 30 = .ok (.invokevirtual 326, 3) := by decide +kernel
theorem dX12_gull_33 : decode cX12_gull 33 = .ok (.istore_n 3, 1) := by decide +kernel
theorem dX12_gull_34 : decode cX12_gull 34 = .ok (.iload_n 3, 1) := by decide +kernel
theorem dX12_gull_35 : decode cX12_gull 35 = .ok (.ifCond .le 11, 3) := by decide +kernel
theorem dX12_gull_38 : decode cX12_gull 38 = .ok (.aload_n 0, 1) := by decide +kernel
theorem dX12_gull_39 : decode cX12_gull 39 = .ok (.iload_n 3, 1) := by decide +kernel
theorem dX12_gull_40 : decode cX12_gull 40 = .ok (.invokevirtual 78, 3) := by decide +kernel
theorem dX12_gull_43 : decode cX12_gull 43 = .ok (.goto 13, 3) := by decide +kernel
theorem dX12_gull_46 : decode cX12_gull 46 = .ok (.aload_n 0, 1) := by decide +kernel
theorem dX12_gull_47 : decode cX12_gull 47 = .ok (.aload_n 0, 1) := by decide +kernel
theorem dX12_gull_48 : decode cX12_gull 48 = .ok (.iload_n 1, 1) := by decide +kernel
theorem dX12_gull_49 : decode cX12_gull 49 = .ok (.iload_n 2, 1) := by decide +kernel
theorem dX12_gull_50 : decode cX12_gull 50 = .ok (.invokevirtual 329, 3) := by decide +kernel
theorem dX12_gull_53 : decode cX12_gull 53 = .ok (.invokevirtual 82, 3) := by decide +kernel
theorem dX12_gull_56 : decode cX12_gull 56 = .ok (.ireturn, 1) := by decide +kernel
theorem dX12_isTray_0 : decode cX12_isTray 0 = .ok (.iload_n 0, 1) := by decide +kernel
theorem dX12_isTray_1 : decode cX12_isTray 1 = .ok (.ifCond .lt 12, 3) := by decide +kernel
theorem dX12_isTray_4 : decode cX12_isTray 4 = .ok (.iload_n 0, 1) := by decide +kernel
theorem dX12_isTray_5 : decode cX12_isTray 5 = .ok (.iconst 4, 1) := by decide +kernel
theorem dX12_isTray_6 : decode cX12_isTray 6 = .ok (.if_icmp .ge 7, 3) := by decide +kernel
theorem dX12_isTray_9 : decode cX12_isTray 9 = .ok (.iconst 1, 1) := by decide +kernel
theorem dX12_isTray_10 : decode cX12_isTray 10 = .ok (.goto 4, 3) := by decide +kernel
theorem dX12_isTray_13 : decode cX12_isTray 13 = .ok (.iconst 0, 1) := by decide +kernel
theorem dX12_isTray_14 : decode cX12_isTray 14 = .ok (.ireturn, 1) := by decide +kernel
theorem dX12_gulls_0 : decode cX12_gulls 0 = .ok (.iload_n 1, 1) := by decide +kernel
theorem dX12_gulls_1 : decode cX12_gulls 1 = .ok (.invokestatic 89, 3) := by decide +kernel
theorem dX12_gulls_4 : decode cX12_gulls 4 = .ok (.ifCond .ne 9, 3) := by decide +kernel
theorem dX12_gulls_7 : decode cX12_gulls 7 = .ok (.aload_n 0, 1) := by decide +kernel
theorem dX12_gulls_8 : decode cX12_gulls 8 = .ok (.iconst 1, 1) := by decide +kernel
theorem dX12_gulls_9 : decode cX12_gulls 9 = .ok (.invokevirtual 78, 3) := by decide +kernel
theorem dX12_gulls_12 : decode cX12_gulls 12 = .ok (.ireturn, 1) := by decide +kernel
theorem dX12_gulls_13 : decode cX12_gulls 13 = .ok (.aload_n 0, 1) := by decide +kernel
theorem dX12_gulls_14 : decode cX12_gulls 14 = .ok (.getfield 24, 3) := by decide +kernel
theorem dX12_gulls_17 : decode cX12_gulls 17 = .ok (.iload_n 1, 1) := by decide +kernel
theorem dX12_gulls_18 : decode cX12_gulls 18 = .ok (.iaload, 1) := by decide +kernel
theorem dX12_gulls_19 : decode cX12_gulls 19 = .ok (.iconst (-1), 1) := by decide +kernel
theorem dX12_gulls_20 : decode cX12_gulls 20 = .ok (.if_icmp .ne 9, 3) := by decide +kernel
theorem dX12_gulls_23 : decode cX12_gulls 23 = .ok (.aload_n 0, 1) := by decide +kernel
theorem dX12_gulls_24 : decode cX12_gulls 24 = .ok (.iconst 2, 1) := by decide +kernel
theorem dX12_gulls_25 : decode cX12_gulls 25 = .ok (.invokevirtual 78, 3) := by decide +kernel
theorem dX12_gulls_28 : decode cX12_gulls 28 = .ok (.ireturn, 1) := by decide +kernel
theorem dX12_gulls_29 : decode cX12_gulls 29 = .ok (.aload_n 0, 1) := by decide +kernel
theorem dX12_gulls_30 : decode cX12_gulls 30 = .ok (.getfield 24, 3) := by decide +kernel
theorem dX12_gulls_33 : decode cX12_gulls 33 = .ok (.iload_n 1, 1) := by decide +kernel
theorem dX12_gulls_34 : decode cX12_gulls 34 = .ok (.iaload, 1) := by decide +kernel
theorem dX12_gulls_35 : decode cX12_gulls 35 = .ok (.aload_n 0, 1) := by decide +kernel
theorem dX12_gulls_36 : decode cX12_gulls 36 = .ok (.getfield 7, 3) := by decide +kernel
theorem dX12_gulls_39 : decode cX12_gulls 39 = .ok (.iconst 2, 1) := by decide +kernel
theorem dX12_gulls_40 : decode cX12_gulls 40 = .ok (.iaload, 1) := by decide +kernel
theorem dX12_gulls_41 : decode cX12_gulls 41 = .ok (.if_icmp .ge 9, 3) := by decide +kernel
theorem dX12_gulls_44 : decode cX12_gulls 44 = .ok (.aload_n 0, 1) := by decide +kernel
theorem dX12_gulls_45 : decode cX12_gulls 45 = .ok (.iconst 3, 1) := by decide +kernel
theorem dX12_gulls_46 : decode cX12_gulls 46 = .ok (.invokevirtual 78, 3) := by decide +kernel
theorem dX12_gulls_49 : decode cX12_gulls 49 = .ok (.ireturn, 1) := by decide +kernel
theorem dX12_gulls_50 : decode cX12_gulls 50 = .ok (.iconst 0, 1) := by decide +kernel
theorem dX12_gulls_51 : decode cX12_gulls 51 = .ok (.istore_n 2, 1) := by decide +kernel
theorem dX12_gulls_52 : decode cX12_gulls 52 = .ok (.iload_n 2, 1) := by decide +kernel
theorem dX12_gulls_53 : decode cX12_gulls 53 = .ok (.aload_n 0, 1) := by decide +kernel
theorem dX12_gulls_54 : decode cX12_gulls 54 = .ok (.getfield 7, 3) := by decide +kernel
theorem dX12_gulls_57 : decode cX12_gulls 57 = .ok (.iconst 2, 1) := by decide +kernel
theorem dX12_gulls_58 : decode cX12_gulls 58 = .ok (.iaload, 1) := by decide +kernel
theorem dX12_gulls_59 : decode cX12_gulls 59 = .ok (.if_icmp .ge 36, 3) := by decide +kernel
theorem dX12_gulls_62 : decode cX12_gulls 62 = .ok (.aload_n 0, 1) := by decide +kernel
theorem dX12_gulls_63 : decode cX12_gulls 63 = .ok (.getfield 27, 3) := by decide +kernel
theorem dX12_gulls_66 : decode cX12_gulls 66 = .ok (.bipush 60, 2) := by decide +kernel
theorem dX12_gulls_68 : decode cX12_gulls 68 = .ok (.iload_n 1, 1) := by decide +kernel
theorem dX12_gulls_69 : decode cX12_gulls 69 = .ok (.imul, 1) := by decide +kernel
theorem dX12_gulls_70 : decode cX12_gulls 70 = .ok (.iload_n 2, 1) := by decide +kernel
theorem dX12_gulls_71 : decode cX12_gulls 71 = .ok (.iadd, 1) := by decide +kernel
theorem dX12_gulls_72 : decode cX12_gulls 72 = .ok (.laload, 1) := by decide +kernel
theorem dX12_gulls_73 : decode cX12_gulls 73 = .ok (.lconst 0, 1) := by decide +kernel
theorem dX12_gulls_74 : decode cX12_gulls 74 = .ok (.ldc2_w 417, 3) := by decide +kernel
theorem dX12_gulls_77 : decode cX12_gulls 77 = .ok (.invokestatic 289, 3) := by decide +kernel
theorem dX12_gulls_80 : decode cX12_gulls 80 = .ok (.ifCond .ne 9, 3) := by decide +kernel
theorem dX12_gulls_83 : decode cX12_gulls 83 = .ok (.aload_n 0, 1) := by decide +kernel
theorem dX12_gulls_84 : decode cX12_gulls 84 = .ok (.iconst 5, 1) := by decide +kernel
theorem dX12_gulls_85 : decode cX12_gulls 85 = .ok (.invokevirtual 78, 3) := by decide +kernel
theorem dX12_gulls_88 : decode cX12_gulls 88 = .ok (.ireturn, 1) := by decide +kernel
theorem dX12_gulls_89 : decode cX12_gulls 89 = .ok (.iinc 2 1, 3) := by decide +kernel
theorem dX12_gulls_92 : decode cX12_gulls 92 = .ok (.goto (-40), 3) := by decide +kernel
theorem dX12_gulls_95 : decode cX12_gulls 95 = .ok (.iconst 0, 1) := by decide +kernel
theorem dX12_gulls_96 : decode cX12_gulls 96 = .ok (.istore_n 2, 1) := by decide +kernel
theorem dX12_gulls_97 : decode cX12_gulls 97 = .ok (.iconst 0, 1) := by decide +kernel
theorem dX12_gulls_98 : decode cX12_gulls 98 = .ok (.istore_n 3, 1) := by decide +kernel
theorem dX12_gulls_99 : decode cX12_gulls 99 = .ok (.iconst 0, 1) := by decide +kernel
theorem dX12_gulls_100 : decode cX12_gulls 100 = .ok (.istore 4, 2) := by decide +kernel
theorem dX12_gulls_102 : decode cX12_gulls 102 = .ok (.iload 4, 2) := by decide +kernel
theorem dX12_gulls_104 : decode cX12_gulls 104 = .ok (.aload_n 0, 1) := by decide +kernel
theorem dX12_gulls_105 : decode cX12_gulls 105 = .ok (.getfield 7, 3) := by decide +kernel
theorem dX12_gulls_108 : decode cX12_gulls 108 = .ok (.iconst 2, 1) := by decide +kernel
theorem dX12_gulls_109 : decode cX12_gulls 109 = .ok (.iaload, 1) := by decide +kernel
theorem dX12_gulls_110 : decode cX12_gulls 110 = .ok (.if_icmp .ge 66, 3) := by decide +kernel
theorem dX12_gulls_113 : decode cX12_gulls 113 = .ok (.aload_n 0, 1) := by decide +kernel
theorem dX12_gulls_114 : decode cX12_gulls 114 = .ok (.getfield 27, 3) := by decide +kernel
theorem dX12_gulls_117 : decode cX12_gulls 117 = .ok (.bipush 60, 2) := by decide +kernel
theorem dX12_gulls_119 : decode cX12_gulls 119 = .ok (.iload_n 1, 1) := by decide +kernel
theorem dX12_gulls_120 : decode cX12_gulls 120 = .ok (.imul, 1) := by decide +kernel
theorem dX12_gulls_121 : decode cX12_gulls 121 = .ok (.iload 4, 2) := by decide +kernel
theorem dX12_gulls_123 : decode cX12_gulls 123 = .ok (.iadd, 1) := by decide +kernel
theorem dX12_gulls_124 : decode cX12_gulls 124 = .ok (.laload, 1) := by decide +kernel
theorem dX12_gulls_125 : decode cX12_gulls 125 = .ok (.l2i, 1) := by decide +kernel
theorem dX12_gulls_126 : decode cX12_gulls 126 = .ok (.istore 5, 2) := by decide +kernel
theorem dX12_gulls_128 : decode cX12_gulls 128 = .ok (.iload 5, 2) := by decide +kernel
theorem dX12_gulls_130 : decode cX12_gulls 130 = .ok (.ifCond .le 19, 3) := by decide +kernel
theorem dX12_gulls_133 : decode cX12_gulls 133 = .ok (.aload_n 0, 1) := by decide +kernel
theorem dX12_gulls_134 : decode cX12_gulls 134 = .ok (.iload 4, 2) := by decide +kernel
theorem dX12_gulls_136 : decode cX12_gulls 136 = .ok (.invokevirtual 268, 3) := by decide +kernel
theorem dX12_gulls_139 : decode cX12_gulls 139 = .ok (.ifCond .ne 10, 3) := by decide +kernel
theorem dX12_gulls_142 : decode cX12_gulls 142 = .ok (.aload_n 0, 1) := by decide +kernel
theorem dX12_gulls_143 : decode cX12_gulls 143 = .ok (.bipush 7, 2) := by decide +kernel
theorem dX12_gulls_145 : decode cX12_gulls 145 = .ok (.invokevirtual 78, 3) := by decide +kernel
theorem dX12_gulls_148 : decode cX12_gulls 148 = .ok (.ireturn, 1) := by decide +kernel
theorem dX12_gulls_149 : decode cX12_gulls 149 = .ok (.iload_n 2, 1) := by decide +kernel
theorem dX12_gulls_150 : decode cX12_gulls 150 = .ok (.iload 5, 2) := by decide +kernel
theorem dX12_gulls_152 : decode cX12_gulls 152 = .ok (.iadd, 1) := by decide +kernel
theorem dX12_gulls_153 : decode cX12_gulls 153 = .ok (.istore_n 2, 1) := by decide +kernel
theorem dX12_gulls_154 : decode cX12_gulls 154 = .ok (.iload_n 3, 1) := by decide +kernel
theorem dX12_gulls_155 : decode cX12_gulls 155 = .ok (.iconst 0, 1) := by decide +kernel
theorem dX12_gulls_156 : decode cX12_gulls 156 = .ok (.iload 5, 2) := by decide +kernel
theorem dX12_gulls_158 : decode cX12_gulls 158 = .ok (.aload_n 0, 1) := by decide +kernel
theorem dX12_gulls_159 : decode cX12_gulls 159 = .ok (.iload 4, 2) := by decide +kernel
theorem dX12_gulls_161 : decode cX12_gulls 161 = .ok (.invokevirtual 277, 3) := by decide +kernel
theorem dX12_gulls_164 : decode cX12_gulls 164 = .ok (.isub, 1) := by decide +kernel
theorem dX12_gulls_165 : decode cX12_gulls 165 = .ok (.invokestatic 375, 3) := by decide +kernel
theorem dX12_gulls_168 : decode cX12_gulls 168 = .ok (.iadd, 1) := by decide +kernel
theorem dX12_gulls_169 : decode cX12_gulls 169 = .ok (.istore_n 3, 1) := by decide +kernel
theorem dX12_gulls_170 : decode cX12_gulls 170 = .ok (.iinc 4 1, 3) := by decide +kernel
theorem dX12_gulls_173 : decode cX12_gulls 173 = .ok (.goto (-71), 3) := by decide +kernel
theorem dX12_gulls_176 : decode cX12_gulls 176 = .ok (.iload_n 2, 1) := by decide +kernel
theorem dX12_gulls_177 : decode cX12_gulls 177 = .ok (.aload_n 0, 1) := by decide +kernel
theorem dX12_gulls_178 : decode cX12_gulls 178 = .ok (.getfield 7, 3) := by decide +kernel
theorem dX12_gulls_181 : decode cX12_gulls 181 = .ok (.bipush 8, 2) := by decide +kernel
theorem dX12_gulls_183 : decode cX12_gulls 183 = .ok (.iaload, 1) := by decide +kernel
theorem dX12_gulls_184 : decode cX12_gulls 184 = .ok (.if_icmp .ne 11, 3) := by decide +kernel
theorem dX12_gulls_187 : decode cX12_gulls 187 = .ok (.aload_n 0, 1) := by decide +kernel
theorem dX12_gulls_188 : decode cX12_gulls 188 = .ok (.iload_n 3, 1) := by decide +kernel
theorem dX12_gulls_189 : decode cX12_gulls 189 = .ok (.invokevirtual 82, 3) := by decide +kernel
theorem dX12_gulls_192 : decode cX12_gulls 192 = .ok (.goto 9, 3) := by decide +kernel
theorem dX12_gulls_195 : decode cX12_gulls 195 = .ok (.aload_n 0, 1) := by decide +kernel
theorem dX12_gulls_196 : decode cX12_gulls 196 = .ok (.bipush 7, 2) := by decide +kernel
theorem dX12_gulls_198 : decode cX12_gulls 198 = .ok (.invokevirtual 78, 3) := by decide +kernel
theorem dX12_gulls_201 : decode cX12_gulls 201 = .ok (.ireturn, 1) := by decide +kernel
theorem dX12_init_0 : decode cX12_init 0 = .ok (.aload_n 0, 1) := by decide +kernel
theorem dX12_init_1 : decode cX12_init 1 = .ok (.invokespecial 1, 3) := by decide +kernel
theorem dX12_init_4 : decode cX12_init 4 = .ok (.aload_n 0, 1) := by decide +kernel
theorem dX12_init_5 : decode cX12_init 5 = .ok (.sipush 8400, 3) := by decide +kernel
theorem dX12_init_8 : decode cX12_init 8 = .ok (.newarray .int, 2) := by decide +kernel
theorem dX12_init_10 : decode cX12_init 10 = .ok (.putfield 7, 3) := by decide +kernel
theorem dX12_init_13 : decode cX12_init 13 = .ok (.aload_n 0, 1) := by decide +kernel
theorem dX12_init_14 : decode cX12_init 14 = .ok (.bipush 80, 2) := by decide +kernel
theorem dX12_init_16 : decode cX12_init 16 = .ok (.newarray .long, 2) := by decide +kernel
theorem dX12_init_18 : decode cX12_init 18 = .ok (.putfield 13, 3) := by decide +kernel
theorem dX12_init_21 : decode cX12_init 21 = .ok (.aload_n 0, 1) := by decide +kernel
theorem dX12_init_22 : decode cX12_init 22 = .ok (.lconst 1, 1) := by decide +kernel
theorem dX12_init_23 : decode cX12_init 23 = .ok (.putfield 17, 3) := by decide +kernel
theorem dX12_init_26 : decode cX12_init 26 = .ok (.aload_n 0, 1) := by decide +kernel
theorem dX12_init_27 : decode cX12_init 27 = .ok (.iconst 4, 1) := by decide +kernel
theorem dX12_init_28 : decode cX12_init 28 = .ok (.newarray .int, 2) := by decide +kernel
theorem dX12_init_30 : decode cX12_init 30 = .ok (.putfield 21, 3) := by decide +kernel
theorem dX12_init_33 : decode cX12_init 33 = .ok (.aload_n 0, 1) := by decide +kernel
theorem dX12_init_34 : decode cX12_init 34 = .ok (.iconst 4, 1) := by decide +kernel
theorem dX12_init_35 : decode cX12_init 35 = .ok (.newarray .int, 2) := by decide +kernel
theorem dX12_init_37 : decode cX12_init 37 = .ok (.dup, 1) := by decide +kernel
theorem dX12_init_38 : decode cX12_init 38 = .ok (.iconst 0, 1) := by decide +kernel
theorem dX12_init_39 : decode cX12_init 39 = .ok (.iconst (-1), 1) := by decide +kernel
theorem dX12_init_40 : decode cX12_init 40 = .ok (.iastore, 1) := by decide +kernel
theorem dX12_init_41 : decode cX12_init 41 = .ok (.dup, 1) := by decide +kernel
theorem dX12_init_42 : decode cX12_init 42 = .ok (.iconst 1, 1) := by decide +kernel
theorem dX12_init_43 : decode cX12_init 43 = .ok (.iconst (-1), 1) := by decide +kernel
theorem dX12_init_44 : decode cX12_init 44 = .ok (.iastore, 1) := by decide +kernel
theorem dX12_init_45 : decode cX12_init 45 = .ok (.dup, 1) := by decide +kernel
theorem dX12_init_46 : decode cX12_init 46 = .ok (.iconst 2, 1) := by decide +kernel
theorem dX12_init_47 : decode cX12_init 47 = .ok (.iconst (-1), 1) := by decide +kernel
theorem dX12_init_48 : decode cX12_init 48 = .ok (.iastore, 1) := by decide +kernel
theorem dX12_init_49 : decode cX12_init 49 = .ok (.dup, 1) := by decide +kernel
theorem dX12_init_50 : decode cX12_init 50 = .ok (.iconst 3, 1) := by decide +kernel
theorem dX12_init_51 : decode cX12_init 51 = .ok (.iconst (-1), 1) := by decide +kernel
theorem dX12_init_52 : decode cX12_init 52 = .ok (.iastore, 1) := by decide +kernel
theorem dX12_init_53 : decode cX12_init 53 = .ok (.putfield 24, 3) := by decide +kernel
theorem dX12_init_56 : decode cX12_init 56 = .ok (.aload_n 0, 1) := by decide +kernel
theorem dX12_init_57 : decode cX12_init 57 = .ok (.sipush 240, 3) := by decide +kernel
theorem dX12_init_60 : decode cX12_init 60 = .ok (.newarray .long, 2) := by decide +kernel
theorem dX12_init_62 : decode cX12_init 62 = .ok (.putfield 27, 3) := by decide +kernel
theorem dX12_init_65 : decode cX12_init 65 = .ok (.aload_n 0, 1) := by decide +kernel
theorem dX12_init_66 : decode cX12_init 66 = .ok (.sipush 900, 3) := by decide +kernel
theorem dX12_init_69 : decode cX12_init 69 = .ok (.newarray .byte, 2) := by decide +kernel
theorem dX12_init_71 : decode cX12_init 71 = .ok (.putfield 30, 3) := by decide +kernel
theorem dX12_init_74 : decode cX12_init 74 = .ok (.aload_n 0, 1) := by decide +kernel
theorem dX12_init_75 : decode cX12_init 75 = .ok (.sipush 900, 3) := by decide +kernel
theorem dX12_init_78 : decode cX12_init 78 = .ok (.newarray .byte, 2) := by decide +kernel
theorem dX12_init_80 : decode cX12_init 80 = .ok (.putfield 34, 3) := by decide +kernel
theorem dX12_init_83 : decode cX12_init 83 = .ok (.aload_n 0, 1) := by decide +kernel
theorem dX12_init_84 : decode cX12_init 84 = .ok (.iconst (-1), 1) := by decide +kernel
theorem dX12_init_85 : decode cX12_init 85 = .ok (.putfield 37, 3) := by decide +kernel
theorem dX12_init_88 : decode cX12_init 88 = .ok (.aload_n 0, 1) := by decide +kernel
theorem dX12_init_89 : decode cX12_init 89 = .ok (.iconst (-1), 1) := by decide +kernel
theorem dX12_init_90 : decode cX12_init 90 = .ok (.putfield 41, 3) := by decide +kernel
theorem dX12_init_93 : decode cX12_init 93 = .ok (.aload_n 0, 1) := by decide +kernel
theorem dX12_init_94 : decode cX12_init 94 = .ok (.iconst 3, 1) := by decide +kernel
theorem dX12_init_95 : decode cX12_init 95 = .ok (.newarray .int, 2) := by decide +kernel
theorem dX12_init_97 : decode cX12_init 97 = .ok (.putfield 44, 3) := by decide +kernel
theorem dX12_init_100 : decode cX12_init 100 = .ok (.aload_n 0, 1) := by decide +kernel
theorem dX12_init_101 : decode cX12_init 101 = .ok (.bipush 9, 2) := by decide +kernel
theorem dX12_init_103 : decode cX12_init 103 = .ok (.newarray .int, 2) := by decide +kernel
theorem dX12_init_105 : decode cX12_init 105 = .ok (.putfield 47, 3) := by decide +kernel
theorem dX12_init_108 : decode cX12_init 108 = .ok (.aload_n 0, 1) := by decide +kernel
theorem dX12_init_109 : decode cX12_init 109 = .ok (.bipush 9, 2) := by decide +kernel
theorem dX12_init_111 : decode cX12_init 111 = .ok (.newarray .int, 2) := by decide +kernel
theorem dX12_init_113 : decode cX12_init 113 = .ok (.putfield 50, 3) := by decide +kernel
theorem dX12_init_116 : decode cX12_init 116 = .ok (.aload_n 0, 1) := by decide +kernel
theorem dX12_init_117 : decode cX12_init 117 = .ok (.bipush 8, 2) := by decide +kernel
theorem dX12_init_119 : decode cX12_init 119 = .ok (.newarray .int, 2) := by decide +kernel
theorem dX12_init_121 : decode cX12_init 121 = .ok (.putfield 53, 3) := by decide +kernel
theorem dX12_init_124 : decode cX12_init 124 = .ok (.aload_n 0, 1) := by decide +kernel
theorem dX12_init_125 : decode cX12_init 125 = .ok (.bipush 8, 2) := by decide +kernel
theorem dX12_init_127 : decode cX12_init 127 = .ok (.newarray .int, 2) := by decide +kernel
theorem dX12_init_129 : decode cX12_init 129 = .ok (.putfield 56, 3) := by decide +kernel
theorem dX12_init_132 : decode cX12_init 132 = .ok (.aload_n 0, 1) := by decide +kernel
theorem dX12_init_133 : decode cX12_init 133 = .ok (.bipush 80, 2) := by decide +kernel
theorem dX12_init_135 : decode cX12_init 135 = .ok (.newarray .int, 2) := by decide +kernel
theorem dX12_init_137 : decode cX12_init 137 = .ok (.putfield 59, 3) := by decide +kernel
theorem dX12_init_140 : decode cX12_init 140 = .ok (.aload_n 0, 1) := by decide +kernel
theorem dX12_init_141 : decode cX12_init 141 = .ok (.iconst 5, 1) := by decide +kernel
theorem dX12_init_142 : decode cX12_init 142 = .ok (.newarray .int, 2) := by decide +kernel
theorem dX12_init_144 : decode cX12_init 144 = .ok (.putfield 62, 3) := by decide +kernel
theorem dX12_init_147 : decode cX12_init 147 = .ok (.aload_n 0, 1) := by decide +kernel
theorem dX12_init_148 : decode cX12_init 148 = .ok (.iconst 5, 1) := by decide +kernel
theorem dX12_init_149 : decode cX12_init 149 = .ok (.newarray .int, 2) := by decide +kernel
theorem dX12_init_151 : decode cX12_init 151 = .ok (.putfield 65, 3) := by decide +kernel
theorem dX12_init_154 : decode cX12_init 154 = .ok (.aload_n 0, 1) := by decide +kernel
theorem dX12_init_155 : decode cX12_init 155 = .ok (.iconst 0, 1) := by decide +kernel
theorem dX12_init_156 : decode cX12_init 156 = .ok (.invokevirtual 68, 3) := by decide +kernel
theorem dX12_init_159 : decode cX12_init 159 = .ok (.aload_n 0, 1) := by decide +kernel
theorem dX12_init_160 : decode cX12_init 160 = .ok (.getfield 7, 3) := by decide +kernel
theorem dX12_init_163 : decode cX12_init 163 = .ok (.iconst 0, 1) := by decide +kernel
theorem dX12_init_164 : decode cX12_init 164 = .ok (.iconst 2, 1) := by decide +kernel
theorem dX12_init_165 : decode cX12_init 165 = .ok (.iastore, 1) := by decide +kernel
theorem dX12_init_166 : decode cX12_init 166 = .ok (.aload_n 0, 1) := by decide +kernel
theorem dX12_init_167 : decode cX12_init 167 = .ok (.getfield 7, 3) := by decide +kernel
theorem dX12_init_170 : decode cX12_init 170 = .ok (.iconst 3, 1) := by decide +kernel
theorem dX12_init_171 : decode cX12_init 171 = .ok (.bipush 60, 2) := by decide +kernel
theorem dX12_init_173 : decode cX12_init 173 = .ok (.iastore, 1) := by decide +kernel
theorem dX12_init_174 : decode cX12_init 174 = .ok (.return_, 1) := by decide +kernel
theorem dX12_wrongFind_0 : decode cX12_wrongFind 0 = .ok (.aload_n 0, 1) := by decide +kernel
theorem dX12_wrongFind_1 : decode cX12_wrongFind 1 = .ok (.iload_n 1, 1) := by decide +kernel
theorem dX12_wrongFind_2 : decode cX12_wrongFind 2 = .ok (.invokevirtual 265, 3) := by decide +kernel
theorem dX12_wrongFind_5 : decode cX12_wrongFind 5 = .ok (.ifCond .ne 7, 3) := by decide +kernel
theorem dX12_wrongFind_8 : decode cX12_wrongFind 8 = .ok (.iconst 1, 1) := by decide +kernel
theorem dX12_wrongFind_9 : decode cX12_wrongFind 9 = .ok (.goto 17, 3) := by decide +kernel
theorem dX12_wrongFind_12 : decode cX12_wrongFind 12 = .ok (.aload_n 0, 1) := by decide +kernel
theorem dX12_wrongFind_13 : decode cX12_wrongFind 13 = .ok (.iload_n 1, 1) := by decide +kernel
theorem dX12_wrongFind_14 : decode cX12_wrongFind 14 = .ok (.invokevirtual 268, 3) := by decide +kernel
theorem dX12_wrongFind_17 : decode cX12_wrongFind 17 = .ok (.ifCond .eq 7, 3) := by decide +kernel
theorem dX12_wrongFind_20 : decode cX12_wrongFind 20 = .ok (.iconst 0, 1) := by decide +kernel
theorem dX12_wrongFind_21 : decode cX12_wrongFind 21 = .ok (.goto 5, 3) := by decide +kernel
theorem dX12_wrongFind_24 : decode cX12_wrongFind 24 = .ok (.bipush 7, 2) := by decide +kernel
theorem dX12_wrongFind_26 : decode cX12_wrongFind 26 = .ok (.ireturn, 1) := by decide +kernel
theorem dX12_last_0 : decode cX12_last 0 = .ok (.aload_n 0, 1) := by decide +kernel
theorem dX12_last_1 : decode cX12_last 1 = .ok (.iload_n 1, 1) := by decide +kernel
theorem dX12_last_2 : decode cX12_last 2 = .ok (.invokevirtual 349, 3) := by decide +kernel
theorem dX12_last_5 : decode cX12_last 5 = .ok (.istore_n 2, 1) := by decide +kernel
theorem dX12_last_6 : decode cX12_last 6 = .ok (.iload_n 2, 1) := by decide +kernel
theorem dX12_last_7 : decode cX12_last 7 = .ok (.ifCond .le 11, 3) := by decide +kernel
theorem dX12_last_10 : decode cX12_last 10 = .ok (.aload_n 0, 1) := by decide +kernel
theorem dX12_last_11 : decode cX12_last 11 = .ok (.iload_n 2, 1) := by decide +kernel
theorem dX12_last_12 : decode cX12_last 12 = .ok (.invokevirtual 78, 3) := by decide +kernel
theorem dX12_last_15 : decode cX12_last 15 = .ok (.goto 12, 3) := by decide +kernel
theorem dX12_last_18 : decode cX12_last 18 = .ok (.aload_n 0, 1) := by decide +kernel
theorem dX12_last_19 : decode cX12_last 19 = .ok (.aload_n 0, 1) := by decide +kernel
theorem dX12_last_20 : decode cX12_last 20 = .ok (.iload_n 1, 1) := by decide +kernel
theorem dX12_last_21 : decode cX12_last 21 = .ok (.invokevirtual 337, 3) := by decide +kernel
theorem dX12_last_24 : decode cX12_last 24 = .ok (.invokevirtual 82, 3) := by decide +kernel
theorem dX12_last_27 : decode cX12_last 27 = .ok (.ireturn, 1) := by decide +kernel
theorem dX12_lateness_0 : decode cX12_lateness 0 = .ok (.aload_n 0, 1) := by decide +kernel
theorem dX12_lateness_1 : decode cX12_lateness 1 = .ok (.iload_n 1, 1) := by decide +kernel
theorem dX12_lateness_2 : decode cX12_lateness 2 = .ok (.invokevirtual 271, 3) := by decide +kernel
theorem dX12_lateness_5 : decode cX12_lateness 5 = .ok (.ifCond .eq 15, 3) := by decide +kernel
theorem dX12_lateness_8 : decode cX12_lateness 8 = .ok (.iload_n 2, 1) := by decide +kernel
theorem dX12_lateness_9 : decode cX12_lateness 9 = .ok (.i2l, 1) := by decide +kernel
theorem dX12_lateness_10 : decode cX12_lateness 10 = .ok (.lconst 0, 1) := by decide +kernel
theorem dX12_lateness_11 : decode cX12_lateness 11 = .ok (.ldc2_w 296, 3) := by decide +kernel
theorem dX12_lateness_14 : decode cX12_lateness 14 = .ok (.invokestatic 289, 3) := by decide +kernel
theorem dX12_lateness_17 : decode cX12_lateness 17 = .ok (.ifCond .ne 9, 3) := by decide +kernel
theorem dX12_lateness_20 : decode cX12_lateness 20 = .ok (.aload_n 0, 1) := by decide +kernel
theorem dX12_lateness_21 : decode cX12_lateness 21 = .ok (.iconst 1, 1) := by decide +kernel
theorem dX12_lateness_22 : decode cX12_lateness 22 = .ok (.invokevirtual 78, 3) := by decide +kernel
theorem dX12_lateness_25 : decode cX12_lateness 25 = .ok (.ireturn, 1) := by decide +kernel
theorem dX12_lateness_26 : decode cX12_lateness 26 = .ok (.aload_n 0, 1) := by decide +kernel
theorem dX12_lateness_27 : decode cX12_lateness 27 = .ok (.aload_n 0, 1) := by decide +kernel
theorem dX12_lateness_28 : decode cX12_lateness 28 = .ok (.iload_n 1, 1) := by decide +kernel
theorem dX12_lateness_29 : decode cX12_lateness 29 = .ok (.aload_n 0, 1) := by decide +kernel
theorem dX12_lateness_30 : decode cX12_lateness 30 = .ok (.getfield 7, 3) := by decide +kernel
theorem dX12_lateness_33 : decode cX12_lateness 33 = .ok (.iconst 3, 1) := by decide +kernel
theorem dX12_lateness_34 : decode cX12_lateness 34 = .ok (.iaload, 1) := by decide +kernel
theorem dX12_lateness_35 : decode cX12_lateness 35 = .ok (.iload_n 2, 1) := by decide +kernel
theorem dX12_lateness_36 : decode cX12_lateness 36 = .ok (.iadd, 1) := by decide +kernel
theorem dX12_lateness_37 : decode cX12_lateness 37 = .ok (.invokevirtual 399, 3) := by decide +kernel
theorem dX12_lateness_40 : decode cX12_lateness 40 = .ok (.aload_n 0, 1) := by decide +kernel
theorem dX12_lateness_41 : decode cX12_lateness 41 = .ok (.iload_n 1, 1) := by decide +kernel
theorem dX12_lateness_42 : decode cX12_lateness 42 = .ok (.aload_n 0, 1) := by decide +kernel
theorem dX12_lateness_43 : decode cX12_lateness 43 = .ok (.getfield 7, 3) := by decide +kernel
theorem dX12_lateness_46 : decode cX12_lateness 46 = .ok (.iconst 3, 1) := by decide +kernel
theorem dX12_lateness_47 : decode cX12_lateness 47 = .ok (.iaload, 1) := by decide +kernel
theorem dX12_lateness_48 : decode cX12_lateness 48 = .ok (.invokevirtual 399, 3) := by decide +kernel
theorem dX12_lateness_51 : decode cX12_lateness 51 = .ok (.isub, 1) := by decide +kernel
theorem dX12_lateness_52 : decode cX12_lateness 52 = .ok (.invokevirtual 82, 3) := by decide +kernel
theorem dX12_lateness_55 : decode cX12_lateness 55 = .ok (.ireturn, 1) := by decide +kernel
theorem dX12_latest_0 : decode cX12_latest 0 = .ok (.iconst (-1), 1) := by decide +kernel
theorem dX12_latest_1 : decode cX12_latest 1 = .ok (.istore_n 1, 1) := by decide +kernel
theorem dX12_latest_2 : decode cX12_latest 2 = .ok (.iconst 0, 1) := by decide +kernel
theorem dX12_latest_3 : decode cX12_latest 3 = .ok (.istore_n 2, 1) := by decide +kernel
theorem dX12_latest_4 : decode cX12_latest 4 = .ok (.iload_n 2, 1) := by decide +kernel
theorem dX12_latest_5 : decode cX12_latest 5 = .ok (.aload_n 0, 1) := by decide +kernel
theorem dX12_latest_6 : decode cX12_latest 6 = .ok (.getfield 7, 3) := by decide +kernel
theorem dX12_latest_9 : decode cX12_latest 9 = .ok (.iconst 2, 1) := by decide +kernel
theorem dX12_latest_10 : decode cX12_latest 10 = .ok (.iaload, 1) := by decide +kernel
theorem dX12_latest_11 : decode cX12_latest 11 = .ok (.if_icmp .ge 34, 3) := by decide +kernel
theorem dX12_latest_14 : decode cX12_latest 14 = .ok (.aload_n 0, 1) := by decide +kernel
theorem dX12_latest_15 : decode cX12_latest 15 = .ok (.iload_n 2, 1) := by decide +kernel
theorem dX12_latest_16 : decode cX12_latest 16 = .ok (.invokevirtual 277, 3) := by decide +kernel
theorem dX12_latest_19 : decode cX12_latest 19 = .ok (.ifCond .le 20, 3) := by decide +kernel
theorem dX12_latest_22 : decode cX12_latest 22 = .ok (.iload_n 1, 1) := by decide +kernel
theorem dX12_latest_23 : decode cX12_latest 23 = .ok (.aload_n 0, 1) := by decide +kernel
theorem dX12_latest_24 : decode cX12_latest 24 = .ok (.iload_n 2, 1) := by decide +kernel
theorem dX12_latest_25 : decode cX12_latest 25 = .ok (.aload_n 0, 1) := by decide +kernel
theorem dX12_latest_26 : decode cX12_latest 26 = .ok (.iload_n 2, 1) := by decide +kernel
theorem dX12_latest_27 : decode cX12_latest 27 = .ok (.invokevirtual 277, 3) := by decide +kernel
theorem dX12_latest_30 : decode cX12_latest 30 = .ok (.iconst 1, 1) := by decide +kernel
theorem dX12_latest_31 : decode cX12_latest 31 = .ok (.isub, 1) := by decide +kernel
theorem dX12_latest_32 : decode cX12_latest 32 = .ok (.invokevirtual 314, 3) := by decide +kernel
theorem dX12_latest_35 : decode cX12_latest 35 = .ok (.invokestatic 375, 3) := by decide +kernel
theorem dX12_latest_38 : decode cX12_latest 38 = .ok (.istore_n 1, 1) := by decide +kernel
theorem dX12_latest_39 : decode cX12_latest 39 = .ok (.iinc 2 1, 3) := by decide +kernel
theorem dX12_latest_42 : decode cX12_latest 42 = .ok (.goto (-38), 3) := by decide +kernel
theorem dX12_latest_45 : decode cX12_latest 45 = .ok (.aload_n 0, 1) := by decide +kernel
theorem dX12_latest_46 : decode cX12_latest 46 = .ok (.iload_n 1, 1) := by decide +kernel
theorem dX12_latest_47 : decode cX12_latest 47 = .ok (.invokevirtual 358, 3) := by decide +kernel
theorem dX12_latest_50 : decode cX12_latest 50 = .ok (.ireturn, 1) := by decide +kernel
theorem dX12_leader_0 : decode cX12_leader 0 = .ok (.aload_n 0, 1) := by decide +kernel
theorem dX12_leader_1 : decode cX12_leader 1 = .ok (.aload_n 0, 1) := by decide +kernel
theorem dX12_leader_2 : decode cX12_leader 2 = .ok (.iconst 0, 1) := by decide +kernel
theorem dX12_leader_3 : decode cX12_leader 3 = .ok (.invokevirtual 355, 3) := by decide +kernel
theorem dX12_leader_6 : decode cX12_leader 6 = .ok (.invokevirtual 358, 3) := by decide +kernel
theorem dX12_leader_9 : decode cX12_leader 9 = .ok (.ireturn, 1) := by decide +kernel
theorem dX12_leads_0 : decode cX12_leads 0 = .ok (.aload_n 0, 1) := by decide +kernel
theorem dX12_leads_1 : decode cX12_leads 1 = .ok (.iload_n 1, 1) := by decide +kernel
theorem dX12_leads_2 : decode cX12_leads 2 = .ok (.invokevirtual 271, 3) := by decide +kernel
theorem dX12_leads_5 : decode cX12_leads 5 = .ok (.ifCond .eq 15, 3) := by decide +kernel
theorem dX12_leads_8 : decode cX12_leads 8 = .ok (.aload_n 0, 1) := by decide +kernel
theorem dX12_leads_9 : decode cX12_leads 9 = .ok (.aload_n 0, 1) := by decide +kernel
theorem dX12_leads_10 : decode cX12_leads 10 = .ok (.iload_n 1, 1) := by decide +kernel
theorem dX12_leads_11 : decode cX12_leads 11 = .ok (.invokevirtual 352, 3) := by decide +kernel
theorem dX12_leads_14 : decode cX12_leads 14 = .ok (.invokevirtual 82, 3) := by decide +kernel
theorem dX12_leads_17 : decode cX12_leads 17 = .ok (.goto 8, 3) := by decide +kernel
theorem dX12_leads_20 : decode cX12_leads 20 = .ok (.aload_n 0, 1) := by decide +kernel
theorem dX12_leads_21 : decode cX12_leads 21 = .ok (.iconst 1, 1) := by decide +kernel
theorem dX12_leads_22 : decode cX12_leads 22 = .ok (.invokevirtual 78, 3) := by decide +kernel
theorem dX12_leads_25 : decode cX12_leads 25 = .ok (.ireturn, 1) := by decide +kernel
theorem dX12_leftOn_0 : decode cX12_leftOn 0 = .ok (.aload_n 0, 1) := by decide +kernel
theorem dX12_leftOn_1 : decode cX12_leftOn 1 = .ok (.getfield 7, 3) := by decide +kernel
theorem dX12_leftOn_4 : decode cX12_leftOn 4 = .ok (.iconst 3, 1) := by decide +kernel
theorem dX12_leftOn_5 : decode cX12_leftOn 5 = .ok (.iaload, 1) := by decide +kernel
theorem dX12_leftOn_6 : decode cX12_leftOn 6 = .ok (.aload_n 0, 1) := by decide +kernel
theorem dX12_leftOn_7 : decode cX12_leftOn 7 = .ok (.iload_n 1, 1) := by decide +kernel
theorem dX12_leftOn_8 : decode cX12_leftOn 8 = .ok (.aload_n 0, 1) := by decide +kernel
theorem dX12_leftOn_9 : decode cX12_leftOn 9 = .ok (.iload_n 1, 1) := by decide +kernel
theorem dX12_leftOn_10 : decode cX12_leftOn 10 = .ok (.invokevirtual 277, 3) := by decide +kernel
theorem dX12_leftOn_13 : decode cX12_leftOn 13 = .ok (.iconst 1, 1) := by decide +kernel
theorem dX12_leftOn_14 : decode cX12_leftOn 14 = .ok (.isub, 1) := by decide +kernel
theorem dX12_leftOn_15 : decode cX12_leftOn 15 = .ok (.invokevirtual 314, 3) := by decide +kernel
theorem dX12_leftOn_18 : decode cX12_leftOn 18 = .ok (.isub, 1) := by decide +kernel
theorem dX12_leftOn_19 : decode cX12_leftOn 19 = .ok (.ireturn, 1) := by decide +kernel
theorem dX12_wrongLast_0 : decode cX12_wrongLast 0 = .ok (.aload_n 0, 1) := by decide +kernel
theorem dX12_wrongLast_1 : decode cX12_wrongLast 1 = .ok (.iload_n 1, 1) := by decide +kernel
theorem dX12_wrongLast_2 : decode cX12_wrongLast 2 = .ok (.invokevirtual 349, 3) := by decide +kernel
theorem dX12_wrongLast_5 : decode cX12_wrongLast 5 = .ok (.ifCond .le 11, 3) := by decide +kernel
theorem dX12_wrongLast_8 : decode cX12_wrongLast 8 = .ok (.aload_n 0, 1) := by decide +kernel
theorem dX12_wrongLast_9 : decode cX12_wrongLast 9 = .ok (.iload_n 1, 1) := by decide +kernel
theorem dX12_wrongLast_10 : decode cX12_wrongLast 10 = .ok (.invokevirtual 349, 3) := by decide +kernel
theorem dX12_wrongLast_13 : decode cX12_wrongLast 13 = .ok (.goto 17, 3) := by decide +kernel
theorem dX12_wrongLast_16 : decode cX12_wrongLast 16 = .ok (.aload_n 0, 1) := by decide +kernel
theorem dX12_wrongLast_17 : decode cX12_wrongLast 17 = .ok (.iload_n 1, 1) := by decide +kernel
theorem dX12_wrongLast_18 : decode cX12_wrongLast 18 = .ok (.invokevirtual 277, 3) := by decide +kernel
theorem dX12_wrongLast_21 : decode cX12_wrongLast 21 = .ok (.ifCond .ne 8, 3) := by decide +kernel
theorem dX12_wrongLast_24 : decode cX12_wrongLast 24 = .ok (.bipush 6, 2) := by decide +kernel
theorem dX12_wrongLast_26 : decode cX12_wrongLast 26 = .ok (.goto 4, 3) := by decide +kernel
theorem dX12_wrongLast_29 : decode cX12_wrongLast 29 = .ok (.iconst 0, 1) := by decide +kernel
theorem dX12_wrongLast_30 : decode cX12_wrongLast 30 = .ok (.ireturn, 1) := by decide +kernel
theorem dX12_left_0 : decode cX12_left 0 = .ok (.aload_n 0, 1) := by decide +kernel
theorem dX12_left_1 : decode cX12_left 1 = .ok (.iload_n 1, 1) := by decide +kernel
theorem dX12_left_2 : decode cX12_left 2 = .ok (.invokevirtual 367, 3) := by decide +kernel
theorem dX12_left_5 : decode cX12_left 5 = .ok (.istore_n 2, 1) := by decide +kernel
theorem dX12_left_6 : decode cX12_left 6 = .ok (.iload_n 2, 1) := by decide +kernel
theorem dX12_left_7 : decode cX12_left 7 = .ok (.ifCond .le 11, 3) := by decide +kernel
theorem dX12_left_10 : decode cX12_left 10 = .ok (.aload_n 0, 1) := by decide +kernel
theorem dX12_left_11 : decode cX12_left 11 = .ok (.iload_n 2, 1) := by decide +kernel
theorem dX12_left_12 : decode cX12_left 12 = .ok (.invokevirtual 78, 3) := by decide +kernel
theorem dX12_left_15 : decode cX12_left 15 = .ok (.goto 12, 3) := by decide +kernel
theorem dX12_left_18 : decode cX12_left 18 = .ok (.aload_n 0, 1) := by decide +kernel
theorem dX12_left_19 : decode cX12_left 19 = .ok (.aload_n 0, 1) := by decide +kernel
theorem dX12_left_20 : decode cX12_left 20 = .ok (.iload_n 1, 1) := by decide +kernel
theorem dX12_left_21 : decode cX12_left 21 = .ok (.invokevirtual 370, 3) := by decide +kernel
theorem dX12_left_24 : decode cX12_left 24 = .ok (.invokevirtual 82, 3) := by decide +kernel
theorem dX12_left_27 : decode cX12_left 27 = .ok (.ireturn, 1) := by decide +kernel
theorem dX12_lies_0 : decode cX12_lies 0 = .ok (.aload_n 0, 1) := by decide +kernel
theorem dX12_lies_1 : decode cX12_lies 1 = .ok (.iload_n 1, 1) := by decide +kernel
theorem dX12_lies_2 : decode cX12_lies 2 = .ok (.invokevirtual 271, 3) := by decide +kernel
theorem dX12_lies_5 : decode cX12_lies 5 = .ok (.ifCond .ne 9, 3) := by decide +kernel
theorem dX12_lies_8 : decode cX12_lies 8 = .ok (.aload_n 0, 1) := by decide +kernel
theorem dX12_lies_9 : decode cX12_lies 9 = .ok (.iconst 1, 1) := by decide +kernel
theorem dX12_lies_10 : decode cX12_lies 10 = .ok (.invokevirtual 78, 3) := by decide +kernel
theorem dX12_lies_13 : decode cX12_lies 13 = .ok (.ireturn, 1) := by decide +kernel
theorem dX12_lies_14 : decode cX12_lies 14 = .ok (.iload_n 2, 1) := by decide +kernel
theorem dX12_lies_15 : decode cX12_lies 15 = .ok (.istore_n 3, 1) := by decide +kernel
theorem dX12_lies_16 : decode cX12_lies 16 = .ok (.iconst 0, 1) := by decide +kernel
theorem dX12_lies_17 : decode cX12_lies 17 = .ok (.istore 4, 2) := by decide +kernel
theorem dX12_lies_19 : decode cX12_lies 19 = .ok (.iload 4, 2) := by decide +kernel
theorem dX12_lies_21 : decode cX12_lies 21 = .ok (.aload_n 0, 1) := by decide +kernel
theorem dX12_lies_22 : decode cX12_lies 22 = .ok (.getfield 7, 3) := by decide +kernel
theorem dX12_lies_25 : decode cX12_lies 25 = .ok (.iconst 2, 1) := by decide +kernel
theorem dX12_lies_26 : decode cX12_lies 26 = .ok (.iaload, 1) := by decide +kernel
theorem dX12_lies_27 : decode cX12_lies 27 = .ok (.if_icmp .ge 41, 3) := by decide +kernel
theorem dX12_lies_30 : decode cX12_lies 30 = .ok (.iload_n 2, 1) := by decide +kernel
theorem dX12_lies_31 : decode cX12_lies 31 = .ok (.ifCond .lt 37, 3) := by decide +kernel
theorem dX12_lies_34 : decode cX12_lies 34 = .ok (.iload_n 3, 1) := by decide +kernel
theorem dX12_lies_35 : decode cX12_lies 35 = .ok (.aload_n 0, 1) := by decide +kernel
theorem dX12_lies_36 : decode cX12_lies 36 = .ok (.iload_n 1, 1) := by decide +kernel
theorem dX12_lies_37 : decode cX12_lies 37 = .ok (.iload 4, 2) := by decide +kernel
theorem dX12_lies_39 : decode cX12_lies 39 = .ok (.invokevirtual 364, 3) := by decide +kernel
theorem dX12_lies_42 : decode cX12_lies 42 = .ok (.if_icmp .ge 10, 3) := by decide +kernel
theorem dX12_lies_45 : decode cX12_lies 45 = .ok (.aload_n 0, 1) := by decide +kernel
theorem dX12_lies_46 : decode cX12_lies 46 = .ok (.iload 4, 2) := by decide +kernel
theorem dX12_lies_48 : decode cX12_lies 48 = .ok (.invokevirtual 82, 3) := by decide +kernel
theorem dX12_lies_51 : decode cX12_lies 51 = .ok (.ireturn, 1) := by decide +kernel
theorem dX12_lies_52 : decode cX12_lies 52 = .ok (.iload_n 3, 1) := by decide +kernel
theorem dX12_lies_53 : decode cX12_lies 53 = .ok (.aload_n 0, 1) := by decide +kernel
theorem dX12_lies_54 : decode cX12_lies 54 = .ok (.iload_n 1, 1) := by decide +kernel
theorem dX12_lies_55 : decode cX12_lies 55 = .ok (.iload 4, 2) := by decide +kernel
theorem dX12_lies_57 : decode cX12_lies 57 = .ok (.invokevirtual 364, 3) := by decide +kernel
theorem dX12_lies_60 : decode cX12_lies 60 = .ok (.isub, 1) := by decide +kernel
theorem dX12_lies_61 : decode cX12_lies 61 = .ok (.istore_n 3, 1) := by decide +kernel
theorem dX12_lies_62 : decode cX12_lies 62 = .ok (.iinc 4 1, 3) := by decide +kernel
theorem dX12_lies_65 : decode cX12_lies 65 = .ok (.goto (-46), 3) := by decide +kernel
theorem dX12_lies_68 : decode cX12_lies 68 = .ok (.aload_n 0, 1) := by decide +kernel
theorem dX12_lies_69 : decode cX12_lies 69 = .ok (.bipush 6, 2) := by decide +kernel
theorem dX12_lies_71 : decode cX12_lies 71 = .ok (.invokevirtual 78, 3) := by decide +kernel
theorem dX12_lies_74 : decode cX12_lies 74 = .ok (.ireturn, 1) := by decide +kernel
theorem dX12_ownOn_0 : decode cX12_ownOn 0 = .ok (.aload_n 0, 1) := by decide +kernel
theorem dX12_ownOn_1 : decode cX12_ownOn 1 = .ok (.iload_n 2, 1) := by decide +kernel
theorem dX12_ownOn_2 : decode cX12_ownOn 2 = .ok (.invokevirtual 277, 3) := by decide +kernel
theorem dX12_ownOn_5 : decode cX12_ownOn 5 = .ok (.iconst 1, 1) := by decide +kernel
theorem dX12_ownOn_6 : decode cX12_ownOn 6 = .ok (.isub, 1) := by decide +kernel
theorem dX12_ownOn_7 : decode cX12_ownOn 7 = .ok (.istore_n 3, 1) := by decide +kernel
theorem dX12_ownOn_8 : decode cX12_ownOn 8 = .ok (.iload_n 3, 1) := by decide +kernel
theorem dX12_ownOn_9 : decode cX12_ownOn 9 = .ok (.ifCond .lt 21, 3) := by decide +kernel
theorem dX12_ownOn_12 : decode cX12_ownOn 12 = .ok (.aload_n 0, 1) := by decide +kernel
theorem dX12_ownOn_13 : decode cX12_ownOn 13 = .ok (.iload_n 2, 1) := by decide +kernel
theorem dX12_ownOn_14 : decode cX12_ownOn 14 = .ok (.iload_n 3, 1) := by decide +kernel
theorem dX12_ownOn_15 : decode cX12_ownOn 15 = .ok (.invokevirtual 308, 3) := by decide +kernel
theorem dX12_ownOn_18 : decode cX12_ownOn 18 = .ok (.iload_n 1, 1) := by decide +kernel
theorem dX12_ownOn_19 : decode cX12_ownOn 19 = .ok (.if_icmp .ne 5, 3) := by decide +kernel
theorem dX12_ownOn_22 : decode cX12_ownOn 22 = .ok (.iload_n 3, 1) := by decide +kernel
theorem dX12_ownOn_23 : decode cX12_ownOn 23 = .ok (.ireturn, 1) := by decide +kernel
theorem dX12_ownOn_24 : decode cX12_ownOn 24 = .ok (.iinc 3 (-1), 3) := by decide +kernel
theorem dX12_ownOn_27 : decode cX12_ownOn 27 = .ok (.goto (-19), 3) := by decide +kernel
theorem dX12_ownOn_30 : decode cX12_ownOn 30 = .ok (.iconst (-1), 1) := by decide +kernel
theorem dX12_ownOn_31 : decode cX12_ownOn 31 = .ok (.ireturn, 1) := by decide +kernel
theorem dX12_lifts_0 : decode cX12_lifts 0 = .ok (.aload_n 0, 1) := by decide +kernel
theorem dX12_lifts_1 : decode cX12_lifts 1 = .ok (.iload_n 1, 1) := by decide +kernel
theorem dX12_lifts_2 : decode cX12_lifts 2 = .ok (.iload_n 2, 1) := by decide +kernel
theorem dX12_lifts_3 : decode cX12_lifts 3 = .ok (.invokevirtual 311, 3) := by decide +kernel
theorem dX12_lifts_6 : decode cX12_lifts 6 = .ok (.istore_n 3, 1) := by decide +kernel
theorem dX12_lifts_7 : decode cX12_lifts 7 = .ok (.aload_n 0, 1) := by decide +kernel
theorem dX12_lifts_8 : decode cX12_lifts 8 = .ok (.iload_n 2, 1) := by decide +kernel
theorem dX12_lifts_9 : decode cX12_lifts 9 = .ok (.iload_n 3, 1) := by decide +kernel
theorem dX12_lifts_10 : decode cX12_lifts 10 = .ok (.invokevirtual 314, 3) := by decide +kernel
theorem dX12_lifts_13 : decode cX12_lifts 13 = .ok (.istore 4, 2) := by decide +kernel
theorem dX12_lifts_15 : decode cX12_lifts 15 = .ok (.aload_n 0, 1) := by decide +kernel
theorem dX12_lifts_16 : decode cX12_lifts 16 = .ok (.iload_n 2, 1) := by decide +kernel
theorem dX12_lifts_17 : decode cX12_lifts 17 = .ok (.iload_n 3, 1) := by decide +kernel
theorem dX12_lifts_18 : decode cX12_lifts 18 = .ok (.invokevirtual 317, 3) := by decide +kernel
theorem dX12_lifts_21 : decode cX12_lifts 21 = .ok (.aload_n 0, 1) := by decide +kernel
theorem dX12_lifts_22 : decode cX12_lifts 22 = .ok (.getfield 7, 3) := by decide +kernel
theorem dX12_lifts_25 : decode cX12_lifts 25 = .ok (.iload_n 1, 1) := by decide +kernel
theorem dX12_lifts_26 : decode cX12_lifts 26 = .ok (.invokestatic 274, 3) := by decide +kernel
theorem dX12_lifts_29 : decode cX12_lifts 29 = .ok (.iconst 2, 1) := by decide +kernel
theorem dX12_lifts_30 : decode cX12_lifts 30 = .ok (.iadd, 1) := by decide +kernel
theorem dX12_lifts_31 : decode cX12_lifts 31 = .ok (.dup2, 1) := by decide +kernel
theorem dX12_lifts_32 : decode cX12_lifts 32 = .ok (.iaload, 1) := by decide +kernel
theorem dX12_lifts_33 : decode cX12_lifts 33 = .ok (.iconst 1, 1) := by decide +kernel
theorem dX12_lifts_34 : decode cX12_lifts 34 = .ok (.iadd, 1) := by decide +kernel
theorem dX12_lifts_35 : decode cX12_lifts 35 = .ok (.iastore, 1) := by decide +kernel
theorem dX12_lifts_36 : decode cX12_lifts 36 = .ok (.iload 4, 2) := by decide +kernel
theorem dX12_lifts_38 : decode cX12_lifts 38 = .ok (.ireturn, 1) := by decide +kernel
theorem dX12_wrongLift_0 : decode cX12_wrongLift 0 = .ok (.aload_n 0, 1) := by decide +kernel
theorem dX12_wrongLift_1 : decode cX12_wrongLift 1 = .ok (.iload_n 1, 1) := by decide +kernel
theorem dX12_wrongLift_2 : decode cX12_wrongLift 2 = .ok (.iload_n 2, 1) := by decide +kernel
theorem dX12_wrongLift_3 : decode cX12_wrongLift 3 = .ok (.invokevirtual 311, 3) := by decide +kernel
theorem dX12_wrongLift_6 : decode cX12_wrongLift 6 = .ok (.iconst (-1), 1) := by decide +kernel
theorem dX12_wrongLift_7 : decode cX12_wrongLift 7 = .ok (.if_icmp .ne 8, 3) := by decide +kernel
theorem dX12_wrongLift_10 : decode cX12_wrongLift 10 = .ok (.bipush 6, 2) := by decide +kernel
theorem dX12_wrongLift_12 : decode cX12_wrongLift 12 = .ok (.goto 31, 3) := by decide +kernel
theorem dX12_wrongLift_15 : decode cX12_wrongLift 15 = .ok (.aload_n 0, 1) := by decide +kernel
theorem dX12_wrongLift_16 : decode cX12_wrongLift 16 = .ok (.getfield 7, 3) := by decide +kernel
theorem dX12_wrongLift_19 : decode cX12_wrongLift 19 = .ok (.iload_n 1, 1) := by decide +kernel
theorem dX12_wrongLift_20 : decode cX12_wrongLift 20 = .ok (.invokestatic 274, 3) := by decide +kernel
theorem dX12_wrongLift_23 : decode cX12_wrongLift 23 = .ok (.iaload, 1) := by decide +kernel
theorem dX12_wrongLift_24 : decode cX12_wrongLift 24 = .ok (.aload_n 0, 1) := by decide +kernel
theorem dX12_wrongLift_25 : decode cX12_wrongLift 25 = .ok (.getfield 7, 3) := by decide +kernel
theorem dX12_wrongLift_28 : decode cX12_wrongLift 28 = .ok (.iconst 0, 1) := by decide +kernel
theorem dX12_wrongLift_29 : decode cX12_wrongLift 29 = .ok (.iload_n 2, 1) := by decide +kernel
theorem dX12_wrongLift_30 : decode cX12_wrongLift 30 = .ok (.invokestatic 171, 3) := by decide +kernel
theorem dX12_wrongLift_33 : decode cX12_wrongLift 33 = .ok (.iaload, 1) := by decide +kernel
theorem dX12_wrongLift_34 : decode cX12_wrongLift 34 = .ok (.if_icmp .ne 7, 3) := by decide +kernel
theorem dX12_wrongLift_37 : decode cX12_wrongLift 37 = .ok (.iconst 0, 1) := by decide +kernel
theorem dX12_wrongLift_38 : decode cX12_wrongLift 38 = .ok (.goto 5, 3) := by decide +kernel
theorem dX12_wrongLift_41 : decode cX12_wrongLift 41 = .ok (.bipush 7, 2) := by decide +kernel
theorem dX12_wrongLift_43 : decode cX12_wrongLift 43 = .ok (.ireturn, 1) := by decide +kernel
theorem dX12_lift_0 : decode cX12_lift 0 = .ok (.aload_n 0, 1) := by decide +kernel
theorem dX12_lift_1 : decode cX12_lift 1 = .ok (.iload_n 1, 1) := by decide +kernel
theorem dX12_lift_2 : decode cX12_lift 2 = .ok (.invokevirtual 271, 3) := by decide +kernel
theorem dX12_lift_5 : decode cX12_lift 5 = .ok (.ifCond .eq 11, 3) := by decide +kernel
theorem dX12_lift_8 : decode cX12_lift 8 = .ok (.aload_n 0, 1) := by decide +kernel
theorem dX12_lift_9 : decode cX12_lift 9 = .ok (.iload_n 2, 1) := by decide +kernel
theorem dX12_lift_10 : decode cX12_lift 10 = .ok (.invokevirtual 265, 3) := by decide +kernel
theorem dX12_lift_13 : decode cX12_lift 13 = .ok (.ifCond .ne 9, 3) := by decide +kernel
theorem dX12_lift_16 : decode cX12_lift 16 = .ok (.aload_n 0, 1) := by decide +kernel
theorem dX12_lift_17 : decode cX12_lift 17 = .ok (.iconst 1, 1) := by decide +kernel
theorem dX12_lift_18 : decode cX12_lift 18 = .ok (.invokevirtual 78, 3) := by decide +kernel
theorem dX12_lift_21 : decode cX12_lift 21 = .ok (.ireturn, 1) := by decide +kernel
theorem dX12_lift_22 : decode cX12_lift 22 = .ok (.aload_n 0, 1) := by decide +kernel
theorem dX12_lift_23 : decode cX12_lift 23 = .ok (.iload_n 1, 1) := by decide +kernel
theorem dX12_lift_24 : decode cX12_lift 24 = .ok (.iload_n 2, 1) := by decide +kernel
theorem dX12_lift_25 : decode cX12_lift 25 = .ok (.invokevirtual 320, 3) := by decide +kernel
theorem dX12_lift_28 : decode cX12_lift 28 = .ok (.istore_n 3, 1) := by decide +kernel
theorem dX12_lift_29 : decode cX12_lift 29 = .ok (.iload_n 3, 1) := by decide +kernel
theorem dX12_lift_30 : decode cX12_lift 30 = .ok (.ifCond .le 11, 3) := by decide +kernel
theorem dX12_lift_33 : decode cX12_lift 33 = .ok (.aload_n 0, 1) := by decide +kernel
theorem dX12_lift_34 : decode cX12_lift 34 = .ok (.iload_n 3, 1) := by decide +kernel
theorem dX12_lift_35 : decode cX12_lift 35 = .ok (.invokevirtual 78, 3) := by decide +kernel
theorem dX12_lift_38 : decode cX12_lift 38 = .ok (.goto 13, 3) := by decide +kernel
theorem dX12_lift_41 : decode cX12_lift 41 = .ok (.aload_n 0, 1) := by decide +kernel
theorem dX12_lift_42 : decode cX12_lift 42 = .ok (.aload_n 0, 1) := by decide +kernel
theorem dX12_lift_43 : decode cX12_lift 43 = .ok (.iload_n 1, 1) := by decide +kernel
theorem dX12_lift_44 : decode cX12_lift 44 = .ok (.iload_n 2, 1) := by decide +kernel
theorem dX12_lift_45 : decode cX12_lift 45 = .ok (.invokevirtual 323, 3) := by decide +kernel
theorem dX12_lift_48 : decode cX12_lift 48 = .ok (.invokevirtual 82, 3) := by decide +kernel
theorem dX12_lift_51 : decode cX12_lift 51 = .ok (.ireturn, 1) := by decide +kernel
theorem dX12_behindEnds_0 : decode cX12_behindEnds 0 = .ok (.iload_n 1, 1) := by decide +kernel
theorem dX12_behindEnds_1 : decode cX12_behindEnds 1 = .ok (.istore_n 2, 1) := by decide +kernel
theorem dX12_behindEnds_2 : decode cX12_behindEnds 2 = .ok (.iload_n 2, 1) := by decide +kernel
theorem dX12_behindEnds_3 : decode cX12_behindEnds 3 = .ok (.aload_n 0, 1) := by decide +kernel
theorem dX12_behindEnds_4 : decode cX12_behindEnds 4 = .ok (.getfield 7, 3) := by decide +kernel
theorem dX12_behindEnds_7 : decode cX12_behindEnds 7 = .ok (.bipush 9, 2) := by decide +kernel
theorem dX12_behindEnds_9 : decode cX12_behindEnds 9 = .ok (.iaload, 1) := by decide +kernel
theorem dX12_behindEnds_10 : decode cX12_behindEnds 10 = .ok (.if_icmp .ge 108, 3) := by decide +kernel
theorem dX12_behindEnds_13 : decode cX12_behindEnds 13 = .ok (.aload_n 0, 1) := by decide +kernel
theorem dX12_behindEnds_14 : decode cX12_behindEnds 14 = .ok (.getfield 7, 3) := by decide +kernel
theorem dX12_behindEnds_17 : decode cX12_behindEnds 17 = .ok (.sipush 1030, 3) := by decide +kernel
theorem dX12_behindEnds_20 : decode cX12_behindEnds 20 = .ok (.bipush 6, 2) := by decide +kernel
theorem dX12_behindEnds_22 : decode cX12_behindEnds 22 = .ok (.iload_n 2, 1) := by decide +kernel
theorem dX12_behindEnds_23 : decode cX12_behindEnds 23 = .ok (.imul, 1) := by decide +kernel
theorem dX12_behindEnds_24 : decode cX12_behindEnds 24 = .ok (.iadd, 1) := by decide +kernel
theorem dX12_behindEnds_25 : decode cX12_behindEnds 25 = .ok (.iaload, 1) := by decide +kernel
theorem dX12_behindEnds_26 : decode cX12_behindEnds 26 = .ok (.bipush 26, 2) := by decide +kernel
theorem dX12_behindEnds_28 : decode cX12_behindEnds 28 = .ok (.if_icmp .ne 90, 3) := by decide +kernel
theorem dX12_behindEnds_31 : decode cX12_behindEnds 31 = .ok (.aload_n 0, 1) := by decide +kernel
theorem dX12_behindEnds_32 : decode cX12_behindEnds 32 = .ok (.getfield 7, 3) := by decide +kernel
theorem dX12_behindEnds_35 : decode cX12_behindEnds 35 = .ok (.sipush 1030, 3) := by decide +kernel
theorem dX12_behindEnds_38 : decode cX12_behindEnds 38 = .ok (.bipush 6, 2) := by decide +kernel
theorem dX12_behindEnds_40 : decode cX12_behindEnds 40 = .ok (.iload_n 2, 1) := by decide +kernel
theorem dX12_behindEnds_41 : decode cX12_behindEnds 41 = .ok (.imul, 1) := by decide +kernel
theorem dX12_behindEnds_42 : decode cX12_behindEnds 42 = .ok (.iadd, 1) := by decide +kernel
theorem dX12_behindEnds_43 : decode cX12_behindEnds 43 = .ok (.iconst 4, 1) := by decide +kernel
theorem dX12_behindEnds_44 : decode cX12_behindEnds 44 = .ok (.iadd, 1) := by decide +kernel
theorem dX12_behindEnds_45 : decode cX12_behindEnds 45 = .ok (.iaload, 1) := by decide +kernel
theorem dX12_behindEnds_46 : decode cX12_behindEnds 46 = .ok (.istore_n 3, 1) := by decide +kernel
theorem dX12_behindEnds_47 : decode cX12_behindEnds 47 = .ok (.aload_n 0, 1) := by decide +kernel
theorem dX12_behindEnds_48 : decode cX12_behindEnds 48 = .ok (.getfield 7, 3) := by decide +kernel
theorem dX12_behindEnds_51 : decode cX12_behindEnds 51 = .ok (.sipush 1030, 3) := by decide +kernel
theorem dX12_behindEnds_54 : decode cX12_behindEnds 54 = .ok (.bipush 6, 2) := by decide +kernel
theorem dX12_behindEnds_56 : decode cX12_behindEnds 56 = .ok (.iload_n 3, 1) := by decide +kernel
theorem dX12_behindEnds_57 : decode cX12_behindEnds 57 = .ok (.imul, 1) := by decide +kernel
theorem dX12_behindEnds_58 : decode cX12_behindEnds 58 = .ok (.iadd, 1) := by decide +kernel
theorem dX12_behindEnds_59 : decode cX12_behindEnds 59 = .ok (.iaload, 1) := by decide +kernel
theorem dX12_behindEnds_60 : decode cX12_behindEnds 60 = .ok (.bipush 25, 2) := by decide +kernel
theorem dX12_behindEnds_62 : decode cX12_behindEnds 62 = .ok (.if_icmp .ne 16, 3) := by decide +kernel
theorem dX12_behindEnds_65 : decode cX12_behindEnds 65 = .ok (.aload_n 0, 1) := by decide +kernel
theorem dX12_behindEnds_66 : decode cX12_behindEnds 66 = .ok (.getfield 59, 3) := by decide +kernel
theorem dX12_behindEnds_69 : decode cX12_behindEnds 69 = .ok (.iload_n 3, 1) := by decide +kernel
theorem dX12_behindEnds_70 : decode cX12_behindEnds 70 = .ok (.iaload, 1) := by decide +kernel
theorem dX12_behindEnds_71 : decode cX12_behindEnds 71 = .ok (.ifCond .le 7, 3) := by decide +kernel
theorem dX12_behindEnds_74 : decode cX12_behindEnds 74 = .ok (.iconst 1, 1) := by decide +kernel
theorem dX12_behindEnds_75 : decode cX12_behindEnds 75 = .ok (.goto 4, 3) := by decide +kernel
theorem dX12_behindEnds_78 : decode cX12_behindEnds 78 = .ok (.iconst 0, 1) := by decide +kernel
theorem dX12_behindEnds_79 : decode cX12_behindEnds 79 = .ok (.istore 4, 2) := by decide +kernel
theorem dX12_behindEnds_81 : decode cX12_behindEnds 81 = .ok (.aload_n 0, 1) := by decide +kernel
theorem dX12_behindEnds_82 : decode cX12_behindEnds 82 = .ok (.getfield 59, 3) := by decide +kernel
theorem dX12_behindEnds_85 : decode cX12_behindEnds 85 = .ok (.iload_n 3, 1) := by decide +kernel
theorem dX12_behindEnds_86 : decode cX12_behindEnds 86 = .ok (.dup2, 1) := by decide +kernel
theorem dX12_behindEnds_87 : decode cX12_behindEnds 87 = .ok (.iaload, 1) := by decide +kernel
theorem dX12_behindEnds_88 : decode cX12_behindEnds 88 = .ok (.iload 4, 2) := by decide +kernel
theorem dX12_behindEnds_90 : decode cX12_behindEnds 90 = .ok (.ifCond .eq 7, 3) := by decide +kernel
theorem dX12_behindEnds_93 : decode cX12_behindEnds 93 = .ok (.iconst 1, 1) := by decide +kernel
theorem dX12_behindEnds_94 : decode cX12_behindEnds 94 = .ok (.goto 4, 3) := by decide +kernel
theorem dX12_behindEnds_97 : decode cX12_behindEnds 97 = .ok (.iconst 0, 1) := by decide +kernel
theorem dX12_behindEnds_98 : decode cX12_behindEnds 98 = .ok (.isub, 1) := by decide +kernel
theorem dX12_behindEnds_99 : decode cX12_behindEnds 99 = .ok (.iastore, 1) := by decide +kernel
theorem dX12_behindEnds_100 : decode cX12_behindEnds 100 = .ok (.iload 4, 2) := by decide +kernel
theorem dX12_behindEnds_102 : decode cX12_behindEnds 102 = .ok (.ifCond .eq 9, 3) := by decide +kernel
theorem dX12_behindEnds_105 : decode cX12_behindEnds 105 = .ok (.iload_n 3, 1) := by decide +kernel
theorem dX12_behindEnds_106 : decode cX12_behindEnds 106 = .ok (.iconst 1, 1) := by decide +kernel
theorem dX12_behindEnds_107 : decode cX12_behindEnds 107 = .ok (.iadd, 1) := by decide +kernel
theorem dX12_behindEnds_108 : decode cX12_behindEnds 108 = .ok (.goto 6, 3) := by decide +kernel
theorem dX12_behindEnds_111 : decode cX12_behindEnds 111 = .ok (.iload_n 2, 1) := by decide +kernel
theorem dX12_behindEnds_112 : decode cX12_behindEnds 112 = .ok (.iconst 1, 1) := by decide +kernel
theorem dX12_behindEnds_113 : decode cX12_behindEnds 113 = .ok (.iadd, 1) := by decide +kernel
theorem dX12_behindEnds_114 : decode cX12_behindEnds 114 = .ok (.istore_n 2, 1) := by decide +kernel
theorem dX12_behindEnds_115 : decode cX12_behindEnds 115 = .ok (.goto (-113), 3) := by decide +kernel
theorem dX12_behindEnds_118 : decode cX12_behindEnds 118 = .ok (.iload_n 2, 1) := by decide +kernel
theorem dX12_behindEnds_119 : decode cX12_behindEnds 119 = .ok (.ireturn, 1) := by decide +kernel
theorem dX12_floods_0 : decode cX12_floods 0 = .ok (.iconst 0, 1) := by decide +kernel
theorem dX12_floods_1 : decode cX12_floods 1 = .ok (.istore_n 1, 1) := by decide +kernel
theorem dX12_floods_2 : decode cX12_floods 2 = .ok (.iload_n 1, 1) := by decide +kernel
theorem dX12_floods_3 : decode cX12_floods 3 = .ok (.aload_n 0, 1) := by decide +kernel
theorem dX12_floods_4 : decode cX12_floods 4 = .ok (.getfield 7, 3) := by decide +kernel
theorem dX12_floods_7 : decode cX12_floods 7 = .ok (.iconst 2, 1) := by decide +kernel
theorem dX12_floods_8 : decode cX12_floods 8 = .ok (.iaload, 1) := by decide +kernel
theorem dX12_floods_9 : decode cX12_floods 9 = .ok (.if_icmp .ge 89, 3) := by decide +kernel
theorem dX12_floods_12 : decode cX12_floods 12 = .ok (.aload_n 0, 1) := by decide +kernel
theorem dX12_floods_13 : decode cX12_floods 13 = .ok (.iload_n 1, 1) := by decide +kernel
theorem dX12_floods_14 : decode cX12_floods 14 = .ok (.invokevirtual 268, 3) := by decide +kernel
theorem dX12_floods_17 : decode cX12_floods 17 = .ok (.ifCond .eq 11, 3) := by decide +kernel
theorem dX12_floods_20 : decode cX12_floods 20 = .ok (.aload_n 0, 1) := by decide +kernel
theorem dX12_floods_21 : decode cX12_floods 21 = .ok (.iload_n 1, 1) := by decide +kernel
theorem dX12_floods_22 : decode cX12_floods 22 = .ok (.invokevirtual 343, 3) := by decide +kernel
theorem dX12_floods_25 : decode cX12_floods 25 = .ok (.goto 4, 3) := by decide +kernel
theorem dX12_floods_28 : decode cX12_floods 28 = .ok (.iconst 0, 1) := by decide +kernel
theorem dX12_floods_29 : decode cX12_floods 29 = .ok (.istore_n 2, 1) := by decide +kernel
theorem dX12_floods_30 : decode cX12_floods 30 = .ok (.iconst 0, 1) := by decide +kernel
theorem dX12_floods_31 : decode cX12_floods 31 = .ok (.istore_n 3, 1) := by decide +kernel
theorem dX12_floods_32 : decode cX12_floods 32 = .ok (.iload_n 3, 1) := by decide +kernel
theorem dX12_floods_33 : decode cX12_floods 33 = .ok (.aload_n 0, 1) := by decide +kernel
theorem dX12_floods_34 : decode cX12_floods 34 = .ok (.getfield 7, 3) := by decide +kernel
theorem dX12_floods_37 : decode cX12_floods 37 = .ok (.iconst 1, 1) := by decide +kernel
theorem dX12_floods_38 : decode cX12_floods 38 = .ok (.iaload, 1) := by decide +kernel
theorem dX12_floods_39 : decode cX12_floods 39 = .ok (.if_icmp .ge 53, 3) := by decide +kernel
theorem dX12_floods_42 : decode cX12_floods 42 = .ok (.aload_n 0, 1) := by decide +kernel
theorem dX12_floods_43 : decode cX12_floods 43 = .ok (.getfield 7, 3) := by decide +kernel
theorem dX12_floods_46 : decode cX12_floods 46 = .ok (.iload_n 3, 1) := by decide +kernel
theorem dX12_floods_47 : decode cX12_floods 47 = .ok (.invokestatic 274, 3) := by decide +kernel
theorem dX12_floods_50 : decode cX12_floods 50 = .ok (.iconst 4, 1) := by decide +kernel
theorem dX12_floods_51 : decode cX12_floods 51 = .ok (.iadd, 1) := by decide +kernel
theorem dX12_floods_52 : decode cX12_floods 52 = .ok (.dup2, 1) := by decide +kernel
theorem dX12_floods_53 : decode cX12_floods 53 = .ok (.iaload, 1) := by decide +kernel
theorem dX12_floods_54 : decode cX12_floods 54 = .ok (.iload_n 2, 1) := by decide +kernel
theorem dX12_floods_55 : decode cX12_floods 55 = .ok (.iload_n 3, 1) := by decide +kernel
theorem dX12_floods_56 : decode cX12_floods 56 = .ok (.ishr, 1) := by decide +kernel
theorem dX12_floods_57 : decode cX12_floods 57 = .ok (.iconst 1, 1) := by decide +kernel
theorem dX12_floods_58 : decode cX12_floods 58 = .ok (.iand, 1) := by decide +kernel
theorem dX12_floods_59 : decode cX12_floods 59 = .ok (.iconst 1, 1) := by decide +kernel
theorem dX12_floods_60 : decode cX12_floods 60 = .ok (.if_icmp .ne 23, 3) := by decide +kernel
theorem dX12_floods_63 : decode cX12_floods 63 = .ok (.aload_n 0, 1) := by decide +kernel
theorem dX12_floods_64 : decode cX12_floods 64 = .ok (.getfield 7, 3) := by decide +kernel
theorem dX12_floods_67 : decode cX12_floods 67 = .ok (.iconst 0, 1) := by decide +kernel
theorem dX12_floods_68 : decode cX12_floods 68 = .ok (.iload_n 1, 1) := by decide +kernel
theorem dX12_floods_69 : decode cX12_floods 69 = .ok (.invokestatic 171, 3) := by decide +kernel
theorem dX12_floods_72 : decode cX12_floods 72 = .ok (.iconst 1, 1) := by decide +kernel
theorem dX12_floods_73 : decode cX12_floods 73 = .ok (.iadd, 1) := by decide +kernel
theorem dX12_floods_74 : decode cX12_floods 74 = .ok (.iaload, 1) := by decide +kernel
theorem dX12_floods_75 : decode cX12_floods 75 = .ok (.iload_n 2, 1) := by decide +kernel
theorem dX12_floods_76 : decode cX12_floods 76 = .ok (.invokestatic 340, 3) := by decide +kernel
theorem dX12_floods_79 : decode cX12_floods 79 = .ok (.idiv, 1) := by decide +kernel
theorem dX12_floods_80 : decode cX12_floods 80 = .ok (.goto 4, 3) := by decide +kernel
theorem dX12_floods_83 : decode cX12_floods 83 = .ok (.iconst 0, 1) := by decide +kernel
theorem dX12_floods_84 : decode cX12_floods 84 = .ok (.iadd, 1) := by decide +kernel
theorem dX12_floods_85 : decode cX12_floods 85 = .ok (.iastore, 1) := by decide +kernel
theorem dX12_floods_86 : decode cX12_floods 86 = .ok (.iinc 3 1, 3) := by decide +kernel
theorem dX12_floods_89 : decode cX12_floods 89 = .ok (.goto (-57), 3) := by decide +kernel
theorem dX12_floods_92 : decode cX12_floods 92 = .ok (.iinc 1 1, 3) := by decide +kernel
theorem dX12_floods_95 : decode cX12_floods 95 = .ok (.goto (-93), 3) := by decide +kernel
theorem dX12_floods_98 : decode cX12_floods 98 = .ok (.iconst 0, 1) := by decide +kernel
theorem dX12_floods_99 : decode cX12_floods 99 = .ok (.istore_n 1, 1) := by decide +kernel
theorem dX12_floods_100 : decode cX12_floods 100 = .ok (.iload_n 1, 1) := by decide +kernel
theorem dX12_floods_101 : decode cX12_floods 101 = .ok (.aload_n 0, 1) := by decide +kernel
theorem dX12_floods_102 : decode cX12_floods 102 = .ok (.getfield 7, 3) := by decide +kernel
theorem dX12_floods_105 : decode cX12_floods 105 = .ok (.iconst 2, 1) := by decide +kernel
theorem dX12_floods_106 : decode cX12_floods 106 = .ok (.iaload, 1) := by decide +kernel
theorem dX12_floods_107 : decode cX12_floods 107 = .ok (.if_icmp .ge 59, 3) := by decide +kernel
theorem dX12_floods_110 : decode cX12_floods 110 = .ok (.iconst 0, 1) := by decide +kernel
theorem dX12_floods_111 : decode cX12_floods 111 = .ok (.istore_n 2, 1) := by decide +kernel
theorem dX12_floods_112 : decode cX12_floods 112 = .ok (.iload_n 2, 1) := by decide +kernel
theorem dX12_floods_113 : decode cX12_floods 113 = .ok (.aload_n 0, 1) := by decide +kernel
theorem dX12_floods_114 : decode cX12_floods 114 = .ok (.iload_n 1, 1) := by decide +kernel
theorem dX12_floods_115 : decode cX12_floods 115 = .ok (.invokevirtual 277, 3) := by decide +kernel
theorem dX12_floods_118 : decode cX12_floods 118 = .ok (.if_icmp .ge 29, 3) := by decide +kernel
theorem dX12_floods_121 : decode cX12_floods 121 = .ok (.aload_n 0, 1) := by decide +kernel
theorem dX12_floods_122 : decode cX12_floods 122 = .ok (.getfield 7, 3) := by decide +kernel
theorem dX12_floods_125 : decode cX12_floods 125 = .ok (.aload_n 0, 1) := by decide +kernel
theorem dX12_floods_126 : decode cX12_floods 126 = .ok (.iload_n 1, 1) := by decide +kernel
theorem dX12_floods_127 : decode cX12_floods 127 = .ok (.iload_n 2, 1) := by decide +kernel
theorem dX12_floods_128 : decode cX12_floods 128 = .ok (.invokevirtual 308, 3) := by decide +kernel
theorem dX12_floods_131 : decode cX12_floods 131 = .ok (.invokestatic 274, 3) := by decide +kernel
theorem dX12_floods_134 : decode cX12_floods 134 = .ok (.iconst 2, 1) := by decide +kernel
theorem dX12_floods_135 : decode cX12_floods 135 = .ok (.iadd, 1) := by decide +kernel
theorem dX12_floods_136 : decode cX12_floods 136 = .ok (.dup2, 1) := by decide +kernel
theorem dX12_floods_137 : decode cX12_floods 137 = .ok (.iaload, 1) := by decide +kernel
theorem dX12_floods_138 : decode cX12_floods 138 = .ok (.iconst 1, 1) := by decide +kernel
theorem dX12_floods_139 : decode cX12_floods 139 = .ok (.iadd, 1) := by decide +kernel
theorem dX12_floods_140 : decode cX12_floods 140 = .ok (.iastore, 1) := by decide +kernel
theorem dX12_floods_141 : decode cX12_floods 141 = .ok (.iinc 2 1, 3) := by decide +kernel
theorem dX12_floods_144 : decode cX12_floods 144 = .ok (.goto (-32), 3) := by decide +kernel
theorem dX12_floods_147 : decode cX12_floods 147 = .ok (.aload_n 0, 1) := by decide +kernel
theorem dX12_floods_148 : decode cX12_floods 148 = .ok (.getfield 7, 3) := by decide +kernel
theorem dX12_floods_151 : decode cX12_floods 151 = .ok (.iconst 0, 1) := by decide +kernel
theorem dX12_floods_152 : decode cX12_floods 152 = .ok (.iload_n 1, 1) := by decide +kernel
theorem dX12_floods_153 : decode cX12_floods 153 = .ok (.invokestatic 171, 3) := by decide +kernel
theorem dX12_floods_156 : decode cX12_floods 156 = .ok (.iconst 2, 1) := by decide +kernel
theorem dX12_floods_157 : decode cX12_floods 157 = .ok (.iadd, 1) := by decide +kernel
theorem dX12_floods_158 : decode cX12_floods 158 = .ok (.iconst 0, 1) := by decide +kernel
theorem dX12_floods_159 : decode cX12_floods 159 = .ok (.iastore, 1) := by decide +kernel
theorem dX12_floods_160 : decode cX12_floods 160 = .ok (.iinc 1 1, 3) := by decide +kernel
theorem dX12_floods_163 : decode cX12_floods 163 = .ok (.goto (-63), 3) := by decide +kernel
theorem dX12_floods_166 : decode cX12_floods 166 = .ok (.iconst 0, 1) := by decide +kernel
theorem dX12_floods_167 : decode cX12_floods 167 = .ok (.istore_n 1, 1) := by decide +kernel
theorem dX12_floods_168 : decode cX12_floods 168 = .ok (.iload_n 1, 1) := by decide +kernel
theorem dX12_floods_169 : decode cX12_floods 169 = .ok (.aload_n 0, 1) := by decide +kernel
theorem dX12_floods_170 : decode cX12_floods 170 = .ok (.getfield 7, 3) := by decide +kernel
theorem dX12_floods_173 : decode cX12_floods 173 = .ok (.iconst 1, 1) := by decide +kernel
theorem dX12_floods_174 : decode cX12_floods 174 = .ok (.iaload, 1) := by decide +kernel
theorem dX12_floods_175 : decode cX12_floods 175 = .ok (.if_icmp .ge 21, 3) := by decide +kernel
theorem dX12_floods_178 : decode cX12_floods 178 = .ok (.aload_n 0, 1) := by decide +kernel
theorem dX12_floods_179 : decode cX12_floods 179 = .ok (.getfield 7, 3) := by decide +kernel
theorem dX12_floods_182 : decode cX12_floods 182 = .ok (.iload_n 1, 1) := by decide +kernel
theorem dX12_floods_183 : decode cX12_floods 183 = .ok (.invokestatic 274, 3) := by decide +kernel
theorem dX12_floods_186 : decode cX12_floods 186 = .ok (.iconst 3, 1) := by decide +kernel
theorem dX12_floods_187 : decode cX12_floods 187 = .ok (.iadd, 1) := by decide +kernel
theorem dX12_floods_188 : decode cX12_floods 188 = .ok (.iconst 0, 1) := by decide +kernel
theorem dX12_floods_189 : decode cX12_floods 189 = .ok (.iastore, 1) := by decide +kernel
theorem dX12_floods_190 : decode cX12_floods 190 = .ok (.iinc 1 1, 3) := by decide +kernel
theorem dX12_floods_193 : decode cX12_floods 193 = .ok (.goto (-25), 3) := by decide +kernel
theorem dX12_floods_196 : decode cX12_floods 196 = .ok (.aload_n 0, 1) := by decide +kernel
theorem dX12_floods_197 : decode cX12_floods 197 = .ok (.getfield 7, 3) := by decide +kernel
theorem dX12_floods_200 : decode cX12_floods 200 = .ok (.bipush 8, 2) := by decide +kernel
theorem dX12_floods_202 : decode cX12_floods 202 = .ok (.iconst 0, 1) := by decide +kernel
theorem dX12_floods_203 : decode cX12_floods 203 = .ok (.iastore, 1) := by decide +kernel
theorem dX12_floods_204 : decode cX12_floods 204 = .ok (.aload_n 0, 1) := by decide +kernel
theorem dX12_floods_205 : decode cX12_floods 205 = .ok (.getfield 7, 3) := by decide +kernel
theorem dX12_floods_208 : decode cX12_floods 208 = .ok (.bipush 7, 2) := by decide +kernel
theorem dX12_floods_210 : decode cX12_floods 210 = .ok (.iconst 0, 1) := by decide +kernel
theorem dX12_floods_211 : decode cX12_floods 211 = .ok (.iastore, 1) := by decide +kernel
theorem dX12_floods_212 : decode cX12_floods 212 = .ok (.aload_n 0, 1) := by decide +kernel
theorem dX12_floods_213 : decode cX12_floods 213 = .ok (.getfield 7, 3) := by decide +kernel
theorem dX12_floods_216 : decode cX12_floods 216 = .ok (.bipush 6, 2) := by decide +kernel
theorem dX12_floods_218 : decode cX12_floods 218 = .ok (.dup2, 1) := by decide +kernel
theorem dX12_floods_219 : decode cX12_floods 219 = .ok (.iaload, 1) := by decide +kernel
theorem dX12_floods_220 : decode cX12_floods 220 = .ok (.iconst 1, 1) := by decide +kernel
theorem dX12_floods_221 : decode cX12_floods 221 = .ok (.iadd, 1) := by decide +kernel
theorem dX12_floods_222 : decode cX12_floods 222 = .ok (.iastore, 1) := by decide +kernel
theorem dX12_floods_223 : decode cX12_floods 223 = .ok (.aload_n 0, 1) := by decide +kernel
theorem dX12_floods_224 : decode cX12_floods 224 = .ok (.getfield 7, 3) := by decide +kernel
theorem dX12_floods_227 : decode cX12_floods 227 = .ok (.iconst 3, 1) := by decide +kernel
theorem dX12_floods_228 : decode cX12_floods 228 = .ok (.iconst 1, 1) := by decide +kernel
theorem dX12_floods_229 : decode cX12_floods 229 = .ok (.aload_n 0, 1) := by decide +kernel
theorem dX12_floods_230 : decode cX12_floods 230 = .ok (.getfield 7, 3) := by decide +kernel
theorem dX12_floods_233 : decode cX12_floods 233 = .ok (.iconst 3, 1) := by decide +kernel
theorem dX12_floods_234 : decode cX12_floods 234 = .ok (.iaload, 1) := by decide +kernel
theorem dX12_floods_235 : decode cX12_floods 235 = .ok (.aload_n 0, 1) := by decide +kernel
theorem dX12_floods_236 : decode cX12_floods 236 = .ok (.getfield 7, 3) := by decide +kernel
theorem dX12_floods_239 : decode cX12_floods 239 = .ok (.iconst 4, 1) := by decide +kernel
theorem dX12_floods_240 : decode cX12_floods 240 = .ok (.iaload, 1) := by decide +kernel
theorem dX12_floods_241 : decode cX12_floods 241 = .ok (.isub, 1) := by decide +kernel
theorem dX12_floods_242 : decode cX12_floods 242 = .ok (.invokestatic 375, 3) := by decide +kernel
theorem dX12_floods_245 : decode cX12_floods 245 = .ok (.iastore, 1) := by decide +kernel
theorem dX12_floods_246 : decode cX12_floods 246 = .ok (.return_, 1) := by decide +kernel
theorem dX12_draw_0 : decode cX12_draw 0 = .ok (.aload_n 0, 1) := by decide +kernel
theorem dX12_draw_1 : decode cX12_draw 1 = .ok (.aload_n 0, 1) := by decide +kernel
theorem dX12_draw_2 : decode cX12_draw 2 = .ok (.getfield 419, 3) := by decide +kernel
theorem dX12_draw_5 : decode cX12_draw 5 = .ok (.sipush 2843, 3) := by decide +kernel
theorem dX12_draw_8 : decode cX12_draw 8 = .ok (.imul, 1) := by decide +kernel
theorem dX12_draw_9 : decode cX12_draw 9 = .ok (.sipush 10709, 3) := by decide +kernel
theorem dX12_draw_12 : decode cX12_draw 12 = .ok (.iadd, 1) := by decide +kernel
theorem dX12_draw_13 : decode cX12_draw 13 = .ok (.ldc_w 422, 3) := by decide +kernel
theorem dX12_draw_16 : decode cX12_draw 16 = .ok (.irem, 1) := by decide +kernel
theorem dX12_draw_17 : decode cX12_draw 17 = .ok (.putfield 419, 3) := by decide +kernel
theorem dX12_draw_20 : decode cX12_draw 20 = .ok (.aload_n 0, 1) := by decide +kernel
theorem dX12_draw_21 : decode cX12_draw 21 = .ok (.getfield 419, 3) := by decide +kernel
theorem dX12_draw_24 : decode cX12_draw 24 = .ok (.bipush 8, 2) := by decide +kernel
theorem dX12_draw_26 : decode cX12_draw 26 = .ok (.idiv, 1) := by decide +kernel
theorem dX12_draw_27 : decode cX12_draw 27 = .ok (.iload_n 1, 1) := by decide +kernel
theorem dX12_draw_28 : decode cX12_draw 28 = .ok (.irem, 1) := by decide +kernel
theorem dX12_draw_29 : decode cX12_draw 29 = .ok (.ireturn, 1) := by decide +kernel
theorem dX12_gullComes_0 : decode cX12_gullComes 0 = .ok (.aload_n 0, 1) := by decide +kernel
theorem dX12_gullComes_1 : decode cX12_gullComes 1 = .ok (.bipush 16, 2) := by decide +kernel
theorem dX12_gullComes_3 : decode cX12_gullComes 3 = .ok (.invokevirtual 423, 3) := by decide +kernel
theorem dX12_gullComes_6 : decode cX12_gullComes 6 = .ok (.iload_n 1, 1) := by decide +kernel
theorem dX12_gullComes_7 : decode cX12_gullComes 7 = .ok (.if_icmp .ge 13, 3) := by decide +kernel
theorem dX12_gullComes_10 : decode cX12_gullComes 10 = .ok (.aload_n 0, 1) := by decide +kernel
theorem dX12_gullComes_11 : decode cX12_gullComes 11 = .ok (.getfield 7, 3) := by decide +kernel
theorem dX12_gullComes_14 : decode cX12_gullComes 14 = .ok (.iconst 2, 1) := by decide +kernel
theorem dX12_gullComes_15 : decode cX12_gullComes 15 = .ok (.iaload, 1) := by decide +kernel
theorem dX12_gullComes_16 : decode cX12_gullComes 16 = .ok (.iconst 2, 1) := by decide +kernel
theorem dX12_gullComes_17 : decode cX12_gullComes 17 = .ok (.if_icmp .ge 4, 3) := by decide +kernel
theorem dX12_gullComes_20 : decode cX12_gullComes 20 = .ok (.return_, 1) := by decide +kernel
theorem dX12_gullComes_21 : decode cX12_gullComes 21 = .ok (.aload_n 0, 1) := by decide +kernel
theorem dX12_gullComes_22 : decode cX12_gullComes 22 = .ok (.aload_n 0, 1) := by decide +kernel
theorem dX12_gullComes_23 : decode cX12_gullComes 23 = .ok (.getfield 7, 3) := by decide +kernel
theorem dX12_gullComes_26 : decode cX12_gullComes 26 = .ok (.iconst 2, 1) := by decide +kernel
theorem dX12_gullComes_27 : decode cX12_gullComes 27 = .ok (.iaload, 1) := by decide +kernel
theorem dX12_gullComes_28 : decode cX12_gullComes 28 = .ok (.invokevirtual 423, 3) := by decide +kernel
theorem dX12_gullComes_31 : decode cX12_gullComes 31 = .ok (.istore_n 2, 1) := by decide +kernel
theorem dX12_gullComes_32 : decode cX12_gullComes 32 = .ok (.aload_n 0, 1) := by decide +kernel
theorem dX12_gullComes_33 : decode cX12_gullComes 33 = .ok (.aload_n 0, 1) := by decide +kernel
theorem dX12_gullComes_34 : decode cX12_gullComes 34 = .ok (.getfield 7, 3) := by decide +kernel
theorem dX12_gullComes_37 : decode cX12_gullComes 37 = .ok (.iconst 2, 1) := by decide +kernel
theorem dX12_gullComes_38 : decode cX12_gullComes 38 = .ok (.iaload, 1) := by decide +kernel
theorem dX12_gullComes_39 : decode cX12_gullComes 39 = .ok (.iconst 1, 1) := by decide +kernel
theorem dX12_gullComes_40 : decode cX12_gullComes 40 = .ok (.isub, 1) := by decide +kernel
theorem dX12_gullComes_41 : decode cX12_gullComes 41 = .ok (.invokevirtual 423, 3) := by decide +kernel
theorem dX12_gullComes_44 : decode cX12_gullComes 44 = .ok (.istore_n 3, 1) := by decide +kernel
theorem dX12_gullComes_45 : decode cX12_gullComes 45 = .ok (.iload_n 3, 1) := by decide +kernel
theorem dX12_gullComes_46 : decode cX12_gullComes 46 = .ok (.iload_n 3, 1) := by decide +kernel
theorem dX12_gullComes_47 : decode cX12_gullComes 47 = .ok (.iload_n 2, 1) := by decide +kernel
theorem dX12_gullComes_48 : decode cX12_gullComes 48 = .ok (.if_icmp .lt 7, 3) := by decide +kernel
theorem dX12_gullComes_51 : decode cX12_gullComes 51 = .ok (.iconst 1, 1) := by decide +kernel
theorem dX12_gullComes_52 : decode cX12_gullComes 52 = .ok (.goto 4, 3) := by decide +kernel
theorem dX12_gullComes_55 : decode cX12_gullComes 55 = .ok (.iconst 0, 1) := by decide +kernel
theorem dX12_gullComes_56 : decode cX12_gullComes 56 = .ok (.iadd, 1) := by decide +kernel
theorem dX12_gullComes_57 : decode cX12_gullComes 57 = .ok (.istore_n 3, 1) := by decide +kernel
theorem dX12_gullComes_58 : decode cX12_gullComes 58 = .ok (.aload_n 0, 1) := by decide +kernel
theorem dX12_gullComes_59 : decode cX12_gullComes 59 = .ok (.iload_n 2, 1) := by decide +kernel
theorem dX12_gullComes_60 : decode cX12_gullComes 60 = .ok (.iload_n 3, 1) := by decide +kernel
theorem dX12_gullComes_61 : decode cX12_gullComes 61 = .ok (.invokevirtual 326, 3) := by decide +kernel
theorem dX12_gullComes_64 : decode cX12_gullComes 64 = .ok (.ifCond .le 4, 3) := by decide +kernel
theorem dX12_gullComes_67 : decode cX12_gullComes 67 = .ok (.return_, 1) := by decide +kernel
theorem dX12_gullComes_68 : decode cX12_gullComes 68 = .ok (.aload_n 0, 1) := by decide +kernel
theorem dX12_gullComes_69 : decode cX12_gullComes 69 = .ok (.iload_n 2, 1) := by decide +kernel
theorem dX12_gullComes_70 : decode cX12_gullComes 70 = .ok (.iload_n 3, 1) := by decide +kernel
theorem dX12_gullComes_71 : decode cX12_gullComes 71 = .ok (.invokevirtual 329, 3) := by decide +kernel
theorem dX12_gullComes_74 : decode cX12_gullComes 74 = .ok (.pop, 1) := by decide +kernel
theorem dX12_gullComes_75 : decode cX12_gullComes 75 = .ok (.aload_n 0, 1) := by decide +kernel
theorem dX12_gullComes_76 : decode cX12_gullComes 76 = .ok (.getfield 62, 3) := by decide +kernel
theorem dX12_gullComes_79 : decode cX12_gullComes 79 = .ok (.iconst 1, 1) := by decide +kernel
theorem dX12_gullComes_80 : decode cX12_gullComes 80 = .ok (.dup2, 1) := by decide +kernel
theorem dX12_gullComes_81 : decode cX12_gullComes 81 = .ok (.iaload, 1) := by decide +kernel
theorem dX12_gullComes_82 : decode cX12_gullComes 82 = .ok (.iconst 1, 1) := by decide +kernel
theorem dX12_gullComes_83 : decode cX12_gullComes 83 = .ok (.iadd, 1) := by decide +kernel
theorem dX12_gullComes_84 : decode cX12_gullComes 84 = .ok (.iastore, 1) := by decide +kernel
theorem dX12_gullComes_85 : decode cX12_gullComes 85 = .ok (.return_, 1) := by decide +kernel
theorem dX12_sets_0 : decode cX12_sets 0 = .ok (.aload_n 0, 1) := by decide +kernel
theorem dX12_sets_1 : decode cX12_sets 1 = .ok (.getfield 7, 3) := by decide +kernel
theorem dX12_sets_4 : decode cX12_sets 4 = .ok (.iload_n 1, 1) := by decide +kernel
theorem dX12_sets_5 : decode cX12_sets 5 = .ok (.invokestatic 274, 3) := by decide +kernel
theorem dX12_sets_8 : decode cX12_sets 8 = .ok (.iconst 2, 1) := by decide +kernel
theorem dX12_sets_9 : decode cX12_sets 9 = .ok (.iadd, 1) := by decide +kernel
theorem dX12_sets_10 : decode cX12_sets 10 = .ok (.dup2, 1) := by decide +kernel
theorem dX12_sets_11 : decode cX12_sets 11 = .ok (.iaload, 1) := by decide +kernel
theorem dX12_sets_12 : decode cX12_sets 12 = .ok (.iconst 1, 1) := by decide +kernel
theorem dX12_sets_13 : decode cX12_sets 13 = .ok (.isub, 1) := by decide +kernel
theorem dX12_sets_14 : decode cX12_sets 14 = .ok (.iastore, 1) := by decide +kernel
theorem dX12_sets_15 : decode cX12_sets 15 = .ok (.aload_n 0, 1) := by decide +kernel
theorem dX12_sets_16 : decode cX12_sets 16 = .ok (.iconst 0, 1) := by decide +kernel
theorem dX12_sets_17 : decode cX12_sets 17 = .ok (.iload_n 2, 1) := by decide +kernel
theorem dX12_sets_18 : decode cX12_sets 18 = .ok (.iload_n 1, 1) := by decide +kernel
theorem dX12_sets_19 : decode cX12_sets 19 = .ok (.aload_n 0, 1) := by decide +kernel
theorem dX12_sets_20 : decode cX12_sets 20 = .ok (.getfield 7, 3) := by decide +kernel
theorem dX12_sets_23 : decode cX12_sets 23 = .ok (.iload_n 1, 1) := by decide +kernel
theorem dX12_sets_24 : decode cX12_sets 24 = .ok (.invokestatic 274, 3) := by decide +kernel
theorem dX12_sets_27 : decode cX12_sets 27 = .ok (.iconst 3, 1) := by decide +kernel
theorem dX12_sets_28 : decode cX12_sets 28 = .ok (.iadd, 1) := by decide +kernel
theorem dX12_sets_29 : decode cX12_sets 29 = .ok (.iaload, 1) := by decide +kernel
theorem dX12_sets_30 : decode cX12_sets 30 = .ok (.invokevirtual 210, 3) := by decide +kernel
theorem dX12_sets_33 : decode cX12_sets 33 = .ok (.return_, 1) := by decide +kernel
theorem dX12_waited_0 : decode cX12_waited 0 = .ok (.aload_n 0, 1) := by decide +kernel
theorem dX12_waited_1 : decode cX12_waited 1 = .ok (.iload_n 1, 1) := by decide +kernel
theorem dX12_waited_2 : decode cX12_waited 2 = .ok (.iload_n 2, 1) := by decide +kernel
theorem dX12_waited_3 : decode cX12_waited 3 = .ok (.invokevirtual 286, 3) := by decide +kernel
theorem dX12_waited_6 : decode cX12_waited 6 = .ok (.ifCond .ne 5, 3) := by decide +kernel
theorem dX12_waited_9 : decode cX12_waited 9 = .ok (.iconst 0, 1) := by decide +kernel
theorem dX12_waited_10 : decode cX12_waited 10 = .ok (.ireturn, 1) := by decide +kernel
theorem dX12_waited_11 : decode cX12_waited 11 = .ok (.aload_n 0, 1) := by decide +kernel
theorem dX12_waited_12 : decode cX12_waited 12 = .ok (.getfield 7, 3) := by decide +kernel
theorem dX12_waited_15 : decode cX12_waited 15 = .ok (.iload_n 1, 1) := by decide +kernel
theorem dX12_waited_16 : decode cX12_waited 16 = .ok (.invokestatic 274, 3) := by decide +kernel
theorem dX12_waited_19 : decode cX12_waited 19 = .ok (.iconst 3, 1) := by decide +kernel
theorem dX12_waited_20 : decode cX12_waited 20 = .ok (.iadd, 1) := by decide +kernel
theorem dX12_waited_21 : decode cX12_waited 21 = .ok (.dup2, 1) := by decide +kernel
theorem dX12_waited_22 : decode cX12_waited 22 = .ok (.iaload, 1) := by decide +kernel
theorem dX12_waited_23 : decode cX12_waited 23 = .ok (.iload_n 2, 1) := by decide +kernel
theorem dX12_waited_24 : decode cX12_waited 24 = .ok (.iadd, 1) := by decide +kernel
theorem dX12_waited_25 : decode cX12_waited 25 = .ok (.iastore, 1) := by decide +kernel
theorem dX12_waited_26 : decode cX12_waited 26 = .ok (.iconst 1, 1) := by decide +kernel
theorem dX12_waited_27 : decode cX12_waited 27 = .ok (.ireturn, 1) := by decide +kernel
theorem dX12_washes_0 : decode cX12_washes 0 = .ok (.iconst 0, 1) := by decide +kernel
theorem dX12_washes_1 : decode cX12_washes 1 = .ok (.istore_n 2, 1) := by decide +kernel
theorem dX12_washes_2 : decode cX12_washes 2 = .ok (.iconst 0, 1) := by decide +kernel
theorem dX12_washes_3 : decode cX12_washes 3 = .ok (.istore_n 3, 1) := by decide +kernel
theorem dX12_washes_4 : decode cX12_washes 4 = .ok (.iload_n 3, 1) := by decide +kernel
theorem dX12_washes_5 : decode cX12_washes 5 = .ok (.aload_n 0, 1) := by decide +kernel
theorem dX12_washes_6 : decode cX12_washes 6 = .ok (.getfield 7, 3) := by decide +kernel
theorem dX12_washes_9 : decode cX12_washes 9 = .ok (.iconst 2, 1) := by decide +kernel
theorem dX12_washes_10 : decode cX12_washes 10 = .ok (.iaload, 1) := by decide +kernel
theorem dX12_washes_11 : decode cX12_washes 11 = .ok (.if_icmp .ge 62, 3) := by decide +kernel
theorem dX12_washes_14 : decode cX12_washes 14 = .ok (.aload_n 0, 1) := by decide +kernel
theorem dX12_washes_15 : decode cX12_washes 15 = .ok (.getfield 7, 3) := by decide +kernel
theorem dX12_washes_18 : decode cX12_washes 18 = .ok (.iconst 0, 1) := by decide +kernel
theorem dX12_washes_19 : decode cX12_washes 19 = .ok (.iload_n 3, 1) := by decide +kernel
theorem dX12_washes_20 : decode cX12_washes 20 = .ok (.invokestatic 171, 3) := by decide +kernel
theorem dX12_washes_23 : decode cX12_washes 23 = .ok (.iaload, 1) := by decide +kernel
theorem dX12_washes_24 : decode cX12_washes 24 = .ok (.iload_n 1, 1) := by decide +kernel
theorem dX12_washes_25 : decode cX12_washes 25 = .ok (.if_icmp .lt 6, 3) := by decide +kernel
theorem dX12_washes_28 : decode cX12_washes 28 = .ok (.goto 39, 3) := by decide +kernel
theorem dX12_washes_31 : decode cX12_washes 31 = .ok (.iload_n 2, 1) := by decide +kernel
theorem dX12_washes_32 : decode cX12_washes 32 = .ok (.aload_n 0, 1) := by decide +kernel
theorem dX12_washes_33 : decode cX12_washes 33 = .ok (.iload_n 3, 1) := by decide +kernel
theorem dX12_washes_34 : decode cX12_washes 34 = .ok (.invokevirtual 277, 3) := by decide +kernel
theorem dX12_washes_37 : decode cX12_washes 37 = .ok (.iadd, 1) := by decide +kernel
theorem dX12_washes_38 : decode cX12_washes 38 = .ok (.istore_n 2, 1) := by decide +kernel
theorem dX12_washes_39 : decode cX12_washes 39 = .ok (.aload_n 0, 1) := by decide +kernel
theorem dX12_washes_40 : decode cX12_washes 40 = .ok (.getfield 7, 3) := by decide +kernel
theorem dX12_washes_43 : decode cX12_washes 43 = .ok (.bipush 8, 2) := by decide +kernel
theorem dX12_washes_45 : decode cX12_washes 45 = .ok (.dup2, 1) := by decide +kernel
theorem dX12_washes_46 : decode cX12_washes 46 = .ok (.iaload, 1) := by decide +kernel
theorem dX12_washes_47 : decode cX12_washes 47 = .ok (.aload_n 0, 1) := by decide +kernel
theorem dX12_washes_48 : decode cX12_washes 48 = .ok (.iload_n 3, 1) := by decide +kernel
theorem dX12_washes_49 : decode cX12_washes 49 = .ok (.invokevirtual 277, 3) := by decide +kernel
theorem dX12_washes_52 : decode cX12_washes 52 = .ok (.isub, 1) := by decide +kernel
theorem dX12_washes_53 : decode cX12_washes 53 = .ok (.iastore, 1) := by decide +kernel
theorem dX12_washes_54 : decode cX12_washes 54 = .ok (.aload_n 0, 1) := by decide +kernel
theorem dX12_washes_55 : decode cX12_washes 55 = .ok (.getfield 7, 3) := by decide +kernel
theorem dX12_washes_58 : decode cX12_washes 58 = .ok (.iconst 0, 1) := by decide +kernel
theorem dX12_washes_59 : decode cX12_washes 59 = .ok (.iload_n 3, 1) := by decide +kernel
theorem dX12_washes_60 : decode cX12_washes 60 = .ok (.invokestatic 171, 3) := by decide +kernel
theorem dX12_washes_63 : decode cX12_washes 63 = .ok (.iconst 2, 1) := by decide +kernel
theorem dX12_washes_64 : decode cX12_washes 64 = .ok (.iadd, 1) := by decide +kernel
theorem dX12_washes_65 : decode cX12_washes 65 = .ok (.iconst 0, 1) := by decide +kernel
theorem dX12_washes_66 : decode cX12_washes 66 = .ok (.iastore, 1) := by decide +kernel
theorem dX12_washes_67 : decode cX12_washes 67 = .ok (.iinc 3 1, 3) := by decide +kernel
theorem dX12_washes_70 : decode cX12_washes 70 = .ok (.goto (-66), 3) := by decide +kernel
theorem dX12_washes_73 : decode cX12_washes 73 = .ok (.iload_n 2, 1) := by decide +kernel
theorem dX12_washes_74 : decode cX12_washes 74 = .ok (.ireturn, 1) := by decide +kernel
theorem dX12_wrongSet_0 : decode cX12_wrongSet 0 = .ok (.aload_n 0, 1) := by decide +kernel
theorem dX12_wrongSet_1 : decode cX12_wrongSet 1 = .ok (.getfield 7, 3) := by decide +kernel
theorem dX12_wrongSet_4 : decode cX12_wrongSet 4 = .ok (.bipush 8, 2) := by decide +kernel
theorem dX12_wrongSet_6 : decode cX12_wrongSet 6 = .ok (.iaload, 1) := by decide +kernel
theorem dX12_wrongSet_7 : decode cX12_wrongSet 7 = .ok (.bipush 60, 2) := by decide +kernel
theorem dX12_wrongSet_9 : decode cX12_wrongSet 9 = .ok (.if_icmp .ne 5, 3) := by decide +kernel
theorem dX12_wrongSet_12 : decode cX12_wrongSet 12 = .ok (.iconst 4, 1) := by decide +kernel
theorem dX12_wrongSet_13 : decode cX12_wrongSet 13 = .ok (.ireturn, 1) := by decide +kernel
theorem dX12_wrongSet_14 : decode cX12_wrongSet 14 = .ok (.aload_n 0, 1) := by decide +kernel
theorem dX12_wrongSet_15 : decode cX12_wrongSet 15 = .ok (.getfield 7, 3) := by decide +kernel
theorem dX12_wrongSet_18 : decode cX12_wrongSet 18 = .ok (.iload_n 1, 1) := by decide +kernel
theorem dX12_wrongSet_19 : decode cX12_wrongSet 19 = .ok (.invokestatic 274, 3) := by decide +kernel
theorem dX12_wrongSet_22 : decode cX12_wrongSet 22 = .ok (.iconst 2, 1) := by decide +kernel
theorem dX12_wrongSet_23 : decode cX12_wrongSet 23 = .ok (.iadd, 1) := by decide +kernel
theorem dX12_wrongSet_24 : decode cX12_wrongSet 24 = .ok (.iaload, 1) := by decide +kernel
theorem dX12_wrongSet_25 : decode cX12_wrongSet 25 = .ok (.ifCond .ne 6, 3) := by decide +kernel
theorem dX12_wrongSet_28 : decode cX12_wrongSet 28 = .ok (.bipush 6, 2) := by decide +kernel
theorem dX12_wrongSet_30 : decode cX12_wrongSet 30 = .ok (.ireturn, 1) := by decide +kernel
theorem dX12_wrongSet_31 : decode cX12_wrongSet 31 = .ok (.aload_n 0, 1) := by decide +kernel
theorem dX12_wrongSet_32 : decode cX12_wrongSet 32 = .ok (.iload_n 2, 1) := by decide +kernel
theorem dX12_wrongSet_33 : decode cX12_wrongSet 33 = .ok (.invokevirtual 268, 3) := by decide +kernel
theorem dX12_wrongSet_36 : decode cX12_wrongSet 36 = .ok (.ifCond .eq 29, 3) := by decide +kernel
theorem dX12_wrongSet_39 : decode cX12_wrongSet 39 = .ok (.aload_n 0, 1) := by decide +kernel
theorem dX12_wrongSet_40 : decode cX12_wrongSet 40 = .ok (.getfield 7, 3) := by decide +kernel
theorem dX12_wrongSet_43 : decode cX12_wrongSet 43 = .ok (.iload_n 1, 1) := by decide +kernel
theorem dX12_wrongSet_44 : decode cX12_wrongSet 44 = .ok (.invokestatic 274, 3) := by decide +kernel
theorem dX12_wrongSet_47 : decode cX12_wrongSet 47 = .ok (.iaload, 1) := by decide +kernel
theorem dX12_wrongSet_48 : decode cX12_wrongSet 48 = .ok (.aload_n 0, 1) := by decide +kernel
theorem dX12_wrongSet_49 : decode cX12_wrongSet 49 = .ok (.getfield 7, 3) := by decide +kernel
theorem dX12_wrongSet_52 : decode cX12_wrongSet 52 = .ok (.iconst 0, 1) := by decide +kernel
theorem dX12_wrongSet_53 : decode cX12_wrongSet 53 = .ok (.iload_n 2, 1) := by decide +kernel
theorem dX12_wrongSet_54 : decode cX12_wrongSet 54 = .ok (.invokestatic 171, 3) := by decide +kernel
theorem dX12_wrongSet_57 : decode cX12_wrongSet 57 = .ok (.iaload, 1) := by decide +kernel
theorem dX12_wrongSet_58 : decode cX12_wrongSet 58 = .ok (.if_icmp .ne 7, 3) := by decide +kernel
theorem dX12_wrongSet_61 : decode cX12_wrongSet 61 = .ok (.iconst 0, 1) := by decide +kernel
theorem dX12_wrongSet_62 : decode cX12_wrongSet 62 = .ok (.goto 5, 3) := by decide +kernel
theorem dX12_wrongSet_65 : decode cX12_wrongSet 65 = .ok (.bipush 7, 2) := by decide +kernel
theorem dX12_wrongSet_67 : decode cX12_wrongSet 67 = .ok (.ireturn, 1) := by decide +kernel
theorem dX12_does_0 : decode cX12_does 0 = .ok (.aload_n 0, 1) := by decide +kernel
theorem dX12_does_1 : decode cX12_does 1 = .ok (.getfield 7, 3) := by decide +kernel
theorem dX12_does_4 : decode cX12_does 4 = .ok (.iload_n 1, 1) := by decide +kernel
theorem dX12_does_5 : decode cX12_does 5 = .ok (.iconst 1, 1) := by decide +kernel
theorem dX12_does_6 : decode cX12_does 6 = .ok (.iadd, 1) := by decide +kernel
theorem dX12_does_7 : decode cX12_does 7 = .ok (.iaload, 1) := by decide +kernel
theorem dX12_does_8 : decode cX12_does 8 = .ok (.istore_n 2, 1) := by decide +kernel
theorem dX12_does_9 : decode cX12_does 9 = .ok (.aload_n 0, 1) := by decide +kernel
theorem dX12_does_10 : decode cX12_does 10 = .ok (.getfield 7, 3) := by decide +kernel
theorem dX12_does_13 : decode cX12_does 13 = .ok (.iload_n 1, 1) := by decide +kernel
theorem dX12_does_14 : decode cX12_does 14 = .ok (.iconst 2, 1) := by decide +kernel
theorem dX12_does_15 : decode cX12_does 15 = .ok (.iadd, 1) := by decide +kernel
theorem dX12_does_16 : decode cX12_does 16 = .ok (.iaload, 1) := by decide +kernel
theorem dX12_does_17 : decode cX12_does 17 = .ok (.istore_n 3, 1) := by decide +kernel
theorem dX12_does_18 : decode cX12_does 18 = .ok (.aload_n 0, 1) := by decide +kernel
theorem dX12_does_19 : decode cX12_does 19 = .ok (.getfield 7, 3) := by decide +kernel
theorem dX12_does_22 : decode cX12_does 22 = .ok (.iload_n 1, 1) := by decide +kernel
theorem dX12_does_23 : decode cX12_does 23 = .ok (.iaload, 1) := by decide +kernel
theorem dX12_does_24 : decode cX12_does 24 = .ok (.tableswitch 232 1 23 #[188, 232, 232, 232, 232, 232, 232, 232, 232, 232, 232, 232, 232, 232, 232, 232, 232, 108, 122, 115, 141, 165, 172], 108) := by decide +kernel
theorem dX12_does_132 : decode cX12_does 132 = .ok (.aload_n 0, 1) := by decide +kernel
theorem dX12_does_133 : decode cX12_does 133 = .ok (.iload_n 2, 1) := by decide +kernel
theorem dX12_does_134 : decode cX12_does 134 = .ok (.iload_n 3, 1) := by decide +kernel
theorem dX12_does_135 : decode cX12_does 135 = .ok (.invokevirtual 293, 3) := by decide +kernel
theorem dX12_does_138 : decode cX12_does 138 = .ok (.ireturn, 1) := by decide +kernel
theorem dX12_does_139 : decode cX12_does 139 = .ok (.aload_n 0, 1) := by decide +kernel
theorem dX12_does_140 : decode cX12_does 140 = .ok (.iload_n 2, 1) := by decide +kernel
theorem dX12_does_141 : decode cX12_does 141 = .ok (.iload_n 3, 1) := by decide +kernel
theorem dX12_does_142 : decode cX12_does 142 = .ok (.invokevirtual 298, 3) := by decide +kernel
theorem dX12_does_145 : decode cX12_does 145 = .ok (.ireturn, 1) := by decide +kernel
theorem dX12_does_146 : decode cX12_does 146 = .ok (.aload_n 0, 1) := by decide +kernel
theorem dX12_does_147 : decode cX12_does 147 = .ok (.iload_n 2, 1) := by decide +kernel
theorem dX12_does_148 : decode cX12_does 148 = .ok (.iload_n 3, 1) := by decide +kernel
theorem dX12_does_149 : decode cX12_does 149 = .ok (.invokevirtual 301, 3) := by decide +kernel
theorem dX12_does_152 : decode cX12_does 152 = .ok (.ifCond .le 5, 3) := by decide +kernel
theorem dX12_does_155 : decode cX12_does 155 = .ok (.iconst 0, 1) := by decide +kernel
theorem dX12_does_156 : decode cX12_does 156 = .ok (.ireturn, 1) := by decide +kernel
theorem dX12_does_157 : decode cX12_does 157 = .ok (.aload_n 0, 1) := by decide +kernel
theorem dX12_does_158 : decode cX12_does 158 = .ok (.iload_n 2, 1) := by decide +kernel
theorem dX12_does_159 : decode cX12_does 159 = .ok (.iload_n 3, 1) := by decide +kernel
theorem dX12_does_160 : decode cX12_does 160 = .ok (.invokevirtual 304, 3) := by decide +kernel
theorem dX12_does_163 : decode cX12_does 163 = .ok (.iconst 1, 1) := by decide +kernel
theorem dX12_does_164 : decode cX12_does 164 = .ok (.ireturn, 1) := by decide +kernel
theorem dX12_does_165 : decode cX12_does 165 = .ok (.aload_n 0, 1) := by decide +kernel
theorem dX12_does_166 : decode cX12_does 166 = .ok (.iload_n 2, 1) := by decide +kernel
theorem dX12_does_167 : decode cX12_does 167 = .ok (.iload_n 3, 1) := by decide +kernel
theorem dX12_does_168 : decode cX12_does 168 = .ok (.invokevirtual 320, 3) := by decide +kernel
theorem dX12_does_171 : decode cX12_does 171 = .ok (.ifCond .ne 16, 3) := by decide +kernel
theorem dX12_does_174 : decode cX12_does 174 = .ok (.aload_n 0, 1) := by decide +kernel
theorem dX12_does_175 : decode cX12_does 175 = .ok (.iload_n 2, 1) := by decide +kernel
theorem dX12_does_176 : decode cX12_does 176 = .ok (.iload_n 3, 1) := by decide +kernel
theorem dX12_does_177 : decode cX12_does 177 = .ok (.invokevirtual 323, 3) := by decide +kernel
theorem dX12_does_180 : decode cX12_does 180 = .ok (.ifCond .lt 7, 3) := by decide +kernel
theorem dX12_does_183 : decode cX12_does 183 = .ok (.iconst 1, 1) := by decide +kernel
theorem dX12_does_184 : decode cX12_does 184 = .ok (.goto 4, 3) := by decide +kernel
theorem dX12_does_187 : decode cX12_does 187 = .ok (.iconst 0, 1) := by decide +kernel
theorem dX12_does_188 : decode cX12_does 188 = .ok (.ireturn, 1) := by decide +kernel
theorem dX12_does_189 : decode cX12_does 189 = .ok (.aload_n 0, 1) := by decide +kernel
theorem dX12_does_190 : decode cX12_does 190 = .ok (.iload_n 2, 1) := by decide +kernel
theorem dX12_does_191 : decode cX12_does 191 = .ok (.invokevirtual 426, 3) := by decide +kernel
theorem dX12_does_194 : decode cX12_does 194 = .ok (.iconst 1, 1) := by decide +kernel
theorem dX12_does_195 : decode cX12_does 195 = .ok (.ireturn, 1) := by decide +kernel
theorem dX12_does_196 : decode cX12_does 196 = .ok (.aload_n 0, 1) := by decide +kernel
theorem dX12_does_197 : decode cX12_does 197 = .ok (.getfield 62, 3) := by decide +kernel
theorem dX12_does_200 : decode cX12_does 200 = .ok (.iconst 2, 1) := by decide +kernel
theorem dX12_does_201 : decode cX12_does 201 = .ok (.dup2, 1) := by decide +kernel
theorem dX12_does_202 : decode cX12_does 202 = .ok (.iaload, 1) := by decide +kernel
theorem dX12_does_203 : decode cX12_does 203 = .ok (.aload_n 0, 1) := by decide +kernel
theorem dX12_does_204 : decode cX12_does 204 = .ok (.iload_n 2, 1) := by decide +kernel
theorem dX12_does_205 : decode cX12_does 205 = .ok (.invokevirtual 334, 3) := by decide +kernel
theorem dX12_does_208 : decode cX12_does 208 = .ok (.iadd, 1) := by decide +kernel
theorem dX12_does_209 : decode cX12_does 209 = .ok (.iastore, 1) := by decide +kernel
theorem dX12_does_210 : decode cX12_does 210 = .ok (.iconst 1, 1) := by decide +kernel
theorem dX12_does_211 : decode cX12_does 211 = .ok (.ireturn, 1) := by decide +kernel
theorem dX12_does_212 : decode cX12_does 212 = .ok (.aload_n 0, 1) := by decide +kernel
theorem dX12_does_213 : decode cX12_does 213 = .ok (.getfield 7, 3) := by decide +kernel
theorem dX12_does_216 : decode cX12_does 216 = .ok (.bipush 6, 2) := by decide +kernel
theorem dX12_does_218 : decode cX12_does 218 = .ok (.iaload, 1) := by decide +kernel
theorem dX12_does_219 : decode cX12_does 219 = .ok (.bipush 99, 2) := by decide +kernel
theorem dX12_does_221 : decode cX12_does 221 = .ok (.if_icmp .eq 13, 3) := by decide +kernel
theorem dX12_does_224 : decode cX12_does 224 = .ok (.aload_n 0, 1) := by decide +kernel
theorem dX12_does_225 : decode cX12_does 225 = .ok (.getfield 7, 3) := by decide +kernel
theorem dX12_does_228 : decode cX12_does 228 = .ok (.bipush 7, 2) := by decide +kernel
theorem dX12_does_230 : decode cX12_does 230 = .ok (.iaload, 1) := by decide +kernel
theorem dX12_does_231 : decode cX12_does 231 = .ok (.ifCond .ne 5, 3) := by decide +kernel
theorem dX12_does_234 : decode cX12_does 234 = .ok (.iconst 0, 1) := by decide +kernel
theorem dX12_does_235 : decode cX12_does 235 = .ok (.ireturn, 1) := by decide +kernel
theorem dX12_does_236 : decode cX12_does 236 = .ok (.aload_n 0, 1) := by decide +kernel
theorem dX12_does_237 : decode cX12_does 237 = .ok (.invokevirtual 381, 3) := by decide +kernel
theorem dX12_does_240 : decode cX12_does 240 = .ok (.aload_n 0, 1) := by decide +kernel
theorem dX12_does_241 : decode cX12_does 241 = .ok (.invokevirtual 384, 3) := by decide +kernel
theorem dX12_does_244 : decode cX12_does 244 = .ok (.aload_n 0, 1) := by decide +kernel
theorem dX12_does_245 : decode cX12_does 245 = .ok (.getfield 62, 3) := by decide +kernel
theorem dX12_does_248 : decode cX12_does 248 = .ok (.iconst 3, 1) := by decide +kernel
theorem dX12_does_249 : decode cX12_does 249 = .ok (.dup2, 1) := by decide +kernel
theorem dX12_does_250 : decode cX12_does 250 = .ok (.iaload, 1) := by decide +kernel
theorem dX12_does_251 : decode cX12_does 251 = .ok (.iconst 1, 1) := by decide +kernel
theorem dX12_does_252 : decode cX12_does 252 = .ok (.iadd, 1) := by decide +kernel
theorem dX12_does_253 : decode cX12_does 253 = .ok (.iastore, 1) := by decide +kernel
theorem dX12_does_254 : decode cX12_does 254 = .ok (.iconst 1, 1) := by decide +kernel
theorem dX12_does_255 : decode cX12_does 255 = .ok (.ireturn, 1) := by decide +kernel
theorem dX12_does_256 : decode cX12_does 256 = .ok (.iconst 1, 1) := by decide +kernel
theorem dX12_does_257 : decode cX12_does 257 = .ok (.ireturn, 1) := by decide +kernel
theorem dX12_holds_0 : decode cX12_holds 0 = .ok (.aload_n 0, 1) := by decide +kernel
theorem dX12_holds_1 : decode cX12_holds 1 = .ok (.getfield 7, 3) := by decide +kernel
theorem dX12_holds_4 : decode cX12_holds 4 = .ok (.iload_n 1, 1) := by decide +kernel
theorem dX12_holds_5 : decode cX12_holds 5 = .ok (.iaload, 1) := by decide +kernel
theorem dX12_holds_6 : decode cX12_holds 6 = .ok (.sipush 2400, 3) := by decide +kernel
theorem dX12_holds_9 : decode cX12_holds 9 = .ok (.isub, 1) := by decide +kernel
theorem dX12_holds_10 : decode cX12_holds 10 = .ok (.istore_n 2, 1) := by decide +kernel
theorem dX12_holds_11 : decode cX12_holds 11 = .ok (.aload_n 0, 1) := by decide +kernel
theorem dX12_holds_12 : decode cX12_holds 12 = .ok (.getfield 7, 3) := by decide +kernel
theorem dX12_holds_15 : decode cX12_holds 15 = .ok (.iload_n 1, 1) := by decide +kernel
theorem dX12_holds_16 : decode cX12_holds 16 = .ok (.iconst 1, 1) := by decide +kernel
theorem dX12_holds_17 : decode cX12_holds 17 = .ok (.iadd, 1) := by decide +kernel
theorem dX12_holds_18 : decode cX12_holds 18 = .ok (.iaload, 1) := by decide +kernel
theorem dX12_holds_19 : decode cX12_holds 19 = .ok (.istore_n 3, 1) := by decide +kernel
theorem dX12_holds_20 : decode cX12_holds 20 = .ok (.aload_n 0, 1) := by decide +kernel
theorem dX12_holds_21 : decode cX12_holds 21 = .ok (.getfield 7, 3) := by decide +kernel
theorem dX12_holds_24 : decode cX12_holds 24 = .ok (.iload_n 1, 1) := by decide +kernel
theorem dX12_holds_25 : decode cX12_holds 25 = .ok (.iconst 2, 1) := by decide +kernel
theorem dX12_holds_26 : decode cX12_holds 26 = .ok (.iadd, 1) := by decide +kernel
theorem dX12_holds_27 : decode cX12_holds 27 = .ok (.iaload, 1) := by decide +kernel
theorem dX12_holds_28 : decode cX12_holds 28 = .ok (.istore 4, 2) := by decide +kernel
theorem dX12_holds_30 : decode cX12_holds 30 = .ok (.iload_n 2, 1) := by decide +kernel
theorem dX12_holds_31 : decode cX12_holds 31 = .ok (.bipush 29, 2) := by decide +kernel
theorem dX12_holds_33 : decode cX12_holds 33 = .ok (.if_icmp .ne 25, 3) := by decide +kernel
theorem dX12_holds_36 : decode cX12_holds 36 = .ok (.aload_n 0, 1) := by decide +kernel
theorem dX12_holds_37 : decode cX12_holds 37 = .ok (.iload_n 3, 1) := by decide +kernel
theorem dX12_holds_38 : decode cX12_holds 38 = .ok (.invokevirtual 268, 3) := by decide +kernel
theorem dX12_holds_41 : decode cX12_holds 41 = .ok (.ifCond .eq 15, 3) := by decide +kernel
theorem dX12_holds_44 : decode cX12_holds 44 = .ok (.aload_n 0, 1) := by decide +kernel
theorem dX12_holds_45 : decode cX12_holds 45 = .ok (.iload_n 3, 1) := by decide +kernel
theorem dX12_holds_46 : decode cX12_holds 46 = .ok (.invokevirtual 277, 3) := by decide +kernel
theorem dX12_holds_49 : decode cX12_holds 49 = .ok (.ifCond .ne 7, 3) := by decide +kernel
theorem dX12_holds_52 : decode cX12_holds 52 = .ok (.iconst 1, 1) := by decide +kernel
theorem dX12_holds_53 : decode cX12_holds 53 = .ok (.goto 4, 3) := by decide +kernel
theorem dX12_holds_56 : decode cX12_holds 56 = .ok (.iconst 0, 1) := by decide +kernel
theorem dX12_holds_57 : decode cX12_holds 57 = .ok (.ireturn, 1) := by decide +kernel
theorem dX12_holds_58 : decode cX12_holds 58 = .ok (.iload_n 2, 1) := by decide +kernel
theorem dX12_holds_59 : decode cX12_holds 59 = .ok (.bipush 15, 2) := by decide +kernel
theorem dX12_holds_61 : decode cX12_holds 61 = .ok (.if_icmp .ne 23, 3) := by decide +kernel
theorem dX12_holds_64 : decode cX12_holds 64 = .ok (.aload_n 0, 1) := by decide +kernel
theorem dX12_holds_65 : decode cX12_holds 65 = .ok (.iload 4, 2) := by decide +kernel
theorem dX12_holds_67 : decode cX12_holds 67 = .ok (.invokevirtual 337, 3) := by decide +kernel
theorem dX12_holds_70 : decode cX12_holds 70 = .ok (.iload_n 3, 1) := by decide +kernel
theorem dX12_holds_71 : decode cX12_holds 71 = .ok (.ishr, 1) := by decide +kernel
theorem dX12_holds_72 : decode cX12_holds 72 = .ok (.iconst 1, 1) := by decide +kernel
theorem dX12_holds_73 : decode cX12_holds 73 = .ok (.iand, 1) := by decide +kernel
theorem dX12_holds_74 : decode cX12_holds 74 = .ok (.iconst 1, 1) := by decide +kernel
theorem dX12_holds_75 : decode cX12_holds 75 = .ok (.if_icmp .ne 7, 3) := by decide +kernel
theorem dX12_holds_78 : decode cX12_holds 78 = .ok (.iconst 1, 1) := by decide +kernel
theorem dX12_holds_79 : decode cX12_holds 79 = .ok (.goto 4, 3) := by decide +kernel
theorem dX12_holds_82 : decode cX12_holds 82 = .ok (.iconst 0, 1) := by decide +kernel
theorem dX12_holds_83 : decode cX12_holds 83 = .ok (.ireturn, 1) := by decide +kernel
theorem dX12_holds_84 : decode cX12_holds 84 = .ok (.aload_n 0, 1) := by decide +kernel
theorem dX12_holds_85 : decode cX12_holds 85 = .ok (.iload_n 3, 1) := by decide +kernel
theorem dX12_holds_86 : decode cX12_holds 86 = .ok (.invokevirtual 352, 3) := by decide +kernel
theorem dX12_holds_89 : decode cX12_holds 89 = .ok (.istore 5, 2) := by decide +kernel
theorem dX12_holds_91 : decode cX12_holds 91 = .ok (.aload_n 0, 1) := by decide +kernel
theorem dX12_holds_92 : decode cX12_holds 92 = .ok (.getfield 7, 3) := by decide +kernel
theorem dX12_holds_95 : decode cX12_holds 95 = .ok (.iload_n 1, 1) := by decide +kernel
theorem dX12_holds_96 : decode cX12_holds 96 = .ok (.iconst 5, 1) := by decide +kernel
theorem dX12_holds_97 : decode cX12_holds 97 = .ok (.iadd, 1) := by decide +kernel
theorem dX12_holds_98 : decode cX12_holds 98 = .ok (.iaload, 1) := by decide +kernel
theorem dX12_holds_99 : decode cX12_holds 99 = .ok (.bipush 60, 2) := by decide +kernel
theorem dX12_holds_101 : decode cX12_holds 101 = .ok (.if_icmp .ne 18, 3) := by decide +kernel
theorem dX12_holds_104 : decode cX12_holds 104 = .ok (.iload 5, 2) := by decide +kernel
theorem dX12_holds_106 : decode cX12_holds 106 = .ok (.iload 4, 2) := by decide +kernel
theorem dX12_holds_108 : decode cX12_holds 108 = .ok (.if_icmp .ge 7, 3) := by decide +kernel
theorem dX12_holds_111 : decode cX12_holds 111 = .ok (.iconst 1, 1) := by decide +kernel
theorem dX12_holds_112 : decode cX12_holds 112 = .ok (.goto 47, 3) := by decide +kernel
theorem dX12_holds_115 : decode cX12_holds 115 = .ok (.iconst 0, 1) := by decide +kernel
theorem dX12_holds_116 : decode cX12_holds 116 = .ok (.goto 43, 3) := by decide +kernel
theorem dX12_holds_119 : decode cX12_holds 119 = .ok (.aload_n 0, 1) := by decide +kernel
theorem dX12_holds_120 : decode cX12_holds 120 = .ok (.getfield 7, 3) := by decide +kernel
theorem dX12_holds_123 : decode cX12_holds 123 = .ok (.iload_n 1, 1) := by decide +kernel
theorem dX12_holds_124 : decode cX12_holds 124 = .ok (.iconst 5, 1) := by decide +kernel
theorem dX12_holds_125 : decode cX12_holds 125 = .ok (.iadd, 1) := by decide +kernel
theorem dX12_holds_126 : decode cX12_holds 126 = .ok (.iaload, 1) := by decide +kernel
theorem dX12_holds_127 : decode cX12_holds 127 = .ok (.bipush 62, 2) := by decide +kernel
theorem dX12_holds_129 : decode cX12_holds 129 = .ok (.if_icmp .ne 18, 3) := by decide +kernel
theorem dX12_holds_132 : decode cX12_holds 132 = .ok (.iload 5, 2) := by decide +kernel
theorem dX12_holds_134 : decode cX12_holds 134 = .ok (.iload 4, 2) := by decide +kernel
theorem dX12_holds_136 : decode cX12_holds 136 = .ok (.if_icmp .le 7, 3) := by decide +kernel
theorem dX12_holds_139 : decode cX12_holds 139 = .ok (.iconst 1, 1) := by decide +kernel
theorem dX12_holds_140 : decode cX12_holds 140 = .ok (.goto 19, 3) := by decide +kernel
theorem dX12_holds_143 : decode cX12_holds 143 = .ok (.iconst 0, 1) := by decide +kernel
theorem dX12_holds_144 : decode cX12_holds 144 = .ok (.goto 15, 3) := by decide +kernel
theorem dX12_holds_147 : decode cX12_holds 147 = .ok (.iload 5, 2) := by decide +kernel
theorem dX12_holds_149 : decode cX12_holds 149 = .ok (.iload 4, 2) := by decide +kernel
theorem dX12_holds_151 : decode cX12_holds 151 = .ok (.if_icmp .ne 7, 3) := by decide +kernel
theorem dX12_holds_154 : decode cX12_holds 154 = .ok (.iconst 1, 1) := by decide +kernel
theorem dX12_holds_155 : decode cX12_holds 155 = .ok (.goto 4, 3) := by decide +kernel
theorem dX12_holds_158 : decode cX12_holds 158 = .ok (.iconst 0, 1) := by decide +kernel
theorem dX12_holds_159 : decode cX12_holds 159 = .ok (.ireturn, 1) := by decide +kernel
theorem dX12_lives_0 : decode cX12_lives 0 = .ok (.aload_n 0, 1) := by decide +kernel
theorem dX12_lives_1 : decode cX12_lives 1 = .ok (.iload_n 1, 1) := by decide +kernel
theorem dX12_lives_2 : decode cX12_lives 2 = .ok (.putfield 419, 3) := by decide +kernel
theorem dX12_lives_5 : decode cX12_lives 5 = .ok (.aload_n 0, 1) := by decide +kernel
theorem dX12_lives_6 : decode cX12_lives 6 = .ok (.iconst 0, 1) := by decide +kernel
theorem dX12_lives_7 : decode cX12_lives 7 = .ok (.putfield 429, 3) := by decide +kernel
theorem dX12_lives_10 : decode cX12_lives 10 = .ok (.iconst 0, 1) := by decide +kernel
theorem dX12_lives_11 : decode cX12_lives 11 = .ok (.istore_n 2, 1) := by decide +kernel
theorem dX12_lives_12 : decode cX12_lives 12 = .ok (.iload_n 2, 1) := by decide +kernel
theorem dX12_lives_13 : decode cX12_lives 13 = .ok (.iconst 5, 1) := by decide +kernel
theorem dX12_lives_14 : decode cX12_lives 14 = .ok (.if_icmp .ge 16, 3) := by decide +kernel
theorem dX12_lives_17 : decode cX12_lives 17 = .ok (.aload_n 0, 1) := by decide +kernel
theorem dX12_lives_18 : decode cX12_lives 18 = .ok (.getfield 62, 3) := by decide +kernel
theorem dX12_lives_21 : decode cX12_lives 21 = .ok (.iload_n 2, 1) := by decide +kernel
theorem dX12_lives_22 : decode cX12_lives 22 = .ok (.iconst 0, 1) := by decide +kernel
theorem dX12_lives_23 : decode cX12_lives 23 = .ok (.iastore, 1) := by decide +kernel
theorem dX12_lives_24 : decode cX12_lives 24 = .ok (.iinc 2 1, 3) := by decide +kernel
theorem dX12_lives_27 : decode cX12_lives 27 = .ok (.goto (-15), 3) := by decide +kernel
theorem dX12_lives_30 : decode cX12_lives 30 = .ok (.iconst 0, 1) := by decide +kernel
theorem dX12_lives_31 : decode cX12_lives 31 = .ok (.istore_n 2, 1) := by decide +kernel
theorem dX12_lives_32 : decode cX12_lives 32 = .ok (.iload_n 2, 1) := by decide +kernel
theorem dX12_lives_33 : decode cX12_lives 33 = .ok (.aload_n 0, 1) := by decide +kernel
theorem dX12_lives_34 : decode cX12_lives 34 = .ok (.getfield 7, 3) := by decide +kernel
theorem dX12_lives_37 : decode cX12_lives 37 = .ok (.bipush 9, 2) := by decide +kernel
theorem dX12_lives_39 : decode cX12_lives 39 = .ok (.iaload, 1) := by decide +kernel
theorem dX12_lives_40 : decode cX12_lives 40 = .ok (.if_icmp .ge 145, 3) := by decide +kernel
theorem dX12_lives_43 : decode cX12_lives 43 = .ok (.aload_n 0, 1) := by decide +kernel
theorem dX12_lives_44 : decode cX12_lives 44 = .ok (.getfield 429, 3) := by decide +kernel
theorem dX12_lives_47 : decode cX12_lives 47 = .ok (.sipush 300, 3) := by decide +kernel
theorem dX12_lives_50 : decode cX12_lives 50 = .ok (.if_icmp .ne 11, 3) := by decide +kernel
theorem dX12_lives_53 : decode cX12_lives 53 = .ok (.aload_n 0, 1) := by decide +kernel
theorem dX12_lives_54 : decode cX12_lives 54 = .ok (.getfield 62, 3) := by decide +kernel
theorem dX12_lives_57 : decode cX12_lives 57 = .ok (.iconst 4, 1) := by decide +kernel
theorem dX12_lives_58 : decode cX12_lives 58 = .ok (.iconst 1, 1) := by decide +kernel
theorem dX12_lives_59 : decode cX12_lives 59 = .ok (.iastore, 1) := by decide +kernel
theorem dX12_lives_60 : decode cX12_lives 60 = .ok (.return_, 1) := by decide +kernel
theorem dX12_lives_61 : decode cX12_lives 61 = .ok (.sipush 1030, 3) := by decide +kernel
theorem dX12_lives_64 : decode cX12_lives 64 = .ok (.bipush 6, 2) := by decide +kernel
theorem dX12_lives_66 : decode cX12_lives 66 = .ok (.iload_n 2, 1) := by decide +kernel
theorem dX12_lives_67 : decode cX12_lives 67 = .ok (.imul, 1) := by decide +kernel
theorem dX12_lives_68 : decode cX12_lives 68 = .ok (.iadd, 1) := by decide +kernel
theorem dX12_lives_69 : decode cX12_lives 69 = .ok (.istore_n 3, 1) := by decide +kernel
theorem dX12_lives_70 : decode cX12_lives 70 = .ok (.aload_n 0, 1) := by decide +kernel
theorem dX12_lives_71 : decode cX12_lives 71 = .ok (.dup, 1) := by decide +kernel
theorem dX12_lives_72 : decode cX12_lives 72 = .ok (.getfield 429, 3) := by decide +kernel
theorem dX12_lives_75 : decode cX12_lives 75 = .ok (.iconst 1, 1) := by decide +kernel
theorem dX12_lives_76 : decode cX12_lives 76 = .ok (.iadd, 1) := by decide +kernel
theorem dX12_lives_77 : decode cX12_lives 77 = .ok (.putfield 429, 3) := by decide +kernel
theorem dX12_lives_80 : decode cX12_lives 80 = .ok (.aload_n 0, 1) := by decide +kernel
theorem dX12_lives_81 : decode cX12_lives 81 = .ok (.getfield 7, 3) := by decide +kernel
theorem dX12_lives_84 : decode cX12_lives 84 = .ok (.iload_n 3, 1) := by decide +kernel
theorem dX12_lives_85 : decode cX12_lives 85 = .ok (.iaload, 1) := by decide +kernel
theorem dX12_lives_86 : decode cX12_lives 86 = .ok (.bipush 27, 2) := by decide +kernel
theorem dX12_lives_88 : decode cX12_lives 88 = .ok (.if_icmp .ne 4, 3) := by decide +kernel
theorem dX12_lives_91 : decode cX12_lives 91 = .ok (.return_, 1) := by decide +kernel
theorem dX12_lives_92 : decode cX12_lives 92 = .ok (.aload_n 0, 1) := by decide +kernel
theorem dX12_lives_93 : decode cX12_lives 93 = .ok (.getfield 62, 3) := by decide +kernel
theorem dX12_lives_96 : decode cX12_lives 96 = .ok (.iconst 0, 1) := by decide +kernel
theorem dX12_lives_97 : decode cX12_lives 97 = .ok (.dup2, 1) := by decide +kernel
theorem dX12_lives_98 : decode cX12_lives 98 = .ok (.iaload, 1) := by decide +kernel
theorem dX12_lives_99 : decode cX12_lives 99 = .ok (.aload_n 0, 1) := by decide +kernel
theorem dX12_lives_100 : decode cX12_lives 100 = .ok (.iload_n 3, 1) := by decide +kernel
theorem dX12_lives_101 : decode cX12_lives 101 = .ok (.invokevirtual 432, 3) := by decide +kernel
theorem dX12_lives_104 : decode cX12_lives 104 = .ok (.ifCond .eq 7, 3) := by decide +kernel
theorem dX12_lives_107 : decode cX12_lives 107 = .ok (.iconst 0, 1) := by decide +kernel
theorem dX12_lives_108 : decode cX12_lives 108 = .ok (.goto 4, 3) := by decide +kernel
theorem dX12_lives_111 : decode cX12_lives 111 = .ok (.iconst 1, 1) := by decide +kernel
theorem dX12_lives_112 : decode cX12_lives 112 = .ok (.iadd, 1) := by decide +kernel
theorem dX12_lives_113 : decode cX12_lives 113 = .ok (.iastore, 1) := by decide +kernel
theorem dX12_lives_114 : decode cX12_lives 114 = .ok (.aload_n 0, 1) := by decide +kernel
theorem dX12_lives_115 : decode cX12_lives 115 = .ok (.getfield 7, 3) := by decide +kernel
theorem dX12_lives_118 : decode cX12_lives 118 = .ok (.iload_n 3, 1) := by decide +kernel
theorem dX12_lives_119 : decode cX12_lives 119 = .ok (.iaload, 1) := by decide +kernel
theorem dX12_lives_120 : decode cX12_lives 120 = .ok (.bipush 25, 2) := by decide +kernel
theorem dX12_lives_122 : decode cX12_lives 122 = .ok (.if_icmp .ne 19, 3) := by decide +kernel
theorem dX12_lives_125 : decode cX12_lives 125 = .ok (.aload_n 0, 1) := by decide +kernel
theorem dX12_lives_126 : decode cX12_lives 126 = .ok (.getfield 59, 3) := by decide +kernel
theorem dX12_lives_129 : decode cX12_lives 129 = .ok (.iload_n 2, 1) := by decide +kernel
theorem dX12_lives_130 : decode cX12_lives 130 = .ok (.aload_n 0, 1) := by decide +kernel
theorem dX12_lives_131 : decode cX12_lives 131 = .ok (.getfield 7, 3) := by decide +kernel
theorem dX12_lives_134 : decode cX12_lives 134 = .ok (.iload_n 3, 1) := by decide +kernel
theorem dX12_lives_135 : decode cX12_lives 135 = .ok (.iconst 1, 1) := by decide +kernel
theorem dX12_lives_136 : decode cX12_lives 136 = .ok (.iadd, 1) := by decide +kernel
theorem dX12_lives_137 : decode cX12_lives 137 = .ok (.iaload, 1) := by decide +kernel
theorem dX12_lives_138 : decode cX12_lives 138 = .ok (.iconst 1, 1) := by decide +kernel
theorem dX12_lives_139 : decode cX12_lives 139 = .ok (.isub, 1) := by decide +kernel
theorem dX12_lives_140 : decode cX12_lives 140 = .ok (.iastore, 1) := by decide +kernel
theorem dX12_lives_141 : decode cX12_lives 141 = .ok (.aload_n 0, 1) := by decide +kernel
theorem dX12_lives_142 : decode cX12_lives 142 = .ok (.aload_n 0, 1) := by decide +kernel
theorem dX12_lives_143 : decode cX12_lives 143 = .ok (.getfield 7, 3) := by decide +kernel
theorem dX12_lives_146 : decode cX12_lives 146 = .ok (.iload_n 3, 1) := by decide +kernel
theorem dX12_lives_147 : decode cX12_lives 147 = .ok (.iaload, 1) := by decide +kernel
theorem dX12_lives_148 : decode cX12_lives 148 = .ok (.sipush 2400, 3) := by decide +kernel
theorem dX12_lives_151 : decode cX12_lives 151 = .ok (.if_icmp .lt 24, 3) := by decide +kernel
theorem dX12_lives_154 : decode cX12_lives 154 = .ok (.aload_n 0, 1) := by decide +kernel
theorem dX12_lives_155 : decode cX12_lives 155 = .ok (.iload_n 3, 1) := by decide +kernel
theorem dX12_lives_156 : decode cX12_lives 156 = .ok (.invokevirtual 435, 3) := by decide +kernel
theorem dX12_lives_159 : decode cX12_lives 159 = .ok (.ifCond .ne 16, 3) := by decide +kernel
theorem dX12_lives_162 : decode cX12_lives 162 = .ok (.aload_n 0, 1) := by decide +kernel
theorem dX12_lives_163 : decode cX12_lives 163 = .ok (.getfield 7, 3) := by decide +kernel
theorem dX12_lives_166 : decode cX12_lives 166 = .ok (.iload_n 3, 1) := by decide +kernel
theorem dX12_lives_167 : decode cX12_lives 167 = .ok (.iconst 4, 1) := by decide +kernel
theorem dX12_lives_168 : decode cX12_lives 168 = .ok (.iadd, 1) := by decide +kernel
theorem dX12_lives_169 : decode cX12_lives 169 = .ok (.iaload, 1) := by decide +kernel
theorem dX12_lives_170 : decode cX12_lives 170 = .ok (.iconst 1, 1) := by decide +kernel
theorem dX12_lives_171 : decode cX12_lives 171 = .ok (.iadd, 1) := by decide +kernel
theorem dX12_lives_172 : decode cX12_lives 172 = .ok (.goto 6, 3) := by decide +kernel
theorem dX12_lives_175 : decode cX12_lives 175 = .ok (.iload_n 2, 1) := by decide +kernel
theorem dX12_lives_176 : decode cX12_lives 176 = .ok (.iconst 1, 1) := by decide +kernel
theorem dX12_lives_177 : decode cX12_lives 177 = .ok (.iadd, 1) := by decide +kernel
theorem dX12_lives_178 : decode cX12_lives 178 = .ok (.invokevirtual 438, 3) := by decide +kernel
theorem dX12_lives_181 : decode cX12_lives 181 = .ok (.istore_n 2, 1) := by decide +kernel
theorem dX12_lives_182 : decode cX12_lives 182 = .ok (.goto (-150), 3) := by decide +kernel
theorem dX12_lives_185 : decode cX12_lives 185 = .ok (.return_, 1) := by decide +kernel
theorem dX12_live_0 : decode cX12_live 0 = .ok (.iload_n 1, 1) := by decide +kernel
theorem dX12_live_1 : decode cX12_live 1 = .ok (.i2l, 1) := by decide +kernel
theorem dX12_live_2 : decode cX12_live 2 = .ok (.lconst 0, 1) := by decide +kernel
theorem dX12_live_3 : decode cX12_live 3 = .ok (.ldc2_w 441, 3) := by decide +kernel
theorem dX12_live_6 : decode cX12_live 6 = .ok (.invokestatic 289, 3) := by decide +kernel
theorem dX12_live_9 : decode cX12_live 9 = .ok (.ifCond .ne 9, 3) := by decide +kernel
theorem dX12_live_12 : decode cX12_live 12 = .ok (.aload_n 0, 1) := by decide +kernel
theorem dX12_live_13 : decode cX12_live 13 = .ok (.iconst 1, 1) := by decide +kernel
theorem dX12_live_14 : decode cX12_live 14 = .ok (.invokevirtual 78, 3) := by decide +kernel
theorem dX12_live_17 : decode cX12_live 17 = .ok (.ireturn, 1) := by decide +kernel
theorem dX12_live_18 : decode cX12_live 18 = .ok (.aload_n 0, 1) := by decide +kernel
theorem dX12_live_19 : decode cX12_live 19 = .ok (.getfield 7, 3) := by decide +kernel
theorem dX12_live_22 : decode cX12_live 22 = .ok (.bipush 9, 2) := by decide +kernel
theorem dX12_live_24 : decode cX12_live 24 = .ok (.iaload, 1) := by decide +kernel
theorem dX12_live_25 : decode cX12_live 25 = .ok (.iconst (-1), 1) := by decide +kernel
theorem dX12_live_26 : decode cX12_live 26 = .ok (.if_icmp .ne 10, 3) := by decide +kernel
theorem dX12_live_29 : decode cX12_live 29 = .ok (.aload_n 0, 1) := by decide +kernel
theorem dX12_live_30 : decode cX12_live 30 = .ok (.bipush 6, 2) := by decide +kernel
theorem dX12_live_32 : decode cX12_live 32 = .ok (.invokevirtual 78, 3) := by decide +kernel
theorem dX12_live_35 : decode cX12_live 35 = .ok (.ireturn, 1) := by decide +kernel
theorem dX12_live_36 : decode cX12_live 36 = .ok (.aload_n 0, 1) := by decide +kernel
theorem dX12_live_37 : decode cX12_live 37 = .ok (.iload_n 1, 1) := by decide +kernel
theorem dX12_live_38 : decode cX12_live 38 = .ok (.invokevirtual 443, 3) := by decide +kernel
theorem dX12_live_41 : decode cX12_live 41 = .ok (.iconst 0, 1) := by decide +kernel
theorem dX12_live_42 : decode cX12_live 42 = .ok (.istore_n 2, 1) := by decide +kernel
theorem dX12_live_43 : decode cX12_live 43 = .ok (.iload_n 2, 1) := by decide +kernel
theorem dX12_live_44 : decode cX12_live 44 = .ok (.iconst 5, 1) := by decide +kernel
theorem dX12_live_45 : decode cX12_live 45 = .ok (.if_icmp .ge 21, 3) := by decide +kernel
theorem dX12_live_48 : decode cX12_live 48 = .ok (.aload_n 0, 1) := by decide +kernel
theorem dX12_live_49 : decode cX12_live 49 = .ok (.getfield 65, 3) := by decide +kernel
theorem dX12_live_52 : decode cX12_live 52 = .ok (.iload_n 2, 1) := by decide +kernel
theorem dX12_live_53 : decode cX12_live 53 = .ok (.aload_n 0, 1) := by decide +kernel
theorem dX12_live_54 : decode cX12_live 54 = .ok (.getfield 62, 3) := by decide +kernel
theorem dX12_live_57 : decode cX12_live 57 = .ok (.iload_n 2, 1) := by decide +kernel
theorem dX12_live_58 : decode cX12_live 58 = .ok (.iaload, 1) := by decide +kernel
theorem dX12_live_59 : decode cX12_live 59 = .ok (.iastore, 1) := by decide +kernel
theorem dX12_live_60 : decode cX12_live 60 = .ok (.iinc 2 1, 3) := by decide +kernel
theorem dX12_live_63 : decode cX12_live 63 = .ok (.goto (-20), 3) := by decide +kernel
theorem dX12_live_66 : decode cX12_live 66 = .ok (.aload_n 0, 1) := by decide +kernel
theorem dX12_live_67 : decode cX12_live 67 = .ok (.iconst 1, 1) := by decide +kernel
theorem dX12_live_68 : decode cX12_live 68 = .ok (.putfield 446, 3) := by decide +kernel
theorem dX12_live_71 : decode cX12_live 71 = .ok (.aload_n 0, 1) := by decide +kernel
theorem dX12_live_72 : decode cX12_live 72 = .ok (.aload_n 0, 1) := by decide +kernel
theorem dX12_live_73 : decode cX12_live 73 = .ok (.getfield 429, 3) := by decide +kernel
theorem dX12_live_76 : decode cX12_live 76 = .ok (.invokevirtual 82, 3) := by decide +kernel
theorem dX12_live_79 : decode cX12_live 79 = .ok (.ireturn, 1) := by decide +kernel
theorem dX12_lived_0 : decode cX12_lived 0 = .ok (.iload_n 1, 1) := by decide +kernel
theorem dX12_lived_1 : decode cX12_lived 1 = .ok (.ifCond .lt 8, 3) := by decide +kernel
theorem dX12_lived_4 : decode cX12_lived 4 = .ok (.iload_n 1, 1) := by decide +kernel
theorem dX12_lived_5 : decode cX12_lived 5 = .ok (.iconst 4, 1) := by decide +kernel
theorem dX12_lived_6 : decode cX12_lived 6 = .ok (.if_icmp .le 11, 3) := by decide +kernel
theorem dX12_lived_9 : decode cX12_lived 9 = .ok (.aload_n 0, 1) := by decide +kernel
theorem dX12_lived_10 : decode cX12_lived 10 = .ok (.iconst 1, 1) := by decide +kernel
theorem dX12_lived_11 : decode cX12_lived 11 = .ok (.invokevirtual 78, 3) := by decide +kernel
theorem dX12_lived_14 : decode cX12_lived 14 = .ok (.goto 29, 3) := by decide +kernel
theorem dX12_lived_17 : decode cX12_lived 17 = .ok (.aload_n 0, 1) := by decide +kernel
theorem dX12_lived_18 : decode cX12_lived 18 = .ok (.getfield 446, 3) := by decide +kernel
theorem dX12_lived_21 : decode cX12_lived 21 = .ok (.ifCond .eq 16, 3) := by decide +kernel
theorem dX12_lived_24 : decode cX12_lived 24 = .ok (.aload_n 0, 1) := by decide +kernel
theorem dX12_lived_25 : decode cX12_lived 25 = .ok (.aload_n 0, 1) := by decide +kernel
theorem dX12_lived_26 : decode cX12_lived 26 = .ok (.getfield 65, 3) := by decide +kernel
theorem dX12_lived_29 : decode cX12_lived 29 = .ok (.iload_n 1, 1) := by decide +kernel
theorem dX12_lived_30 : decode cX12_lived 30 = .ok (.iaload, 1) := by decide +kernel
theorem dX12_lived_31 : decode cX12_lived 31 = .ok (.invokevirtual 82, 3) := by decide +kernel
theorem dX12_lived_34 : decode cX12_lived 34 = .ok (.goto 9, 3) := by decide +kernel
theorem dX12_lived_37 : decode cX12_lived 37 = .ok (.aload_n 0, 1) := by decide +kernel
theorem dX12_lived_38 : decode cX12_lived 38 = .ok (.bipush 6, 2) := by decide +kernel
theorem dX12_lived_40 : decode cX12_lived 40 = .ok (.invokevirtual 78, 3) := by decide +kernel
theorem dX12_lived_43 : decode cX12_lived 43 = .ok (.ireturn, 1) := by decide +kernel
theorem dX12_mark_0 : decode cX12_mark 0 = .ok (.aload_n 0, 1) := by decide +kernel
theorem dX12_mark_1 : decode cX12_mark 1 = .ok (.getfield 451, 3) := by decide +kernel
theorem dX12_mark_4 : decode cX12_mark 4 = .ok (.iconst 3, 1) := by decide +kernel
theorem dX12_mark_5 : decode cX12_mark 5 = .ok (.if_icmp .ne 9, 3) := by decide +kernel
theorem dX12_mark_8 : decode cX12_mark 8 = .ok (.aload_n 0, 1) := by decide +kernel
theorem dX12_mark_9 : decode cX12_mark 9 = .ok (.iconst 4, 1) := by decide +kernel
theorem dX12_mark_10 : decode cX12_mark 10 = .ok (.invokevirtual 78, 3) := by decide +kernel
theorem dX12_mark_13 : decode cX12_mark 13 = .ok (.ireturn, 1) := by decide +kernel
theorem dX12_mark_14 : decode cX12_mark 14 = .ok (.aload_n 0, 1) := by decide +kernel
theorem dX12_mark_15 : decode cX12_mark 15 = .ok (.dup, 1) := by decide +kernel
theorem dX12_mark_16 : decode cX12_mark 16 = .ok (.getfield 451, 3) := by decide +kernel
theorem dX12_mark_19 : decode cX12_mark 19 = .ok (.iconst 1, 1) := by decide +kernel
theorem dX12_mark_20 : decode cX12_mark 20 = .ok (.iadd, 1) := by decide +kernel
theorem dX12_mark_21 : decode cX12_mark 21 = .ok (.putfield 451, 3) := by decide +kernel
theorem dX12_mark_24 : decode cX12_mark 24 = .ok (.aload_n 0, 1) := by decide +kernel
theorem dX12_mark_25 : decode cX12_mark 25 = .ok (.iconst 0, 1) := by decide +kernel
theorem dX12_mark_26 : decode cX12_mark 26 = .ok (.aload_n 0, 1) := by decide +kernel
theorem dX12_mark_27 : decode cX12_mark 27 = .ok (.getfield 451, 3) := by decide +kernel
theorem dX12_mark_30 : decode cX12_mark 30 = .ok (.invokevirtual 454, 3) := by decide +kernel
theorem dX12_mark_33 : decode cX12_mark 33 = .ok (.aload_n 0, 1) := by decide +kernel
theorem dX12_mark_34 : decode cX12_mark 34 = .ok (.aload_n 0, 1) := by decide +kernel
theorem dX12_mark_35 : decode cX12_mark 35 = .ok (.getfield 451, 3) := by decide +kernel
theorem dX12_mark_38 : decode cX12_mark 38 = .ok (.invokevirtual 82, 3) := by decide +kernel
theorem dX12_mark_41 : decode cX12_mark 41 = .ok (.ireturn, 1) := by decide +kernel
theorem dX12_is_0 : decode cX12_is 0 = .ok (.aload_n 0, 1) := by decide +kernel
theorem dX12_is_1 : decode cX12_is 1 = .ok (.iload_n 1, 1) := by decide +kernel
theorem dX12_is_2 : decode cX12_is 2 = .ok (.putfield 72, 3) := by decide +kernel
theorem dX12_is_5 : decode cX12_is 5 = .ok (.iload_n 1, 1) := by decide +kernel
theorem dX12_is_6 : decode cX12_is 6 = .ok (.ifCond .ne 7, 3) := by decide +kernel
theorem dX12_is_9 : decode cX12_is 9 = .ok (.iconst 1, 1) := by decide +kernel
theorem dX12_is_10 : decode cX12_is 10 = .ok (.goto 4, 3) := by decide +kernel
theorem dX12_is_13 : decode cX12_is 13 = .ok (.iconst 0, 1) := by decide +kernel
theorem dX12_is_14 : decode cX12_is 14 = .ok (.ireturn, 1) := by decide +kernel
theorem dX12_tellsBy_0 : decode cX12_tellsBy 0 = .ok (.lload_n 1, 1) := by decide +kernel
theorem dX12_tellsBy_1 : decode cX12_tellsBy 1 = .ok (.lstore 5, 2) := by decide +kernel
theorem dX12_tellsBy_3 : decode cX12_tellsBy 3 = .ok (.lload_n 3, 1) := by decide +kernel
theorem dX12_tellsBy_4 : decode cX12_tellsBy 4 = .ok (.lstore 7, 2) := by decide +kernel
theorem dX12_tellsBy_6 : decode cX12_tellsBy 6 = .ok (.lload 7, 2) := by decide +kernel
theorem dX12_tellsBy_8 : decode cX12_tellsBy 8 = .ok (.lconst 0, 1) := by decide +kernel
theorem dX12_tellsBy_9 : decode cX12_tellsBy 9 = .ok (.lcmp, 1) := by decide +kernel
theorem dX12_tellsBy_10 : decode cX12_tellsBy 10 = .ok (.ifCond .eq 21, 3) := by decide +kernel
theorem dX12_tellsBy_13 : decode cX12_tellsBy 13 = .ok (.lload 5, 2) := by decide +kernel
theorem dX12_tellsBy_15 : decode cX12_tellsBy 15 = .ok (.lload 7, 2) := by decide +kernel
theorem dX12_tellsBy_17 : decode cX12_tellsBy 17 = .ok (.lrem, 1) := by decide +kernel
theorem dX12_tellsBy_18 : decode cX12_tellsBy 18 = .ok (.lstore 9, 2) := by decide +kernel
theorem dX12_tellsBy_20 : decode cX12_tellsBy 20 = .ok (.lload 7, 2) := by decide +kernel
theorem dX12_tellsBy_22 : decode cX12_tellsBy 22 = .ok (.lstore 5, 2) := by decide +kernel
theorem dX12_tellsBy_24 : decode cX12_tellsBy 24 = .ok (.lload 9, 2) := by decide +kernel
theorem dX12_tellsBy_26 : decode cX12_tellsBy 26 = .ok (.lstore 7, 2) := by decide +kernel
theorem dX12_tellsBy_28 : decode cX12_tellsBy 28 = .ok (.goto (-22), 3) := by decide +kernel
theorem dX12_tellsBy_31 : decode cX12_tellsBy 31 = .ok (.aload_n 0, 1) := by decide +kernel
theorem dX12_tellsBy_32 : decode cX12_tellsBy 32 = .ok (.lload_n 1, 1) := by decide +kernel
theorem dX12_tellsBy_33 : decode cX12_tellsBy 33 = .ok (.lload 5, 2) := by decide +kernel
theorem dX12_tellsBy_35 : decode cX12_tellsBy 35 = .ok (.ldiv, 1) := by decide +kernel
theorem dX12_tellsBy_36 : decode cX12_tellsBy 36 = .ok (.putfield 75, 3) := by decide +kernel
theorem dX12_tellsBy_39 : decode cX12_tellsBy 39 = .ok (.aload_n 0, 1) := by decide +kernel
theorem dX12_tellsBy_40 : decode cX12_tellsBy 40 = .ok (.lload_n 3, 1) := by decide +kernel
theorem dX12_tellsBy_41 : decode cX12_tellsBy 41 = .ok (.lload 5, 2) := by decide +kernel
theorem dX12_tellsBy_43 : decode cX12_tellsBy 43 = .ok (.ldiv, 1) := by decide +kernel
theorem dX12_tellsBy_44 : decode cX12_tellsBy 44 = .ok (.putfield 17, 3) := by decide +kernel
theorem dX12_tellsBy_47 : decode cX12_tellsBy 47 = .ok (.aload_n 0, 1) := by decide +kernel
theorem dX12_tellsBy_48 : decode cX12_tellsBy 48 = .ok (.iconst 0, 1) := by decide +kernel
theorem dX12_tellsBy_49 : decode cX12_tellsBy 49 = .ok (.invokevirtual 85, 3) := by decide +kernel
theorem dX12_tellsBy_52 : decode cX12_tellsBy 52 = .ok (.ireturn, 1) := by decide +kernel
theorem dX12_mean_0 : decode cX12_mean 0 = .ok (.aload_n 0, 1) := by decide +kernel
theorem dX12_mean_1 : decode cX12_mean 1 = .ok (.iload_n 1, 1) := by decide +kernel
theorem dX12_mean_2 : decode cX12_mean 2 = .ok (.invokevirtual 271, 3) := by decide +kernel
theorem dX12_mean_5 : decode cX12_mean 5 = .ok (.ifCond .eq 38, 3) := by decide +kernel
theorem dX12_mean_8 : decode cX12_mean 8 = .ok (.iload_n 2, 1) := by decide +kernel
theorem dX12_mean_9 : decode cX12_mean 9 = .ok (.i2l, 1) := by decide +kernel
theorem dX12_mean_10 : decode cX12_mean 10 = .ok (.lconst 0, 1) := by decide +kernel
theorem dX12_mean_11 : decode cX12_mean 11 = .ok (.ldc2_w 441, 3) := by decide +kernel
theorem dX12_mean_14 : decode cX12_mean 14 = .ok (.invokestatic 289, 3) := by decide +kernel
theorem dX12_mean_17 : decode cX12_mean 17 = .ok (.ifCond .eq 26, 3) := by decide +kernel
theorem dX12_mean_20 : decode cX12_mean 20 = .ok (.iload_n 3, 1) := by decide +kernel
theorem dX12_mean_21 : decode cX12_mean 21 = .ok (.i2l, 1) := by decide +kernel
theorem dX12_mean_22 : decode cX12_mean 22 = .ok (.lconst 1, 1) := by decide +kernel
theorem dX12_mean_23 : decode cX12_mean 23 = .ok (.ldc2_w 449, 3) := by decide +kernel
theorem dX12_mean_26 : decode cX12_mean 26 = .ok (.invokestatic 289, 3) := by decide +kernel
theorem dX12_mean_29 : decode cX12_mean 29 = .ok (.ifCond .eq 14, 3) := by decide +kernel
theorem dX12_mean_32 : decode cX12_mean 32 = .ok (.iload_n 2, 1) := by decide +kernel
theorem dX12_mean_33 : decode cX12_mean 33 = .ok (.iload_n 3, 1) := by decide +kernel
theorem dX12_mean_34 : decode cX12_mean 34 = .ok (.iadd, 1) := by decide +kernel
theorem dX12_mean_35 : decode cX12_mean 35 = .ok (.iconst 1, 1) := by decide +kernel
theorem dX12_mean_36 : decode cX12_mean 36 = .ok (.isub, 1) := by decide +kernel
theorem dX12_mean_37 : decode cX12_mean 37 = .ok (.sipush 9999, 3) := by decide +kernel
theorem dX12_mean_40 : decode cX12_mean 40 = .ok (.if_icmp .le 9, 3) := by decide +kernel
theorem dX12_mean_43 : decode cX12_mean 43 = .ok (.aload_n 0, 1) := by decide +kernel
theorem dX12_mean_44 : decode cX12_mean 44 = .ok (.iconst 1, 1) := by decide +kernel
theorem dX12_mean_45 : decode cX12_mean 45 = .ok (.invokevirtual 85, 3) := by decide +kernel
theorem dX12_mean_48 : decode cX12_mean 48 = .ok (.ireturn, 1) := by decide +kernel
theorem dX12_mean_49 : decode cX12_mean 49 = .ok (.aload_n 0, 1) := by decide +kernel
theorem dX12_mean_50 : decode cX12_mean 50 = .ok (.getfield 7, 3) := by decide +kernel
theorem dX12_mean_53 : decode cX12_mean 53 = .ok (.bipush 9, 2) := by decide +kernel
theorem dX12_mean_55 : decode cX12_mean 55 = .ok (.iaload, 1) := by decide +kernel
theorem dX12_mean_56 : decode cX12_mean 56 = .ok (.iconst (-1), 1) := by decide +kernel
theorem dX12_mean_57 : decode cX12_mean 57 = .ok (.if_icmp .ne 10, 3) := by decide +kernel
theorem dX12_mean_60 : decode cX12_mean 60 = .ok (.aload_n 0, 1) := by decide +kernel
theorem dX12_mean_61 : decode cX12_mean 61 = .ok (.bipush 6, 2) := by decide +kernel
theorem dX12_mean_63 : decode cX12_mean 63 = .ok (.invokevirtual 85, 3) := by decide +kernel
theorem dX12_mean_66 : decode cX12_mean 66 = .ok (.ireturn, 1) := by decide +kernel
theorem dX12_mean_67 : decode cX12_mean 67 = .ok (.iconst 0, 1) := by decide +kernel
theorem dX12_mean_68 : decode cX12_mean 68 = .ok (.istore 4, 2) := by decide +kernel
theorem dX12_mean_70 : decode cX12_mean 70 = .ok (.iload 4, 2) := by decide +kernel
theorem dX12_mean_72 : decode cX12_mean 72 = .ok (.sipush 1030, 3) := by decide +kernel
theorem dX12_mean_75 : decode cX12_mean 75 = .ok (.if_icmp .ge 27, 3) := by decide +kernel
theorem dX12_mean_78 : decode cX12_mean 78 = .ok (.aload_n 0, 1) := by decide +kernel
theorem dX12_mean_79 : decode cX12_mean 79 = .ok (.getfield 7, 3) := by decide +kernel
theorem dX12_mean_82 : decode cX12_mean 82 = .ok (.sipush 7000, 3) := by decide +kernel
theorem dX12_mean_85 : decode cX12_mean 85 = .ok (.iload 4, 2) := by decide +kernel
theorem dX12_mean_87 : decode cX12_mean 87 = .ok (.iadd, 1) := by decide +kernel
theorem dX12_mean_88 : decode cX12_mean 88 = .ok (.aload_n 0, 1) := by decide +kernel
theorem dX12_mean_89 : decode cX12_mean 89 = .ok (.getfield 7, 3) := by decide +kernel
theorem dX12_mean_92 : decode cX12_mean 92 = .ok (.iload 4, 2) := by decide +kernel
theorem dX12_mean_94 : decode cX12_mean 94 = .ok (.iaload, 1) := by decide +kernel
theorem dX12_mean_95 : decode cX12_mean 95 = .ok (.iastore, 1) := by decide +kernel
theorem dX12_mean_96 : decode cX12_mean 96 = .ok (.iinc 4 1, 3) := by decide +kernel
theorem dX12_mean_99 : decode cX12_mean 99 = .ok (.goto (-29), 3) := by decide +kernel
theorem dX12_mean_102 : decode cX12_mean 102 = .ok (.lconst 0, 1) := by decide +kernel
theorem dX12_mean_103 : decode cX12_mean 103 = .ok (.lstore 4, 2) := by decide +kernel
theorem dX12_mean_105 : decode cX12_mean 105 = .ok (.iconst 0, 1) := by decide +kernel
theorem dX12_mean_106 : decode cX12_mean 106 = .ok (.istore 6, 2) := by decide +kernel
theorem dX12_mean_108 : decode cX12_mean 108 = .ok (.iload 6, 2) := by decide +kernel
theorem dX12_mean_110 : decode cX12_mean 110 = .ok (.iload_n 3, 1) := by decide +kernel
theorem dX12_mean_111 : decode cX12_mean 111 = .ok (.if_icmp .ge 69, 3) := by decide +kernel
theorem dX12_mean_114 : decode cX12_mean 114 = .ok (.aload_n 0, 1) := by decide +kernel
theorem dX12_mean_115 : decode cX12_mean 115 = .ok (.iload_n 2, 1) := by decide +kernel
theorem dX12_mean_116 : decode cX12_mean 116 = .ok (.iload 6, 2) := by decide +kernel
theorem dX12_mean_118 : decode cX12_mean 118 = .ok (.iadd, 1) := by decide +kernel
theorem dX12_mean_119 : decode cX12_mean 119 = .ok (.invokevirtual 443, 3) := by decide +kernel
theorem dX12_mean_122 : decode cX12_mean 122 = .ok (.lload 4, 2) := by decide +kernel
theorem dX12_mean_124 : decode cX12_mean 124 = .ok (.aload_n 0, 1) := by decide +kernel
theorem dX12_mean_125 : decode cX12_mean 125 = .ok (.getfield 7, 3) := by decide +kernel
theorem dX12_mean_128 : decode cX12_mean 128 = .ok (.iload_n 1, 1) := by decide +kernel
theorem dX12_mean_129 : decode cX12_mean 129 = .ok (.invokestatic 274, 3) := by decide +kernel
theorem dX12_mean_132 : decode cX12_mean 132 = .ok (.iconst 4, 1) := by decide +kernel
theorem dX12_mean_133 : decode cX12_mean 133 = .ok (.iadd, 1) := by decide +kernel
theorem dX12_mean_134 : decode cX12_mean 134 = .ok (.iaload, 1) := by decide +kernel
theorem dX12_mean_135 : decode cX12_mean 135 = .ok (.i2l, 1) := by decide +kernel
theorem dX12_mean_136 : decode cX12_mean 136 = .ok (.ladd, 1) := by decide +kernel
theorem dX12_mean_137 : decode cX12_mean 137 = .ok (.lstore 4, 2) := by decide +kernel
theorem dX12_mean_139 : decode cX12_mean 139 = .ok (.iconst 0, 1) := by decide +kernel
theorem dX12_mean_140 : decode cX12_mean 140 = .ok (.istore 7, 2) := by decide +kernel
theorem dX12_mean_142 : decode cX12_mean 142 = .ok (.iload 7, 2) := by decide +kernel
theorem dX12_mean_144 : decode cX12_mean 144 = .ok (.sipush 1030, 3) := by decide +kernel
theorem dX12_mean_147 : decode cX12_mean 147 = .ok (.if_icmp .ge 27, 3) := by decide +kernel
theorem dX12_mean_150 : decode cX12_mean 150 = .ok (.aload_n 0, 1) := by decide +kernel
theorem dX12_mean_151 : decode cX12_mean 151 = .ok (.getfield 7, 3) := by decide +kernel
theorem dX12_mean_154 : decode cX12_mean 154 = .ok (.iload 7, 2) := by decide +kernel
theorem dX12_mean_156 : decode cX12_mean 156 = .ok (.aload_n 0, 1) := by decide +kernel
theorem dX12_mean_157 : decode cX12_mean 157 = .ok (.getfield 7, 3) := by decide +kernel
theorem dX12_mean_160 : decode cX12_mean 160 = .ok (.sipush 7000, 3) := by decide +kernel
theorem dX12_mean_163 : decode cX12_mean 163 = .ok (.iload 7, 2) := by decide +kernel
theorem dX12_mean_165 : decode cX12_mean 165 = .ok (.iadd, 1) := by decide +kernel
theorem dX12_mean_166 : decode cX12_mean 166 = .ok (.iaload, 1) := by decide +kernel
theorem dX12_mean_167 : decode cX12_mean 167 = .ok (.iastore, 1) := by decide +kernel
theorem dX12_mean_168 : decode cX12_mean 168 = .ok (.iinc 7 1, 3) := by decide +kernel
theorem dX12_mean_171 : decode cX12_mean 171 = .ok (.goto (-29), 3) := by decide +kernel
theorem dX12_mean_174 : decode cX12_mean 174 = .ok (.iinc 6 1, 3) := by decide +kernel
theorem dX12_mean_177 : decode cX12_mean 177 = .ok (.goto (-69), 3) := by decide +kernel
theorem dX12_mean_180 : decode cX12_mean 180 = .ok (.aload_n 0, 1) := by decide +kernel
theorem dX12_mean_181 : decode cX12_mean 181 = .ok (.lload 4, 2) := by decide +kernel
theorem dX12_mean_183 : decode cX12_mean 183 = .ok (.iload_n 3, 1) := by decide +kernel
theorem dX12_mean_184 : decode cX12_mean 184 = .ok (.i2l, 1) := by decide +kernel
theorem dX12_mean_185 : decode cX12_mean 185 = .ok (.invokevirtual 413, 3) := by decide +kernel
theorem dX12_mean_188 : decode cX12_mean 188 = .ok (.ireturn, 1) := by decide +kernel
theorem dX12_needs_0 : decode cX12_needs 0 = .ok (.aload_n 0, 1) := by decide +kernel
theorem dX12_needs_1 : decode cX12_needs 1 = .ok (.iload_n 1, 1) := by decide +kernel
theorem dX12_needs_2 : decode cX12_needs 2 = .ok (.invokevirtual 271, 3) := by decide +kernel
theorem dX12_needs_5 : decode cX12_needs 5 = .ok (.ifCond .ne 9, 3) := by decide +kernel
theorem dX12_needs_8 : decode cX12_needs 8 = .ok (.aload_n 0, 1) := by decide +kernel
theorem dX12_needs_9 : decode cX12_needs 9 = .ok (.iconst 1, 1) := by decide +kernel
theorem dX12_needs_10 : decode cX12_needs 10 = .ok (.invokevirtual 78, 3) := by decide +kernel
theorem dX12_needs_13 : decode cX12_needs 13 = .ok (.ireturn, 1) := by decide +kernel
theorem dX12_needs_14 : decode cX12_needs 14 = .ok (.iconst 0, 1) := by decide +kernel
theorem dX12_needs_15 : decode cX12_needs 15 = .ok (.istore_n 2, 1) := by decide +kernel
theorem dX12_needs_16 : decode cX12_needs 16 = .ok (.iconst 0, 1) := by decide +kernel
theorem dX12_needs_17 : decode cX12_needs 17 = .ok (.istore_n 3, 1) := by decide +kernel
theorem dX12_needs_18 : decode cX12_needs 18 = .ok (.iload_n 3, 1) := by decide +kernel
theorem dX12_needs_19 : decode cX12_needs 19 = .ok (.aload_n 0, 1) := by decide +kernel
theorem dX12_needs_20 : decode cX12_needs 20 = .ok (.getfield 7, 3) := by decide +kernel
theorem dX12_needs_23 : decode cX12_needs 23 = .ok (.iconst 2, 1) := by decide +kernel
theorem dX12_needs_24 : decode cX12_needs 24 = .ok (.iaload, 1) := by decide +kernel
theorem dX12_needs_25 : decode cX12_needs 25 = .ok (.if_icmp .ge 36, 3) := by decide +kernel
theorem dX12_needs_28 : decode cX12_needs 28 = .ok (.iload_n 2, 1) := by decide +kernel
theorem dX12_needs_29 : decode cX12_needs 29 = .ok (.aload_n 0, 1) := by decide +kernel
theorem dX12_needs_30 : decode cX12_needs 30 = .ok (.iload_n 3, 1) := by decide +kernel
theorem dX12_needs_31 : decode cX12_needs 31 = .ok (.invokevirtual 268, 3) := by decide +kernel
theorem dX12_needs_34 : decode cX12_needs 34 = .ok (.ifCond .eq 18, 3) := by decide +kernel
theorem dX12_needs_37 : decode cX12_needs 37 = .ok (.aload_n 0, 1) := by decide +kernel
theorem dX12_needs_38 : decode cX12_needs 38 = .ok (.iload_n 3, 1) := by decide +kernel
theorem dX12_needs_39 : decode cX12_needs 39 = .ok (.invokevirtual 337, 3) := by decide +kernel
theorem dX12_needs_42 : decode cX12_needs 42 = .ok (.iconst 1, 1) := by decide +kernel
theorem dX12_needs_43 : decode cX12_needs 43 = .ok (.iload_n 1, 1) := by decide +kernel
theorem dX12_needs_44 : decode cX12_needs 44 = .ok (.ishl, 1) := by decide +kernel
theorem dX12_needs_45 : decode cX12_needs 45 = .ok (.if_icmp .eq 7, 3) := by decide +kernel
theorem dX12_needs_48 : decode cX12_needs 48 = .ok (.iconst 1, 1) := by decide +kernel
theorem dX12_needs_49 : decode cX12_needs 49 = .ok (.goto 4, 3) := by decide +kernel
theorem dX12_needs_52 : decode cX12_needs 52 = .ok (.iconst 0, 1) := by decide +kernel
theorem dX12_needs_53 : decode cX12_needs 53 = .ok (.iadd, 1) := by decide +kernel
theorem dX12_needs_54 : decode cX12_needs 54 = .ok (.istore_n 2, 1) := by decide +kernel
theorem dX12_needs_55 : decode cX12_needs 55 = .ok (.iinc 3 1, 3) := by decide +kernel
theorem dX12_needs_58 : decode cX12_needs 58 = .ok (.goto (-40), 3) := by decide +kernel
theorem dX12_needs_61 : decode cX12_needs 61 = .ok (.aload_n 0, 1) := by decide +kernel
theorem dX12_needs_62 : decode cX12_needs 62 = .ok (.iload_n 2, 1) := by decide +kernel
theorem dX12_needs_63 : decode cX12_needs 63 = .ok (.invokevirtual 82, 3) := by decide +kernel
theorem dX12_needs_66 : decode cX12_needs 66 = .ok (.ireturn, 1) := by decide +kernel
theorem dX12_odds_0 : decode cX12_odds 0 = .ok (.aload_n 0, 1) := by decide +kernel
theorem dX12_odds_1 : decode cX12_odds 1 = .ok (.iload_n 1, 1) := by decide +kernel
theorem dX12_odds_2 : decode cX12_odds 2 = .ok (.invokevirtual 265, 3) := by decide +kernel
theorem dX12_odds_5 : decode cX12_odds 5 = .ok (.ifCond .eq 24, 3) := by decide +kernel
theorem dX12_odds_8 : decode cX12_odds 8 = .ok (.iload_n 2, 1) := by decide +kernel
theorem dX12_odds_9 : decode cX12_odds 9 = .ok (.i2l, 1) := by decide +kernel
theorem dX12_odds_10 : decode cX12_odds 10 = .ok (.lconst 0, 1) := by decide +kernel
theorem dX12_odds_11 : decode cX12_odds 11 = .ok (.ldc2_w 411, 3) := by decide +kernel
theorem dX12_odds_14 : decode cX12_odds 14 = .ok (.invokestatic 289, 3) := by decide +kernel
theorem dX12_odds_17 : decode cX12_odds 17 = .ok (.ifCond .eq 12, 3) := by decide +kernel
theorem dX12_odds_20 : decode cX12_odds 20 = .ok (.iload_n 3, 1) := by decide +kernel
theorem dX12_odds_21 : decode cX12_odds 21 = .ok (.ifCond .lt 8, 3) := by decide +kernel
theorem dX12_odds_24 : decode cX12_odds 24 = .ok (.iload_n 3, 1) := by decide +kernel
theorem dX12_odds_25 : decode cX12_odds 25 = .ok (.iconst 1, 1) := by decide +kernel
theorem dX12_odds_26 : decode cX12_odds 26 = .ok (.if_icmp .le 9, 3) := by decide +kernel
theorem dX12_odds_29 : decode cX12_odds 29 = .ok (.aload_n 0, 1) := by decide +kernel
theorem dX12_odds_30 : decode cX12_odds 30 = .ok (.iconst 1, 1) := by decide +kernel
theorem dX12_odds_31 : decode cX12_odds 31 = .ok (.invokevirtual 85, 3) := by decide +kernel
theorem dX12_odds_34 : decode cX12_odds 34 = .ok (.ireturn, 1) := by decide +kernel
theorem dX12_odds_35 : decode cX12_odds 35 = .ok (.aload_n 0, 1) := by decide +kernel
theorem dX12_odds_36 : decode cX12_odds 36 = .ok (.iload_n 1, 1) := by decide +kernel
theorem dX12_odds_37 : decode cX12_odds 37 = .ok (.invokevirtual 367, 3) := by decide +kernel
theorem dX12_odds_40 : decode cX12_odds 40 = .ok (.istore 4, 2) := by decide +kernel
theorem dX12_odds_42 : decode cX12_odds 42 = .ok (.iload 4, 2) := by decide +kernel
theorem dX12_odds_44 : decode cX12_odds 44 = .ok (.ifCond .le 10, 3) := by decide +kernel
theorem dX12_odds_47 : decode cX12_odds 47 = .ok (.aload_n 0, 1) := by decide +kernel
theorem dX12_odds_48 : decode cX12_odds 48 = .ok (.iload 4, 2) := by decide +kernel
theorem dX12_odds_50 : decode cX12_odds 50 = .ok (.invokevirtual 85, 3) := by decide +kernel
theorem dX12_odds_53 : decode cX12_odds 53 = .ok (.ireturn, 1) := by decide +kernel
theorem dX12_odds_54 : decode cX12_odds 54 = .ok (.aload_n 0, 1) := by decide +kernel
theorem dX12_odds_55 : decode cX12_odds 55 = .ok (.iload_n 1, 1) := by decide +kernel
theorem dX12_odds_56 : decode cX12_odds 56 = .ok (.invokevirtual 370, 3) := by decide +kernel
theorem dX12_odds_59 : decode cX12_odds 59 = .ok (.bipush 12, 2) := by decide +kernel
theorem dX12_odds_61 : decode cX12_odds 61 = .ok (.if_icmp .le 10, 3) := by decide +kernel
theorem dX12_odds_64 : decode cX12_odds 64 = .ok (.aload_n 0, 1) := by decide +kernel
theorem dX12_odds_65 : decode cX12_odds 65 = .ok (.bipush 7, 2) := by decide +kernel
theorem dX12_odds_67 : decode cX12_odds 67 = .ok (.invokevirtual 85, 3) := by decide +kernel
theorem dX12_odds_70 : decode cX12_odds 70 = .ok (.ireturn, 1) := by decide +kernel
theorem dX12_odds_71 : decode cX12_odds 71 = .ok (.iload_n 3, 1) := by decide +kernel
theorem dX12_odds_72 : decode cX12_odds 72 = .ok (.ifCond .ne 7, 3) := by decide +kernel
theorem dX12_odds_75 : decode cX12_odds 75 = .ok (.lconst 1, 1) := by decide +kernel
theorem dX12_odds_76 : decode cX12_odds 76 = .ok (.goto 16, 3) := by decide +kernel
theorem dX12_odds_79 : decode cX12_odds 79 = .ok (.aload_n 0, 1) := by decide +kernel
theorem dX12_odds_80 : decode cX12_odds 80 = .ok (.getfield 7, 3) := by decide +kernel
theorem dX12_odds_83 : decode cX12_odds 83 = .ok (.iconst 0, 1) := by decide +kernel
theorem dX12_odds_84 : decode cX12_odds 84 = .ok (.iload_n 1, 1) := by decide +kernel
theorem dX12_odds_85 : decode cX12_odds 85 = .ok (.invokestatic 171, 3) := by decide +kernel
theorem dX12_odds_88 : decode cX12_odds 88 = .ok (.iconst 1, 1) := by decide +kernel
theorem dX12_odds_89 : decode cX12_odds 89 = .ok (.iadd, 1) := by decide +kernel
theorem dX12_odds_90 : decode cX12_odds 90 = .ok (.iaload, 1) := by decide +kernel
theorem dX12_odds_91 : decode cX12_odds 91 = .ok (.i2l, 1) := by decide +kernel
theorem dX12_odds_92 : decode cX12_odds 92 = .ok (.lstore 5, 2) := by decide +kernel
theorem dX12_odds_94 : decode cX12_odds 94 = .ok (.lconst 1, 1) := by decide +kernel
theorem dX12_odds_95 : decode cX12_odds 95 = .ok (.lstore 7, 2) := by decide +kernel
theorem dX12_odds_97 : decode cX12_odds 97 = .ok (.iconst 0, 1) := by decide +kernel
theorem dX12_odds_98 : decode cX12_odds 98 = .ok (.istore 9, 2) := by decide +kernel
theorem dX12_odds_100 : decode cX12_odds 100 = .ok (.iload 9, 2) := by decide +kernel
theorem dX12_odds_102 : decode cX12_odds 102 = .ok (.aload_n 0, 1) := by decide +kernel
theorem dX12_odds_103 : decode cX12_odds 103 = .ok (.iload_n 1, 1) := by decide +kernel
theorem dX12_odds_104 : decode cX12_odds 104 = .ok (.invokevirtual 370, 3) := by decide +kernel
theorem dX12_odds_107 : decode cX12_odds 107 = .ok (.if_icmp .ge 28, 3) := by decide +kernel
theorem dX12_odds_110 : decode cX12_odds 110 = .ok (.lload 5, 2) := by decide +kernel
theorem dX12_odds_112 : decode cX12_odds 112 = .ok (.ldc2_w 411, 3) := by decide +kernel
theorem dX12_odds_115 : decode cX12_odds 115 = .ok (.iload_n 2, 1) := by decide +kernel
theorem dX12_odds_116 : decode cX12_odds 116 = .ok (.i2l, 1) := by decide +kernel
theorem dX12_odds_117 : decode cX12_odds 117 = .ok (.lsub, 1) := by decide +kernel
theorem dX12_odds_118 : decode cX12_odds 118 = .ok (.lmul, 1) := by decide +kernel
theorem dX12_odds_119 : decode cX12_odds 119 = .ok (.lstore 5, 2) := by decide +kernel
theorem dX12_odds_121 : decode cX12_odds 121 = .ok (.lload 7, 2) := by decide +kernel
theorem dX12_odds_123 : decode cX12_odds 123 = .ok (.ldc2_w 411, 3) := by decide +kernel
theorem dX12_odds_126 : decode cX12_odds 126 = .ok (.lmul, 1) := by decide +kernel
theorem dX12_odds_127 : decode cX12_odds 127 = .ok (.lstore 7, 2) := by decide +kernel
theorem dX12_odds_129 : decode cX12_odds 129 = .ok (.iinc 9 1, 3) := by decide +kernel
theorem dX12_odds_132 : decode cX12_odds 132 = .ok (.goto (-32), 3) := by decide +kernel
theorem dX12_odds_135 : decode cX12_odds 135 = .ok (.aload_n 0, 1) := by decide +kernel
theorem dX12_odds_136 : decode cX12_odds 136 = .ok (.lload 5, 2) := by decide +kernel
theorem dX12_odds_138 : decode cX12_odds 138 = .ok (.lload 7, 2) := by decide +kernel
theorem dX12_odds_140 : decode cX12_odds 140 = .ok (.invokevirtual 413, 3) := by decide +kernel
theorem dX12_odds_143 : decode cX12_odds 143 = .ok (.ireturn, 1) := by decide +kernel
theorem dX12_open_0 : decode cX12_open 0 = .ok (.iconst 0, 1) := by decide +kernel
theorem dX12_open_1 : decode cX12_open 1 = .ok (.istore_n 1, 1) := by decide +kernel
theorem dX12_open_2 : decode cX12_open 2 = .ok (.iconst 0, 1) := by decide +kernel
theorem dX12_open_3 : decode cX12_open 3 = .ok (.istore_n 2, 1) := by decide +kernel
theorem dX12_open_4 : decode cX12_open 4 = .ok (.iload_n 2, 1) := by decide +kernel
theorem dX12_open_5 : decode cX12_open 5 = .ok (.aload_n 0, 1) := by decide +kernel
theorem dX12_open_6 : decode cX12_open 6 = .ok (.getfield 7, 3) := by decide +kernel
theorem dX12_open_9 : decode cX12_open 9 = .ok (.iconst 2, 1) := by decide +kernel
theorem dX12_open_10 : decode cX12_open 10 = .ok (.iaload, 1) := by decide +kernel
theorem dX12_open_11 : decode cX12_open 11 = .ok (.if_icmp .ge 44, 3) := by decide +kernel
theorem dX12_open_14 : decode cX12_open 14 = .ok (.iload_n 1, 1) := by decide +kernel
theorem dX12_open_15 : decode cX12_open 15 = .ok (.aload_n 0, 1) := by decide +kernel
theorem dX12_open_16 : decode cX12_open 16 = .ok (.iload_n 2, 1) := by decide +kernel
theorem dX12_open_17 : decode cX12_open 17 = .ok (.invokevirtual 268, 3) := by decide +kernel
theorem dX12_open_20 : decode cX12_open 20 = .ok (.ifCond .eq 26, 3) := by decide +kernel
theorem dX12_open_23 : decode cX12_open 23 = .ok (.aload_n 0, 1) := by decide +kernel
theorem dX12_open_24 : decode cX12_open 24 = .ok (.iload_n 2, 1) := by decide +kernel
theorem dX12_open_25 : decode cX12_open 25 = .ok (.invokevirtual 343, 3) := by decide +kernel
theorem dX12_open_28 : decode cX12_open 28 = .ok (.ifCond .ne 18, 3) := by decide +kernel
theorem dX12_open_31 : decode cX12_open 31 = .ok (.aload_n 0, 1) := by decide +kernel
theorem dX12_open_32 : decode cX12_open 32 = .ok (.getfield 7, 3) := by decide +kernel
theorem dX12_open_35 : decode cX12_open 35 = .ok (.iconst 0, 1) := by decide +kernel
theorem dX12_open_36 : decode cX12_open 36 = .ok (.iload_n 2, 1) := by decide +kernel
theorem dX12_open_37 : decode cX12_open 37 = .ok (.invokestatic 171, 3) := by decide +kernel
theorem dX12_open_40 : decode cX12_open 40 = .ok (.iconst 1, 1) := by decide +kernel
theorem dX12_open_41 : decode cX12_open 41 = .ok (.iadd, 1) := by decide +kernel
theorem dX12_open_42 : decode cX12_open 42 = .ok (.iaload, 1) := by decide +kernel
theorem dX12_open_43 : decode cX12_open 43 = .ok (.goto 4, 3) := by decide +kernel
theorem dX12_open_46 : decode cX12_open 46 = .ok (.iconst 0, 1) := by decide +kernel
theorem dX12_open_47 : decode cX12_open 47 = .ok (.iadd, 1) := by decide +kernel
theorem dX12_open_48 : decode cX12_open 48 = .ok (.istore_n 1, 1) := by decide +kernel
theorem dX12_open_49 : decode cX12_open 49 = .ok (.iinc 2 1, 3) := by decide +kernel
theorem dX12_open_52 : decode cX12_open 52 = .ok (.goto (-48), 3) := by decide +kernel
theorem dX12_open_55 : decode cX12_open 55 = .ok (.aload_n 0, 1) := by decide +kernel
theorem dX12_open_56 : decode cX12_open 56 = .ok (.iload_n 1, 1) := by decide +kernel
theorem dX12_open_57 : decode cX12_open 57 = .ok (.invokevirtual 82, 3) := by decide +kernel
theorem dX12_open_60 : decode cX12_open 60 = .ok (.ireturn, 1) := by decide +kernel
theorem dX12_part_0 : decode cX12_part 0 = .ok (.aload_n 0, 1) := by decide +kernel
theorem dX12_part_1 : decode cX12_part 1 = .ok (.iload_n 1, 1) := by decide +kernel
theorem dX12_part_2 : decode cX12_part 2 = .ok (.invokevirtual 349, 3) := by decide +kernel
theorem dX12_part_5 : decode cX12_part 5 = .ok (.istore_n 3, 1) := by decide +kernel
theorem dX12_part_6 : decode cX12_part 6 = .ok (.iload_n 3, 1) := by decide +kernel
theorem dX12_part_7 : decode cX12_part 7 = .ok (.ifCond .le 9, 3) := by decide +kernel
theorem dX12_part_10 : decode cX12_part 10 = .ok (.aload_n 0, 1) := by decide +kernel
theorem dX12_part_11 : decode cX12_part 11 = .ok (.iload_n 3, 1) := by decide +kernel
theorem dX12_part_12 : decode cX12_part 12 = .ok (.invokevirtual 78, 3) := by decide +kernel
theorem dX12_part_15 : decode cX12_part 15 = .ok (.ireturn, 1) := by decide +kernel
theorem dX12_part_16 : decode cX12_part 16 = .ok (.iload_n 2, 1) := by decide +kernel
theorem dX12_part_17 : decode cX12_part 17 = .ok (.istore 4, 2) := by decide +kernel
theorem dX12_part_19 : decode cX12_part 19 = .ok (.iconst 0, 1) := by decide +kernel
theorem dX12_part_20 : decode cX12_part 20 = .ok (.istore 5, 2) := by decide +kernel
theorem dX12_part_22 : decode cX12_part 22 = .ok (.iload 5, 2) := by decide +kernel
theorem dX12_part_24 : decode cX12_part 24 = .ok (.aload_n 0, 1) := by decide +kernel
theorem dX12_part_25 : decode cX12_part 25 = .ok (.getfield 7, 3) := by decide +kernel
theorem dX12_part_28 : decode cX12_part 28 = .ok (.iconst 1, 1) := by decide +kernel
theorem dX12_part_29 : decode cX12_part 29 = .ok (.iaload, 1) := by decide +kernel
theorem dX12_part_30 : decode cX12_part 30 = .ok (.if_icmp .ge 45, 3) := by decide +kernel
theorem dX12_part_33 : decode cX12_part 33 = .ok (.aload_n 0, 1) := by decide +kernel
theorem dX12_part_34 : decode cX12_part 34 = .ok (.iload_n 1, 1) := by decide +kernel
theorem dX12_part_35 : decode cX12_part 35 = .ok (.invokevirtual 337, 3) := by decide +kernel
theorem dX12_part_38 : decode cX12_part 38 = .ok (.iload 5, 2) := by decide +kernel
theorem dX12_part_40 : decode cX12_part 40 = .ok (.ishr, 1) := by decide +kernel
theorem dX12_part_41 : decode cX12_part 41 = .ok (.iconst 1, 1) := by decide +kernel
theorem dX12_part_42 : decode cX12_part 42 = .ok (.iand, 1) := by decide +kernel
theorem dX12_part_43 : decode cX12_part 43 = .ok (.ifCond .ne 6, 3) := by decide +kernel
theorem dX12_part_46 : decode cX12_part 46 = .ok (.goto 23, 3) := by decide +kernel
theorem dX12_part_49 : decode cX12_part 49 = .ok (.iload 4, 2) := by decide +kernel
theorem dX12_part_51 : decode cX12_part 51 = .ok (.ifCond .ne 15, 3) := by decide +kernel
theorem dX12_part_54 : decode cX12_part 54 = .ok (.aload_n 0, 1) := by decide +kernel
theorem dX12_part_55 : decode cX12_part 55 = .ok (.aload_n 0, 1) := by decide +kernel
theorem dX12_part_56 : decode cX12_part 56 = .ok (.iload 5, 2) := by decide +kernel
theorem dX12_part_58 : decode cX12_part 58 = .ok (.iload_n 1, 1) := by decide +kernel
theorem dX12_part_59 : decode cX12_part 59 = .ok (.invokevirtual 346, 3) := by decide +kernel
theorem dX12_part_62 : decode cX12_part 62 = .ok (.invokevirtual 82, 3) := by decide +kernel
theorem dX12_part_65 : decode cX12_part 65 = .ok (.ireturn, 1) := by decide +kernel
theorem dX12_part_66 : decode cX12_part 66 = .ok (.iinc 4 (-1), 3) := by decide +kernel
theorem dX12_part_69 : decode cX12_part 69 = .ok (.iinc 5 1, 3) := by decide +kernel
theorem dX12_part_72 : decode cX12_part 72 = .ok (.goto (-50), 3) := by decide +kernel
theorem dX12_part_75 : decode cX12_part 75 = .ok (.aload_n 0, 1) := by decide +kernel
theorem dX12_part_76 : decode cX12_part 76 = .ok (.bipush 6, 2) := by decide +kernel
theorem dX12_part_78 : decode cX12_part 78 = .ok (.invokevirtual 78, 3) := by decide +kernel
theorem dX12_part_81 : decode cX12_part 81 = .ok (.ireturn, 1) := by decide +kernel
theorem dX12_pass_0 : decode cX12_pass 0 = .ok (.aload_n 0, 1) := by decide +kernel
theorem dX12_pass_1 : decode cX12_pass 1 = .ok (.iload_n 1, 1) := by decide +kernel
theorem dX12_pass_2 : decode cX12_pass 2 = .ok (.invokevirtual 271, 3) := by decide +kernel
theorem dX12_pass_5 : decode cX12_pass 5 = .ok (.ifCond .eq 15, 3) := by decide +kernel
theorem dX12_pass_8 : decode cX12_pass 8 = .ok (.iload_n 2, 1) := by decide +kernel
theorem dX12_pass_9 : decode cX12_pass 9 = .ok (.i2l, 1) := by decide +kernel
theorem dX12_pass_10 : decode cX12_pass 10 = .ok (.lconst 1, 1) := by decide +kernel
theorem dX12_pass_11 : decode cX12_pass 11 = .ok (.ldc2_w 296, 3) := by decide +kernel
theorem dX12_pass_14 : decode cX12_pass 14 = .ok (.invokestatic 289, 3) := by decide +kernel
theorem dX12_pass_17 : decode cX12_pass 17 = .ok (.ifCond .ne 9, 3) := by decide +kernel
theorem dX12_pass_20 : decode cX12_pass 20 = .ok (.aload_n 0, 1) := by decide +kernel
theorem dX12_pass_21 : decode cX12_pass 21 = .ok (.iconst 1, 1) := by decide +kernel
theorem dX12_pass_22 : decode cX12_pass 22 = .ok (.invokevirtual 78, 3) := by decide +kernel
theorem dX12_pass_25 : decode cX12_pass 25 = .ok (.ireturn, 1) := by decide +kernel
theorem dX12_pass_26 : decode cX12_pass 26 = .ok (.aload_n 0, 1) := by decide +kernel
theorem dX12_pass_27 : decode cX12_pass 27 = .ok (.iload_n 1, 1) := by decide +kernel
theorem dX12_pass_28 : decode cX12_pass 28 = .ok (.iload_n 2, 1) := by decide +kernel
theorem dX12_pass_29 : decode cX12_pass 29 = .ok (.invokevirtual 298, 3) := by decide +kernel
theorem dX12_pass_32 : decode cX12_pass 32 = .ok (.ifCond .eq 21, 3) := by decide +kernel
theorem dX12_pass_35 : decode cX12_pass 35 = .ok (.aload_n 0, 1) := by decide +kernel
theorem dX12_pass_36 : decode cX12_pass 36 = .ok (.aload_n 0, 1) := by decide +kernel
theorem dX12_pass_37 : decode cX12_pass 37 = .ok (.getfield 7, 3) := by decide +kernel
theorem dX12_pass_40 : decode cX12_pass 40 = .ok (.iload_n 1, 1) := by decide +kernel
theorem dX12_pass_41 : decode cX12_pass 41 = .ok (.invokestatic 274, 3) := by decide +kernel
theorem dX12_pass_44 : decode cX12_pass 44 = .ok (.iconst 3, 1) := by decide +kernel
theorem dX12_pass_45 : decode cX12_pass 45 = .ok (.iadd, 1) := by decide +kernel
theorem dX12_pass_46 : decode cX12_pass 46 = .ok (.iaload, 1) := by decide +kernel
theorem dX12_pass_47 : decode cX12_pass 47 = .ok (.invokevirtual 82, 3) := by decide +kernel
theorem dX12_pass_50 : decode cX12_pass 50 = .ok (.goto 9, 3) := by decide +kernel
theorem dX12_pass_53 : decode cX12_pass 53 = .ok (.aload_n 0, 1) := by decide +kernel
theorem dX12_pass_54 : decode cX12_pass 54 = .ok (.bipush 7, 2) := by decide +kernel
theorem dX12_pass_56 : decode cX12_pass 56 = .ok (.invokevirtual 78, 3) := by decide +kernel
theorem dX12_pass_59 : decode cX12_pass 59 = .ok (.ireturn, 1) := by decide +kernel
theorem dX12_pebble_0 : decode cX12_pebble 0 = .ok (.aload_n 0, 1) := by decide +kernel
theorem dX12_pebble_1 : decode cX12_pebble 1 = .ok (.iload_n 1, 1) := by decide +kernel
theorem dX12_pebble_2 : decode cX12_pebble 2 = .ok (.invokevirtual 265, 3) := by decide +kernel
theorem dX12_pebble_5 : decode cX12_pebble 5 = .ok (.ifCond .eq 12, 3) := by decide +kernel
theorem dX12_pebble_8 : decode cX12_pebble 8 = .ok (.iload_n 3, 1) := by decide +kernel
theorem dX12_pebble_9 : decode cX12_pebble 9 = .ok (.ifCond .lt 8, 3) := by decide +kernel
theorem dX12_pebble_12 : decode cX12_pebble 12 = .ok (.iload_n 3, 1) := by decide +kernel
theorem dX12_pebble_13 : decode cX12_pebble 13 = .ok (.iconst 1, 1) := by decide +kernel
theorem dX12_pebble_14 : decode cX12_pebble 14 = .ok (.if_icmp .le 9, 3) := by decide +kernel
theorem dX12_pebble_17 : decode cX12_pebble 17 = .ok (.aload_n 0, 1) := by decide +kernel
theorem dX12_pebble_18 : decode cX12_pebble 18 = .ok (.iconst 1, 1) := by decide +kernel
theorem dX12_pebble_19 : decode cX12_pebble 19 = .ok (.invokevirtual 78, 3) := by decide +kernel
theorem dX12_pebble_22 : decode cX12_pebble 22 = .ok (.ireturn, 1) := by decide +kernel
theorem dX12_pebble_23 : decode cX12_pebble 23 = .ok (.iload_n 2, 1) := by decide +kernel
theorem dX12_pebble_24 : decode cX12_pebble 24 = .ok (.ifCond .lt 12, 3) := by decide +kernel
theorem dX12_pebble_27 : decode cX12_pebble 27 = .ok (.iload_n 2, 1) := by decide +kernel
theorem dX12_pebble_28 : decode cX12_pebble 28 = .ok (.aload_n 0, 1) := by decide +kernel
theorem dX12_pebble_29 : decode cX12_pebble 29 = .ok (.iload_n 1, 1) := by decide +kernel
theorem dX12_pebble_30 : decode cX12_pebble 30 = .ok (.invokevirtual 277, 3) := by decide +kernel
theorem dX12_pebble_33 : decode cX12_pebble 33 = .ok (.if_icmp .lt 12, 3) := by decide +kernel
theorem dX12_pebble_36 : decode cX12_pebble 36 = .ok (.aload_n 0, 1) := by decide +kernel
theorem dX12_pebble_37 : decode cX12_pebble 37 = .ok (.bipush 6, 2) := by decide +kernel
theorem dX12_pebble_39 : decode cX12_pebble 39 = .ok (.invokevirtual 78, 3) := by decide +kernel
theorem dX12_pebble_42 : decode cX12_pebble 42 = .ok (.goto 20, 3) := by decide +kernel
theorem dX12_pebble_45 : decode cX12_pebble 45 = .ok (.aload_n 0, 1) := by decide +kernel
theorem dX12_pebble_46 : decode cX12_pebble 46 = .ok (.aload_n 0, 1) := by decide +kernel
theorem dX12_pebble_47 : decode cX12_pebble 47 = .ok (.getfield 7, 3) := by decide +kernel
theorem dX12_pebble_50 : decode cX12_pebble 50 = .ok (.iconst 0, 1) := by decide +kernel
theorem dX12_pebble_51 : decode cX12_pebble 51 = .ok (.iload_n 1, 1) := by decide +kernel
theorem dX12_pebble_52 : decode cX12_pebble 52 = .ok (.iload_n 2, 1) := by decide +kernel
theorem dX12_pebble_53 : decode cX12_pebble 53 = .ok (.invokestatic 174, 3) := by decide +kernel
theorem dX12_pebble_56 : decode cX12_pebble 56 = .ok (.iload_n 3, 1) := by decide +kernel
theorem dX12_pebble_57 : decode cX12_pebble 57 = .ok (.iadd, 1) := by decide +kernel
theorem dX12_pebble_58 : decode cX12_pebble 58 = .ok (.iaload, 1) := by decide +kernel
theorem dX12_pebble_59 : decode cX12_pebble 59 = .ok (.invokevirtual 82, 3) := by decide +kernel
theorem dX12_pebble_62 : decode cX12_pebble 62 = .ok (.ireturn, 1) := by decide +kernel
theorem dX12_pour_0 : decode cX12_pour 0 = .ok (.iload_n 1, 1) := by decide +kernel
theorem dX12_pour_1 : decode cX12_pour 1 = .ok (.invokestatic 89, 3) := by decide +kernel
theorem dX12_pour_4 : decode cX12_pour 4 = .ok (.ifCond .eq 24, 3) := by decide +kernel
theorem dX12_pour_7 : decode cX12_pour 7 = .ok (.iload_n 3, 1) := by decide +kernel
theorem dX12_pour_8 : decode cX12_pour 8 = .ok (.invokestatic 89, 3) := by decide +kernel
theorem dX12_pour_11 : decode cX12_pour 11 = .ok (.ifCond .eq 17, 3) := by decide +kernel
theorem dX12_pour_14 : decode cX12_pour 14 = .ok (.iload_n 2, 1) := by decide +kernel
theorem dX12_pour_15 : decode cX12_pour 15 = .ok (.ifCond .lt 13, 3) := by decide +kernel
theorem dX12_pour_18 : decode cX12_pour 18 = .ok (.iload 4, 2) := by decide +kernel
theorem dX12_pour_20 : decode cX12_pour 20 = .ok (.ifCond .lt 8, 3) := by decide +kernel
theorem dX12_pour_23 : decode cX12_pour 23 = .ok (.iload 5, 2) := by decide +kernel
theorem dX12_pour_25 : decode cX12_pour 25 = .ok (.ifCond .ge 9, 3) := by decide +kernel
theorem dX12_pour_28 : decode cX12_pour 28 = .ok (.aload_n 0, 1) := by decide +kernel
theorem dX12_pour_29 : decode cX12_pour 29 = .ok (.iconst 1, 1) := by decide +kernel
theorem dX12_pour_30 : decode cX12_pour 30 = .ok (.invokevirtual 85, 3) := by decide +kernel
theorem dX12_pour_33 : decode cX12_pour 33 = .ok (.ireturn, 1) := by decide +kernel
theorem dX12_pour_34 : decode cX12_pour 34 = .ok (.aload_n 0, 1) := by decide +kernel
theorem dX12_pour_35 : decode cX12_pour 35 = .ok (.getfield 24, 3) := by decide +kernel
theorem dX12_pour_38 : decode cX12_pour 38 = .ok (.iload_n 1, 1) := by decide +kernel
theorem dX12_pour_39 : decode cX12_pour 39 = .ok (.iaload, 1) := by decide +kernel
theorem dX12_pour_40 : decode cX12_pour 40 = .ok (.iconst (-1), 1) := by decide +kernel
theorem dX12_pour_41 : decode cX12_pour 41 = .ok (.if_icmp .eq 13, 3) := by decide +kernel
theorem dX12_pour_44 : decode cX12_pour 44 = .ok (.aload_n 0, 1) := by decide +kernel
theorem dX12_pour_45 : decode cX12_pour 45 = .ok (.getfield 24, 3) := by decide +kernel
theorem dX12_pour_48 : decode cX12_pour 48 = .ok (.iload_n 3, 1) := by decide +kernel
theorem dX12_pour_49 : decode cX12_pour 49 = .ok (.iaload, 1) := by decide +kernel
theorem dX12_pour_50 : decode cX12_pour 50 = .ok (.iconst (-1), 1) := by decide +kernel
theorem dX12_pour_51 : decode cX12_pour 51 = .ok (.if_icmp .ne 9, 3) := by decide +kernel
theorem dX12_pour_54 : decode cX12_pour 54 = .ok (.aload_n 0, 1) := by decide +kernel
theorem dX12_pour_55 : decode cX12_pour 55 = .ok (.iconst 2, 1) := by decide +kernel
theorem dX12_pour_56 : decode cX12_pour 56 = .ok (.invokevirtual 85, 3) := by decide +kernel
theorem dX12_pour_59 : decode cX12_pour 59 = .ok (.ireturn, 1) := by decide +kernel
theorem dX12_pour_60 : decode cX12_pour 60 = .ok (.aload_n 0, 1) := by decide +kernel
theorem dX12_pour_61 : decode cX12_pour 61 = .ok (.getfield 21, 3) := by decide +kernel
theorem dX12_pour_64 : decode cX12_pour 64 = .ok (.iload_n 1, 1) := by decide +kernel
theorem dX12_pour_65 : decode cX12_pour 65 = .ok (.iaload, 1) := by decide +kernel
theorem dX12_pour_66 : decode cX12_pour 66 = .ok (.aload_n 0, 1) := by decide +kernel
theorem dX12_pour_67 : decode cX12_pour 67 = .ok (.getfield 21, 3) := by decide +kernel
theorem dX12_pour_70 : decode cX12_pour 70 = .ok (.iload_n 3, 1) := by decide +kernel
theorem dX12_pour_71 : decode cX12_pour 71 = .ok (.iaload, 1) := by decide +kernel
theorem dX12_pour_72 : decode cX12_pour 72 = .ok (.if_icmp .eq 10, 3) := by decide +kernel
theorem dX12_pour_75 : decode cX12_pour 75 = .ok (.aload_n 0, 1) := by decide +kernel
theorem dX12_pour_76 : decode cX12_pour 76 = .ok (.bipush 8, 2) := by decide +kernel
theorem dX12_pour_78 : decode cX12_pour 78 = .ok (.invokevirtual 85, 3) := by decide +kernel
theorem dX12_pour_81 : decode cX12_pour 81 = .ok (.ireturn, 1) := by decide +kernel
theorem dX12_pour_82 : decode cX12_pour 82 = .ok (.iload 5, 2) := by decide +kernel
theorem dX12_pour_84 : decode cX12_pour 84 = .ok (.aload_n 0, 1) := by decide +kernel
theorem dX12_pour_85 : decode cX12_pour 85 = .ok (.getfield 24, 3) := by decide +kernel
theorem dX12_pour_88 : decode cX12_pour 88 = .ok (.iload_n 1, 1) := by decide +kernel
theorem dX12_pour_89 : decode cX12_pour 89 = .ok (.iaload, 1) := by decide +kernel
theorem dX12_pour_90 : decode cX12_pour 90 = .ok (.iload_n 2, 1) := by decide +kernel
theorem dX12_pour_91 : decode cX12_pour 91 = .ok (.isub, 1) := by decide +kernel
theorem dX12_pour_92 : decode cX12_pour 92 = .ok (.if_icmp .gt 17, 3) := by decide +kernel
theorem dX12_pour_95 : decode cX12_pour 95 = .ok (.iload 5, 2) := by decide +kernel
theorem dX12_pour_97 : decode cX12_pour 97 = .ok (.aload_n 0, 1) := by decide +kernel
theorem dX12_pour_98 : decode cX12_pour 98 = .ok (.getfield 24, 3) := by decide +kernel
theorem dX12_pour_101 : decode cX12_pour 101 = .ok (.iload_n 3, 1) := by decide +kernel
theorem dX12_pour_102 : decode cX12_pour 102 = .ok (.iaload, 1) := by decide +kernel
theorem dX12_pour_103 : decode cX12_pour 103 = .ok (.iload 4, 2) := by decide +kernel
theorem dX12_pour_105 : decode cX12_pour 105 = .ok (.isub, 1) := by decide +kernel
theorem dX12_pour_106 : decode cX12_pour 106 = .ok (.if_icmp .le 9, 3) := by decide +kernel
theorem dX12_pour_109 : decode cX12_pour 109 = .ok (.aload_n 0, 1) := by decide +kernel
theorem dX12_pour_110 : decode cX12_pour 110 = .ok (.iconst 3, 1) := by decide +kernel
theorem dX12_pour_111 : decode cX12_pour 111 = .ok (.invokevirtual 85, 3) := by decide +kernel
theorem dX12_pour_114 : decode cX12_pour 114 = .ok (.ireturn, 1) := by decide +kernel
theorem dX12_pour_115 : decode cX12_pour 115 = .ok (.iconst 0, 1) := by decide +kernel
theorem dX12_pour_116 : decode cX12_pour 116 = .ok (.istore 6, 2) := by decide +kernel
theorem dX12_pour_118 : decode cX12_pour 118 = .ok (.iload 6, 2) := by decide +kernel
theorem dX12_pour_120 : decode cX12_pour 120 = .ok (.iload 5, 2) := by decide +kernel
theorem dX12_pour_122 : decode cX12_pour 122 = .ok (.if_icmp .ge 58, 3) := by decide +kernel
theorem dX12_pour_125 : decode cX12_pour 125 = .ok (.iload_n 2, 1) := by decide +kernel
theorem dX12_pour_126 : decode cX12_pour 126 = .ok (.iload 4, 2) := by decide +kernel
theorem dX12_pour_128 : decode cX12_pour 128 = .ok (.if_icmp .ge 13, 3) := by decide +kernel
theorem dX12_pour_131 : decode cX12_pour 131 = .ok (.iload 5, 2) := by decide +kernel
theorem dX12_pour_133 : decode cX12_pour 133 = .ok (.iconst 1, 1) := by decide +kernel
theorem dX12_pour_134 : decode cX12_pour 134 = .ok (.isub, 1) := by decide +kernel
theorem dX12_pour_135 : decode cX12_pour 135 = .ok (.iload 6, 2) := by decide +kernel
theorem dX12_pour_137 : decode cX12_pour 137 = .ok (.isub, 1) := by decide +kernel
theorem dX12_pour_138 : decode cX12_pour 138 = .ok (.goto 5, 3) := by decide +kernel
theorem dX12_pour_141 : decode cX12_pour 141 = .ok (.iload 6, 2) := by decide +kernel
theorem dX12_pour_143 : decode cX12_pour 143 = .ok (.istore 7, 2) := by decide +kernel
theorem dX12_pour_145 : decode cX12_pour 145 = .ok (.aload_n 0, 1) := by decide +kernel
theorem dX12_pour_146 : decode cX12_pour 146 = .ok (.getfield 27, 3) := by decide +kernel
theorem dX12_pour_149 : decode cX12_pour 149 = .ok (.bipush 60, 2) := by decide +kernel
theorem dX12_pour_151 : decode cX12_pour 151 = .ok (.iload_n 3, 1) := by decide +kernel
theorem dX12_pour_152 : decode cX12_pour 152 = .ok (.imul, 1) := by decide +kernel
theorem dX12_pour_153 : decode cX12_pour 153 = .ok (.iload 4, 2) := by decide +kernel
theorem dX12_pour_155 : decode cX12_pour 155 = .ok (.iadd, 1) := by decide +kernel
theorem dX12_pour_156 : decode cX12_pour 156 = .ok (.iload 7, 2) := by decide +kernel
theorem dX12_pour_158 : decode cX12_pour 158 = .ok (.iadd, 1) := by decide +kernel
theorem dX12_pour_159 : decode cX12_pour 159 = .ok (.aload_n 0, 1) := by decide +kernel
theorem dX12_pour_160 : decode cX12_pour 160 = .ok (.getfield 27, 3) := by decide +kernel
theorem dX12_pour_163 : decode cX12_pour 163 = .ok (.bipush 60, 2) := by decide +kernel
theorem dX12_pour_165 : decode cX12_pour 165 = .ok (.iload_n 1, 1) := by decide +kernel
theorem dX12_pour_166 : decode cX12_pour 166 = .ok (.imul, 1) := by decide +kernel
theorem dX12_pour_167 : decode cX12_pour 167 = .ok (.iload_n 2, 1) := by decide +kernel
theorem dX12_pour_168 : decode cX12_pour 168 = .ok (.iadd, 1) := by decide +kernel
theorem dX12_pour_169 : decode cX12_pour 169 = .ok (.iload 7, 2) := by decide +kernel
theorem dX12_pour_171 : decode cX12_pour 171 = .ok (.iadd, 1) := by decide +kernel
theorem dX12_pour_172 : decode cX12_pour 172 = .ok (.laload, 1) := by decide +kernel
theorem dX12_pour_173 : decode cX12_pour 173 = .ok (.lastore, 1) := by decide +kernel
theorem dX12_pour_174 : decode cX12_pour 174 = .ok (.iinc 6 1, 3) := by decide +kernel
theorem dX12_pour_177 : decode cX12_pour 177 = .ok (.goto (-59), 3) := by decide +kernel
theorem dX12_pour_180 : decode cX12_pour 180 = .ok (.aload_n 0, 1) := by decide +kernel
theorem dX12_pour_181 : decode cX12_pour 181 = .ok (.iconst 0, 1) := by decide +kernel
theorem dX12_pour_182 : decode cX12_pour 182 = .ok (.invokevirtual 85, 3) := by decide +kernel
theorem dX12_pour_185 : decode cX12_pour 185 = .ok (.ireturn, 1) := by decide +kernel
theorem dX12_ranked_0 : decode cX12_ranked 0 = .ok (.aload_n 0, 1) := by decide +kernel
theorem dX12_ranked_1 : decode cX12_ranked 1 = .ok (.aload_n 0, 1) := by decide +kernel
theorem dX12_ranked_2 : decode cX12_ranked 2 = .ok (.iload_n 1, 1) := by decide +kernel
theorem dX12_ranked_3 : decode cX12_ranked 3 = .ok (.invokevirtual 355, 3) := by decide +kernel
theorem dX12_ranked_6 : decode cX12_ranked 6 = .ok (.invokevirtual 358, 3) := by decide +kernel
theorem dX12_ranked_9 : decode cX12_ranked 9 = .ok (.ireturn, 1) := by decide +kernel
theorem dX12_wrongPlace_0 : decode cX12_wrongPlace 0 = .ok (.iload_n 1, 1) := by decide +kernel
theorem dX12_wrongPlace_1 : decode cX12_wrongPlace 1 = .ok (.invokestatic 89, 3) := by decide +kernel
theorem dX12_wrongPlace_4 : decode cX12_wrongPlace 4 = .ok (.ifCond .ne 7, 3) := by decide +kernel
theorem dX12_wrongPlace_7 : decode cX12_wrongPlace 7 = .ok (.iconst 1, 1) := by decide +kernel
theorem dX12_wrongPlace_8 : decode cX12_wrongPlace 8 = .ok (.goto 36, 3) := by decide +kernel
theorem dX12_wrongPlace_11 : decode cX12_wrongPlace 11 = .ok (.aload_n 0, 1) := by decide +kernel
theorem dX12_wrongPlace_12 : decode cX12_wrongPlace 12 = .ok (.getfield 24, 3) := by decide +kernel
theorem dX12_wrongPlace_15 : decode cX12_wrongPlace 15 = .ok (.iload_n 1, 1) := by decide +kernel
theorem dX12_wrongPlace_16 : decode cX12_wrongPlace 16 = .ok (.iaload, 1) := by decide +kernel
theorem dX12_wrongPlace_17 : decode cX12_wrongPlace 17 = .ok (.iconst (-1), 1) := by decide +kernel
theorem dX12_wrongPlace_18 : decode cX12_wrongPlace 18 = .ok (.if_icmp .ne 7, 3) := by decide +kernel
theorem dX12_wrongPlace_21 : decode cX12_wrongPlace 21 = .ok (.iconst 2, 1) := by decide +kernel
theorem dX12_wrongPlace_22 : decode cX12_wrongPlace 22 = .ok (.goto 22, 3) := by decide +kernel
theorem dX12_wrongPlace_25 : decode cX12_wrongPlace 25 = .ok (.iload_n 2, 1) := by decide +kernel
theorem dX12_wrongPlace_26 : decode cX12_wrongPlace 26 = .ok (.ifCond .lt 13, 3) := by decide +kernel
theorem dX12_wrongPlace_29 : decode cX12_wrongPlace 29 = .ok (.iload_n 2, 1) := by decide +kernel
theorem dX12_wrongPlace_30 : decode cX12_wrongPlace 30 = .ok (.aload_n 0, 1) := by decide +kernel
theorem dX12_wrongPlace_31 : decode cX12_wrongPlace 31 = .ok (.getfield 24, 3) := by decide +kernel
theorem dX12_wrongPlace_34 : decode cX12_wrongPlace 34 = .ok (.iload_n 1, 1) := by decide +kernel
theorem dX12_wrongPlace_35 : decode cX12_wrongPlace 35 = .ok (.iaload, 1) := by decide +kernel
theorem dX12_wrongPlace_36 : decode cX12_wrongPlace 36 = .ok (.if_icmp .lt 7, 3) := by decide +kernel
theorem dX12_wrongPlace_39 : decode cX12_wrongPlace 39 = .ok (.iconst 3, 1) := by decide +kernel
theorem dX12_wrongPlace_40 : decode cX12_wrongPlace 40 = .ok (.goto 4, 3) := by decide +kernel
theorem dX12_wrongPlace_43 : decode cX12_wrongPlace 43 = .ok (.iconst 0, 1) := by decide +kernel
theorem dX12_wrongPlace_44 : decode cX12_wrongPlace 44 = .ok (.ireturn, 1) := by decide +kernel
theorem dX12_read_0 : decode cX12_read 0 = .ok (.aload_n 0, 1) := by decide +kernel
theorem dX12_read_1 : decode cX12_read 1 = .ok (.aload_n 0, 1) := by decide +kernel
theorem dX12_read_2 : decode cX12_read 2 = .ok (.iload_n 1, 1) := by decide +kernel
theorem dX12_read_3 : decode cX12_read 3 = .ok (.iload_n 2, 1) := by decide +kernel
theorem dX12_read_4 : decode cX12_read 4 = .ok (.invokevirtual 92, 3) := by decide +kernel
theorem dX12_read_7 : decode cX12_read 7 = .ok (.putfield 72, 3) := by decide +kernel
theorem dX12_read_10 : decode cX12_read 10 = .ok (.aload_n 0, 1) := by decide +kernel
theorem dX12_read_11 : decode cX12_read 11 = .ok (.getfield 72, 3) := by decide +kernel
theorem dX12_read_14 : decode cX12_read 14 = .ok (.ifCond .le 9, 3) := by decide +kernel
theorem dX12_read_17 : decode cX12_read 17 = .ok (.ldc2_w 100, 3) := by decide +kernel
theorem dX12_read_20 : decode cX12_read 20 = .ok (.goto 14, 3) := by decide +kernel
theorem dX12_read_23 : decode cX12_read 23 = .ok (.aload_n 0, 1) := by decide +kernel
theorem dX12_read_24 : decode cX12_read 24 = .ok (.getfield 27, 3) := by decide +kernel
theorem dX12_read_27 : decode cX12_read 27 = .ok (.bipush 60, 2) := by decide +kernel
theorem dX12_read_29 : decode cX12_read 29 = .ok (.iload_n 1, 1) := by decide +kernel
theorem dX12_read_30 : decode cX12_read 30 = .ok (.imul, 1) := by decide +kernel
theorem dX12_read_31 : decode cX12_read 31 = .ok (.iload_n 2, 1) := by decide +kernel
theorem dX12_read_32 : decode cX12_read 32 = .ok (.iadd, 1) := by decide +kernel
theorem dX12_read_33 : decode cX12_read 33 = .ok (.laload, 1) := by decide +kernel
theorem dX12_read_34 : decode cX12_read 34 = .ok (.lreturn, 1) := by decide +kernel
theorem dX12_richest_0 : decode cX12_richest 0 = .ok (.iconst (-1), 1) := by decide +kernel
theorem dX12_richest_1 : decode cX12_richest 1 = .ok (.istore_n 1, 1) := by decide +kernel
theorem dX12_richest_2 : decode cX12_richest 2 = .ok (.iconst 0, 1) := by decide +kernel
theorem dX12_richest_3 : decode cX12_richest 3 = .ok (.istore_n 2, 1) := by decide +kernel
theorem dX12_richest_4 : decode cX12_richest 4 = .ok (.iload_n 2, 1) := by decide +kernel
theorem dX12_richest_5 : decode cX12_richest 5 = .ok (.aload_n 0, 1) := by decide +kernel
theorem dX12_richest_6 : decode cX12_richest 6 = .ok (.getfield 7, 3) := by decide +kernel
theorem dX12_richest_9 : decode cX12_richest 9 = .ok (.iconst 2, 1) := by decide +kernel
theorem dX12_richest_10 : decode cX12_richest 10 = .ok (.iaload, 1) := by decide +kernel
theorem dX12_richest_11 : decode cX12_richest 11 = .ok (.if_icmp .ge 51, 3) := by decide +kernel
theorem dX12_richest_14 : decode cX12_richest 14 = .ok (.aload_n 0, 1) := by decide +kernel
theorem dX12_richest_15 : decode cX12_richest 15 = .ok (.iload_n 2, 1) := by decide +kernel
theorem dX12_richest_16 : decode cX12_richest 16 = .ok (.invokevirtual 268, 3) := by decide +kernel
theorem dX12_richest_19 : decode cX12_richest 19 = .ok (.ifCond .eq 37, 3) := by decide +kernel
theorem dX12_richest_22 : decode cX12_richest 22 = .ok (.iload_n 1, 1) := by decide +kernel
theorem dX12_richest_23 : decode cX12_richest 23 = .ok (.iconst (-1), 1) := by decide +kernel
theorem dX12_richest_24 : decode cX12_richest 24 = .ok (.if_icmp .eq 30, 3) := by decide +kernel
theorem dX12_richest_27 : decode cX12_richest 27 = .ok (.aload_n 0, 1) := by decide +kernel
theorem dX12_richest_28 : decode cX12_richest 28 = .ok (.getfield 7, 3) := by decide +kernel
theorem dX12_richest_31 : decode cX12_richest 31 = .ok (.iconst 0, 1) := by decide +kernel
theorem dX12_richest_32 : decode cX12_richest 32 = .ok (.iload_n 2, 1) := by decide +kernel
theorem dX12_richest_33 : decode cX12_richest 33 = .ok (.invokestatic 171, 3) := by decide +kernel
theorem dX12_richest_36 : decode cX12_richest 36 = .ok (.iconst 1, 1) := by decide +kernel
theorem dX12_richest_37 : decode cX12_richest 37 = .ok (.iadd, 1) := by decide +kernel
theorem dX12_richest_38 : decode cX12_richest 38 = .ok (.iaload, 1) := by decide +kernel
theorem dX12_richest_39 : decode cX12_richest 39 = .ok (.aload_n 0, 1) := by decide +kernel
theorem dX12_richest_40 : decode cX12_richest 40 = .ok (.getfield 7, 3) := by decide +kernel
theorem dX12_richest_43 : decode cX12_richest 43 = .ok (.iconst 0, 1) := by decide +kernel
theorem dX12_richest_44 : decode cX12_richest 44 = .ok (.iload_n 1, 1) := by decide +kernel
theorem dX12_richest_45 : decode cX12_richest 45 = .ok (.invokestatic 171, 3) := by decide +kernel
theorem dX12_richest_48 : decode cX12_richest 48 = .ok (.iconst 1, 1) := by decide +kernel
theorem dX12_richest_49 : decode cX12_richest 49 = .ok (.iadd, 1) := by decide +kernel
theorem dX12_richest_50 : decode cX12_richest 50 = .ok (.iaload, 1) := by decide +kernel
theorem dX12_richest_51 : decode cX12_richest 51 = .ok (.if_icmp .le 5, 3) := by decide +kernel
theorem dX12_richest_54 : decode cX12_richest 54 = .ok (.iload_n 2, 1) := by decide +kernel
theorem dX12_richest_55 : decode cX12_richest 55 = .ok (.istore_n 1, 1) := by decide +kernel
theorem dX12_richest_56 : decode cX12_richest 56 = .ok (.iinc 2 1, 3) := by decide +kernel
theorem dX12_richest_59 : decode cX12_richest 59 = .ok (.goto (-55), 3) := by decide +kernel
theorem dX12_richest_62 : decode cX12_richest 62 = .ok (.aload_n 0, 1) := by decide +kernel
theorem dX12_richest_63 : decode cX12_richest 63 = .ok (.iload_n 1, 1) := by decide +kernel
theorem dX12_richest_64 : decode cX12_richest 64 = .ok (.invokevirtual 358, 3) := by decide +kernel
theorem dX12_richest_67 : decode cX12_richest 67 = .ok (.ireturn, 1) := by decide +kernel
theorem dX12_rivals_0 : decode cX12_rivals 0 = .ok (.aload_n 0, 1) := by decide +kernel
theorem dX12_rivals_1 : decode cX12_rivals 1 = .ok (.iload_n 1, 1) := by decide +kernel
theorem dX12_rivals_2 : decode cX12_rivals 2 = .ok (.invokevirtual 271, 3) := by decide +kernel
theorem dX12_rivals_5 : decode cX12_rivals 5 = .ok (.ifCond .eq 16, 3) := by decide +kernel
theorem dX12_rivals_8 : decode cX12_rivals 8 = .ok (.aload_n 0, 1) := by decide +kernel
theorem dX12_rivals_9 : decode cX12_rivals 9 = .ok (.iload_n 2, 1) := by decide +kernel
theorem dX12_rivals_10 : decode cX12_rivals 10 = .ok (.invokevirtual 271, 3) := by decide +kernel
theorem dX12_rivals_13 : decode cX12_rivals 13 = .ok (.ifCond .eq 8, 3) := by decide +kernel
theorem dX12_rivals_16 : decode cX12_rivals 16 = .ok (.iload_n 1, 1) := by decide +kernel
theorem dX12_rivals_17 : decode cX12_rivals 17 = .ok (.iload_n 2, 1) := by decide +kernel
theorem dX12_rivals_18 : decode cX12_rivals 18 = .ok (.if_icmp .ne 9, 3) := by decide +kernel
theorem dX12_rivals_21 : decode cX12_rivals 21 = .ok (.aload_n 0, 1) := by decide +kernel
theorem dX12_rivals_22 : decode cX12_rivals 22 = .ok (.iconst 1, 1) := by decide +kernel
theorem dX12_rivals_23 : decode cX12_rivals 23 = .ok (.invokevirtual 78, 3) := by decide +kernel
theorem dX12_rivals_26 : decode cX12_rivals 26 = .ok (.ireturn, 1) := by decide +kernel
theorem dX12_rivals_27 : decode cX12_rivals 27 = .ok (.iconst 0, 1) := by decide +kernel
theorem dX12_rivals_28 : decode cX12_rivals 28 = .ok (.istore_n 3, 1) := by decide +kernel
theorem dX12_rivals_29 : decode cX12_rivals 29 = .ok (.iconst 0, 1) := by decide +kernel
theorem dX12_rivals_30 : decode cX12_rivals 30 = .ok (.istore 4, 2) := by decide +kernel
theorem dX12_rivals_32 : decode cX12_rivals 32 = .ok (.iload 4, 2) := by decide +kernel
theorem dX12_rivals_34 : decode cX12_rivals 34 = .ok (.aload_n 0, 1) := by decide +kernel
theorem dX12_rivals_35 : decode cX12_rivals 35 = .ok (.getfield 7, 3) := by decide +kernel
theorem dX12_rivals_38 : decode cX12_rivals 38 = .ok (.iconst 2, 1) := by decide +kernel
theorem dX12_rivals_39 : decode cX12_rivals 39 = .ok (.iaload, 1) := by decide +kernel
theorem dX12_rivals_40 : decode cX12_rivals 40 = .ok (.if_icmp .ge 40, 3) := by decide +kernel
theorem dX12_rivals_43 : decode cX12_rivals 43 = .ok (.iload_n 3, 1) := by decide +kernel
theorem dX12_rivals_44 : decode cX12_rivals 44 = .ok (.aload_n 0, 1) := by decide +kernel
theorem dX12_rivals_45 : decode cX12_rivals 45 = .ok (.iload_n 1, 1) := by decide +kernel
theorem dX12_rivals_46 : decode cX12_rivals 46 = .ok (.iload 4, 2) := by decide +kernel
theorem dX12_rivals_48 : decode cX12_rivals 48 = .ok (.invokevirtual 364, 3) := by decide +kernel
theorem dX12_rivals_51 : decode cX12_rivals 51 = .ok (.ifCond .le 20, 3) := by decide +kernel
theorem dX12_rivals_54 : decode cX12_rivals 54 = .ok (.aload_n 0, 1) := by decide +kernel
theorem dX12_rivals_55 : decode cX12_rivals 55 = .ok (.iload_n 2, 1) := by decide +kernel
theorem dX12_rivals_56 : decode cX12_rivals 56 = .ok (.iload 4, 2) := by decide +kernel
theorem dX12_rivals_58 : decode cX12_rivals 58 = .ok (.invokevirtual 364, 3) := by decide +kernel
theorem dX12_rivals_61 : decode cX12_rivals 61 = .ok (.ifCond .le 10, 3) := by decide +kernel
theorem dX12_rivals_64 : decode cX12_rivals 64 = .ok (.iconst 1, 1) := by decide +kernel
theorem dX12_rivals_65 : decode cX12_rivals 65 = .ok (.iload 4, 2) := by decide +kernel
theorem dX12_rivals_67 : decode cX12_rivals 67 = .ok (.ishl, 1) := by decide +kernel
theorem dX12_rivals_68 : decode cX12_rivals 68 = .ok (.goto 4, 3) := by decide +kernel
theorem dX12_rivals_71 : decode cX12_rivals 71 = .ok (.iconst 0, 1) := by decide +kernel
theorem dX12_rivals_72 : decode cX12_rivals 72 = .ok (.ior, 1) := by decide +kernel
theorem dX12_rivals_73 : decode cX12_rivals 73 = .ok (.istore_n 3, 1) := by decide +kernel
theorem dX12_rivals_74 : decode cX12_rivals 74 = .ok (.iinc 4 1, 3) := by decide +kernel
theorem dX12_rivals_77 : decode cX12_rivals 77 = .ok (.goto (-45), 3) := by decide +kernel
theorem dX12_rivals_80 : decode cX12_rivals 80 = .ok (.aload_n 0, 1) := by decide +kernel
theorem dX12_rivals_81 : decode cX12_rivals 81 = .ok (.iload_n 3, 1) := by decide +kernel
theorem dX12_rivals_82 : decode cX12_rivals 82 = .ok (.invokevirtual 82, 3) := by decide +kernel
theorem dX12_rivals_85 : decode cX12_rivals 85 = .ok (.ireturn, 1) := by decide +kernel
theorem dX12_threatTo_0 : decode cX12_threatTo 0 = .ok (.iconst 0, 1) := by decide +kernel
theorem dX12_threatTo_1 : decode cX12_threatTo 1 = .ok (.istore_n 2, 1) := by decide +kernel
theorem dX12_threatTo_2 : decode cX12_threatTo 2 = .ok (.iconst 0, 1) := by decide +kernel
theorem dX12_threatTo_3 : decode cX12_threatTo 3 = .ok (.istore_n 3, 1) := by decide +kernel
theorem dX12_threatTo_4 : decode cX12_threatTo 4 = .ok (.iload_n 3, 1) := by decide +kernel
theorem dX12_threatTo_5 : decode cX12_threatTo 5 = .ok (.aload_n 0, 1) := by decide +kernel
theorem dX12_threatTo_6 : decode cX12_threatTo 6 = .ok (.getfield 7, 3) := by decide +kernel
theorem dX12_threatTo_9 : decode cX12_threatTo 9 = .ok (.iconst 1, 1) := by decide +kernel
theorem dX12_threatTo_10 : decode cX12_threatTo 10 = .ok (.iaload, 1) := by decide +kernel
theorem dX12_threatTo_11 : decode cX12_threatTo 11 = .ok (.if_icmp .ge 29, 3) := by decide +kernel
theorem dX12_threatTo_14 : decode cX12_threatTo 14 = .ok (.iload_n 2, 1) := by decide +kernel
theorem dX12_threatTo_15 : decode cX12_threatTo 15 = .ok (.aload_n 0, 1) := by decide +kernel
theorem dX12_threatTo_16 : decode cX12_threatTo 16 = .ok (.iload_n 3, 1) := by decide +kernel
theorem dX12_threatTo_17 : decode cX12_threatTo 17 = .ok (.iload_n 1, 1) := by decide +kernel
theorem dX12_threatTo_18 : decode cX12_threatTo 18 = .ok (.invokevirtual 390, 3) := by decide +kernel
theorem dX12_threatTo_21 : decode cX12_threatTo 21 = .ok (.iconst (-1), 1) := by decide +kernel
theorem dX12_threatTo_22 : decode cX12_threatTo 22 = .ok (.if_icmp .ne 7, 3) := by decide +kernel
theorem dX12_threatTo_25 : decode cX12_threatTo 25 = .ok (.iconst 0, 1) := by decide +kernel
theorem dX12_threatTo_26 : decode cX12_threatTo 26 = .ok (.goto 6, 3) := by decide +kernel
theorem dX12_threatTo_29 : decode cX12_threatTo 29 = .ok (.iconst 1, 1) := by decide +kernel
theorem dX12_threatTo_30 : decode cX12_threatTo 30 = .ok (.iload_n 3, 1) := by decide +kernel
theorem dX12_threatTo_31 : decode cX12_threatTo 31 = .ok (.ishl, 1) := by decide +kernel
theorem dX12_threatTo_32 : decode cX12_threatTo 32 = .ok (.ior, 1) := by decide +kernel
theorem dX12_threatTo_33 : decode cX12_threatTo 33 = .ok (.istore_n 2, 1) := by decide +kernel
theorem dX12_threatTo_34 : decode cX12_threatTo 34 = .ok (.iinc 3 1, 3) := by decide +kernel
theorem dX12_threatTo_37 : decode cX12_threatTo 37 = .ok (.goto (-33), 3) := by decide +kernel
theorem dX12_threatTo_40 : decode cX12_threatTo 40 = .ok (.iload_n 2, 1) := by decide +kernel
theorem dX12_threatTo_41 : decode cX12_threatTo 41 = .ok (.ireturn, 1) := by decide +kernel
theorem dX12_safe_0 : decode cX12_safe 0 = .ok (.aload_n 0, 1) := by decide +kernel
theorem dX12_safe_1 : decode cX12_safe 1 = .ok (.iload_n 1, 1) := by decide +kernel
theorem dX12_safe_2 : decode cX12_safe 2 = .ok (.invokevirtual 271, 3) := by decide +kernel
theorem dX12_safe_5 : decode cX12_safe 5 = .ok (.ifCond .ne 9, 3) := by decide +kernel
theorem dX12_safe_8 : decode cX12_safe 8 = .ok (.aload_n 0, 1) := by decide +kernel
theorem dX12_safe_9 : decode cX12_safe 9 = .ok (.iconst 1, 1) := by decide +kernel
theorem dX12_safe_10 : decode cX12_safe 10 = .ok (.invokevirtual 78, 3) := by decide +kernel
theorem dX12_safe_13 : decode cX12_safe 13 = .ok (.ireturn, 1) := by decide +kernel
theorem dX12_safe_14 : decode cX12_safe 14 = .ok (.iconst 0, 1) := by decide +kernel
theorem dX12_safe_15 : decode cX12_safe 15 = .ok (.istore_n 2, 1) := by decide +kernel
theorem dX12_safe_16 : decode cX12_safe 16 = .ok (.iconst 0, 1) := by decide +kernel
theorem dX12_safe_17 : decode cX12_safe 17 = .ok (.istore_n 3, 1) := by decide +kernel
theorem dX12_safe_18 : decode cX12_safe 18 = .ok (.iload_n 3, 1) := by decide +kernel
theorem dX12_safe_19 : decode cX12_safe 19 = .ok (.aload_n 0, 1) := by decide +kernel
theorem dX12_safe_20 : decode cX12_safe 20 = .ok (.getfield 7, 3) := by decide +kernel
theorem dX12_safe_23 : decode cX12_safe 23 = .ok (.iconst 2, 1) := by decide +kernel
theorem dX12_safe_24 : decode cX12_safe 24 = .ok (.iaload, 1) := by decide +kernel
theorem dX12_safe_25 : decode cX12_safe 25 = .ok (.if_icmp .ge 52, 3) := by decide +kernel
theorem dX12_safe_28 : decode cX12_safe 28 = .ok (.iload_n 2, 1) := by decide +kernel
theorem dX12_safe_29 : decode cX12_safe 29 = .ok (.aload_n 0, 1) := by decide +kernel
theorem dX12_safe_30 : decode cX12_safe 30 = .ok (.iload_n 3, 1) := by decide +kernel
theorem dX12_safe_31 : decode cX12_safe 31 = .ok (.invokevirtual 268, 3) := by decide +kernel
theorem dX12_safe_34 : decode cX12_safe 34 = .ok (.ifCond .eq 34, 3) := by decide +kernel
theorem dX12_safe_37 : decode cX12_safe 37 = .ok (.aload_n 0, 1) := by decide +kernel
theorem dX12_safe_38 : decode cX12_safe 38 = .ok (.iload_n 3, 1) := by decide +kernel
theorem dX12_safe_39 : decode cX12_safe 39 = .ok (.invokevirtual 337, 3) := by decide +kernel
theorem dX12_safe_42 : decode cX12_safe 42 = .ok (.iconst 1, 1) := by decide +kernel
theorem dX12_safe_43 : decode cX12_safe 43 = .ok (.iload_n 1, 1) := by decide +kernel
theorem dX12_safe_44 : decode cX12_safe 44 = .ok (.ishl, 1) := by decide +kernel
theorem dX12_safe_45 : decode cX12_safe 45 = .ok (.if_icmp .ne 23, 3) := by decide +kernel
theorem dX12_safe_48 : decode cX12_safe 48 = .ok (.aload_n 0, 1) := by decide +kernel
theorem dX12_safe_49 : decode cX12_safe 49 = .ok (.iload_n 3, 1) := by decide +kernel
theorem dX12_safe_50 : decode cX12_safe 50 = .ok (.invokevirtual 393, 3) := by decide +kernel
theorem dX12_safe_53 : decode cX12_safe 53 = .ok (.iconst 1, 1) := by decide +kernel
theorem dX12_safe_54 : decode cX12_safe 54 = .ok (.iload_n 1, 1) := by decide +kernel
theorem dX12_safe_55 : decode cX12_safe 55 = .ok (.ishl, 1) := by decide +kernel
theorem dX12_safe_56 : decode cX12_safe 56 = .ok (.iconst (-1), 1) := by decide +kernel
theorem dX12_safe_57 : decode cX12_safe 57 = .ok (.ixor, 1) := by decide +kernel
theorem dX12_safe_58 : decode cX12_safe 58 = .ok (.iand, 1) := by decide +kernel
theorem dX12_safe_59 : decode cX12_safe 59 = .ok (.ifCond .ne 9, 3) := by decide +kernel
theorem dX12_safe_62 : decode cX12_safe 62 = .ok (.iconst 1, 1) := by decide +kernel
theorem dX12_safe_63 : decode cX12_safe 63 = .ok (.iload_n 3, 1) := by decide +kernel
theorem dX12_safe_64 : decode cX12_safe 64 = .ok (.ishl, 1) := by decide +kernel
theorem dX12_safe_65 : decode cX12_safe 65 = .ok (.goto 4, 3) := by decide +kernel
theorem dX12_safe_68 : decode cX12_safe 68 = .ok (.iconst 0, 1) := by decide +kernel
theorem dX12_safe_69 : decode cX12_safe 69 = .ok (.ior, 1) := by decide +kernel
theorem dX12_safe_70 : decode cX12_safe 70 = .ok (.istore_n 2, 1) := by decide +kernel
theorem dX12_safe_71 : decode cX12_safe 71 = .ok (.iinc 3 1, 3) := by decide +kernel
theorem dX12_safe_74 : decode cX12_safe 74 = .ok (.goto (-56), 3) := by decide +kernel
theorem dX12_safe_77 : decode cX12_safe 77 = .ok (.aload_n 0, 1) := by decide +kernel
theorem dX12_safe_78 : decode cX12_safe 78 = .ok (.iload_n 2, 1) := by decide +kernel
theorem dX12_safe_79 : decode cX12_safe 79 = .ok (.invokevirtual 82, 3) := by decide +kernel
theorem dX12_safe_82 : decode cX12_safe 82 = .ok (.ireturn, 1) := by decide +kernel
theorem dX12_seen_0 : decode cX12_seen 0 = .ok (.aload_n 0, 1) := by decide +kernel
theorem dX12_seen_1 : decode cX12_seen 1 = .ok (.iload_n 1, 1) := by decide +kernel
theorem dX12_seen_2 : decode cX12_seen 2 = .ok (.invokevirtual 271, 3) := by decide +kernel
theorem dX12_seen_5 : decode cX12_seen 5 = .ok (.ifCond .eq 28, 3) := by decide +kernel
theorem dX12_seen_8 : decode cX12_seen 8 = .ok (.iload_n 2, 1) := by decide +kernel
theorem dX12_seen_9 : decode cX12_seen 9 = .ok (.i2l, 1) := by decide +kernel
theorem dX12_seen_10 : decode cX12_seen 10 = .ok (.lconst 0, 1) := by decide +kernel
theorem dX12_seen_11 : decode cX12_seen 11 = .ok (.ldc2_w 332, 3) := by decide +kernel
theorem dX12_seen_14 : decode cX12_seen 14 = .ok (.invokestatic 289, 3) := by decide +kernel
theorem dX12_seen_17 : decode cX12_seen 17 = .ok (.ifCond .eq 16, 3) := by decide +kernel
theorem dX12_seen_20 : decode cX12_seen 20 = .ok (.aload_n 0, 1) := by decide +kernel
theorem dX12_seen_21 : decode cX12_seen 21 = .ok (.aload_n 0, 1) := by decide +kernel
theorem dX12_seen_22 : decode cX12_seen 22 = .ok (.iload_n 1, 1) := by decide +kernel
theorem dX12_seen_23 : decode cX12_seen 23 = .ok (.iload_n 2, 1) := by decide +kernel
theorem dX12_seen_24 : decode cX12_seen 24 = .ok (.invokevirtual 378, 3) := by decide +kernel
theorem dX12_seen_27 : decode cX12_seen 27 = .ok (.invokevirtual 82, 3) := by decide +kernel
theorem dX12_seen_30 : decode cX12_seen 30 = .ok (.goto 8, 3) := by decide +kernel
theorem dX12_seen_33 : decode cX12_seen 33 = .ok (.aload_n 0, 1) := by decide +kernel
theorem dX12_seen_34 : decode cX12_seen 34 = .ok (.iconst 1, 1) := by decide +kernel
theorem dX12_seen_35 : decode cX12_seen 35 = .ok (.invokevirtual 78, 3) := by decide +kernel
theorem dX12_seen_38 : decode cX12_seen 38 = .ok (.ireturn, 1) := by decide +kernel
theorem dX12_set_0 : decode cX12_set 0 = .ok (.aload_n 0, 1) := by decide +kernel
theorem dX12_set_1 : decode cX12_set 1 = .ok (.iload_n 1, 1) := by decide +kernel
theorem dX12_set_2 : decode cX12_set 2 = .ok (.invokevirtual 271, 3) := by decide +kernel
theorem dX12_set_5 : decode cX12_set 5 = .ok (.ifCond .eq 11, 3) := by decide +kernel
theorem dX12_set_8 : decode cX12_set 8 = .ok (.aload_n 0, 1) := by decide +kernel
theorem dX12_set_9 : decode cX12_set 9 = .ok (.iload_n 2, 1) := by decide +kernel
theorem dX12_set_10 : decode cX12_set 10 = .ok (.invokevirtual 265, 3) := by decide +kernel
theorem dX12_set_13 : decode cX12_set 13 = .ok (.ifCond .ne 9, 3) := by decide +kernel
theorem dX12_set_16 : decode cX12_set 16 = .ok (.aload_n 0, 1) := by decide +kernel
theorem dX12_set_17 : decode cX12_set 17 = .ok (.iconst 1, 1) := by decide +kernel
theorem dX12_set_18 : decode cX12_set 18 = .ok (.invokevirtual 78, 3) := by decide +kernel
theorem dX12_set_21 : decode cX12_set 21 = .ok (.ireturn, 1) := by decide +kernel
theorem dX12_set_22 : decode cX12_set 22 = .ok (.aload_n 0, 1) := by decide +kernel
theorem dX12_set_23 : decode cX12_set 23 = .ok (.iload_n 1, 1) := by decide +kernel
theorem dX12_set_24 : decode cX12_set 24 = .ok (.iload_n 2, 1) := by decide +kernel
theorem dX12_set_25 : decode cX12_set 25 = .ok (.invokevirtual 301, 3) := by decide +kernel
theorem dX12_set_28 : decode cX12_set 28 = .ok (.istore_n 3, 1) := by decide +kernel
theorem dX12_set_29 : decode cX12_set 29 = .ok (.iload_n 3, 1) := by decide +kernel
theorem dX12_set_30 : decode cX12_set 30 = .ok (.ifCond .le 9, 3) := by decide +kernel
theorem dX12_set_33 : decode cX12_set 33 = .ok (.aload_n 0, 1) := by decide +kernel
theorem dX12_set_34 : decode cX12_set 34 = .ok (.iload_n 3, 1) := by decide +kernel
theorem dX12_set_35 : decode cX12_set 35 = .ok (.invokevirtual 78, 3) := by decide +kernel
theorem dX12_set_38 : decode cX12_set 38 = .ok (.ireturn, 1) := by decide +kernel
theorem dX12_set_39 : decode cX12_set 39 = .ok (.aload_n 0, 1) := by decide +kernel
theorem dX12_set_40 : decode cX12_set 40 = .ok (.iload_n 1, 1) := by decide +kernel
theorem dX12_set_41 : decode cX12_set 41 = .ok (.iload_n 2, 1) := by decide +kernel
theorem dX12_set_42 : decode cX12_set 42 = .ok (.invokevirtual 304, 3) := by decide +kernel
theorem dX12_set_45 : decode cX12_set 45 = .ok (.aload_n 0, 1) := by decide +kernel
theorem dX12_set_46 : decode cX12_set 46 = .ok (.aload_n 0, 1) := by decide +kernel
theorem dX12_set_47 : decode cX12_set 47 = .ok (.iload_n 2, 1) := by decide +kernel
theorem dX12_set_48 : decode cX12_set 48 = .ok (.invokevirtual 277, 3) := by decide +kernel
theorem dX12_set_51 : decode cX12_set 51 = .ok (.invokevirtual 82, 3) := by decide +kernel
theorem dX12_set_54 : decode cX12_set 54 = .ok (.ireturn, 1) := by decide +kernel
theorem dX12_soonest_0 : decode cX12_soonest 0 = .ok (.aload_n 0, 1) := by decide +kernel
theorem dX12_soonest_1 : decode cX12_soonest 1 = .ok (.iload_n 1, 1) := by decide +kernel
theorem dX12_soonest_2 : decode cX12_soonest 2 = .ok (.invokevirtual 271, 3) := by decide +kernel
theorem dX12_soonest_5 : decode cX12_soonest 5 = .ok (.ifCond .eq 11, 3) := by decide +kernel
theorem dX12_soonest_8 : decode cX12_soonest 8 = .ok (.aload_n 0, 1) := by decide +kernel
theorem dX12_soonest_9 : decode cX12_soonest 9 = .ok (.iload_n 2, 1) := by decide +kernel
theorem dX12_soonest_10 : decode cX12_soonest 10 = .ok (.invokevirtual 265, 3) := by decide +kernel
theorem dX12_soonest_13 : decode cX12_soonest 13 = .ok (.ifCond .ne 9, 3) := by decide +kernel
theorem dX12_soonest_16 : decode cX12_soonest 16 = .ok (.aload_n 0, 1) := by decide +kernel
theorem dX12_soonest_17 : decode cX12_soonest 17 = .ok (.iconst 1, 1) := by decide +kernel
theorem dX12_soonest_18 : decode cX12_soonest 18 = .ok (.invokevirtual 78, 3) := by decide +kernel
theorem dX12_soonest_21 : decode cX12_soonest 21 = .ok (.ireturn, 1) := by decide +kernel
theorem dX12_soonest_22 : decode cX12_soonest 22 = .ok (.aload_n 0, 1) := by decide +kernel
theorem dX12_soonest_23 : decode cX12_soonest 23 = .ok (.iload_n 1, 1) := by decide +kernel
theorem dX12_soonest_24 : decode cX12_soonest 24 = .ok (.iload_n 2, 1) := by decide +kernel
theorem dX12_soonest_25 : decode cX12_soonest 25 = .ok (.invokevirtual 390, 3) := by decide +kernel
theorem dX12_soonest_28 : decode cX12_soonest 28 = .ok (.iconst (-1), 1) := by decide +kernel
theorem dX12_soonest_29 : decode cX12_soonest 29 = .ok (.if_icmp .ne 12, 3) := by decide +kernel
theorem dX12_soonest_32 : decode cX12_soonest 32 = .ok (.aload_n 0, 1) := by decide +kernel
theorem dX12_soonest_33 : decode cX12_soonest 33 = .ok (.bipush 7, 2) := by decide +kernel
theorem dX12_soonest_35 : decode cX12_soonest 35 = .ok (.invokevirtual 78, 3) := by decide +kernel
theorem dX12_soonest_38 : decode cX12_soonest 38 = .ok (.goto 13, 3) := by decide +kernel
theorem dX12_soonest_41 : decode cX12_soonest 41 = .ok (.aload_n 0, 1) := by decide +kernel
theorem dX12_soonest_42 : decode cX12_soonest 42 = .ok (.aload_n 0, 1) := by decide +kernel
theorem dX12_soonest_43 : decode cX12_soonest 43 = .ok (.iload_n 1, 1) := by decide +kernel
theorem dX12_soonest_44 : decode cX12_soonest 44 = .ok (.iload_n 2, 1) := by decide +kernel
theorem dX12_soonest_45 : decode cX12_soonest 45 = .ok (.invokevirtual 390, 3) := by decide +kernel
theorem dX12_soonest_48 : decode cX12_soonest 48 = .ok (.invokevirtual 82, 3) := by decide +kernel
theorem dX12_soonest_51 : decode cX12_soonest 51 = .ok (.ireturn, 1) := by decide +kernel
theorem dX12_status_0 : decode cX12_status 0 = .ok (.aload_n 0, 1) := by decide +kernel
theorem dX12_status_1 : decode cX12_status 1 = .ok (.getfield 72, 3) := by decide +kernel
theorem dX12_status_4 : decode cX12_status 4 = .ok (.ireturn, 1) := by decide +kernel
theorem dX12_strewn_0 : decode cX12_strewn 0 = .ok (.aload_n 0, 1) := by decide +kernel
theorem dX12_strewn_1 : decode cX12_strewn 1 = .ok (.iload_n 1, 1) := by decide +kernel
theorem dX12_strewn_2 : decode cX12_strewn 2 = .ok (.invokevirtual 271, 3) := by decide +kernel
theorem dX12_strewn_5 : decode cX12_strewn 5 = .ok (.ifCond .eq 15, 3) := by decide +kernel
theorem dX12_strewn_8 : decode cX12_strewn 8 = .ok (.aload_n 0, 1) := by decide +kernel
theorem dX12_strewn_9 : decode cX12_strewn 9 = .ok (.aload_n 0, 1) := by decide +kernel
theorem dX12_strewn_10 : decode cX12_strewn 10 = .ok (.iload_n 1, 1) := by decide +kernel
theorem dX12_strewn_11 : decode cX12_strewn 11 = .ok (.invokevirtual 361, 3) := by decide +kernel
theorem dX12_strewn_14 : decode cX12_strewn 14 = .ok (.invokevirtual 82, 3) := by decide +kernel
theorem dX12_strewn_17 : decode cX12_strewn 17 = .ok (.goto 8, 3) := by decide +kernel
theorem dX12_strewn_20 : decode cX12_strewn 20 = .ok (.aload_n 0, 1) := by decide +kernel
theorem dX12_strewn_21 : decode cX12_strewn 21 = .ok (.iconst 1, 1) := by decide +kernel
theorem dX12_strewn_22 : decode cX12_strewn 22 = .ok (.invokevirtual 78, 3) := by decide +kernel
theorem dX12_strewn_25 : decode cX12_strewn 25 = .ok (.ireturn, 1) := by decide +kernel
theorem dX12_tally_0 : decode cX12_tally 0 = .ok (.aload_n 0, 1) := by decide +kernel
theorem dX12_tally_1 : decode cX12_tally 1 = .ok (.iload_n 1, 1) := by decide +kernel
theorem dX12_tally_2 : decode cX12_tally 2 = .ok (.invokevirtual 265, 3) := by decide +kernel
theorem dX12_tally_5 : decode cX12_tally 5 = .ok (.ifCond .eq 24, 3) := by decide +kernel
theorem dX12_tally_8 : decode cX12_tally 8 = .ok (.aload_n 0, 1) := by decide +kernel
theorem dX12_tally_9 : decode cX12_tally 9 = .ok (.iload_n 2, 1) := by decide +kernel
theorem dX12_tally_10 : decode cX12_tally 10 = .ok (.invokevirtual 271, 3) := by decide +kernel
theorem dX12_tally_13 : decode cX12_tally 13 = .ok (.ifCond .eq 16, 3) := by decide +kernel
theorem dX12_tally_16 : decode cX12_tally 16 = .ok (.aload_n 0, 1) := by decide +kernel
theorem dX12_tally_17 : decode cX12_tally 17 = .ok (.aload_n 0, 1) := by decide +kernel
theorem dX12_tally_18 : decode cX12_tally 18 = .ok (.iload_n 2, 1) := by decide +kernel
theorem dX12_tally_19 : decode cX12_tally 19 = .ok (.iload_n 1, 1) := by decide +kernel
theorem dX12_tally_20 : decode cX12_tally 20 = .ok (.invokevirtual 364, 3) := by decide +kernel
theorem dX12_tally_23 : decode cX12_tally 23 = .ok (.invokevirtual 82, 3) := by decide +kernel
theorem dX12_tally_26 : decode cX12_tally 26 = .ok (.goto 8, 3) := by decide +kernel
theorem dX12_tally_29 : decode cX12_tally 29 = .ok (.aload_n 0, 1) := by decide +kernel
theorem dX12_tally_30 : decode cX12_tally 30 = .ok (.iconst 1, 1) := by decide +kernel
theorem dX12_tally_31 : decode cX12_tally 31 = .ok (.invokevirtual 78, 3) := by decide +kernel
theorem dX12_tally_34 : decode cX12_tally 34 = .ok (.ireturn, 1) := by decide +kernel
theorem dX12_threat_0 : decode cX12_threat 0 = .ok (.aload_n 0, 1) := by decide +kernel
theorem dX12_threat_1 : decode cX12_threat 1 = .ok (.iload_n 1, 1) := by decide +kernel
theorem dX12_threat_2 : decode cX12_threat 2 = .ok (.invokevirtual 349, 3) := by decide +kernel
theorem dX12_threat_5 : decode cX12_threat 5 = .ok (.istore_n 2, 1) := by decide +kernel
theorem dX12_threat_6 : decode cX12_threat 6 = .ok (.iload_n 2, 1) := by decide +kernel
theorem dX12_threat_7 : decode cX12_threat 7 = .ok (.ifCond .le 11, 3) := by decide +kernel
theorem dX12_threat_10 : decode cX12_threat 10 = .ok (.aload_n 0, 1) := by decide +kernel
theorem dX12_threat_11 : decode cX12_threat 11 = .ok (.iload_n 2, 1) := by decide +kernel
theorem dX12_threat_12 : decode cX12_threat 12 = .ok (.invokevirtual 78, 3) := by decide +kernel
theorem dX12_threat_15 : decode cX12_threat 15 = .ok (.goto 12, 3) := by decide +kernel
theorem dX12_threat_18 : decode cX12_threat 18 = .ok (.aload_n 0, 1) := by decide +kernel
theorem dX12_threat_19 : decode cX12_threat 19 = .ok (.aload_n 0, 1) := by decide +kernel
theorem dX12_threat_20 : decode cX12_threat 20 = .ok (.iload_n 1, 1) := by decide +kernel
theorem dX12_threat_21 : decode cX12_threat 21 = .ok (.invokevirtual 393, 3) := by decide +kernel
theorem dX12_threat_24 : decode cX12_threat 24 = .ok (.invokevirtual 82, 3) := by decide +kernel
theorem dX12_threat_27 : decode cX12_threat 27 = .ok (.ireturn, 1) := by decide +kernel
theorem dX12_tide_0 : decode cX12_tide 0 = .ok (.aload_n 0, 1) := by decide +kernel
theorem dX12_tide_1 : decode cX12_tide 1 = .ok (.getfield 7, 3) := by decide +kernel
theorem dX12_tide_4 : decode cX12_tide 4 = .ok (.bipush 6, 2) := by decide +kernel
theorem dX12_tide_6 : decode cX12_tide 6 = .ok (.iaload, 1) := by decide +kernel
theorem dX12_tide_7 : decode cX12_tide 7 = .ok (.bipush 99, 2) := by decide +kernel
theorem dX12_tide_9 : decode cX12_tide 9 = .ok (.if_icmp .ne 9, 3) := by decide +kernel
theorem dX12_tide_12 : decode cX12_tide 12 = .ok (.aload_n 0, 1) := by decide +kernel
theorem dX12_tide_13 : decode cX12_tide 13 = .ok (.iconst 4, 1) := by decide +kernel
theorem dX12_tide_14 : decode cX12_tide 14 = .ok (.invokevirtual 78, 3) := by decide +kernel
theorem dX12_tide_17 : decode cX12_tide 17 = .ok (.ireturn, 1) := by decide +kernel
theorem dX12_tide_18 : decode cX12_tide 18 = .ok (.aload_n 0, 1) := by decide +kernel
theorem dX12_tide_19 : decode cX12_tide 19 = .ok (.getfield 7, 3) := by decide +kernel
theorem dX12_tide_22 : decode cX12_tide 22 = .ok (.bipush 7, 2) := by decide +kernel
theorem dX12_tide_24 : decode cX12_tide 24 = .ok (.iaload, 1) := by decide +kernel
theorem dX12_tide_25 : decode cX12_tide 25 = .ok (.ifCond .ne 10, 3) := by decide +kernel
theorem dX12_tide_28 : decode cX12_tide 28 = .ok (.aload_n 0, 1) := by decide +kernel
theorem dX12_tide_29 : decode cX12_tide 29 = .ok (.bipush 7, 2) := by decide +kernel
theorem dX12_tide_31 : decode cX12_tide 31 = .ok (.invokevirtual 78, 3) := by decide +kernel
theorem dX12_tide_34 : decode cX12_tide 34 = .ok (.ireturn, 1) := by decide +kernel
theorem dX12_tide_35 : decode cX12_tide 35 = .ok (.aload_n 0, 1) := by decide +kernel
theorem dX12_tide_36 : decode cX12_tide 36 = .ok (.invokevirtual 381, 3) := by decide +kernel
theorem dX12_tide_39 : decode cX12_tide 39 = .ok (.aload_n 0, 1) := by decide +kernel
theorem dX12_tide_40 : decode cX12_tide 40 = .ok (.aload_n 0, 1) := by decide +kernel
theorem dX12_tide_41 : decode cX12_tide 41 = .ok (.getfield 7, 3) := by decide +kernel
theorem dX12_tide_44 : decode cX12_tide 44 = .ok (.bipush 6, 2) := by decide +kernel
theorem dX12_tide_46 : decode cX12_tide 46 = .ok (.iaload, 1) := by decide +kernel
theorem dX12_tide_47 : decode cX12_tide 47 = .ok (.invokevirtual 82, 3) := by decide +kernel
theorem dX12_tide_50 : decode cX12_tide 50 = .ok (.ireturn, 1) := by decide +kernel
theorem dX12_tideIn_0 : decode cX12_tideIn 0 = .ok (.iload_n 1, 1) := by decide +kernel
theorem dX12_tideIn_1 : decode cX12_tideIn 1 = .ok (.i2l, 1) := by decide +kernel
theorem dX12_tideIn_2 : decode cX12_tideIn 2 = .ok (.lconst 0, 1) := by decide +kernel
theorem dX12_tideIn_3 : decode cX12_tideIn 3 = .ok (.ldc2_w 373, 3) := by decide +kernel
theorem dX12_tideIn_6 : decode cX12_tideIn 6 = .ok (.invokestatic 289, 3) := by decide +kernel
theorem dX12_tideIn_9 : decode cX12_tideIn 9 = .ok (.ifCond .eq 29, 3) := by decide +kernel
theorem dX12_tideIn_12 : decode cX12_tideIn 12 = .ok (.aload_n 0, 1) := by decide +kernel
theorem dX12_tideIn_13 : decode cX12_tideIn 13 = .ok (.iconst 1, 1) := by decide +kernel
theorem dX12_tideIn_14 : decode cX12_tideIn 14 = .ok (.aload_n 0, 1) := by decide +kernel
theorem dX12_tideIn_15 : decode cX12_tideIn 15 = .ok (.getfield 7, 3) := by decide +kernel
theorem dX12_tideIn_18 : decode cX12_tideIn 18 = .ok (.iconst 3, 1) := by decide +kernel
theorem dX12_tideIn_19 : decode cX12_tideIn 19 = .ok (.iaload, 1) := by decide +kernel
theorem dX12_tideIn_20 : decode cX12_tideIn 20 = .ok (.iload_n 1, 1) := by decide +kernel
theorem dX12_tideIn_21 : decode cX12_tideIn 21 = .ok (.aload_n 0, 1) := by decide +kernel
theorem dX12_tideIn_22 : decode cX12_tideIn 22 = .ok (.getfield 7, 3) := by decide +kernel
theorem dX12_tideIn_25 : decode cX12_tideIn 25 = .ok (.iconst 4, 1) := by decide +kernel
theorem dX12_tideIn_26 : decode cX12_tideIn 26 = .ok (.iaload, 1) := by decide +kernel
theorem dX12_tideIn_27 : decode cX12_tideIn 27 = .ok (.imul, 1) := by decide +kernel
theorem dX12_tideIn_28 : decode cX12_tideIn 28 = .ok (.isub, 1) := by decide +kernel
theorem dX12_tideIn_29 : decode cX12_tideIn 29 = .ok (.invokestatic 375, 3) := by decide +kernel
theorem dX12_tideIn_32 : decode cX12_tideIn 32 = .ok (.invokevirtual 82, 3) := by decide +kernel
theorem dX12_tideIn_35 : decode cX12_tideIn 35 = .ok (.goto 8, 3) := by decide +kernel
theorem dX12_tideIn_38 : decode cX12_tideIn 38 = .ok (.aload_n 0, 1) := by decide +kernel
theorem dX12_tideIn_39 : decode cX12_tideIn 39 = .ok (.iconst 1, 1) := by decide +kernel
theorem dX12_tideIn_40 : decode cX12_tideIn 40 = .ok (.invokevirtual 78, 3) := by decide +kernel
theorem dX12_tideIn_43 : decode cX12_tideIn 43 = .ok (.ireturn, 1) := by decide +kernel
theorem dX12_time_0 : decode cX12_time 0 = .ok (.aload_n 0, 1) := by decide +kernel
theorem dX12_time_1 : decode cX12_time 1 = .ok (.iload_n 1, 1) := by decide +kernel
theorem dX12_time_2 : decode cX12_time 2 = .ok (.invokevirtual 271, 3) := by decide +kernel
theorem dX12_time_5 : decode cX12_time 5 = .ok (.ifCond .eq 28, 3) := by decide +kernel
theorem dX12_time_8 : decode cX12_time 8 = .ok (.aload_n 0, 1) := by decide +kernel
theorem dX12_time_9 : decode cX12_time 9 = .ok (.aload_n 0, 1) := by decide +kernel
theorem dX12_time_10 : decode cX12_time 10 = .ok (.getfield 7, 3) := by decide +kernel
theorem dX12_time_13 : decode cX12_time 13 = .ok (.iconst 3, 1) := by decide +kernel
theorem dX12_time_14 : decode cX12_time 14 = .ok (.iaload, 1) := by decide +kernel
theorem dX12_time_15 : decode cX12_time 15 = .ok (.aload_n 0, 1) := by decide +kernel
theorem dX12_time_16 : decode cX12_time 16 = .ok (.getfield 7, 3) := by decide +kernel
theorem dX12_time_19 : decode cX12_time 19 = .ok (.iload_n 1, 1) := by decide +kernel
theorem dX12_time_20 : decode cX12_time 20 = .ok (.invokestatic 274, 3) := by decide +kernel
theorem dX12_time_23 : decode cX12_time 23 = .ok (.iconst 3, 1) := by decide +kernel
theorem dX12_time_24 : decode cX12_time 24 = .ok (.iadd, 1) := by decide +kernel
theorem dX12_time_25 : decode cX12_time 25 = .ok (.iaload, 1) := by decide +kernel
theorem dX12_time_26 : decode cX12_time 26 = .ok (.isub, 1) := by decide +kernel
theorem dX12_time_27 : decode cX12_time 27 = .ok (.invokevirtual 82, 3) := by decide +kernel
theorem dX12_time_30 : decode cX12_time 30 = .ok (.goto 8, 3) := by decide +kernel
theorem dX12_time_33 : decode cX12_time 33 = .ok (.aload_n 0, 1) := by decide +kernel
theorem dX12_time_34 : decode cX12_time 34 = .ok (.iconst 1, 1) := by decide +kernel
theorem dX12_time_35 : decode cX12_time 35 = .ok (.invokevirtual 78, 3) := by decide +kernel
theorem dX12_time_38 : decode cX12_time 38 = .ok (.ireturn, 1) := by decide +kernel
theorem dX12_told_0 : decode cX12_told 0 = .ok (.iload_n 1, 1) := by decide +kernel
theorem dX12_told_1 : decode cX12_told 1 = .ok (.ifCond .lt 9, 3) := by decide +kernel
theorem dX12_told_4 : decode cX12_told 4 = .ok (.iload_n 1, 1) := by decide +kernel
theorem dX12_told_5 : decode cX12_told 5 = .ok (.bipush 8, 2) := by decide +kernel
theorem dX12_told_7 : decode cX12_told 7 = .ok (.if_icmp .le 11, 3) := by decide +kernel
theorem dX12_told_10 : decode cX12_told 10 = .ok (.aload_n 0, 1) := by decide +kernel
theorem dX12_told_11 : decode cX12_told 11 = .ok (.iconst 1, 1) := by decide +kernel
theorem dX12_told_12 : decode cX12_told 12 = .ok (.invokevirtual 78, 3) := by decide +kernel
theorem dX12_told_15 : decode cX12_told 15 = .ok (.goto 13, 3) := by decide +kernel
theorem dX12_told_18 : decode cX12_told 18 = .ok (.aload_n 0, 1) := by decide +kernel
theorem dX12_told_19 : decode cX12_told 19 = .ok (.aload_n 0, 1) := by decide +kernel
theorem dX12_told_20 : decode cX12_told 20 = .ok (.getfield 7, 3) := by decide +kernel
theorem dX12_told_23 : decode cX12_told 23 = .ok (.iload_n 1, 1) := by decide +kernel
theorem dX12_told_24 : decode cX12_told 24 = .ok (.iaload, 1) := by decide +kernel
theorem dX12_told_25 : decode cX12_told 25 = .ok (.invokevirtual 82, 3) := by decide +kernel
theorem dX12_told_28 : decode cX12_told 28 = .ok (.ireturn, 1) := by decide +kernel
theorem dX12_top_0 : decode cX12_top 0 = .ok (.aload_n 0, 1) := by decide +kernel
theorem dX12_top_1 : decode cX12_top 1 = .ok (.getfield 75, 3) := by decide +kernel
theorem dX12_top_4 : decode cX12_top 4 = .ok (.lreturn, 1) := by decide +kernel
theorem dX12_tray_0 : decode cX12_tray 0 = .ok (.iload_n 1, 1) := by decide +kernel
theorem dX12_tray_1 : decode cX12_tray 1 = .ok (.invokestatic 89, 3) := by decide +kernel
theorem dX12_tray_4 : decode cX12_tray 4 = .ok (.ifCond .eq 22, 3) := by decide +kernel
theorem dX12_tray_7 : decode cX12_tray 7 = .ok (.iload_n 2, 1) := by decide +kernel
theorem dX12_tray_8 : decode cX12_tray 8 = .ok (.ifCond .lt 18, 3) := by decide +kernel
theorem dX12_tray_11 : decode cX12_tray 11 = .ok (.iload_n 2, 1) := by decide +kernel
theorem dX12_tray_12 : decode cX12_tray 12 = .ok (.iconst 3, 1) := by decide +kernel
theorem dX12_tray_13 : decode cX12_tray 13 = .ok (.if_icmp .gt 13, 3) := by decide +kernel
theorem dX12_tray_16 : decode cX12_tray 16 = .ok (.iload_n 3, 1) := by decide +kernel
theorem dX12_tray_17 : decode cX12_tray 17 = .ok (.ifCond .lt 9, 3) := by decide +kernel
theorem dX12_tray_20 : decode cX12_tray 20 = .ok (.iload_n 3, 1) := by decide +kernel
theorem dX12_tray_21 : decode cX12_tray 21 = .ok (.bipush 60, 2) := by decide +kernel
theorem dX12_tray_23 : decode cX12_tray 23 = .ok (.if_icmp .le 9, 3) := by decide +kernel
theorem dX12_tray_26 : decode cX12_tray 26 = .ok (.aload_n 0, 1) := by decide +kernel
theorem dX12_tray_27 : decode cX12_tray 27 = .ok (.iconst 1, 1) := by decide +kernel
theorem dX12_tray_28 : decode cX12_tray 28 = .ok (.invokevirtual 85, 3) := by decide +kernel
theorem dX12_tray_31 : decode cX12_tray 31 = .ok (.ireturn, 1) := by decide +kernel
theorem dX12_tray_32 : decode cX12_tray 32 = .ok (.aload_n 0, 1) := by decide +kernel
theorem dX12_tray_33 : decode cX12_tray 33 = .ok (.getfield 21, 3) := by decide +kernel
theorem dX12_tray_36 : decode cX12_tray 36 = .ok (.iload_n 1, 1) := by decide +kernel
theorem dX12_tray_37 : decode cX12_tray 37 = .ok (.iload_n 2, 1) := by decide +kernel
theorem dX12_tray_38 : decode cX12_tray 38 = .ok (.iastore, 1) := by decide +kernel
theorem dX12_tray_39 : decode cX12_tray 39 = .ok (.aload_n 0, 1) := by decide +kernel
theorem dX12_tray_40 : decode cX12_tray 40 = .ok (.getfield 24, 3) := by decide +kernel
theorem dX12_tray_43 : decode cX12_tray 43 = .ok (.iload_n 1, 1) := by decide +kernel
theorem dX12_tray_44 : decode cX12_tray 44 = .ok (.iload_n 3, 1) := by decide +kernel
theorem dX12_tray_45 : decode cX12_tray 45 = .ok (.iastore, 1) := by decide +kernel
theorem dX12_tray_46 : decode cX12_tray 46 = .ok (.iconst 0, 1) := by decide +kernel
theorem dX12_tray_47 : decode cX12_tray 47 = .ok (.istore 4, 2) := by decide +kernel
theorem dX12_tray_49 : decode cX12_tray 49 = .ok (.iload 4, 2) := by decide +kernel
theorem dX12_tray_51 : decode cX12_tray 51 = .ok (.iload_n 3, 1) := by decide +kernel
theorem dX12_tray_52 : decode cX12_tray 52 = .ok (.if_icmp .ge 22, 3) := by decide +kernel
theorem dX12_tray_55 : decode cX12_tray 55 = .ok (.aload_n 0, 1) := by decide +kernel
theorem dX12_tray_56 : decode cX12_tray 56 = .ok (.getfield 27, 3) := by decide +kernel
theorem dX12_tray_59 : decode cX12_tray 59 = .ok (.bipush 60, 2) := by decide +kernel
theorem dX12_tray_61 : decode cX12_tray 61 = .ok (.iload_n 1, 1) := by decide +kernel
theorem dX12_tray_62 : decode cX12_tray 62 = .ok (.imul, 1) := by decide +kernel
theorem dX12_tray_63 : decode cX12_tray 63 = .ok (.iload 4, 2) := by decide +kernel
theorem dX12_tray_65 : decode cX12_tray 65 = .ok (.iadd, 1) := by decide +kernel
theorem dX12_tray_66 : decode cX12_tray 66 = .ok (.lconst 0, 1) := by decide +kernel
theorem dX12_tray_67 : decode cX12_tray 67 = .ok (.lastore, 1) := by decide +kernel
theorem dX12_tray_68 : decode cX12_tray 68 = .ok (.iinc 4 1, 3) := by decide +kernel
theorem dX12_tray_71 : decode cX12_tray 71 = .ok (.goto (-22), 3) := by decide +kernel
theorem dX12_tray_74 : decode cX12_tray 74 = .ok (.aload_n 0, 1) := by decide +kernel
theorem dX12_tray_75 : decode cX12_tray 75 = .ok (.iconst 0, 1) := by decide +kernel
theorem dX12_tray_76 : decode cX12_tray 76 = .ok (.invokevirtual 85, 3) := by decide +kernel
theorem dX12_tray_79 : decode cX12_tray 79 = .ok (.ireturn, 1) := by decide +kernel
theorem dX12_walk_0 : decode cX12_walk 0 = .ok (.aload_n 0, 1) := by decide +kernel
theorem dX12_walk_1 : decode cX12_walk 1 = .ok (.iload_n 1, 1) := by decide +kernel
theorem dX12_walk_2 : decode cX12_walk 2 = .ok (.invokevirtual 271, 3) := by decide +kernel
theorem dX12_walk_5 : decode cX12_walk 5 = .ok (.ifCond .eq 33, 3) := by decide +kernel
theorem dX12_walk_8 : decode cX12_walk 8 = .ok (.aload_n 0, 1) := by decide +kernel
theorem dX12_walk_9 : decode cX12_walk 9 = .ok (.iload_n 2, 1) := by decide +kernel
theorem dX12_walk_10 : decode cX12_walk 10 = .ok (.invokevirtual 265, 3) := by decide +kernel
theorem dX12_walk_13 : decode cX12_walk 13 = .ok (.ifCond .eq 25, 3) := by decide +kernel
theorem dX12_walk_16 : decode cX12_walk 16 = .ok (.aload_n 0, 1) := by decide +kernel
theorem dX12_walk_17 : decode cX12_walk 17 = .ok (.aload_n 0, 1) := by decide +kernel
theorem dX12_walk_18 : decode cX12_walk 18 = .ok (.iload_n 1, 1) := by decide +kernel
theorem dX12_walk_19 : decode cX12_walk 19 = .ok (.aload_n 0, 1) := by decide +kernel
theorem dX12_walk_20 : decode cX12_walk 20 = .ok (.getfield 7, 3) := by decide +kernel
theorem dX12_walk_23 : decode cX12_walk 23 = .ok (.iconst 0, 1) := by decide +kernel
theorem dX12_walk_24 : decode cX12_walk 24 = .ok (.iload_n 2, 1) := by decide +kernel
theorem dX12_walk_25 : decode cX12_walk 25 = .ok (.invokestatic 171, 3) := by decide +kernel
theorem dX12_walk_28 : decode cX12_walk 28 = .ok (.iaload, 1) := by decide +kernel
theorem dX12_walk_29 : decode cX12_walk 29 = .ok (.invokevirtual 283, 3) := by decide +kernel
theorem dX12_walk_32 : decode cX12_walk 32 = .ok (.invokevirtual 82, 3) := by decide +kernel
theorem dX12_walk_35 : decode cX12_walk 35 = .ok (.goto 8, 3) := by decide +kernel
theorem dX12_walk_38 : decode cX12_walk 38 = .ok (.aload_n 0, 1) := by decide +kernel
theorem dX12_walk_39 : decode cX12_walk 39 = .ok (.iconst 1, 1) := by decide +kernel
theorem dX12_walk_40 : decode cX12_walk 40 = .ok (.invokevirtual 78, 3) := by decide +kernel
theorem dX12_walk_43 : decode cX12_walk 43 = .ok (.ireturn, 1) := by decide +kernel
theorem dX12_wave_0 : decode cX12_wave 0 = .ok (.iload_n 1, 1) := by decide +kernel
theorem dX12_wave_1 : decode cX12_wave 1 = .ok (.i2l, 1) := by decide +kernel
theorem dX12_wave_2 : decode cX12_wave 2 = .ok (.lconst 0, 1) := by decide +kernel
theorem dX12_wave_3 : decode cX12_wave 3 = .ok (.ldc2_w 332, 3) := by decide +kernel
theorem dX12_wave_6 : decode cX12_wave 6 = .ok (.invokestatic 289, 3) := by decide +kernel
theorem dX12_wave_9 : decode cX12_wave 9 = .ok (.ifCond .eq 15, 3) := by decide +kernel
theorem dX12_wave_12 : decode cX12_wave 12 = .ok (.aload_n 0, 1) := by decide +kernel
theorem dX12_wave_13 : decode cX12_wave 13 = .ok (.aload_n 0, 1) := by decide +kernel
theorem dX12_wave_14 : decode cX12_wave 14 = .ok (.iload_n 1, 1) := by decide +kernel
theorem dX12_wave_15 : decode cX12_wave 15 = .ok (.invokevirtual 334, 3) := by decide +kernel
theorem dX12_wave_18 : decode cX12_wave 18 = .ok (.invokevirtual 82, 3) := by decide +kernel
theorem dX12_wave_21 : decode cX12_wave 21 = .ok (.goto 8, 3) := by decide +kernel
theorem dX12_wave_24 : decode cX12_wave 24 = .ok (.aload_n 0, 1) := by decide +kernel
theorem dX12_wave_25 : decode cX12_wave 25 = .ok (.iconst 1, 1) := by decide +kernel
theorem dX12_wave_26 : decode cX12_wave 26 = .ok (.invokevirtual 78, 3) := by decide +kernel
theorem dX12_wave_29 : decode cX12_wave 29 = .ok (.ireturn, 1) := by decide +kernel
theorem dX12_whose_0 : decode cX12_whose 0 = .ok (.aload_n 0, 1) := by decide +kernel
theorem dX12_whose_1 : decode cX12_whose 1 = .ok (.iload_n 1, 1) := by decide +kernel
theorem dX12_whose_2 : decode cX12_whose 2 = .ok (.invokevirtual 349, 3) := by decide +kernel
theorem dX12_whose_5 : decode cX12_whose 5 = .ok (.istore_n 2, 1) := by decide +kernel
theorem dX12_whose_6 : decode cX12_whose 6 = .ok (.iload_n 2, 1) := by decide +kernel
theorem dX12_whose_7 : decode cX12_whose 7 = .ok (.ifCond .le 11, 3) := by decide +kernel
theorem dX12_whose_10 : decode cX12_whose 10 = .ok (.aload_n 0, 1) := by decide +kernel
theorem dX12_whose_11 : decode cX12_whose 11 = .ok (.iload_n 2, 1) := by decide +kernel
theorem dX12_whose_12 : decode cX12_whose 12 = .ok (.invokevirtual 78, 3) := by decide +kernel
theorem dX12_whose_15 : decode cX12_whose 15 = .ok (.goto 12, 3) := by decide +kernel
theorem dX12_whose_18 : decode cX12_whose 18 = .ok (.aload_n 0, 1) := by decide +kernel
theorem dX12_whose_19 : decode cX12_whose 19 = .ok (.aload_n 0, 1) := by decide +kernel
theorem dX12_whose_20 : decode cX12_whose 20 = .ok (.iload_n 1, 1) := by decide +kernel
theorem dX12_whose_21 : decode cX12_whose 21 = .ok (.invokevirtual 343, 3) := by decide +kernel
theorem dX12_whose_24 : decode cX12_whose 24 = .ok (.invokevirtual 82, 3) := by decide +kernel
theorem dX12_whose_27 : decode cX12_whose 27 = .ok (.ireturn, 1) := by decide +kernel
theorem dX12_cut_0 : decode cX12_cut 0 = .ok (.iload_n 2, 1) := by decide +kernel
theorem dX12_cut_1 : decode cX12_cut 1 = .ok (.ifCond .ne 10, 3) := by decide +kernel
theorem dX12_cut_4 : decode cX12_cut 4 = .ok (.lload_n 0, 1) := by decide +kernel
theorem dX12_cut_5 : decode cX12_cut 5 = .ok (.l2i, 1) := by decide +kernel
theorem dX12_cut_6 : decode cX12_cut 6 = .ok (.i2b, 1) := by decide +kernel
theorem dX12_cut_7 : decode cX12_cut 7 = .ok (.i2l, 1) := by decide +kernel
theorem dX12_cut_8 : decode cX12_cut 8 = .ok (.goto 27, 3) := by decide +kernel
theorem dX12_cut_11 : decode cX12_cut 11 = .ok (.iload_n 2, 1) := by decide +kernel
theorem dX12_cut_12 : decode cX12_cut 12 = .ok (.iconst 1, 1) := by decide +kernel
theorem dX12_cut_13 : decode cX12_cut 13 = .ok (.if_icmp .ne 10, 3) := by decide +kernel
theorem dX12_cut_16 : decode cX12_cut 16 = .ok (.lload_n 0, 1) := by decide +kernel
theorem dX12_cut_17 : decode cX12_cut 17 = .ok (.l2i, 1) := by decide +kernel
theorem dX12_cut_18 : decode cX12_cut 18 = .ok (.i2s, 1) := by decide +kernel
theorem dX12_cut_19 : decode cX12_cut 19 = .ok (.i2l, 1) := by decide +kernel
theorem dX12_cut_20 : decode cX12_cut 20 = .ok (.goto 15, 3) := by decide +kernel
theorem dX12_cut_23 : decode cX12_cut 23 = .ok (.iload_n 2, 1) := by decide +kernel
theorem dX12_cut_24 : decode cX12_cut 24 = .ok (.iconst 2, 1) := by decide +kernel
theorem dX12_cut_25 : decode cX12_cut 25 = .ok (.if_icmp .ne 9, 3) := by decide +kernel
theorem dX12_cut_28 : decode cX12_cut 28 = .ok (.lload_n 0, 1) := by decide +kernel
theorem dX12_cut_29 : decode cX12_cut 29 = .ok (.l2i, 1) := by decide +kernel
theorem dX12_cut_30 : decode cX12_cut 30 = .ok (.i2l, 1) := by decide +kernel
theorem dX12_cut_31 : decode cX12_cut 31 = .ok (.goto 4, 3) := by decide +kernel
theorem dX12_cut_34 : decode cX12_cut 34 = .ok (.lload_n 0, 1) := by decide +kernel
theorem dX12_cut_35 : decode cX12_cut 35 = .ok (.lreturn, 1) := by decide +kernel
theorem dX12_write_0 : decode cX12_write 0 = .ok (.aload_n 0, 1) := by decide +kernel
theorem dX12_write_1 : decode cX12_write 1 = .ok (.iload_n 1, 1) := by decide +kernel
theorem dX12_write_2 : decode cX12_write 2 = .ok (.iload_n 2, 1) := by decide +kernel
theorem dX12_write_3 : decode cX12_write 3 = .ok (.invokevirtual 92, 3) := by decide +kernel
theorem dX12_write_6 : decode cX12_write 6 = .ok (.istore 5, 2) := by decide +kernel
theorem dX12_write_8 : decode cX12_write 8 = .ok (.iload 5, 2) := by decide +kernel
theorem dX12_write_10 : decode cX12_write 10 = .ok (.ifCond .ne 24, 3) := by decide +kernel
theorem dX12_write_13 : decode cX12_write 13 = .ok (.aload_n 0, 1) := by decide +kernel
theorem dX12_write_14 : decode cX12_write 14 = .ok (.getfield 27, 3) := by decide +kernel
theorem dX12_write_17 : decode cX12_write 17 = .ok (.bipush 60, 2) := by decide +kernel
theorem dX12_write_19 : decode cX12_write 19 = .ok (.iload_n 1, 1) := by decide +kernel
theorem dX12_write_20 : decode cX12_write 20 = .ok (.imul, 1) := by decide +kernel
theorem dX12_write_21 : decode cX12_write 21 = .ok (.iload_n 2, 1) := by decide +kernel
theorem dX12_write_22 : decode cX12_write 22 = .ok (.iadd, 1) := by decide +kernel
theorem dX12_write_23 : decode cX12_write 23 = .ok (.lload_n 3, 1) := by decide +kernel
theorem dX12_write_24 : decode cX12_write 24 = .ok (.aload_n 0, 1) := by decide +kernel
theorem dX12_write_25 : decode cX12_write 25 = .ok (.getfield 21, 3) := by decide +kernel
theorem dX12_write_28 : decode cX12_write 28 = .ok (.iload_n 1, 1) := by decide +kernel
theorem dX12_write_29 : decode cX12_write 29 = .ok (.iaload, 1) := by decide +kernel
theorem dX12_write_30 : decode cX12_write 30 = .ok (.invokestatic 96, 3) := by decide +kernel
theorem dX12_write_33 : decode cX12_write 33 = .ok (.lastore, 1) := by decide +kernel
theorem dX12_write_34 : decode cX12_write 34 = .ok (.aload_n 0, 1) := by decide +kernel
theorem dX12_write_35 : decode cX12_write 35 = .ok (.iload 5, 2) := by decide +kernel
theorem dX12_write_37 : decode cX12_write 37 = .ok (.invokevirtual 85, 3) := by decide +kernel
theorem dX12_write_40 : decode cX12_write 40 = .ok (.ireturn, 1) := by decide +kernel
