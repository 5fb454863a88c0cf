/-! what each instruction decodes to (printed by TURN) -/
theorem dX11_safe_93 : decode cX11_safe 93 = .ok (.ireturn, 1) := by decide +kernel
theorem dX11_seen_0 : decode cX11_seen 0 = .ok (.aload_n 0, 1) := by decide +kernel
theorem dX11_seen_1 : decode cX11_seen 1 = .ok (.getfield 69, 3) := by decide +kernel
theorem dX11_seen_4 : decode cX11_seen 4 = .ok (.iload_n 1, 1) := by decide +kernel
theorem dX11_seen_5 : decode cX11_seen 5 = .ok (.invokevirtual 216, 3) := by decide +kernel
theorem dX11_seen_8 : decode cX11_seen 8 = .ok (.astore_n 3, 1) := by decide +kernel
theorem dX11_seen_9 : decode cX11_seen 9 = .ok (.aload_n 3, 1) := by decide +kernel
theorem dX11_seen_10 : decode cX11_seen 10 = .ok (.ifnull 13, 3) := by decide +kernel
theorem dX11_seen_13 : decode cX11_seen 13 = .ok (.iload_n 2, 1) := by decide +kernel
theorem dX11_seen_14 : decode cX11_seen 14 = .ok (.ifCond .lt 9, 3) := by decide +kernel
theorem dX11_seen_17 : decode cX11_seen 17 = .ok (.iload_n 2, 1) := by decide +kernel
theorem dX11_seen_18 : decode cX11_seen 18 = .ok (.bipush 40, 2) := by decide +kernel
theorem dX11_seen_20 : decode cX11_seen 20 = .ok (.if_icmp .le 9, 3) := by decide +kernel
theorem dX11_seen_23 : decode cX11_seen 23 = .ok (.aload_n 0, 1) := by decide +kernel
theorem dX11_seen_24 : decode cX11_seen 24 = .ok (.iconst 1, 1) := by decide +kernel
theorem dX11_seen_25 : decode cX11_seen 25 = .ok (.invokevirtual 100, 3) := by decide +kernel
theorem dX11_seen_28 : decode cX11_seen 28 = .ok (.ireturn, 1) := by decide +kernel
theorem dX11_seen_29 : decode cX11_seen 29 = .ok (.aload_n 0, 1) := by decide +kernel
theorem dX11_seen_30 : decode cX11_seen 30 = .ok (.aload_n 0, 1) := by decide +kernel
theorem dX11_seen_31 : decode cX11_seen 31 = .ok (.getfield 69, 3) := by decide +kernel
theorem dX11_seen_34 : decode cX11_seen 34 = .ok (.aload_n 3, 1) := by decide +kernel
theorem dX11_seen_35 : decode cX11_seen 35 = .ok (.iload_n 2, 1) := by decide +kernel
theorem dX11_seen_36 : decode cX11_seen 36 = .ok (.invokevirtual 338, 3) := by decide +kernel
theorem dX11_seen_39 : decode cX11_seen 39 = .ok (.invokevirtual 96, 3) := by decide +kernel
theorem dX11_seen_42 : decode cX11_seen 42 = .ok (.ireturn, 1) := by decide +kernel
theorem dX11_set_0 : decode cX11_set 0 = .ok (.aload_n 0, 1) := by decide +kernel
theorem dX11_set_1 : decode cX11_set 1 = .ok (.aload_n 0, 1) := by decide +kernel
theorem dX11_set_2 : decode cX11_set 2 = .ok (.getfield 69, 3) := by decide +kernel
theorem dX11_set_5 : decode cX11_set 5 = .ok (.iload_n 1, 1) := by decide +kernel
theorem dX11_set_6 : decode cX11_set 6 = .ok (.iload_n 2, 1) := by decide +kernel
theorem dX11_set_7 : decode cX11_set 7 = .ok (.invokevirtual 269, 3) := by decide +kernel
theorem dX11_set_10 : decode cX11_set 10 = .ok (.invokevirtual 263, 3) := by decide +kernel
theorem dX11_set_13 : decode cX11_set 13 = .ok (.ireturn, 1) := by decide +kernel
theorem dX11_soonest_0 : decode cX11_soonest 0 = .ok (.aload_n 0, 1) := by decide +kernel
theorem dX11_soonest_1 : decode cX11_soonest 1 = .ok (.getfield 69, 3) := by decide +kernel
theorem dX11_soonest_4 : decode cX11_soonest 4 = .ok (.iload_n 2, 1) := by decide +kernel
theorem dX11_soonest_5 : decode cX11_soonest 5 = .ok (.invokevirtual 237, 3) := by decide +kernel
theorem dX11_soonest_8 : decode cX11_soonest 8 = .ok (.astore_n 3, 1) := by decide +kernel
theorem dX11_soonest_9 : decode cX11_soonest 9 = .ok (.aload_n 0, 1) := by decide +kernel
theorem dX11_soonest_10 : decode cX11_soonest 10 = .ok (.getfield 69, 3) := by decide +kernel
theorem dX11_soonest_13 : decode cX11_soonest 13 = .ok (.iload_n 1, 1) := by decide +kernel
theorem dX11_soonest_14 : decode cX11_soonest 14 = .ok (.invokevirtual 216, 3) := by decide +kernel
theorem dX11_soonest_17 : decode cX11_soonest 17 = .ok (.ifnull 7, 3) := by decide +kernel
theorem dX11_soonest_20 : decode cX11_soonest 20 = .ok (.aload_n 3, 1) := by decide +kernel
theorem dX11_soonest_21 : decode cX11_soonest 21 = .ok (.ifnonnull 9, 3) := by decide +kernel
theorem dX11_soonest_24 : decode cX11_soonest 24 = .ok (.aload_n 0, 1) := by decide +kernel
theorem dX11_soonest_25 : decode cX11_soonest 25 = .ok (.iconst 1, 1) := by decide +kernel
theorem dX11_soonest_26 : decode cX11_soonest 26 = .ok (.invokevirtual 100, 3) := by decide +kernel
theorem dX11_soonest_29 : decode cX11_soonest 29 = .ok (.ireturn, 1) := by decide +kernel
theorem dX11_soonest_30 : decode cX11_soonest 30 = .ok (.aload_n 0, 1) := by decide +kernel
theorem dX11_soonest_31 : decode cX11_soonest 31 = .ok (.getfield 69, 3) := by decide +kernel
theorem dX11_soonest_34 : decode cX11_soonest 34 = .ok (.iload_n 1, 1) := by decide +kernel
theorem dX11_soonest_35 : decode cX11_soonest 35 = .ok (.aload_n 3, 1) := by decide +kernel
theorem dX11_soonest_36 : decode cX11_soonest 36 = .ok (.invokevirtual 315, 3) := by decide +kernel
theorem dX11_soonest_39 : decode cX11_soonest 39 = .ok (.istore 4, 2) := by decide +kernel
theorem dX11_soonest_41 : decode cX11_soonest 41 = .ok (.iload 4, 2) := by decide +kernel
theorem dX11_soonest_43 : decode cX11_soonest 43 = .ok (.iconst (-1), 1) := by decide +kernel
theorem dX11_soonest_44 : decode cX11_soonest 44 = .ok (.if_icmp .ne 12, 3) := by decide +kernel
theorem dX11_soonest_47 : decode cX11_soonest 47 = .ok (.aload_n 0, 1) := by decide +kernel
theorem dX11_soonest_48 : decode cX11_soonest 48 = .ok (.bipush 7, 2) := by decide +kernel
theorem dX11_soonest_50 : decode cX11_soonest 50 = .ok (.invokevirtual 100, 3) := by decide +kernel
theorem dX11_soonest_53 : decode cX11_soonest 53 = .ok (.goto 9, 3) := by decide +kernel
theorem dX11_soonest_56 : decode cX11_soonest 56 = .ok (.aload_n 0, 1) := by decide +kernel
theorem dX11_soonest_57 : decode cX11_soonest 57 = .ok (.iload 4, 2) := by decide +kernel
theorem dX11_soonest_59 : decode cX11_soonest 59 = .ok (.invokevirtual 96, 3) := by decide +kernel
theorem dX11_soonest_62 : decode cX11_soonest 62 = .ok (.ireturn, 1) := by decide +kernel
theorem dX11_status_0 : decode cX11_status 0 = .ok (.aload_n 0, 1) := by decide +kernel
theorem dX11_status_1 : decode cX11_status 1 = .ok (.getfield 89, 3) := by decide +kernel
theorem dX11_status_4 : decode cX11_status 4 = .ok (.ireturn, 1) := by decide +kernel
theorem dX11_strewn_0 : decode cX11_strewn 0 = .ok (.aload_n 0, 1) := by decide +kernel
theorem dX11_strewn_1 : decode cX11_strewn 1 = .ok (.getfield 69, 3) := by decide +kernel
theorem dX11_strewn_4 : decode cX11_strewn 4 = .ok (.iload_n 1, 1) := by decide +kernel
theorem dX11_strewn_5 : decode cX11_strewn 5 = .ok (.invokevirtual 216, 3) := by decide +kernel
theorem dX11_strewn_8 : decode cX11_strewn 8 = .ok (.ifnonnull 11, 3) := by decide +kernel
theorem dX11_strewn_11 : decode cX11_strewn 11 = .ok (.aload_n 0, 1) := by decide +kernel
theorem dX11_strewn_12 : decode cX11_strewn 12 = .ok (.iconst 1, 1) := by decide +kernel
theorem dX11_strewn_13 : decode cX11_strewn 13 = .ok (.invokevirtual 100, 3) := by decide +kernel
theorem dX11_strewn_16 : decode cX11_strewn 16 = .ok (.goto 15, 3) := by decide +kernel
theorem dX11_strewn_19 : decode cX11_strewn 19 = .ok (.aload_n 0, 1) := by decide +kernel
theorem dX11_strewn_20 : decode cX11_strewn 20 = .ok (.aload_n 0, 1) := by decide +kernel
theorem dX11_strewn_21 : decode cX11_strewn 21 = .ok (.getfield 69, 3) := by decide +kernel
theorem dX11_strewn_24 : decode cX11_strewn 24 = .ok (.iload_n 1, 1) := by decide +kernel
theorem dX11_strewn_25 : decode cX11_strewn 25 = .ok (.invokevirtual 312, 3) := by decide +kernel
theorem dX11_strewn_28 : decode cX11_strewn 28 = .ok (.invokevirtual 96, 3) := by decide +kernel
theorem dX11_strewn_31 : decode cX11_strewn 31 = .ok (.ireturn, 1) := by decide +kernel
theorem dX11_tally_0 : decode cX11_tally 0 = .ok (.aload_n 0, 1) := by decide +kernel
theorem dX11_tally_1 : decode cX11_tally 1 = .ok (.getfield 69, 3) := by decide +kernel
theorem dX11_tally_4 : decode cX11_tally 4 = .ok (.iload_n 1, 1) := by decide +kernel
theorem dX11_tally_5 : decode cX11_tally 5 = .ok (.invokevirtual 237, 3) := by decide +kernel
theorem dX11_tally_8 : decode cX11_tally 8 = .ok (.astore_n 3, 1) := by decide +kernel
theorem dX11_tally_9 : decode cX11_tally 9 = .ok (.aload_n 3, 1) := by decide +kernel
theorem dX11_tally_10 : decode cX11_tally 10 = .ok (.ifnull 14, 3) := by decide +kernel
theorem dX11_tally_13 : decode cX11_tally 13 = .ok (.aload_n 0, 1) := by decide +kernel
theorem dX11_tally_14 : decode cX11_tally 14 = .ok (.getfield 69, 3) := by decide +kernel
theorem dX11_tally_17 : decode cX11_tally 17 = .ok (.iload_n 2, 1) := by decide +kernel
theorem dX11_tally_18 : decode cX11_tally 18 = .ok (.invokevirtual 216, 3) := by decide +kernel
theorem dX11_tally_21 : decode cX11_tally 21 = .ok (.ifnonnull 9, 3) := by decide +kernel
theorem dX11_tally_24 : decode cX11_tally 24 = .ok (.aload_n 0, 1) := by decide +kernel
theorem dX11_tally_25 : decode cX11_tally 25 = .ok (.iconst 1, 1) := by decide +kernel
theorem dX11_tally_26 : decode cX11_tally 26 = .ok (.invokevirtual 100, 3) := by decide +kernel
theorem dX11_tally_29 : decode cX11_tally 29 = .ok (.ireturn, 1) := by decide +kernel
theorem dX11_tally_30 : decode cX11_tally 30 = .ok (.aload_n 0, 1) := by decide +kernel
theorem dX11_tally_31 : decode cX11_tally 31 = .ok (.aload_n 3, 1) := by decide +kernel
theorem dX11_tally_32 : decode cX11_tally 32 = .ok (.iload_n 2, 1) := by decide +kernel
theorem dX11_tally_33 : decode cX11_tally 33 = .ok (.invokevirtual 377, 3) := by decide +kernel
theorem dX11_tally_36 : decode cX11_tally 36 = .ok (.invokevirtual 96, 3) := by decide +kernel
theorem dX11_tally_39 : decode cX11_tally 39 = .ok (.ireturn, 1) := by decide +kernel
theorem dX11_threat_0 : decode cX11_threat 0 = .ok (.aload_n 0, 1) := by decide +kernel
theorem dX11_threat_1 : decode cX11_threat 1 = .ok (.getfield 69, 3) := by decide +kernel
theorem dX11_threat_4 : decode cX11_threat 4 = .ok (.iload_n 1, 1) := by decide +kernel
theorem dX11_threat_5 : decode cX11_threat 5 = .ok (.invokevirtual 237, 3) := by decide +kernel
theorem dX11_threat_8 : decode cX11_threat 8 = .ok (.astore_n 2, 1) := by decide +kernel
theorem dX11_threat_9 : decode cX11_threat 9 = .ok (.aload_n 2, 1) := by decide +kernel
theorem dX11_threat_10 : decode cX11_threat 10 = .ok (.ifnonnull 9, 3) := by decide +kernel
theorem dX11_threat_13 : decode cX11_threat 13 = .ok (.aload_n 0, 1) := by decide +kernel
theorem dX11_threat_14 : decode cX11_threat 14 = .ok (.iconst 1, 1) := by decide +kernel
theorem dX11_threat_15 : decode cX11_threat 15 = .ok (.invokevirtual 100, 3) := by decide +kernel
theorem dX11_threat_18 : decode cX11_threat 18 = .ok (.ireturn, 1) := by decide +kernel
theorem dX11_threat_19 : decode cX11_threat 19 = .ok (.aload_n 2, 1) := by decide +kernel
theorem dX11_threat_20 : decode cX11_threat 20 = .ok (.getfield 287, 3) := by decide +kernel
theorem dX11_threat_23 : decode cX11_threat 23 = .ok (.ifCond .eq 18, 3) := by decide +kernel
theorem dX11_threat_26 : decode cX11_threat 26 = .ok (.aload_n 0, 1) := by decide +kernel
theorem dX11_threat_27 : decode cX11_threat 27 = .ok (.aload_n 0, 1) := by decide +kernel
theorem dX11_threat_28 : decode cX11_threat 28 = .ok (.getfield 69, 3) := by decide +kernel
theorem dX11_threat_31 : decode cX11_threat 31 = .ok (.aload_n 2, 1) := by decide +kernel
theorem dX11_threat_32 : decode cX11_threat 32 = .ok (.invokevirtual 319, 3) := by decide +kernel
theorem dX11_threat_35 : decode cX11_threat 35 = .ok (.invokevirtual 96, 3) := by decide +kernel
theorem dX11_threat_38 : decode cX11_threat 38 = .ok (.goto 9, 3) := by decide +kernel
theorem dX11_threat_41 : decode cX11_threat 41 = .ok (.aload_n 0, 1) := by decide +kernel
theorem dX11_threat_42 : decode cX11_threat 42 = .ok (.bipush 7, 2) := by decide +kernel
theorem dX11_threat_44 : decode cX11_threat 44 = .ok (.invokevirtual 100, 3) := by decide +kernel
theorem dX11_threat_47 : decode cX11_threat 47 = .ok (.ireturn, 1) := by decide +kernel
theorem dX11_tide_0 : decode cX11_tide 0 = .ok (.aload_n 0, 1) := by decide +kernel
theorem dX11_tide_1 : decode cX11_tide 1 = .ok (.aload_n 0, 1) := by decide +kernel
theorem dX11_tide_2 : decode cX11_tide 2 = .ok (.getfield 69, 3) := by decide +kernel
theorem dX11_tide_5 : decode cX11_tide 5 = .ok (.invokevirtual 281, 3) := by decide +kernel
theorem dX11_tide_8 : decode cX11_tide 8 = .ok (.invokevirtual 263, 3) := by decide +kernel
theorem dX11_tide_11 : decode cX11_tide 11 = .ok (.ireturn, 1) := by decide +kernel
theorem dX11_tideIn_0 : decode cX11_tideIn 0 = .ok (.iload_n 1, 1) := by decide +kernel
theorem dX11_tideIn_1 : decode cX11_tideIn 1 = .ok (.ifCond .lt 9, 3) := by decide +kernel
theorem dX11_tideIn_4 : decode cX11_tideIn 4 = .ok (.iload_n 1, 1) := by decide +kernel
theorem dX11_tideIn_5 : decode cX11_tideIn 5 = .ok (.bipush 99, 2) := by decide +kernel
theorem dX11_tideIn_7 : decode cX11_tideIn 7 = .ok (.if_icmp .le 11, 3) := by decide +kernel
theorem dX11_tideIn_10 : decode cX11_tideIn 10 = .ok (.aload_n 0, 1) := by decide +kernel
theorem dX11_tideIn_11 : decode cX11_tideIn 11 = .ok (.iconst 1, 1) := by decide +kernel
theorem dX11_tideIn_12 : decode cX11_tideIn 12 = .ok (.invokevirtual 100, 3) := by decide +kernel
theorem dX11_tideIn_15 : decode cX11_tideIn 15 = .ok (.goto 15, 3) := by decide +kernel
theorem dX11_tideIn_18 : decode cX11_tideIn 18 = .ok (.aload_n 0, 1) := by decide +kernel
theorem dX11_tideIn_19 : decode cX11_tideIn 19 = .ok (.aload_n 0, 1) := by decide +kernel
theorem dX11_tideIn_20 : decode cX11_tideIn 20 = .ok (.getfield 69, 3) := by decide +kernel
theorem dX11_tideIn_23 : decode cX11_tideIn 23 = .ok (.iload_n 1, 1) := by decide +kernel
theorem dX11_tideIn_24 : decode cX11_tideIn 24 = .ok (.invokevirtual 374, 3) := by decide +kernel
theorem dX11_tideIn_27 : decode cX11_tideIn 27 = .ok (.invokevirtual 96, 3) := by decide +kernel
theorem dX11_tideIn_30 : decode cX11_tideIn 30 = .ok (.ireturn, 1) := by decide +kernel
theorem dX11_time_0 : decode cX11_time 0 = .ok (.aload_n 0, 1) := by decide +kernel
theorem dX11_time_1 : decode cX11_time 1 = .ok (.getfield 69, 3) := by decide +kernel
theorem dX11_time_4 : decode cX11_time 4 = .ok (.iload_n 1, 1) := by decide +kernel
theorem dX11_time_5 : decode cX11_time 5 = .ok (.invokevirtual 216, 3) := by decide +kernel
theorem dX11_time_8 : decode cX11_time 8 = .ok (.astore_n 2, 1) := by decide +kernel
theorem dX11_time_9 : decode cX11_time 9 = .ok (.aload_n 2, 1) := by decide +kernel
theorem dX11_time_10 : decode cX11_time 10 = .ok (.ifnonnull 11, 3) := by decide +kernel
theorem dX11_time_13 : decode cX11_time 13 = .ok (.aload_n 0, 1) := by decide +kernel
theorem dX11_time_14 : decode cX11_time 14 = .ok (.iconst 1, 1) := by decide +kernel
theorem dX11_time_15 : decode cX11_time 15 = .ok (.invokevirtual 100, 3) := by decide +kernel
theorem dX11_time_18 : decode cX11_time 18 = .ok (.goto 19, 3) := by decide +kernel
theorem dX11_time_21 : decode cX11_time 21 = .ok (.aload_n 0, 1) := by decide +kernel
theorem dX11_time_22 : decode cX11_time 22 = .ok (.aload_n 0, 1) := by decide +kernel
theorem dX11_time_23 : decode cX11_time 23 = .ok (.getfield 69, 3) := by decide +kernel
theorem dX11_time_26 : decode cX11_time 26 = .ok (.getfield 197, 3) := by decide +kernel
theorem dX11_time_29 : decode cX11_time 29 = .ok (.aload_n 2, 1) := by decide +kernel
theorem dX11_time_30 : decode cX11_time 30 = .ok (.getfield 231, 3) := by decide +kernel
theorem dX11_time_33 : decode cX11_time 33 = .ok (.isub, 1) := by decide +kernel
theorem dX11_time_34 : decode cX11_time 34 = .ok (.invokevirtual 96, 3) := by decide +kernel
theorem dX11_time_37 : decode cX11_time 37 = .ok (.ireturn, 1) := by decide +kernel
theorem dX11_told_0 : decode cX11_told 0 = .ok (.iload_n 1, 1) := by decide +kernel
theorem dX11_told_1 : decode cX11_told 1 = .ok (.tableswitch 159 0 8 #[51, 63, 75, 87, 99, 111, 123, 135, 147], 51) := by decide +kernel
theorem dX11_told_52 : decode cX11_told 52 = .ok (.aload_n 0, 1) := by decide +kernel
theorem dX11_told_53 : decode cX11_told 53 = .ok (.aload_n 0, 1) := by decide +kernel
theorem dX11_told_54 : decode cX11_told 54 = .ok (.getfield 69, 3) := by decide +kernel
theorem dX11_told_57 : decode cX11_told 57 = .ok (.getfield 191, 3) := by decide +kernel
theorem dX11_told_60 : decode cX11_told 60 = .ok (.invokevirtual 96, 3) := by decide +kernel
theorem dX11_told_63 : decode cX11_told 63 = .ok (.ireturn, 1) := by decide +kernel
theorem dX11_told_64 : decode cX11_told 64 = .ok (.aload_n 0, 1) := by decide +kernel
theorem dX11_told_65 : decode cX11_told 65 = .ok (.aload_n 0, 1) := by decide +kernel
theorem dX11_told_66 : decode cX11_told 66 = .ok (.getfield 69, 3) := by decide +kernel
theorem dX11_told_69 : decode cX11_told 69 = .ok (.getfield 194, 3) := by decide +kernel
theorem dX11_told_72 : decode cX11_told 72 = .ok (.invokevirtual 96, 3) := by decide +kernel
theorem dX11_told_75 : decode cX11_told 75 = .ok (.ireturn, 1) := by decide +kernel
theorem dX11_told_76 : decode cX11_told 76 = .ok (.aload_n 0, 1) := by decide +kernel
theorem dX11_told_77 : decode cX11_told 77 = .ok (.aload_n 0, 1) := by decide +kernel
theorem dX11_told_78 : decode cX11_told 78 = .ok (.getfield 69, 3) := by decide +kernel
theorem dX11_told_81 : decode cX11_told 81 = .ok (.getfield 175, 3) := by decide +kernel
theorem dX11_told_84 : decode cX11_told 84 = .ok (.invokevirtual 96, 3) := by decide +kernel
theorem dX11_told_87 : decode cX11_told 87 = .ok (.ireturn, 1) := by decide +kernel
theorem dX11_told_88 : decode cX11_told 88 = .ok (.aload_n 0, 1) := by decide +kernel
theorem dX11_told_89 : decode cX11_told 89 = .ok (.aload_n 0, 1) := by decide +kernel
theorem dX11_told_90 : decode cX11_told 90 = .ok (.getfield 69, 3) := by decide +kernel
theorem dX11_told_93 : decode cX11_told 93 = .ok (.getfield 197, 3) := by decide +kernel
theorem dX11_told_96 : decode cX11_told 96 = .ok (.invokevirtual 96, 3) := by decide +kernel
theorem dX11_told_99 : decode cX11_told 99 = .ok (.ireturn, 1) := by decide +kernel
theorem dX11_told_100 : decode cX11_told 100 = .ok (.aload_n 0, 1) := by decide +kernel
theorem dX11_told_101 : decode cX11_told 101 = .ok (.aload_n 0, 1) := by decide +kernel
theorem dX11_told_102 : decode cX11_told 102 = .ok (.getfield 69, 3) := by decide +kernel
theorem dX11_told_105 : decode cX11_told 105 = .ok (.getfield 200, 3) := by decide +kernel
theorem dX11_told_108 : decode cX11_told 108 = .ok (.invokevirtual 96, 3) := by decide +kernel
theorem dX11_told_111 : decode cX11_told 111 = .ok (.ireturn, 1) := by decide +kernel
theorem dX11_told_112 : decode cX11_told 112 = .ok (.aload_n 0, 1) := by decide +kernel
theorem dX11_told_113 : decode cX11_told 113 = .ok (.aload_n 0, 1) := by decide +kernel
theorem dX11_told_114 : decode cX11_told 114 = .ok (.getfield 69, 3) := by decide +kernel
theorem dX11_told_117 : decode cX11_told 117 = .ok (.getfield 203, 3) := by decide +kernel
theorem dX11_told_120 : decode cX11_told 120 = .ok (.invokevirtual 96, 3) := by decide +kernel
theorem dX11_told_123 : decode cX11_told 123 = .ok (.ireturn, 1) := by decide +kernel
theorem dX11_told_124 : decode cX11_told 124 = .ok (.aload_n 0, 1) := by decide +kernel
theorem dX11_told_125 : decode cX11_told 125 = .ok (.aload_n 0, 1) := by decide +kernel
theorem dX11_told_126 : decode cX11_told 126 = .ok (.getfield 69, 3) := by decide +kernel
theorem dX11_told_129 : decode cX11_told 129 = .ok (.getfield 206, 3) := by decide +kernel
theorem dX11_told_132 : decode cX11_told 132 = .ok (.invokevirtual 96, 3) := by decide +kernel
theorem dX11_told_135 : decode cX11_told 135 = .ok (.ireturn, 1) := by decide +kernel
theorem dX11_told_136 : decode cX11_told 136 = .ok (.aload_n 0, 1) := by decide +kernel
theorem dX11_told_137 : decode cX11_told 137 = .ok (.aload_n 0, 1) := by decide +kernel
theorem dX11_told_138 : decode cX11_told 138 = .ok (.getfield 69, 3) := by decide +kernel
theorem dX11_told_141 : decode cX11_told 141 = .ok (.invokevirtual 209, 3) := by decide +kernel
theorem dX11_told_144 : decode cX11_told 144 = .ok (.invokevirtual 96, 3) := by decide +kernel
theorem dX11_told_147 : decode cX11_told 147 = .ok (.ireturn, 1) := by decide +kernel
theorem dX11_told_148 : decode cX11_told 148 = .ok (.aload_n 0, 1) := by decide +kernel
theorem dX11_told_149 : decode cX11_told 149 = .ok (.aload_n 0, 1) := by decide +kernel
theorem dX11_told_150 : decode cX11_told 150 = .ok (.getfield 69, 3) := by decide +kernel
theorem dX11_told_153 : decode cX11_told 153 = .ok (.invokevirtual 213, 3) := by decide +kernel
theorem dX11_told_156 : decode cX11_told 156 = .ok (.invokevirtual 96, 3) := by decide +kernel
theorem dX11_told_159 : decode cX11_told 159 = .ok (.ireturn, 1) := by decide +kernel
theorem dX11_told_160 : decode cX11_told 160 = .ok (.aload_n 0, 1) := by decide +kernel
theorem dX11_told_161 : decode cX11_told 161 = .ok (.iconst 1, 1) := by decide +kernel
theorem dX11_told_162 : decode cX11_told 162 = .ok (.invokevirtual 100, 3) := by decide +kernel
theorem dX11_told_165 : decode cX11_told 165 = .ok (.ireturn, 1) := by decide +kernel
theorem dX11_top_0 : decode cX11_top 0 = .ok (.aload_n 0, 1) := by decide +kernel
theorem dX11_top_1 : decode cX11_top 1 = .ok (.getfield 103, 3) := by decide +kernel
theorem dX11_top_4 : decode cX11_top 4 = .ok (.lreturn, 1) := by decide +kernel
theorem dX9_lay_0 : decode cX9_lay 0 = .ok (.aload_n 0, 1) := by decide +kernel
theorem dX9_lay_1 : decode cX9_lay 1 = .ok (.iconst 0, 1) := by decide +kernel
theorem dX9_lay_2 : decode cX9_lay 2 = .ok (.putfield 13, 3) := by decide +kernel
theorem dX9_lay_5 : decode cX9_lay 5 = .ok (.aload_n 0, 1) := by decide +kernel
theorem dX9_lay_6 : decode cX9_lay 6 = .ok (.iload_n 1, 1) := by decide +kernel
theorem dX9_lay_7 : decode cX9_lay 7 = .ok (.putfield 17, 3) := by decide +kernel
theorem dX9_lay_10 : decode cX9_lay 10 = .ok (.aload_n 0, 1) := by decide +kernel
theorem dX9_lay_11 : decode cX9_lay 11 = .ok (.iload_n 2, 1) := by decide +kernel
theorem dX9_lay_12 : decode cX9_lay 12 = .ok (.putfield 21, 3) := by decide +kernel
theorem dX9_lay_15 : decode cX9_lay 15 = .ok (.iconst 0, 1) := by decide +kernel
theorem dX9_lay_16 : decode cX9_lay 16 = .ok (.istore_n 3, 1) := by decide +kernel
theorem dX9_lay_17 : decode cX9_lay 17 = .ok (.iload_n 3, 1) := by decide +kernel
theorem dX9_lay_18 : decode cX9_lay 18 = .ok (.bipush 60, 2) := by decide +kernel
theorem dX9_lay_20 : decode cX9_lay 20 = .ok (.if_icmp .ge 16, 3) := by decide +kernel
theorem dX9_lay_23 : decode cX9_lay 23 = .ok (.aload_n 0, 1) := by decide +kernel
theorem dX9_lay_24 : decode cX9_lay 24 = .ok (.getfield 9, 3) := by decide +kernel
theorem dX9_lay_27 : decode cX9_lay 27 = .ok (.iload_n 3, 1) := by decide +kernel
theorem dX9_lay_28 : decode cX9_lay 28 = .ok (.lconst 0, 1) := by decide +kernel
theorem dX9_lay_29 : decode cX9_lay 29 = .ok (.lastore, 1) := by decide +kernel
theorem dX9_lay_30 : decode cX9_lay 30 = .ok (.iinc 3 1, 3) := by decide +kernel
theorem dX9_lay_33 : decode cX9_lay 33 = .ok (.goto (-16), 3) := by decide +kernel
theorem dX9_lay_36 : decode cX9_lay 36 = .ok (.return_, 1) := by decide +kernel
theorem dX11_tray_0 : decode cX11_tray 0 = .ok (.aload_n 0, 1) := by decide +kernel
theorem dX11_tray_1 : decode cX11_tray 1 = .ok (.iload_n 1, 1) := by decide +kernel
theorem dX11_tray_2 : decode cX11_tray 2 = .ok (.invokevirtual 110, 3) := by decide +kernel
theorem dX11_tray_5 : decode cX11_tray 5 = .ok (.astore 4, 2) := by decide +kernel
theorem dX11_tray_7 : decode cX11_tray 7 = .ok (.aload 4, 2) := by decide +kernel
theorem dX11_tray_9 : decode cX11_tray 9 = .ok (.ifnull 22, 3) := by decide +kernel
theorem dX11_tray_12 : decode cX11_tray 12 = .ok (.iload_n 2, 1) := by decide +kernel
theorem dX11_tray_13 : decode cX11_tray 13 = .ok (.ifCond .lt 18, 3) := by decide +kernel
theorem dX11_tray_16 : decode cX11_tray 16 = .ok (.iload_n 2, 1) := by decide +kernel
theorem dX11_tray_17 : decode cX11_tray 17 = .ok (.iconst 3, 1) := by decide +kernel
theorem dX11_tray_18 : decode cX11_tray 18 = .ok (.if_icmp .gt 13, 3) := by decide +kernel
theorem dX11_tray_21 : decode cX11_tray 21 = .ok (.iload_n 3, 1) := by decide +kernel
theorem dX11_tray_22 : decode cX11_tray 22 = .ok (.ifCond .lt 9, 3) := by decide +kernel
theorem dX11_tray_25 : decode cX11_tray 25 = .ok (.iload_n 3, 1) := by decide +kernel
theorem dX11_tray_26 : decode cX11_tray 26 = .ok (.bipush 60, 2) := by decide +kernel
theorem dX11_tray_28 : decode cX11_tray 28 = .ok (.if_icmp .le 9, 3) := by decide +kernel
theorem dX11_tray_31 : decode cX11_tray 31 = .ok (.aload_n 0, 1) := by decide +kernel
theorem dX11_tray_32 : decode cX11_tray 32 = .ok (.iconst 1, 1) := by decide +kernel
theorem dX11_tray_33 : decode cX11_tray 33 = .ok (.invokevirtual 114, 3) := by decide +kernel
theorem dX11_tray_36 : decode cX11_tray 36 = .ok (.ireturn, 1) := by decide +kernel
theorem dX11_tray_37 : decode cX11_tray 37 = .ok (.aload 4, 2) := by decide +kernel
theorem dX11_tray_39 : decode cX11_tray 39 = .ok (.iload_n 2, 1) := by decide +kernel
theorem dX11_tray_40 : decode cX11_tray 40 = .ok (.iload_n 3, 1) := by decide +kernel
theorem dX11_tray_41 : decode cX11_tray 41 = .ok (.invokevirtual 118, 3) := by decide +kernel
theorem dX11_tray_44 : decode cX11_tray 44 = .ok (.aload_n 0, 1) := by decide +kernel
theorem dX11_tray_45 : decode cX11_tray 45 = .ok (.invokevirtual 122, 3) := by decide +kernel
theorem dX11_tray_48 : decode cX11_tray 48 = .ok (.ireturn, 1) := by decide +kernel
theorem dX11_walk_0 : decode cX11_walk 0 = .ok (.aload_n 0, 1) := by decide +kernel
theorem dX11_walk_1 : decode cX11_walk 1 = .ok (.getfield 69, 3) := by decide +kernel
theorem dX11_walk_4 : decode cX11_walk 4 = .ok (.iload_n 1, 1) := by decide +kernel
theorem dX11_walk_5 : decode cX11_walk 5 = .ok (.invokevirtual 216, 3) := by decide +kernel
theorem dX11_walk_8 : decode cX11_walk 8 = .ok (.astore_n 3, 1) := by decide +kernel
theorem dX11_walk_9 : decode cX11_walk 9 = .ok (.aload_n 0, 1) := by decide +kernel
theorem dX11_walk_10 : decode cX11_walk 10 = .ok (.getfield 69, 3) := by decide +kernel
theorem dX11_walk_13 : decode cX11_walk 13 = .ok (.iload_n 2, 1) := by decide +kernel
theorem dX11_walk_14 : decode cX11_walk 14 = .ok (.invokevirtual 237, 3) := by decide +kernel
theorem dX11_walk_17 : decode cX11_walk 17 = .ok (.astore 4, 2) := by decide +kernel
theorem dX11_walk_19 : decode cX11_walk 19 = .ok (.aload_n 3, 1) := by decide +kernel
theorem dX11_walk_20 : decode cX11_walk 20 = .ok (.ifnull 8, 3) := by decide +kernel
theorem dX11_walk_23 : decode cX11_walk 23 = .ok (.aload 4, 2) := by decide +kernel
theorem dX11_walk_25 : decode cX11_walk 25 = .ok (.ifnonnull 11, 3) := by decide +kernel
theorem dX11_walk_28 : decode cX11_walk 28 = .ok (.aload_n 0, 1) := by decide +kernel
theorem dX11_walk_29 : decode cX11_walk 29 = .ok (.iconst 1, 1) := by decide +kernel
theorem dX11_walk_30 : decode cX11_walk 30 = .ok (.invokevirtual 100, 3) := by decide +kernel
theorem dX11_walk_33 : decode cX11_walk 33 = .ok (.goto 16, 3) := by decide +kernel
theorem dX11_walk_36 : decode cX11_walk 36 = .ok (.aload_n 0, 1) := by decide +kernel
theorem dX11_walk_37 : decode cX11_walk 37 = .ok (.aload_n 3, 1) := by decide +kernel
theorem dX11_walk_38 : decode cX11_walk 38 = .ok (.aload 4, 2) := by decide +kernel
theorem dX11_walk_40 : decode cX11_walk 40 = .ok (.getfield 241, 3) := by decide +kernel
theorem dX11_walk_43 : decode cX11_walk 43 = .ok (.invokevirtual 365, 3) := by decide +kernel
theorem dX11_walk_46 : decode cX11_walk 46 = .ok (.invokevirtual 96, 3) := by decide +kernel
theorem dX11_walk_49 : decode cX11_walk 49 = .ok (.ireturn, 1) := by decide +kernel
theorem dX11_wave_0 : decode cX11_wave 0 = .ok (.aload_n 0, 1) := by decide +kernel
theorem dX11_wave_1 : decode cX11_wave 1 = .ok (.aload_n 0, 1) := by decide +kernel
theorem dX11_wave_2 : decode cX11_wave 2 = .ok (.getfield 69, 3) := by decide +kernel
theorem dX11_wave_5 : decode cX11_wave 5 = .ok (.iload_n 1, 1) := by decide +kernel
theorem dX11_wave_6 : decode cX11_wave 6 = .ok (.invokevirtual 278, 3) := by decide +kernel
theorem dX11_wave_9 : decode cX11_wave 9 = .ok (.invokevirtual 263, 3) := by decide +kernel
theorem dX11_wave_12 : decode cX11_wave 12 = .ok (.ireturn, 1) := by decide +kernel
theorem dX11_whose_0 : decode cX11_whose 0 = .ok (.aload_n 0, 1) := by decide +kernel
theorem dX11_whose_1 : decode cX11_whose 1 = .ok (.getfield 69, 3) := by decide +kernel
theorem dX11_whose_4 : decode cX11_whose 4 = .ok (.iload_n 1, 1) := by decide +kernel
theorem dX11_whose_5 : decode cX11_whose 5 = .ok (.invokevirtual 237, 3) := by decide +kernel
theorem dX11_whose_8 : decode cX11_whose 8 = .ok (.astore_n 2, 1) := by decide +kernel
theorem dX11_whose_9 : decode cX11_whose 9 = .ok (.aload_n 2, 1) := by decide +kernel
theorem dX11_whose_10 : decode cX11_whose 10 = .ok (.ifnonnull 9, 3) := by decide +kernel
theorem dX11_whose_13 : decode cX11_whose 13 = .ok (.aload_n 0, 1) := by decide +kernel
theorem dX11_whose_14 : decode cX11_whose 14 = .ok (.iconst 1, 1) := by decide +kernel
theorem dX11_whose_15 : decode cX11_whose 15 = .ok (.invokevirtual 100, 3) := by decide +kernel
theorem dX11_whose_18 : decode cX11_whose 18 = .ok (.ireturn, 1) := by decide +kernel
theorem dX11_whose_19 : decode cX11_whose 19 = .ok (.aload_n 2, 1) := by decide +kernel
theorem dX11_whose_20 : decode cX11_whose 20 = .ok (.getfield 287, 3) := by decide +kernel
theorem dX11_whose_23 : decode cX11_whose 23 = .ok (.ifCond .eq 18, 3) := by decide +kernel
theorem dX11_whose_26 : decode cX11_whose 26 = .ok (.aload_n 0, 1) := by decide +kernel
theorem dX11_whose_27 : decode cX11_whose 27 = .ok (.aload_n 0, 1) := by decide +kernel
theorem dX11_whose_28 : decode cX11_whose 28 = .ok (.getfield 69, 3) := by decide +kernel
theorem dX11_whose_31 : decode cX11_whose 31 = .ok (.aload_n 2, 1) := by decide +kernel
theorem dX11_whose_32 : decode cX11_whose 32 = .ok (.invokevirtual 293, 3) := by decide +kernel
theorem dX11_whose_35 : decode cX11_whose 35 = .ok (.invokevirtual 96, 3) := by decide +kernel
theorem dX11_whose_38 : decode cX11_whose 38 = .ok (.goto 9, 3) := by decide +kernel
theorem dX11_whose_41 : decode cX11_whose 41 = .ok (.aload_n 0, 1) := by decide +kernel
theorem dX11_whose_42 : decode cX11_whose 42 = .ok (.bipush 7, 2) := by decide +kernel
theorem dX11_whose_44 : decode cX11_whose 44 = .ok (.invokevirtual 100, 3) := by decide +kernel
theorem dX11_whose_47 : decode cX11_whose 47 = .ok (.ireturn, 1) := by decide +kernel
theorem dX9_cut_0 : decode cX9_cut 0 = .ok (.aload_n 0, 1) := by decide +kernel
theorem dX9_cut_1 : decode cX9_cut 1 = .ok (.getfield 17, 3) := by decide +kernel
theorem dX9_cut_4 : decode cX9_cut 4 = .ok (.tableswitch 42 0 2 #[28, 33, 38], 28) := by decide +kernel
theorem dX9_cut_32 : decode cX9_cut 32 = .ok (.lload_n 1, 1) := by decide +kernel
theorem dX9_cut_33 : decode cX9_cut 33 = .ok (.l2i, 1) := by decide +kernel
theorem dX9_cut_34 : decode cX9_cut 34 = .ok (.i2b, 1) := by decide +kernel
theorem dX9_cut_35 : decode cX9_cut 35 = .ok (.i2l, 1) := by decide +kernel
theorem dX9_cut_36 : decode cX9_cut 36 = .ok (.lreturn, 1) := by decide +kernel
theorem dX9_cut_37 : decode cX9_cut 37 = .ok (.lload_n 1, 1) := by decide +kernel
theorem dX9_cut_38 : decode cX9_cut 38 = .ok (.l2i, 1) := by decide +kernel
theorem dX9_cut_39 : decode cX9_cut 39 = .ok (.i2s, 1) := by decide +kernel
theorem dX9_cut_40 : decode cX9_cut 40 = .ok (.i2l, 1) := by decide +kernel
theorem dX9_cut_41 : decode cX9_cut 41 = .ok (.lreturn, 1) := by decide +kernel
theorem dX9_cut_42 : decode cX9_cut 42 = .ok (.lload_n 1, 1) := by decide +kernel
theorem dX9_cut_43 : decode cX9_cut 43 = .ok (.l2i, 1) := by decide +kernel
theorem dX9_cut_44 : decode cX9_cut 44 = .ok (.i2l, 1) := by decide +kernel
theorem dX9_cut_45 : decode cX9_cut 45 = .ok (.lreturn, 1) := by decide +kernel
theorem dX9_cut_46 : decode cX9_cut 46 = .ok (.lload_n 1, 1) := by decide +kernel
theorem dX9_cut_47 : decode cX9_cut 47 = .ok (.lreturn, 1) := by decide +kernel
theorem dX9_put_0 : decode cX9_put 0 = .ok (.aload_n 0, 1) := by decide +kernel
theorem dX9_put_1 : decode cX9_put 1 = .ok (.iload_n 1, 1) := by decide +kernel
theorem dX9_put_2 : decode cX9_put 2 = .ok (.iconst 1, 1) := by decide +kernel
theorem dX9_put_3 : decode cX9_put 3 = .ok (.invokevirtual 24, 3) := by decide +kernel
theorem dX9_put_6 : decode cX9_put 6 = .ok (.ifCond .eq 14, 3) := by decide +kernel
theorem dX9_put_9 : decode cX9_put 9 = .ok (.aload_n 0, 1) := by decide +kernel
theorem dX9_put_10 : decode cX9_put 10 = .ok (.getfield 9, 3) := by decide +kernel
theorem dX9_put_13 : decode cX9_put 13 = .ok (.iload_n 1, 1) := by decide +kernel
theorem dX9_put_14 : decode cX9_put 14 = .ok (.aload_n 0, 1) := by decide +kernel
theorem dX9_put_15 : decode cX9_put 15 = .ok (.lload_n 2, 1) := by decide +kernel
theorem dX9_put_16 : decode cX9_put 16 = .ok (.invokevirtual 28, 3) := by decide +kernel
theorem dX9_put_19 : decode cX9_put 19 = .ok (.lastore, 1) := by decide +kernel
theorem dX9_put_20 : decode cX9_put 20 = .ok (.return_, 1) := by decide +kernel
theorem dX11_write_0 : decode cX11_write 0 = .ok (.aload_n 0, 1) := by decide +kernel
theorem dX11_write_1 : decode cX11_write 1 = .ok (.iload_n 1, 1) := by decide +kernel
theorem dX11_write_2 : decode cX11_write 2 = .ok (.invokevirtual 110, 3) := by decide +kernel
theorem dX11_write_5 : decode cX11_write 5 = .ok (.astore 5, 2) := by decide +kernel
theorem dX11_write_7 : decode cX11_write 7 = .ok (.aload 5, 2) := by decide +kernel
theorem dX11_write_9 : decode cX11_write 9 = .ok (.ifnonnull 9, 3) := by decide +kernel
theorem dX11_write_12 : decode cX11_write 12 = .ok (.aload_n 0, 1) := by decide +kernel
theorem dX11_write_13 : decode cX11_write 13 = .ok (.iconst 1, 1) := by decide +kernel
theorem dX11_write_14 : decode cX11_write 14 = .ok (.invokevirtual 114, 3) := by decide +kernel
theorem dX11_write_17 : decode cX11_write 17 = .ok (.ireturn, 1) := by decide +kernel
theorem dX11_write_18 : decode cX11_write 18 = .ok (.aload 5, 2) := by decide +kernel
theorem dX11_write_20 : decode cX11_write 20 = .ok (.getfield 126, 3) := by decide +kernel
theorem dX11_write_23 : decode cX11_write 23 = .ok (.ifCond .eq 9, 3) := by decide +kernel
theorem dX11_write_26 : decode cX11_write 26 = .ok (.aload_n 0, 1) := by decide +kernel
theorem dX11_write_27 : decode cX11_write 27 = .ok (.iconst 2, 1) := by decide +kernel
theorem dX11_write_28 : decode cX11_write 28 = .ok (.invokevirtual 114, 3) := by decide +kernel
theorem dX11_write_31 : decode cX11_write 31 = .ok (.ireturn, 1) := by decide +kernel
theorem dX11_write_32 : decode cX11_write 32 = .ok (.aload 5, 2) := by decide +kernel
theorem dX11_write_34 : decode cX11_write 34 = .ok (.iload_n 2, 1) := by decide +kernel
theorem dX11_write_35 : decode cX11_write 35 = .ok (.iconst 1, 1) := by decide +kernel
theorem dX11_write_36 : decode cX11_write 36 = .ok (.invokevirtual 130, 3) := by decide +kernel
theorem dX11_write_39 : decode cX11_write 39 = .ok (.ifCond .ne 9, 3) := by decide +kernel
theorem dX11_write_42 : decode cX11_write 42 = .ok (.aload_n 0, 1) := by decide +kernel
theorem dX11_write_43 : decode cX11_write 43 = .ok (.iconst 3, 1) := by decide +kernel
theorem dX11_write_44 : decode cX11_write 44 = .ok (.invokevirtual 114, 3) := by decide +kernel
theorem dX11_write_47 : decode cX11_write 47 = .ok (.ireturn, 1) := by decide +kernel
theorem dX11_write_48 : decode cX11_write 48 = .ok (.aload 5, 2) := by decide +kernel
theorem dX11_write_50 : decode cX11_write 50 = .ok (.iload_n 2, 1) := by decide +kernel
theorem dX11_write_51 : decode cX11_write 51 = .ok (.lload_n 3, 1) := by decide +kernel
theorem dX11_write_52 : decode cX11_write 52 = .ok (.invokevirtual 134, 3) := by decide +kernel
theorem dX11_write_55 : decode cX11_write 55 = .ok (.aload_n 0, 1) := by decide +kernel
theorem dX11_write_56 : decode cX11_write 56 = .ok (.invokevirtual 122, 3) := by decide +kernel
theorem dX11_write_59 : decode cX11_write 59 = .ok (.ireturn, 1) := by decide +kernel
theorem dX12_bits_0 : decode cX12_bits 0 = .ok (.iconst 0, 1) := by decide +kernel
theorem dX12_bits_1 : decode cX12_bits 1 = .ok (.istore_n 1, 1) := by decide +kernel
theorem dX12_bits_2 : decode cX12_bits 2 = .ok (.iload_n 0, 1) := by decide +kernel
theorem dX12_bits_3 : decode cX12_bits 3 = .ok (.istore_n 2, 1) := by decide +kernel
theorem dX12_bits_4 : decode cX12_bits 4 = .ok (.iload_n 2, 1) := by decide +kernel
theorem dX12_bits_5 : decode cX12_bits 5 = .ok (.ifCond .eq 15, 3) := by decide +kernel
theorem dX12_bits_8 : decode cX12_bits 8 = .ok (.iinc 1 1, 3) := by decide +kernel
theorem dX12_bits_11 : decode cX12_bits 11 = .ok (.iload_n 2, 1) := by decide +kernel
theorem dX12_bits_12 : decode cX12_bits 12 = .ok (.iload_n 2, 1) := by decide +kernel
theorem dX12_bits_13 : decode cX12_bits 13 = .ok (.iconst 1, 1) := by decide +kernel
theorem dX12_bits_14 : decode cX12_bits 14 = .ok (.isub, 1) := by decide +kernel
theorem dX12_bits_15 : decode cX12_bits 15 = .ok (.iand, 1) := by decide +kernel
theorem dX12_bits_16 : decode cX12_bits 16 = .ok (.istore_n 2, 1) := by decide +kernel
theorem dX12_bits_17 : decode cX12_bits 17 = .ok (.goto (-13), 3) := by decide +kernel
theorem dX12_bits_20 : decode cX12_bits 20 = .ok (.iload_n 1, 1) := by decide +kernel
theorem dX12_bits_21 : decode cX12_bits 21 = .ok (.ireturn, 1) := by decide +kernel
theorem dX12_gives_0 : decode cX12_gives 0 = .ok (.aload_n 0, 1) := by decide +kernel
theorem dX12_gives_1 : decode cX12_gives 1 = .ok (.iconst 0, 1) := by decide +kernel
theorem dX12_gives_2 : decode cX12_gives 2 = .ok (.putfield 72, 3) := by decide +kernel
theorem dX12_gives_5 : decode cX12_gives 5 = .ok (.iload_n 1, 1) := by decide +kernel
theorem dX12_gives_6 : decode cX12_gives 6 = .ok (.ireturn, 1) := by decide +kernel
theorem dX12_findRow_0 : decode cX12_findRow 0 = .ok (.iload_n 0, 1) := by decide +kernel
theorem dX12_findRow_1 : decode cX12_findRow 1 = .ok (.bipush 40, 2) := by decide +kernel
theorem dX12_findRow_3 : decode cX12_findRow 3 = .ok (.iadd, 1) := by decide +kernel
theorem dX12_findRow_4 : decode cX12_findRow 4 = .ok (.iconst 3, 1) := by decide +kernel
theorem dX12_findRow_5 : decode cX12_findRow 5 = .ok (.iload_n 1, 1) := by decide +kernel
theorem dX12_findRow_6 : decode cX12_findRow 6 = .ok (.imul, 1) := by decide +kernel
theorem dX12_findRow_7 : decode cX12_findRow 7 = .ok (.iadd, 1) := by decide +kernel
theorem dX12_findRow_8 : decode cX12_findRow 8 = .ok (.ireturn, 1) := by decide +kernel
theorem dX12_manyOn_0 : decode cX12_manyOn 0 = .ok (.aload_n 0, 1) := by decide +kernel
theorem dX12_manyOn_1 : decode cX12_manyOn 1 = .ok (.getfield 7, 3) := by decide +kernel
theorem dX12_manyOn_4 : decode cX12_manyOn 4 = .ok (.iconst 0, 1) := by decide +kernel
theorem dX12_manyOn_5 : decode cX12_manyOn 5 = .ok (.iload_n 1, 1) := by decide +kernel
theorem dX12_manyOn_6 : decode cX12_manyOn 6 = .ok (.invokestatic 171, 3) := by decide +kernel
theorem dX12_manyOn_9 : decode cX12_manyOn 9 = .ok (.iconst 2, 1) := by decide +kernel
theorem dX12_manyOn_10 : decode cX12_manyOn 10 = .ok (.iadd, 1) := by decide +kernel
theorem dX12_manyOn_11 : decode cX12_manyOn 11 = .ok (.iaload, 1) := by decide +kernel
theorem dX12_manyOn_12 : decode cX12_manyOn 12 = .ok (.ireturn, 1) := by decide +kernel
theorem dX12_pebbleRow_0 : decode cX12_pebbleRow 0 = .ok (.iload_n 0, 1) := by decide +kernel
theorem dX12_pebbleRow_1 : decode cX12_pebbleRow 1 = .ok (.bipush 64, 2) := by decide +kernel
theorem dX12_pebbleRow_3 : decode cX12_pebbleRow 3 = .ok (.iadd, 1) := by decide +kernel
theorem dX12_pebbleRow_4 : decode cX12_pebbleRow 4 = .ok (.bipush 120, 2) := by decide +kernel
theorem dX12_pebbleRow_6 : decode cX12_pebbleRow 6 = .ok (.iload_n 1, 1) := by decide +kernel
theorem dX12_pebbleRow_7 : decode cX12_pebbleRow 7 = .ok (.imul, 1) := by decide +kernel
theorem dX12_pebbleRow_8 : decode cX12_pebbleRow 8 = .ok (.iadd, 1) := by decide +kernel
theorem dX12_pebbleRow_9 : decode cX12_pebbleRow 9 = .ok (.iconst 2, 1) := by decide +kernel
theorem dX12_pebbleRow_10 : decode cX12_pebbleRow 10 = .ok (.iload_n 2, 1) := by decide +kernel
theorem dX12_pebbleRow_11 : decode cX12_pebbleRow 11 = .ok (.imul, 1) := by decide +kernel
theorem dX12_pebbleRow_12 : decode cX12_pebbleRow 12 = .ok (.iadd, 1) := by decide +kernel
theorem dX12_pebbleRow_13 : decode cX12_pebbleRow 13 = .ok (.ireturn, 1) := by decide +kernel
theorem dX12_whoAt_0 : decode cX12_whoAt 0 = .ok (.aload_n 0, 1) := by decide +kernel
theorem dX12_whoAt_1 : decode cX12_whoAt 1 = .ok (.getfield 7, 3) := by decide +kernel
theorem dX12_whoAt_4 : decode cX12_whoAt 4 = .ok (.iconst 0, 1) := by decide +kernel
theorem dX12_whoAt_5 : decode cX12_whoAt 5 = .ok (.iload_n 1, 1) := by decide +kernel
theorem dX12_whoAt_6 : decode cX12_whoAt 6 = .ok (.iload_n 2, 1) := by decide +kernel
theorem dX12_whoAt_7 : decode cX12_whoAt 7 = .ok (.invokestatic 174, 3) := by decide +kernel
theorem dX12_whoAt_10 : decode cX12_whoAt 10 = .ok (.iaload, 1) := by decide +kernel
theorem dX12_whoAt_11 : decode cX12_whoAt 11 = .ok (.ireturn, 1) := by decide +kernel
theorem dX12_alone_0 : decode cX12_alone 0 = .ok (.iconst 0, 1) := by decide +kernel
theorem dX12_alone_1 : decode cX12_alone 1 = .ok (.istore_n 1, 1) := by decide +kernel
theorem dX12_alone_2 : decode cX12_alone 2 = .ok (.iconst 0, 1) := by decide +kernel
theorem dX12_alone_3 : decode cX12_alone 3 = .ok (.istore_n 2, 1) := by decide +kernel
theorem dX12_alone_4 : decode cX12_alone 4 = .ok (.iload_n 2, 1) := by decide +kernel
theorem dX12_alone_5 : decode cX12_alone 5 = .ok (.aload_n 0, 1) := by decide +kernel
theorem dX12_alone_6 : decode cX12_alone 6 = .ok (.getfield 7, 3) := by decide +kernel
theorem dX12_alone_9 : decode cX12_alone 9 = .ok (.iconst 2, 1) := by decide +kernel
theorem dX12_alone_10 : decode cX12_alone 10 = .ok (.iaload, 1) := by decide +kernel
theorem dX12_alone_11 : decode cX12_alone 11 = .ok (.if_icmp .ge 60, 3) := by decide +kernel
theorem dX12_alone_14 : decode cX12_alone 14 = .ok (.iconst 0, 1) := by decide +kernel
theorem dX12_alone_15 : decode cX12_alone 15 = .ok (.istore_n 3, 1) := by decide +kernel
theorem dX12_alone_16 : decode cX12_alone 16 = .ok (.iconst 0, 1) := by decide +kernel
theorem dX12_alone_17 : decode cX12_alone 17 = .ok (.istore 4, 2) := by decide +kernel
theorem dX12_alone_19 : decode cX12_alone 19 = .ok (.iload 4, 2) := by decide +kernel
theorem dX12_alone_21 : decode cX12_alone 21 = .ok (.aload_n 0, 1) := by decide +kernel
theorem dX12_alone_22 : decode cX12_alone 22 = .ok (.iload_n 2, 1) := by decide +kernel
theorem dX12_alone_23 : decode cX12_alone 23 = .ok (.invokevirtual 277, 3) := by decide +kernel
theorem dX12_alone_26 : decode cX12_alone 26 = .ok (.if_icmp .ge 21, 3) := by decide +kernel
theorem dX12_alone_29 : decode cX12_alone 29 = .ok (.iload_n 3, 1) := by decide +kernel
theorem dX12_alone_30 : decode cX12_alone 30 = .ok (.iconst 1, 1) := by decide +kernel
theorem dX12_alone_31 : decode cX12_alone 31 = .ok (.aload_n 0, 1) := by decide +kernel
theorem dX12_alone_32 : decode cX12_alone 32 = .ok (.iload_n 2, 1) := by decide +kernel
theorem dX12_alone_33 : decode cX12_alone 33 = .ok (.iload 4, 2) := by decide +kernel
theorem dX12_alone_35 : decode cX12_alone 35 = .ok (.invokevirtual 308, 3) := by decide +kernel
theorem dX12_alone_38 : decode cX12_alone 38 = .ok (.ishl, 1) := by decide +kernel
theorem dX12_alone_39 : decode cX12_alone 39 = .ok (.ior, 1) := by decide +kernel
theorem dX12_alone_40 : decode cX12_alone 40 = .ok (.istore_n 3, 1) := by decide +kernel
theorem dX12_alone_41 : decode cX12_alone 41 = .ok (.iinc 4 1, 3) := by decide +kernel
theorem dX12_alone_44 : decode cX12_alone 44 = .ok (.goto (-25), 3) := by decide +kernel
theorem dX12_alone_47 : decode cX12_alone 47 = .ok (.iload_n 1, 1) := by decide +kernel
theorem dX12_alone_48 : decode cX12_alone 48 = .ok (.iload_n 3, 1) := by decide +kernel
theorem dX12_alone_49 : decode cX12_alone 49 = .ok (.invokestatic 340, 3) := by decide +kernel
theorem dX12_alone_52 : decode cX12_alone 52 = .ok (.iconst 1, 1) := by decide +kernel
theorem dX12_alone_53 : decode cX12_alone 53 = .ok (.if_icmp .ne 9, 3) := by decide +kernel
theorem dX12_alone_56 : decode cX12_alone 56 = .ok (.iconst 1, 1) := by decide +kernel
theorem dX12_alone_57 : decode cX12_alone 57 = .ok (.iload_n 2, 1) := by decide +kernel
theorem dX12_alone_58 : decode cX12_alone 58 = .ok (.ishl, 1) := by decide +kernel
theorem dX12_alone_59 : decode cX12_alone 59 = .ok (.goto 4, 3) := by decide +kernel
theorem dX12_alone_62 : decode cX12_alone 62 = .ok (.iconst 0, 1) := by decide +kernel
theorem dX12_alone_63 : decode cX12_alone 63 = .ok (.ior, 1) := by decide +kernel
theorem dX12_alone_64 : decode cX12_alone 64 = .ok (.istore_n 1, 1) := by decide +kernel
theorem dX12_alone_65 : decode cX12_alone 65 = .ok (.iinc 2 1, 3) := by decide +kernel
theorem dX12_alone_68 : decode cX12_alone 68 = .ok (.goto (-64), 3) := by decide +kernel
theorem dX12_alone_71 : decode cX12_alone 71 = .ok (.aload_n 0, 1) := by decide +kernel
theorem dX12_alone_72 : decode cX12_alone 72 = .ok (.iload_n 1, 1) := by decide +kernel
theorem dX12_alone_73 : decode cX12_alone 73 = .ok (.invokevirtual 82, 3) := by decide +kernel
theorem dX12_alone_76 : decode cX12_alone 76 = .ok (.ireturn, 1) := by decide +kernel
theorem dX12_copies_0 : decode cX12_copies 0 = .ok (.iconst 0, 1) := by decide +kernel
theorem dX12_copies_1 : decode cX12_copies 1 = .ok (.istore_n 3, 1) := by decide +kernel
theorem dX12_copies_2 : decode cX12_copies 2 = .ok (.iload_n 3, 1) := by decide +kernel
theorem dX12_copies_3 : decode cX12_copies 3 = .ok (.sipush 1400, 3) := by decide +kernel
theorem dX12_copies_6 : decode cX12_copies 6 = .ok (.if_icmp .ge 33, 3) := by decide +kernel
theorem dX12_copies_9 : decode cX12_copies 9 = .ok (.aload_n 0, 1) := by decide +kernel
theorem dX12_copies_10 : decode cX12_copies 10 = .ok (.getfield 7, 3) := by decide +kernel
theorem dX12_copies_13 : decode cX12_copies 13 = .ok (.sipush 1400, 3) := by decide +kernel
theorem dX12_copies_16 : decode cX12_copies 16 = .ok (.iload_n 2, 1) := by decide +kernel
theorem dX12_copies_17 : decode cX12_copies 17 = .ok (.imul, 1) := by decide +kernel
theorem dX12_copies_18 : decode cX12_copies 18 = .ok (.iload_n 3, 1) := by decide +kernel
theorem dX12_copies_19 : decode cX12_copies 19 = .ok (.iadd, 1) := by decide +kernel
theorem dX12_copies_20 : decode cX12_copies 20 = .ok (.aload_n 0, 1) := by decide +kernel
theorem dX12_copies_21 : decode cX12_copies 21 = .ok (.getfield 7, 3) := by decide +kernel
theorem dX12_copies_24 : decode cX12_copies 24 = .ok (.sipush 1400, 3) := by decide +kernel
theorem dX12_copies_27 : decode cX12_copies 27 = .ok (.iload_n 1, 1) := by decide +kernel
theorem dX12_copies_28 : decode cX12_copies 28 = .ok (.imul, 1) := by decide +kernel
theorem dX12_copies_29 : decode cX12_copies 29 = .ok (.iload_n 3, 1) := by decide +kernel
theorem dX12_copies_30 : decode cX12_copies 30 = .ok (.iadd, 1) := by decide +kernel
theorem dX12_copies_31 : decode cX12_copies 31 = .ok (.iaload, 1) := by decide +kernel
theorem dX12_copies_32 : decode cX12_copies 32 = .ok (.iastore, 1) := by decide +kernel
theorem dX12_copies_33 : decode cX12_copies 33 = .ok (.iinc 3 1, 3) := by decide +kernel
theorem dX12_copies_36 : decode cX12_copies 36 = .ok (.goto (-34), 3) := by decide +kernel
theorem dX12_copies_39 : decode cX12_copies 39 = .ok (.iconst 0, 1) := by decide +kernel
theorem dX12_copies_40 : decode cX12_copies 40 = .ok (.istore_n 3, 1) := by decide +kernel
theorem dX12_copies_41 : decode cX12_copies 41 = .ok (.iload_n 3, 1) := by decide +kernel
theorem dX12_copies_42 : decode cX12_copies 42 = .ok (.bipush 14, 2) := by decide +kernel
theorem dX12_copies_44 : decode cX12_copies 44 = .ok (.if_icmp .ge 31, 3) := by decide +kernel
theorem dX12_copies_47 : decode cX12_copies 47 = .ok (.aload_n 0, 1) := by decide +kernel
theorem dX12_copies_48 : decode cX12_copies 48 = .ok (.getfield 13, 3) := by decide +kernel
theorem dX12_copies_51 : decode cX12_copies 51 = .ok (.bipush 14, 2) := by decide +kernel
theorem dX12_copies_53 : decode cX12_copies 53 = .ok (.iload_n 2, 1) := by decide +kernel
theorem dX12_copies_54 : decode cX12_copies 54 = .ok (.imul, 1) := by decide +kernel
theorem dX12_copies_55 : decode cX12_copies 55 = .ok (.iload_n 3, 1) := by decide +kernel
theorem dX12_copies_56 : decode cX12_copies 56 = .ok (.iadd, 1) := by decide +kernel
theorem dX12_copies_57 : decode cX12_copies 57 = .ok (.aload_n 0, 1) := by decide +kernel
theorem dX12_copies_58 : decode cX12_copies 58 = .ok (.getfield 13, 3) := by decide +kernel
theorem dX12_copies_61 : decode cX12_copies 61 = .ok (.bipush 14, 2) := by decide +kernel
theorem dX12_copies_63 : decode cX12_copies 63 = .ok (.iload_n 1, 1) := by decide +kernel
theorem dX12_copies_64 : decode cX12_copies 64 = .ok (.imul, 1) := by decide +kernel
theorem dX12_copies_65 : decode cX12_copies 65 = .ok (.iload_n 3, 1) := by decide +kernel
theorem dX12_copies_66 : decode cX12_copies 66 = .ok (.iadd, 1) := by decide +kernel
theorem dX12_copies_67 : decode cX12_copies 67 = .ok (.laload, 1) := by decide +kernel
theorem dX12_copies_68 : decode cX12_copies 68 = .ok (.lastore, 1) := by decide +kernel
theorem dX12_copies_69 : decode cX12_copies 69 = .ok (.iinc 3 1, 3) := by decide +kernel
theorem dX12_copies_72 : decode cX12_copies 72 = .ok (.goto (-31), 3) := by decide +kernel
theorem dX12_copies_75 : decode cX12_copies 75 = .ok (.return_, 1) := by decide +kernel
theorem dX12_refuse_0 : decode cX12_refuse 0 = .ok (.aload_n 0, 1) := by decide +kernel
theorem dX12_refuse_1 : decode cX12_refuse 1 = .ok (.iload_n 1, 1) := by decide +kernel
theorem dX12_refuse_2 : decode cX12_refuse 2 = .ok (.putfield 72, 3) := by decide +kernel
theorem dX12_refuse_5 : decode cX12_refuse 5 = .ok (.iconst (-1), 1) := by decide +kernel
theorem dX12_refuse_6 : decode cX12_refuse 6 = .ok (.ireturn, 1) := by decide +kernel
theorem dX12_back_0 : decode cX12_back 0 = .ok (.aload_n 0, 1) := by decide +kernel
theorem dX12_back_1 : decode cX12_back 1 = .ok (.getfield 451, 3) := by decide +kernel
theorem dX12_back_4 : decode cX12_back 4 = .ok (.ifCond .ne 10, 3) := by decide +kernel
theorem dX12_back_7 : decode cX12_back 7 = .ok (.aload_n 0, 1) := by decide +kernel
theorem dX12_back_8 : decode cX12_back 8 = .ok (.bipush 6, 2) := by decide +kernel
theorem dX12_back_10 : decode cX12_back 10 = .ok (.invokevirtual 78, 3) := by decide +kernel
theorem dX12_back_13 : decode cX12_back 13 = .ok (.ireturn, 1) := by decide +kernel
theorem dX12_back_14 : decode cX12_back 14 = .ok (.aload_n 0, 1) := by decide +kernel
theorem dX12_back_15 : decode cX12_back 15 = .ok (.aload_n 0, 1) := by decide +kernel
theorem dX12_back_16 : decode cX12_back 16 = .ok (.getfield 451, 3) := by decide +kernel
theorem dX12_back_19 : decode cX12_back 19 = .ok (.iconst 0, 1) := by decide +kernel
theorem dX12_back_20 : decode cX12_back 20 = .ok (.invokevirtual 454, 3) := by decide +kernel
theorem dX12_back_23 : decode cX12_back 23 = .ok (.aload_n 0, 1) := by decide +kernel
theorem dX12_back_24 : decode cX12_back 24 = .ok (.dup, 1) := by decide +kernel
theorem dX12_back_25 : decode cX12_back 25 = .ok (.getfield 451, 3) := by decide +kernel
theorem dX12_back_28 : decode cX12_back 28 = .ok (.iconst 1, 1) := by decide +kernel
theorem dX12_back_29 : decode cX12_back 29 = .ok (.isub, 1) := by decide +kernel
theorem dX12_back_30 : decode cX12_back 30 = .ok (.putfield 451, 3) := by decide +kernel
theorem dX12_back_33 : decode cX12_back 33 = .ok (.aload_n 0, 1) := by decide +kernel
theorem dX12_back_34 : decode cX12_back 34 = .ok (.aload_n 0, 1) := by decide +kernel
theorem dX12_back_35 : decode cX12_back 35 = .ok (.getfield 451, 3) := by decide +kernel
theorem dX12_back_38 : decode cX12_back 38 = .ok (.invokevirtual 82, 3) := by decide +kernel
theorem dX12_back_41 : decode cX12_back 41 = .ok (.ireturn, 1) := by decide +kernel
theorem dX12_byteAt_0 : decode cX12_byteAt 0 = .ok (.iload_n 1, 1) := by decide +kernel
theorem dX12_byteAt_1 : decode cX12_byteAt 1 = .ok (.aload_n 0, 1) := by decide +kernel
theorem dX12_byteAt_2 : decode cX12_byteAt 2 = .ok (.getfield 108, 3) := by decide +kernel
theorem dX12_byteAt_5 : decode cX12_byteAt 5 = .ok (.if_icmp .ge 16, 3) := by decide +kernel
theorem dX12_byteAt_8 : decode cX12_byteAt 8 = .ok (.aload_n 0, 1) := by decide +kernel
theorem dX12_byteAt_9 : decode cX12_byteAt 9 = .ok (.getfield 34, 3) := by decide +kernel
theorem dX12_byteAt_12 : decode cX12_byteAt 12 = .ok (.iload_n 1, 1) := by decide +kernel
theorem dX12_byteAt_13 : decode cX12_byteAt 13 = .ok (.baload, 1) := by decide +kernel
theorem dX12_byteAt_14 : decode cX12_byteAt 14 = .ok (.sipush 255, 3) := by decide +kernel
theorem dX12_byteAt_17 : decode cX12_byteAt 17 = .ok (.iand, 1) := by decide +kernel
theorem dX12_byteAt_18 : decode cX12_byteAt 18 = .ok (.goto 4, 3) := by decide +kernel
theorem dX12_byteAt_21 : decode cX12_byteAt 21 = .ok (.iconst (-1), 1) := by decide +kernel
theorem dX12_byteAt_22 : decode cX12_byteAt 22 = .ok (.ireturn, 1) := by decide +kernel
theorem dX12_isDigit_0 : decode cX12_isDigit 0 = .ok (.iload_n 0, 1) := by decide +kernel
theorem dX12_isDigit_1 : decode cX12_isDigit 1 = .ok (.bipush 48, 2) := by decide +kernel
theorem dX12_isDigit_3 : decode cX12_isDigit 3 = .ok (.if_icmp .lt 13, 3) := by decide +kernel
theorem dX12_isDigit_6 : decode cX12_isDigit 6 = .ok (.iload_n 0, 1) := by decide +kernel
theorem dX12_isDigit_7 : decode cX12_isDigit 7 = .ok (.bipush 57, 2) := by decide +kernel
theorem dX12_isDigit_9 : decode cX12_isDigit 9 = .ok (.if_icmp .gt 7, 3) := by decide +kernel
theorem dX12_isDigit_12 : decode cX12_isDigit 12 = .ok (.iconst 1, 1) := by decide +kernel
theorem dX12_isDigit_13 : decode cX12_isDigit 13 = .ok (.goto 4, 3) := by decide +kernel
theorem dX12_isDigit_16 : decode cX12_isDigit 16 = .ok (.iconst 0, 1) := by decide +kernel
theorem dX12_isDigit_17 : decode cX12_isDigit 17 = .ok (.ireturn, 1) := by decide +kernel
theorem dX12_isSmall_0 : decode cX12_isSmall 0 = .ok (.iload_n 0, 1) := by decide +kernel
theorem dX12_isSmall_1 : decode cX12_isSmall 1 = .ok (.bipush 97, 2) := by decide +kernel
theorem dX12_isSmall_3 : decode cX12_isSmall 3 = .ok (.if_icmp .lt 13, 3) := by decide +kernel
theorem dX12_isSmall_6 : decode cX12_isSmall 6 = .ok (.iload_n 0, 1) := by decide +kernel
theorem dX12_isSmall_7 : decode cX12_isSmall 7 = .ok (.bipush 122, 2) := by decide +kernel
theorem dX12_isSmall_9 : decode cX12_isSmall 9 = .ok (.if_icmp .gt 7, 3) := by decide +kernel
theorem dX12_isSmall_12 : decode cX12_isSmall 12 = .ok (.iconst 1, 1) := by decide +kernel
theorem dX12_isSmall_13 : decode cX12_isSmall 13 = .ok (.goto 4, 3) := by decide +kernel
theorem dX12_isSmall_16 : decode cX12_isSmall 16 = .ok (.iconst 0, 1) := by decide +kernel
theorem dX12_isSmall_17 : decode cX12_isSmall 17 = .ok (.ireturn, 1) := by decide +kernel
theorem dX12_ahead_0 : decode cX12_ahead 0 = .ok (.aload_n 0, 1) := by decide +kernel
theorem dX12_ahead_1 : decode cX12_ahead 1 = .ok (.aload_n 0, 1) := by decide +kernel
theorem dX12_ahead_2 : decode cX12_ahead 2 = .ok (.getfield 111, 3) := by decide +kernel
theorem dX12_ahead_5 : decode cX12_ahead 5 = .ok (.invokevirtual 114, 3) := by decide +kernel
theorem dX12_ahead_8 : decode cX12_ahead 8 = .ok (.bipush 32, 2) := by decide +kernel
theorem dX12_ahead_10 : decode cX12_ahead 10 = .ok (.if_icmp .eq 16, 3) := by decide +kernel
theorem dX12_ahead_13 : decode cX12_ahead 13 = .ok (.aload_n 0, 1) := by decide +kernel
theorem dX12_ahead_14 : decode cX12_ahead 14 = .ok (.aload_n 0, 1) := by decide +kernel
theorem dX12_ahead_15 : decode cX12_ahead 15 = .ok (.getfield 111, 3) := by decide +kernel
theorem dX12_ahead_18 : decode cX12_ahead 18 = .ok (.invokevirtual 114, 3) := by decide +kernel
theorem dX12_ahead_21 : decode cX12_ahead 21 = .ok (.bipush 10, 2) := by decide +kernel
theorem dX12_ahead_23 : decode cX12_ahead 23 = .ok (.if_icmp .ne 16, 3) := by decide +kernel
theorem dX12_ahead_26 : decode cX12_ahead 26 = .ok (.aload_n 0, 1) := by decide +kernel
theorem dX12_ahead_27 : decode cX12_ahead 27 = .ok (.dup, 1) := by decide +kernel
theorem dX12_ahead_28 : decode cX12_ahead 28 = .ok (.getfield 111, 3) := by decide +kernel
theorem dX12_ahead_31 : decode cX12_ahead 31 = .ok (.iconst 1, 1) := by decide +kernel
theorem dX12_ahead_32 : decode cX12_ahead 32 = .ok (.iadd, 1) := by decide +kernel
theorem dX12_ahead_33 : decode cX12_ahead 33 = .ok (.putfield 111, 3) := by decide +kernel
theorem dX12_ahead_36 : decode cX12_ahead 36 = .ok (.goto (-36), 3) := by decide +kernel
theorem dX12_ahead_39 : decode cX12_ahead 39 = .ok (.aload_n 0, 1) := by decide +kernel
theorem dX12_ahead_40 : decode cX12_ahead 40 = .ok (.aload_n 0, 1) := by decide +kernel
theorem dX12_ahead_41 : decode cX12_ahead 41 = .ok (.getfield 111, 3) := by decide +kernel
theorem dX12_ahead_44 : decode cX12_ahead 44 = .ok (.putfield 117, 3) := by decide +kernel
theorem dX12_ahead_47 : decode cX12_ahead 47 = .ok (.aload_n 0, 1) := by decide +kernel
theorem dX12_ahead_48 : decode cX12_ahead 48 = .ok (.aload_n 0, 1) := by decide +kernel
theorem dX12_ahead_49 : decode cX12_ahead 49 = .ok (.getfield 111, 3) := by decide +kernel
theorem dX12_ahead_52 : decode cX12_ahead 52 = .ok (.invokevirtual 114, 3) := by decide +kernel
theorem dX12_ahead_55 : decode cX12_ahead 55 = .ok (.istore_n 1, 1) := by decide +kernel
theorem dX12_ahead_56 : decode cX12_ahead 56 = .ok (.aload_n 0, 1) := by decide +kernel
theorem dX12_ahead_57 : decode cX12_ahead 57 = .ok (.iload_n 1, 1) := by decide +kernel
theorem dX12_ahead_58 : decode cX12_ahead 58 = .ok (.putfield 120, 3) := by decide +kernel
theorem dX12_ahead_61 : decode cX12_ahead 61 = .ok (.iload_n 1, 1) := by decide +kernel
theorem dX12_ahead_62 : decode cX12_ahead 62 = .ok (.iconst (-1), 1) := by decide +kernel
theorem dX12_ahead_63 : decode cX12_ahead 63 = .ok (.if_icmp .ne 11, 3) := by decide +kernel
theorem dX12_ahead_66 : decode cX12_ahead 66 = .ok (.aload_n 0, 1) := by decide +kernel
theorem dX12_ahead_67 : decode cX12_ahead 67 = .ok (.iconst 0, 1) := by decide +kernel
theorem dX12_ahead_68 : decode cX12_ahead 68 = .ok (.putfield 123, 3) := by decide +kernel
theorem dX12_ahead_71 : decode cX12_ahead 71 = .ok (.goto 180, 3) := by decide +kernel
theorem dX12_ahead_74 : decode cX12_ahead 74 = .ok (.iload_n 1, 1) := by decide +kernel
theorem dX12_ahead_75 : decode cX12_ahead 75 = .ok (.invokestatic 126, 3) := by decide +kernel
theorem dX12_ahead_78 : decode cX12_ahead 78 = .ok (.ifCond .eq 38, 3) := by decide +kernel
theorem dX12_ahead_81 : decode cX12_ahead 81 = .ok (.aload_n 0, 1) := by decide +kernel
theorem dX12_ahead_82 : decode cX12_ahead 82 = .ok (.aload_n 0, 1) := by decide +kernel
theorem dX12_ahead_83 : decode cX12_ahead 83 = .ok (.getfield 111, 3) := by decide +kernel
theorem dX12_ahead_86 : decode cX12_ahead 86 = .ok (.invokevirtual 114, 3) := by decide +kernel
theorem dX12_ahead_89 : decode cX12_ahead 89 = .ok (.invokestatic 126, 3) := by decide +kernel
theorem dX12_ahead_92 : decode cX12_ahead 92 = .ok (.ifCond .eq 16, 3) := by decide +kernel
theorem dX12_ahead_95 : decode cX12_ahead 95 = .ok (.aload_n 0, 1) := by decide +kernel
theorem dX12_ahead_96 : decode cX12_ahead 96 = .ok (.dup, 1) := by decide +kernel
theorem dX12_ahead_97 : decode cX12_ahead 97 = .ok (.getfield 111, 3) := by decide +kernel
theorem dX12_ahead_100 : decode cX12_ahead 100 = .ok (.iconst 1, 1) := by decide +kernel
theorem dX12_ahead_101 : decode cX12_ahead 101 = .ok (.iadd, 1) := by decide +kernel
theorem dX12_ahead_102 : decode cX12_ahead 102 = .ok (.putfield 111, 3) := by decide +kernel
theorem dX12_ahead_105 : decode cX12_ahead 105 = .ok (.goto (-24), 3) := by decide +kernel
theorem dX12_ahead_108 : decode cX12_ahead 108 = .ok (.aload_n 0, 1) := by decide +kernel
theorem dX12_ahead_109 : decode cX12_ahead 109 = .ok (.iconst 2, 1) := by decide +kernel
theorem dX12_ahead_110 : decode cX12_ahead 110 = .ok (.putfield 123, 3) := by decide +kernel
theorem dX12_ahead_113 : decode cX12_ahead 113 = .ok (.goto 138, 3) := by decide +kernel
theorem dX12_ahead_116 : decode cX12_ahead 116 = .ok (.iload_n 1, 1) := by decide +kernel
theorem dX12_ahead_117 : decode cX12_ahead 117 = .ok (.invokestatic 129, 3) := by decide +kernel
theorem dX12_ahead_120 : decode cX12_ahead 120 = .ok (.ifCond .eq 88, 3) := by decide +kernel
theorem dX12_ahead_123 : decode cX12_ahead 123 = .ok (.aload_n 0, 1) := by decide +kernel
theorem dX12_ahead_124 : decode cX12_ahead 124 = .ok (.iconst 0, 1) := by decide +kernel
theorem dX12_ahead_125 : decode cX12_ahead 125 = .ok (.putfield 120, 3) := by decide +kernel
theorem dX12_ahead_128 : decode cX12_ahead 128 = .ok (.aload_n 0, 1) := by decide +kernel
theorem dX12_ahead_129 : decode cX12_ahead 129 = .ok (.aload_n 0, 1) := by decide +kernel
theorem dX12_ahead_130 : decode cX12_ahead 130 = .ok (.getfield 111, 3) := by decide +kernel
theorem dX12_ahead_133 : decode cX12_ahead 133 = .ok (.invokevirtual 114, 3) := by decide +kernel
theorem dX12_ahead_136 : decode cX12_ahead 136 = .ok (.invokestatic 129, 3) := by decide +kernel
theorem dX12_ahead_139 : decode cX12_ahead 139 = .ok (.ifCond .eq 44, 3) := by decide +kernel
theorem dX12_ahead_142 : decode cX12_ahead 142 = .ok (.aload_n 0, 1) := by decide +kernel
theorem dX12_ahead_143 : decode cX12_ahead 143 = .ok (.ldc 132, 2) := by decide +kernel
theorem dX12_ahead_145 : decode cX12_ahead 145 = .ok (.bipush 10, 2) := by decide +kernel
theorem dX12_ahead_147 : decode cX12_ahead 147 = .ok (.aload_n 0, 1) := by decide +kernel
theorem dX12_ahead_148 : decode cX12_ahead 148 = .ok (.getfield 120, 3) := by decide +kernel
theorem dX12_ahead_151 : decode cX12_ahead 151 = .ok (.imul, 1) := by decide +kernel
theorem dX12_ahead_152 : decode cX12_ahead 152 = .ok (.aload_n 0, 1) := by decide +kernel
theorem dX12_ahead_153 : decode cX12_ahead 153 = .ok (.aload_n 0, 1) := by decide +kernel
theorem dX12_ahead_154 : decode cX12_ahead 154 = .ok (.getfield 111, 3) := by decide +kernel
theorem dX12_ahead_157 : decode cX12_ahead 157 = .ok (.invokevirtual 114, 3) := by decide +kernel
theorem dX12_ahead_160 : decode cX12_ahead 160 = .ok (.iadd, 1) := by decide +kernel
theorem dX12_ahead_161 : decode cX12_ahead 161 = .ok (.bipush 48, 2) := by decide +kernel
theorem dX12_ahead_163 : decode cX12_ahead 163 = .ok (.isub, 1) := by decide +kernel
theorem dX12_ahead_164 : decode cX12_ahead 164 = .ok (.invokestatic 133, 3) := by decide +kernel
theorem dX12_ahead_167 : decode cX12_ahead 167 = .ok (.putfield 120, 3) := by decide +kernel
theorem dX12_ahead_170 : decode cX12_ahead 170 = .ok (.aload_n 0, 1) := by decide +kernel
theorem dX12_ahead_171 : decode cX12_ahead 171 = .ok (.dup, 1) := by decide +kernel
theorem dX12_ahead_172 : decode cX12_ahead 172 = .ok (.getfield 111, 3) := by decide +kernel
theorem dX12_ahead_175 : decode cX12_ahead 175 = .ok (.iconst 1, 1) := by decide +kernel
theorem dX12_ahead_176 : decode cX12_ahead 176 = .ok (.iadd, 1) := by decide +kernel
theorem dX12_ahead_177 : decode cX12_ahead 177 = .ok (.putfield 111, 3) := by decide +kernel
theorem dX12_ahead_180 : decode cX12_ahead 180 = .ok (.goto (-52), 3) := by decide +kernel
theorem dX12_ahead_183 : decode cX12_ahead 183 = .ok (.aload_n 0, 1) := by decide +kernel
theorem dX12_ahead_184 : decode cX12_ahead 184 = .ok (.aload_n 0, 1) := by decide +kernel
theorem dX12_ahead_185 : decode cX12_ahead 185 = .ok (.getfield 111, 3) := by decide +kernel
theorem dX12_ahead_188 : decode cX12_ahead 188 = .ok (.aload_n 0, 1) := by decide +kernel
theorem dX12_ahead_189 : decode cX12_ahead 189 = .ok (.getfield 117, 3) := by decide +kernel
theorem dX12_ahead_192 : decode cX12_ahead 192 = .ok (.isub, 1) := by decide +kernel
theorem dX12_ahead_193 : decode cX12_ahead 193 = .ok (.iconst 4, 1) := by decide +kernel
theorem dX12_ahead_194 : decode cX12_ahead 194 = .ok (.if_icmp .le 7, 3) := by decide +kernel
theorem dX12_ahead_197 : decode cX12_ahead 197 = .ok (.iconst 1, 1) := by decide +kernel
theorem dX12_ahead_198 : decode cX12_ahead 198 = .ok (.goto 4, 3) := by decide +kernel
theorem dX12_ahead_201 : decode cX12_ahead 201 = .ok (.iconst 3, 1) := by decide +kernel
theorem dX12_ahead_202 : decode cX12_ahead 202 = .ok (.putfield 123, 3) := by decide +kernel
theorem dX12_ahead_205 : decode cX12_ahead 205 = .ok (.goto 46, 3) := by decide +kernel
theorem dX12_ahead_208 : decode cX12_ahead 208 = .ok (.aload_n 0, 1) := by decide +kernel
theorem dX12_ahead_209 : decode cX12_ahead 209 = .ok (.dup, 1) := by decide +kernel
theorem dX12_ahead_210 : decode cX12_ahead 210 = .ok (.getfield 111, 3) := by decide +kernel
theorem dX12_ahead_213 : decode cX12_ahead 213 = .ok (.iconst 1, 1) := by decide +kernel
theorem dX12_ahead_214 : decode cX12_ahead 214 = .ok (.iadd, 1) := by decide +kernel
theorem dX12_ahead_215 : decode cX12_ahead 215 = .ok (.putfield 111, 3) := by decide +kernel
theorem dX12_ahead_218 : decode cX12_ahead 218 = .ok (.aload_n 0, 1) := by decide +kernel
theorem dX12_ahead_219 : decode cX12_ahead 219 = .ok (.iload_n 1, 1) := by decide +kernel
theorem dX12_ahead_220 : decode cX12_ahead 220 = .ok (.bipush 59, 2) := by decide +kernel
theorem dX12_ahead_222 : decode cX12_ahead 222 = .ok (.if_icmp .eq 21, 3) := by decide +kernel
theorem dX12_ahead_225 : decode cX12_ahead 225 = .ok (.iload_n 1, 1) := by decide +kernel
theorem dX12_ahead_226 : decode cX12_ahead 226 = .ok (.bipush 60, 2) := by decide +kernel
theorem dX12_ahead_228 : decode cX12_ahead 228 = .ok (.if_icmp .eq 15, 3) := by decide +kernel
theorem dX12_ahead_231 : decode cX12_ahead 231 = .ok (.iload_n 1, 1) := by decide +kernel
theorem dX12_ahead_232 : decode cX12_ahead 232 = .ok (.bipush 62, 2) := by decide +kernel
theorem dX12_ahead_234 : decode cX12_ahead 234 = .ok (.if_icmp .eq 9, 3) := by decide +kernel
theorem dX12_ahead_237 : decode cX12_ahead 237 = .ok (.iload_n 1, 1) := by decide +kernel
theorem dX12_ahead_238 : decode cX12_ahead 238 = .ok (.bipush 61, 2) := by decide +kernel
theorem dX12_ahead_240 : decode cX12_ahead 240 = .ok (.if_icmp .ne 7, 3) := by decide +kernel
theorem dX12_ahead_243 : decode cX12_ahead 243 = .ok (.iconst 4, 1) := by decide +kernel
theorem dX12_ahead_244 : decode cX12_ahead 244 = .ok (.goto 4, 3) := by decide +kernel
theorem dX12_ahead_247 : decode cX12_ahead 247 = .ok (.iconst 1, 1) := by decide +kernel
theorem dX12_ahead_248 : decode cX12_ahead 248 = .ok (.putfield 123, 3) := by decide +kernel
theorem dX12_ahead_251 : decode cX12_ahead 251 = .ok (.return_, 1) := by decide +kernel
theorem dX12_fails_0 : decode cX12_fails 0 = .ok (.aload_n 0, 1) := by decide +kernel
theorem dX12_fails_1 : decode cX12_fails 1 = .ok (.getfield 148, 3) := by decide +kernel
theorem dX12_fails_4 : decode cX12_fails 4 = .ok (.ifCond .ne 28, 3) := by decide +kernel
theorem dX12_fails_7 : decode cX12_fails 7 = .ok (.aload_n 0, 1) := by decide +kernel
theorem dX12_fails_8 : decode cX12_fails 8 = .ok (.aload_n 0, 1) := by decide +kernel
theorem dX12_fails_9 : decode cX12_fails 9 = .ok (.getfield 123, 3) := by decide +kernel
theorem dX12_fails_12 : decode cX12_fails 12 = .ok (.iconst 1, 1) := by decide +kernel
theorem dX12_fails_13 : decode cX12_fails 13 = .ok (.if_icmp .ne 7, 3) := by decide +kernel
theorem dX12_fails_16 : decode cX12_fails 16 = .ok (.iconst 1, 1) := by decide +kernel
theorem dX12_fails_17 : decode cX12_fails 17 = .ok (.goto 4, 3) := by decide +kernel
theorem dX12_fails_20 : decode cX12_fails 20 = .ok (.iload_n 1, 1) := by decide +kernel
theorem dX12_fails_21 : decode cX12_fails 21 = .ok (.putfield 148, 3) := by decide +kernel
theorem dX12_fails_24 : decode cX12_fails 24 = .ok (.aload_n 0, 1) := by decide +kernel
theorem dX12_fails_25 : decode cX12_fails 25 = .ok (.aload_n 0, 1) := by decide +kernel
theorem dX12_fails_26 : decode cX12_fails 26 = .ok (.getfield 117, 3) := by decide +kernel
theorem dX12_fails_29 : decode cX12_fails 29 = .ok (.putfield 41, 3) := by decide +kernel
theorem dX12_fails_32 : decode cX12_fails 32 = .ok (.iconst 0, 1) := by decide +kernel
theorem dX12_fails_33 : decode cX12_fails 33 = .ok (.ireturn, 1) := by decide +kernel
theorem dX12_inWords_0 : decode cX12_inWords 0 = .ok (.aload_n 0, 1) := by decide +kernel
theorem dX12_inWords_1 : decode cX12_inWords 1 = .ok (.getfield 123, 3) := by decide +kernel
theorem dX12_inWords_4 : decode cX12_inWords 4 = .ok (.iconst 2, 1) := by decide +kernel
theorem dX12_inWords_5 : decode cX12_inWords 5 = .ok (.if_icmp .eq 5, 3) := by decide +kernel
theorem dX12_inWords_8 : decode cX12_inWords 8 = .ok (.iconst (-1), 1) := by decide +kernel
theorem dX12_inWords_9 : decode cX12_inWords 9 = .ok (.ireturn, 1) := by decide +kernel
theorem dX12_inWords_10 : decode cX12_inWords 10 = .ok (.iconst 0, 1) := by decide +kernel
theorem dX12_inWords_11 : decode cX12_inWords 11 = .ok (.istore_n 2, 1) := by decide +kernel
theorem dX12_inWords_12 : decode cX12_inWords 12 = .ok (.iconst 1, 1) := by decide +kernel
theorem dX12_inWords_13 : decode cX12_inWords 13 = .ok (.istore_n 3, 1) := by decide +kernel
theorem dX12_inWords_14 : decode cX12_inWords 14 = .ok (.iload_n 3, 1) := by decide +kernel
theorem dX12_inWords_15 : decode cX12_inWords 15 = .ok (.aload_n 1, 1) := by decide +kernel
theorem dX12_inWords_16 : decode cX12_inWords 16 = .ok (.invokevirtual 138, 3) := by decide +kernel
theorem dX12_inWords_19 : decode cX12_inWords 19 = .ok (.if_icmp .ge 114, 3) := by decide +kernel
theorem dX12_inWords_22 : decode cX12_inWords 22 = .ok (.iload_n 3, 1) := by decide +kernel
theorem dX12_inWords_23 : decode cX12_inWords 23 = .ok (.istore 4, 2) := by decide +kernel
theorem dX12_inWords_25 : decode cX12_inWords 25 = .ok (.aload_n 1, 1) := by decide +kernel
theorem dX12_inWords_26 : decode cX12_inWords 26 = .ok (.iload 4, 2) := by decide +kernel
theorem dX12_inWords_28 : decode cX12_inWords 28 = .ok (.invokevirtual 144, 3) := by decide +kernel
theorem dX12_inWords_31 : decode cX12_inWords 31 = .ok (.bipush 32, 2) := by decide +kernel
theorem dX12_inWords_33 : decode cX12_inWords 33 = .ok (.if_icmp .eq 9, 3) := by decide +kernel
theorem dX12_inWords_36 : decode cX12_inWords 36 = .ok (.iinc 4 1, 3) := by decide +kernel
theorem dX12_inWords_39 : decode cX12_inWords 39 = .ok (.goto (-14), 3) := by decide +kernel
theorem dX12_inWords_42 : decode cX12_inWords 42 = .ok (.iload 4, 2) := by decide +kernel
theorem dX12_inWords_44 : decode cX12_inWords 44 = .ok (.iload_n 3, 1) := by decide +kernel
theorem dX12_inWords_45 : decode cX12_inWords 45 = .ok (.isub, 1) := by decide +kernel
theorem dX12_inWords_46 : decode cX12_inWords 46 = .ok (.aload_n 0, 1) := by decide +kernel
theorem dX12_inWords_47 : decode cX12_inWords 47 = .ok (.getfield 111, 3) := by decide +kernel
theorem dX12_inWords_50 : decode cX12_inWords 50 = .ok (.aload_n 0, 1) := by decide +kernel
theorem dX12_inWords_51 : decode cX12_inWords 51 = .ok (.getfield 117, 3) := by decide +kernel
theorem dX12_inWords_54 : decode cX12_inWords 54 = .ok (.isub, 1) := by decide +kernel
theorem dX12_inWords_55 : decode cX12_inWords 55 = .ok (.if_icmp .ne 7, 3) := by decide +kernel
theorem dX12_inWords_58 : decode cX12_inWords 58 = .ok (.iconst 1, 1) := by decide +kernel
theorem dX12_inWords_59 : decode cX12_inWords 59 = .ok (.goto 4, 3) := by decide +kernel
theorem dX12_inWords_62 : decode cX12_inWords 62 = .ok (.iconst 0, 1) := by decide +kernel
theorem dX12_inWords_63 : decode cX12_inWords 63 = .ok (.istore 5, 2) := by decide +kernel
theorem dX12_inWords_65 : decode cX12_inWords 65 = .ok (.iload_n 3, 1) := by decide +kernel
theorem dX12_inWords_66 : decode cX12_inWords 66 = .ok (.istore 6, 2) := by decide +kernel
theorem dX12_inWords_68 : decode cX12_inWords 68 = .ok (.iload 6, 2) := by decide +kernel
theorem dX12_inWords_70 : decode cX12_inWords 70 = .ok (.iload 4, 2) := by decide +kernel
theorem dX12_inWords_72 : decode cX12_inWords 72 = .ok (.if_icmp .ge 43, 3) := by decide +kernel
theorem dX12_inWords_75 : decode cX12_inWords 75 = .ok (.iload 5, 2) := by decide +kernel
theorem dX12_inWords_77 : decode cX12_inWords 77 = .ok (.ifCond .eq 38, 3) := by decide +kernel
theorem dX12_inWords_80 : decode cX12_inWords 80 = .ok (.aload_n 1, 1) := by decide +kernel
theorem dX12_inWords_81 : decode cX12_inWords 81 = .ok (.iload 6, 2) := by decide +kernel
theorem dX12_inWords_83 : decode cX12_inWords 83 = .ok (.invokevirtual 144, 3) := by decide +kernel
theorem dX12_inWords_86 : decode cX12_inWords 86 = .ok (.aload_n 0, 1) := by decide +kernel
theorem dX12_inWords_87 : decode cX12_inWords 87 = .ok (.aload_n 0, 1) := by decide +kernel
theorem dX12_inWords_88 : decode cX12_inWords 88 = .ok (.getfield 117, 3) := by decide +kernel
theorem dX12_inWords_91 : decode cX12_inWords 91 = .ok (.iload 6, 2) := by decide +kernel
theorem dX12_inWords_93 : decode cX12_inWords 93 = .ok (.iadd, 1) := by decide +kernel
theorem dX12_inWords_94 : decode cX12_inWords 94 = .ok (.iload_n 3, 1) := by decide +kernel
theorem dX12_inWords_95 : decode cX12_inWords 95 = .ok (.isub, 1) := by decide +kernel
theorem dX12_inWords_96 : decode cX12_inWords 96 = .ok (.invokevirtual 114, 3) := by decide +kernel
theorem dX12_inWords_99 : decode cX12_inWords 99 = .ok (.if_icmp .ne 7, 3) := by decide +kernel
theorem dX12_inWords_102 : decode cX12_inWords 102 = .ok (.iconst 1, 1) := by decide +kernel
theorem dX12_inWords_103 : decode cX12_inWords 103 = .ok (.goto 4, 3) := by decide +kernel
theorem dX12_inWords_106 : decode cX12_inWords 106 = .ok (.iconst 0, 1) := by decide +kernel
theorem dX12_inWords_107 : decode cX12_inWords 107 = .ok (.istore 5, 2) := by decide +kernel
theorem dX12_inWords_109 : decode cX12_inWords 109 = .ok (.iinc 6 1, 3) := by decide +kernel
theorem dX12_inWords_112 : decode cX12_inWords 112 = .ok (.goto (-44), 3) := by decide +kernel
theorem dX12_inWords_115 : decode cX12_inWords 115 = .ok (.iload 5, 2) := by decide +kernel
theorem dX12_inWords_117 : decode cX12_inWords 117 = .ok (.ifCond .eq 5, 3) := by decide +kernel
theorem dX12_inWords_120 : decode cX12_inWords 120 = .ok (.iload_n 2, 1) := by decide +kernel
theorem dX12_inWords_121 : decode cX12_inWords 121 = .ok (.ireturn, 1) := by decide +kernel
theorem dX12_inWords_122 : decode cX12_inWords 122 = .ok (.iinc 2 1, 3) := by decide +kernel
theorem dX12_inWords_125 : decode cX12_inWords 125 = .ok (.iload 4, 2) := by decide +kernel
theorem dX12_inWords_127 : decode cX12_inWords 127 = .ok (.iconst 1, 1) := by decide +kernel
theorem dX12_inWords_128 : decode cX12_inWords 128 = .ok (.iadd, 1) := by decide +kernel
theorem dX12_inWords_129 : decode cX12_inWords 129 = .ok (.istore_n 3, 1) := by decide +kernel
theorem dX12_inWords_130 : decode cX12_inWords 130 = .ok (.goto (-116), 3) := by decide +kernel
theorem dX12_inWords_133 : decode cX12_inWords 133 = .ok (.iconst (-1), 1) := by decide +kernel
theorem dX12_inWords_134 : decode cX12_inWords 134 = .ok (.ireturn, 1) := by decide +kernel
theorem dX12_aDuel_0 : decode cX12_aDuel 0 = .ok (.aload_n 0, 1) := by decide +kernel
theorem dX12_aDuel_1 : decode cX12_aDuel 1 = .ok (.getfield 214, 3) := by decide +kernel
theorem dX12_aDuel_4 : decode cX12_aDuel 4 = .ok (.ifCond .eq 9, 3) := by decide +kernel
theorem dX12_aDuel_7 : decode cX12_aDuel 7 = .ok (.aload_n 0, 1) := by decide +kernel
theorem dX12_aDuel_8 : decode cX12_aDuel 8 = .ok (.iconst 5, 1) := by decide +kernel
theorem dX12_aDuel_9 : decode cX12_aDuel 9 = .ok (.invokevirtual 160, 3) := by decide +kernel
theorem dX12_aDuel_12 : decode cX12_aDuel 12 = .ok (.ireturn, 1) := by decide +kernel
theorem dX12_aDuel_13 : decode cX12_aDuel 13 = .ok (.aload_n 0, 1) := by decide +kernel
theorem dX12_aDuel_14 : decode cX12_aDuel 14 = .ok (.iconst 1, 1) := by decide +kernel
theorem dX12_aDuel_15 : decode cX12_aDuel 15 = .ok (.putfield 214, 3) := by decide +kernel
theorem dX12_aDuel_18 : decode cX12_aDuel 18 = .ok (.aload_n 0, 1) := by decide +kernel
theorem dX12_aDuel_19 : decode cX12_aDuel 19 = .ok (.invokevirtual 154, 3) := by decide +kernel
theorem dX12_aDuel_22 : decode cX12_aDuel 22 = .ok (.aload_n 0, 1) := by decide +kernel
theorem dX12_aDuel_23 : decode cX12_aDuel 23 = .ok (.ldc 178, 2) := by decide +kernel
theorem dX12_aDuel_25 : decode cX12_aDuel 25 = .ok (.invokevirtual 163, 3) := by decide +kernel
theorem dX12_aDuel_28 : decode cX12_aDuel 28 = .ok (.istore_n 1, 1) := by decide +kernel
theorem dX12_aDuel_29 : decode cX12_aDuel 29 = .ok (.iload_n 1, 1) := by decide +kernel
theorem dX12_aDuel_30 : decode cX12_aDuel 30 = .ok (.bipush 13, 2) := by decide +kernel
theorem dX12_aDuel_32 : decode cX12_aDuel 32 = .ok (.if_icmp .lt 9, 3) := by decide +kernel
theorem dX12_aDuel_35 : decode cX12_aDuel 35 = .ok (.iload_n 1, 1) := by decide +kernel
theorem dX12_aDuel_36 : decode cX12_aDuel 36 = .ok (.bipush 16, 2) := by decide +kernel
theorem dX12_aDuel_38 : decode cX12_aDuel 38 = .ok (.if_icmp .le 9, 3) := by decide +kernel
theorem dX12_aDuel_41 : decode cX12_aDuel 41 = .ok (.aload_n 0, 1) := by decide +kernel
theorem dX12_aDuel_42 : decode cX12_aDuel 42 = .ok (.iconst 2, 1) := by decide +kernel
theorem dX12_aDuel_43 : decode cX12_aDuel 43 = .ok (.invokevirtual 160, 3) := by decide +kernel
theorem dX12_aDuel_46 : decode cX12_aDuel 46 = .ok (.ireturn, 1) := by decide +kernel
theorem dX12_aDuel_47 : decode cX12_aDuel 47 = .ok (.aload_n 0, 1) := by decide +kernel
theorem dX12_aDuel_48 : decode cX12_aDuel 48 = .ok (.getfield 7, 3) := by decide +kernel
theorem dX12_aDuel_51 : decode cX12_aDuel 51 = .ok (.sipush 5605, 3) := by decide +kernel
theorem dX12_aDuel_54 : decode cX12_aDuel 54 = .ok (.iload_n 1, 1) := by decide +kernel
theorem dX12_aDuel_55 : decode cX12_aDuel 55 = .ok (.bipush 13, 2) := by decide +kernel
theorem dX12_aDuel_57 : decode cX12_aDuel 57 = .ok (.isub, 1) := by decide +kernel
theorem dX12_aDuel_58 : decode cX12_aDuel 58 = .ok (.iastore, 1) := by decide +kernel
theorem dX12_aDuel_59 : decode cX12_aDuel 59 = .ok (.aload_n 0, 1) := by decide +kernel
theorem dX12_aDuel_60 : decode cX12_aDuel 60 = .ok (.invokevirtual 154, 3) := by decide +kernel
theorem dX12_aDuel_63 : decode cX12_aDuel 63 = .ok (.iconst 1, 1) := by decide +kernel
theorem dX12_aDuel_64 : decode cX12_aDuel 64 = .ok (.ireturn, 1) := by decide +kernel
theorem dX12_number_0 : decode cX12_number 0 = .ok (.aload_n 0, 1) := by decide +kernel
theorem dX12_number_1 : decode cX12_number 1 = .ok (.getfield 123, 3) := by decide +kernel
theorem dX12_number_4 : decode cX12_number 4 = .ok (.iconst 3, 1) := by decide +kernel
theorem dX12_number_5 : decode cX12_number 5 = .ok (.if_icmp .eq 9, 3) := by decide +kernel
theorem dX12_number_8 : decode cX12_number 8 = .ok (.aload_n 0, 1) := by decide +kernel
theorem dX12_number_9 : decode cX12_number 9 = .ok (.iconst 2, 1) := by decide +kernel
theorem dX12_number_10 : decode cX12_number 10 = .ok (.invokevirtual 160, 3) := by decide +kernel
theorem dX12_number_13 : decode cX12_number 13 = .ok (.ireturn, 1) := by decide +kernel
theorem dX12_number_14 : decode cX12_number 14 = .ok (.aload_n 0, 1) := by decide +kernel
theorem dX12_number_15 : decode cX12_number 15 = .ok (.getfield 120, 3) := by decide +kernel
theorem dX12_number_18 : decode cX12_number 18 = .ok (.iload_n 2, 1) := by decide +kernel
theorem dX12_number_19 : decode cX12_number 19 = .ok (.if_icmp .lt 11, 3) := by decide +kernel
theorem dX12_number_22 : decode cX12_number 22 = .ok (.aload_n 0, 1) := by decide +kernel
theorem dX12_number_23 : decode cX12_number 23 = .ok (.getfield 120, 3) := by decide +kernel
theorem dX12_number_26 : decode cX12_number 26 = .ok (.iload_n 3, 1) := by decide +kernel
theorem dX12_number_27 : decode cX12_number 27 = .ok (.if_icmp .le 9, 3) := by decide +kernel
theorem dX12_number_30 : decode cX12_number 30 = .ok (.aload_n 0, 1) := by decide +kernel
theorem dX12_number_31 : decode cX12_number 31 = .ok (.iconst 4, 1) := by decide +kernel
theorem dX12_number_32 : decode cX12_number 32 = .ok (.invokevirtual 160, 3) := by decide +kernel
theorem dX12_number_35 : decode cX12_number 35 = .ok (.ireturn, 1) := by decide +kernel
theorem dX12_number_36 : decode cX12_number 36 = .ok (.aload_n 0, 1) := by decide +kernel
theorem dX12_number_37 : decode cX12_number 37 = .ok (.getfield 7, 3) := by decide +kernel
theorem dX12_number_40 : decode cX12_number 40 = .ok (.iload_n 1, 1) := by decide +kernel
theorem dX12_number_41 : decode cX12_number 41 = .ok (.aload_n 0, 1) := by decide +kernel
theorem dX12_number_42 : decode cX12_number 42 = .ok (.getfield 120, 3) := by decide +kernel
theorem dX12_number_45 : decode cX12_number 45 = .ok (.iastore, 1) := by decide +kernel
theorem dX12_number_46 : decode cX12_number 46 = .ok (.aload_n 0, 1) := by decide +kernel
theorem dX12_number_47 : decode cX12_number 47 = .ok (.invokevirtual 154, 3) := by decide +kernel
theorem dX12_number_50 : decode cX12_number 50 = .ok (.iconst 1, 1) := by decide +kernel
theorem dX12_number_51 : decode cX12_number 51 = .ok (.ireturn, 1) := by decide +kernel
theorem dX12_wantWord_0 : decode cX12_wantWord 0 = .ok (.aload_n 0, 1) := by decide +kernel
theorem dX12_wantWord_1 : decode cX12_wantWord 1 = .ok (.aload_n 1, 1) := by decide +kernel
theorem dX12_wantWord_2 : decode cX12_wantWord 2 = .ok (.invokevirtual 163, 3) := by decide +kernel
theorem dX12_wantWord_5 : decode cX12_wantWord 5 = .ok (.iload_n 2, 1) := by decide +kernel
theorem dX12_wantWord_6 : decode cX12_wantWord 6 = .ok (.if_icmp .eq 9, 3) := by decide +kernel
theorem dX12_wantWord_9 : decode cX12_wantWord 9 = .ok (.aload_n 0, 1) := by decide +kernel
theorem dX12_wantWord_10 : decode cX12_wantWord 10 = .ok (.iconst 2, 1) := by decide +kernel
theorem dX12_wantWord_11 : decode cX12_wantWord 11 = .ok (.invokevirtual 160, 3) := by decide +kernel
theorem dX12_wantWord_14 : decode cX12_wantWord 14 = .ok (.ireturn, 1) := by decide +kernel
theorem dX12_wantWord_15 : decode cX12_wantWord 15 = .ok (.aload_n 0, 1) := by decide +kernel
theorem dX12_wantWord_16 : decode cX12_wantWord 16 = .ok (.invokevirtual 154, 3) := by decide +kernel
theorem dX12_wantWord_19 : decode cX12_wantWord 19 = .ok (.iconst 1, 1) := by decide +kernel
theorem dX12_wantWord_20 : decode cX12_wantWord 20 = .ok (.ireturn, 1) := by decide +kernel
theorem dX12_atCell_0 : decode cX12_atCell 0 = .ok (.aload_n 0, 1) := by decide +kernel
theorem dX12_atCell_1 : decode cX12_atCell 1 = .ok (.ldc 178, 2) := by decide +kernel
theorem dX12_atCell_3 : decode cX12_atCell 3 = .ok (.bipush 7, 2) := by decide +kernel
theorem dX12_atCell_5 : decode cX12_atCell 5 = .ok (.invokevirtual 187, 3) := by decide +kernel
theorem dX12_atCell_8 : decode cX12_atCell 8 = .ok (.ifCond .eq 26, 3) := by decide +kernel
theorem dX12_atCell_11 : decode cX12_atCell 11 = .ok (.aload_n 0, 1) := by decide +kernel
theorem dX12_atCell_12 : decode cX12_atCell 12 = .ok (.iload_n 1, 1) := by decide +kernel
theorem dX12_atCell_13 : decode cX12_atCell 13 = .ok (.iconst 0, 1) := by decide +kernel
theorem dX12_atCell_14 : decode cX12_atCell 14 = .ok (.aload_n 0, 1) := by decide +kernel
theorem dX12_atCell_15 : decode cX12_atCell 15 = .ok (.getfield 7, 3) := by decide +kernel
theorem dX12_atCell_18 : decode cX12_atCell 18 = .ok (.sipush 5600, 3) := by decide +kernel
theorem dX12_atCell_21 : decode cX12_atCell 21 = .ok (.iaload, 1) := by decide +kernel
theorem dX12_atCell_22 : decode cX12_atCell 22 = .ok (.iconst 1, 1) := by decide +kernel
theorem dX12_atCell_23 : decode cX12_atCell 23 = .ok (.isub, 1) := by decide +kernel
theorem dX12_atCell_24 : decode cX12_atCell 24 = .ok (.invokevirtual 191, 3) := by decide +kernel
theorem dX12_atCell_27 : decode cX12_atCell 27 = .ok (.ifCond .eq 7, 3) := by decide +kernel
theorem dX12_atCell_30 : decode cX12_atCell 30 = .ok (.iconst 1, 1) := by decide +kernel
theorem dX12_atCell_31 : decode cX12_atCell 31 = .ok (.goto 4, 3) := by decide +kernel
theorem dX12_atCell_34 : decode cX12_atCell 34 = .ok (.iconst 0, 1) := by decide +kernel
theorem dX12_atCell_35 : decode cX12_atCell 35 = .ok (.ireturn, 1) := by decide +kernel
theorem dX12_nameHere_0 : decode cX12_nameHere 0 = .ok (.lconst 0, 1) := by decide +kernel
theorem dX12_nameHere_1 : decode cX12_nameHere 1 = .ok (.lstore_n 1, 1) := by decide +kernel
theorem dX12_nameHere_2 : decode cX12_nameHere 2 = .ok (.aload_n 0, 1) := by decide +kernel
theorem dX12_nameHere_3 : decode cX12_nameHere 3 = .ok (.getfield 117, 3) := by decide +kernel
theorem dX12_nameHere_6 : decode cX12_nameHere 6 = .ok (.istore_n 3, 1) := by decide +kernel
theorem dX12_nameHere_7 : decode cX12_nameHere 7 = .ok (.iload_n 3, 1) := by decide +kernel
theorem dX12_nameHere_8 : decode cX12_nameHere 8 = .ok (.aload_n 0, 1) := by decide +kernel
theorem dX12_nameHere_9 : decode cX12_nameHere 9 = .ok (.getfield 111, 3) := by decide +kernel
theorem dX12_nameHere_12 : decode cX12_nameHere 12 = .ok (.if_icmp .ge 21, 3) := by decide +kernel
theorem dX12_nameHere_15 : decode cX12_nameHere 15 = .ok (.lload_n 1, 1) := by decide +kernel
theorem dX12_nameHere_16 : decode cX12_nameHere 16 = .ok (.bipush 8, 2) := by decide +kernel
theorem dX12_nameHere_18 : decode cX12_nameHere 18 = .ok (.lshl, 1) := by decide +kernel
theorem dX12_nameHere_19 : decode cX12_nameHere 19 = .ok (.aload_n 0, 1) := by decide +kernel
theorem dX12_nameHere_20 : decode cX12_nameHere 20 = .ok (.iload_n 3, 1) := by decide +kernel
theorem dX12_nameHere_21 : decode cX12_nameHere 21 = .ok (.invokevirtual 114, 3) := by decide +kernel
theorem dX12_nameHere_24 : decode cX12_nameHere 24 = .ok (.i2l, 1) := by decide +kernel
theorem dX12_nameHere_25 : decode cX12_nameHere 25 = .ok (.lor, 1) := by decide +kernel
theorem dX12_nameHere_26 : decode cX12_nameHere 26 = .ok (.lstore_n 1, 1) := by decide +kernel
theorem dX12_nameHere_27 : decode cX12_nameHere 27 = .ok (.iinc 3 1, 3) := by decide +kernel
theorem dX12_nameHere_30 : decode cX12_nameHere 30 = .ok (.goto (-23), 3) := by decide +kernel
theorem dX12_nameHere_33 : decode cX12_nameHere 33 = .ok (.lload_n 1, 1) := by decide +kernel
theorem dX12_nameHere_34 : decode cX12_nameHere 34 = .ok (.lreturn, 1) := by decide +kernel
theorem dX12_findHere_0 : decode cX12_findHere 0 = .ok (.iconst 0, 1) := by decide +kernel
theorem dX12_findHere_1 : decode cX12_findHere 1 = .ok (.istore_n 3, 1) := by decide +kernel
theorem dX12_findHere_2 : decode cX12_findHere 2 = .ok (.iload_n 3, 1) := by decide +kernel
theorem dX12_findHere_3 : decode cX12_findHere 3 = .ok (.iload_n 2, 1) := by decide +kernel
theorem dX12_findHere_4 : decode cX12_findHere 4 = .ok (.if_icmp .ge 27, 3) := by decide +kernel
theorem dX12_findHere_7 : decode cX12_findHere 7 = .ok (.aload_n 0, 1) := by decide +kernel
theorem dX12_findHere_8 : decode cX12_findHere 8 = .ok (.getfield 13, 3) := by decide +kernel
theorem dX12_findHere_11 : decode cX12_findHere 11 = .ok (.iload_n 1, 1) := by decide +kernel
theorem dX12_findHere_12 : decode cX12_findHere 12 = .ok (.iload_n 3, 1) := by decide +kernel
theorem dX12_findHere_13 : decode cX12_findHere 13 = .ok (.iadd, 1) := by decide +kernel
theorem dX12_findHere_14 : decode cX12_findHere 14 = .ok (.laload, 1) := by decide +kernel
theorem dX12_findHere_15 : decode cX12_findHere 15 = .ok (.aload_n 0, 1) := by decide +kernel
theorem dX12_findHere_16 : decode cX12_findHere 16 = .ok (.invokevirtual 167, 3) := by decide +kernel
theorem dX12_findHere_19 : decode cX12_findHere 19 = .ok (.lcmp, 1) := by decide +kernel
theorem dX12_findHere_20 : decode cX12_findHere 20 = .ok (.ifCond .ne 5, 3) := by decide +kernel
theorem dX12_findHere_23 : decode cX12_findHere 23 = .ok (.iload_n 3, 1) := by decide +kernel
theorem dX12_findHere_24 : decode cX12_findHere 24 = .ok (.ireturn, 1) := by decide +kernel
theorem dX12_findHere_25 : decode cX12_findHere 25 = .ok (.iinc 3 1, 3) := by decide +kernel
theorem dX12_findHere_28 : decode cX12_findHere 28 = .ok (.goto (-26), 3) := by decide +kernel
theorem dX12_findHere_31 : decode cX12_findHere 31 = .ok (.iconst (-1), 1) := by decide +kernel
theorem dX12_findHere_32 : decode cX12_findHere 32 = .ok (.ireturn, 1) := by decide +kernel
theorem dX12_isName_0 : decode cX12_isName 0 = .ok (.aload_n 0, 1) := by decide +kernel
theorem dX12_isName_1 : decode cX12_isName 1 = .ok (.getfield 123, 3) := by decide +kernel
theorem dX12_isName_4 : decode cX12_isName 4 = .ok (.iconst 2, 1) := by decide +kernel
theorem dX12_isName_5 : decode cX12_isName 5 = .ok (.if_icmp .ne 30, 3) := by decide +kernel
theorem dX12_isName_8 : decode cX12_isName 8 = .ok (.aload_n 0, 1) := by decide +kernel
theorem dX12_isName_9 : decode cX12_isName 9 = .ok (.getfield 111, 3) := by decide +kernel
theorem dX12_isName_12 : decode cX12_isName 12 = .ok (.aload_n 0, 1) := by decide +kernel
theorem dX12_isName_13 : decode cX12_isName 13 = .ok (.getfield 117, 3) := by decide +kernel
theorem dX12_isName_16 : decode cX12_isName 16 = .ok (.isub, 1) := by decide +kernel
theorem dX12_isName_17 : decode cX12_isName 17 = .ok (.bipush 8, 2) := by decide +kernel
theorem dX12_isName_19 : decode cX12_isName 19 = .ok (.if_icmp .gt 16, 3) := by decide +kernel
theorem dX12_isName_22 : decode cX12_isName 22 = .ok (.aload_n 0, 1) := by decide +kernel
theorem dX12_isName_23 : decode cX12_isName 23 = .ok (.aload_n 1, 1) := by decide +kernel
theorem dX12_isName_24 : decode cX12_isName 24 = .ok (.invokevirtual 163, 3) := by decide +kernel
theorem dX12_isName_27 : decode cX12_isName 27 = .ok (.iconst (-1), 1) := by decide +kernel
theorem dX12_isName_28 : decode cX12_isName 28 = .ok (.if_icmp .ne 7, 3) := by decide +kernel
theorem dX12_isName_31 : decode cX12_isName 31 = .ok (.iconst 1, 1) := by decide +kernel
theorem dX12_isName_32 : decode cX12_isName 32 = .ok (.goto 4, 3) := by decide +kernel
theorem dX12_isName_35 : decode cX12_isName 35 = .ok (.iconst 0, 1) := by decide +kernel
theorem dX12_isName_36 : decode cX12_isName 36 = .ok (.ireturn, 1) := by decide +kernel
theorem dX12_newOne_0 : decode cX12_newOne 0 = .ok (.aload_n 0, 1) := by decide +kernel
theorem dX12_newOne_1 : decode cX12_newOne 1 = .ok (.getfield 7, 3) := by decide +kernel
theorem dX12_newOne_4 : decode cX12_newOne 4 = .ok (.sipush 5600, 3) := by decide +kernel
theorem dX12_newOne_7 : decode cX12_newOne 7 = .ok (.iload_n 1, 1) := by decide +kernel
theorem dX12_newOne_8 : decode cX12_newOne 8 = .ok (.iadd, 1) := by decide +kernel
theorem dX12_newOne_9 : decode cX12_newOne 9 = .ok (.iaload, 1) := by decide +kernel
theorem dX12_newOne_10 : decode cX12_newOne 10 = .ok (.iload_n 2, 1) := by decide +kernel
theorem dX12_newOne_11 : decode cX12_newOne 11 = .ok (.if_icmp .ne 10, 3) := by decide +kernel
theorem dX12_newOne_14 : decode cX12_newOne 14 = .ok (.aload_n 0, 1) := by decide +kernel
theorem dX12_newOne_15 : decode cX12_newOne 15 = .ok (.bipush 6, 2) := by decide +kernel
theorem dX12_newOne_17 : decode cX12_newOne 17 = .ok (.invokevirtual 160, 3) := by decide +kernel
theorem dX12_newOne_20 : decode cX12_newOne 20 = .ok (.ireturn, 1) := by decide +kernel
theorem dX12_newOne_21 : decode cX12_newOne 21 = .ok (.aload_n 0, 1) := by decide +kernel
theorem dX12_newOne_22 : decode cX12_newOne 22 = .ok (.invokevirtual 154, 3) := by decide +kernel
theorem dX12_newOne_25 : decode cX12_newOne 25 = .ok (.aload_n 0, 1) := by decide +kernel
theorem dX12_newOne_26 : decode cX12_newOne 26 = .ok (.ldc 178, 2) := by decide +kernel
theorem dX12_newOne_28 : decode cX12_newOne 28 = .ok (.invokevirtual 180, 3) := by decide +kernel
theorem dX12_newOne_31 : decode cX12_newOne 31 = .ok (.ifCond .ne 9, 3) := by decide +kernel
theorem dX12_newOne_34 : decode cX12_newOne 34 = .ok (.aload_n 0, 1) := by decide +kernel
theorem dX12_newOne_35 : decode cX12_newOne 35 = .ok (.iconst 2, 1) := by decide +kernel
theorem dX12_newOne_36 : decode cX12_newOne 36 = .ok (.invokevirtual 160, 3) := by decide +kernel
theorem dX12_newOne_39 : decode cX12_newOne 39 = .ok (.ireturn, 1) := by decide +kernel
theorem dX12_newOne_40 : decode cX12_newOne 40 = .ok (.aload_n 0, 1) := by decide +kernel
theorem dX12_newOne_41 : decode cX12_newOne 41 = .ok (.bipush 56, 2) := by decide +kernel
theorem dX12_newOne_43 : decode cX12_newOne 43 = .ok (.aload_n 0, 1) := by decide +kernel
theorem dX12_newOne_44 : decode cX12_newOne 44 = .ok (.getfield 7, 3) := by decide +kernel
theorem dX12_newOne_47 : decode cX12_newOne 47 = .ok (.sipush 5601, 3) := by decide +kernel
theorem dX12_newOne_50 : decode cX12_newOne 50 = .ok (.iaload, 1) := by decide +kernel
theorem dX12_newOne_51 : decode cX12_newOne 51 = .ok (.invokevirtual 184, 3) := by decide +kernel
theorem dX12_newOne_54 : decode cX12_newOne 54 = .ok (.iconst (-1), 1) := by decide +kernel
theorem dX12_newOne_55 : decode cX12_newOne 55 = .ok (.if_icmp .ne 21, 3) := by decide +kernel
theorem dX12_newOne_58 : decode cX12_newOne 58 = .ok (.aload_n 0, 1) := by decide +kernel
theorem dX12_newOne_59 : decode cX12_newOne 59 = .ok (.bipush 62, 2) := by decide +kernel
theorem dX12_newOne_61 : decode cX12_newOne 61 = .ok (.aload_n 0, 1) := by decide +kernel
theorem dX12_newOne_62 : decode cX12_newOne 62 = .ok (.getfield 7, 3) := by decide +kernel
theorem dX12_newOne_65 : decode cX12_newOne 65 = .ok (.sipush 5602, 3) := by decide +kernel
theorem dX12_newOne_68 : decode cX12_newOne 68 = .ok (.iaload, 1) := by decide +kernel
theorem dX12_newOne_69 : decode cX12_newOne 69 = .ok (.invokevirtual 184, 3) := by decide +kernel
theorem dX12_newOne_72 : decode cX12_newOne 72 = .ok (.iconst (-1), 1) := by decide +kernel
theorem dX12_newOne_73 : decode cX12_newOne 73 = .ok (.if_icmp .eq 9, 3) := by decide +kernel
theorem dX12_newOne_76 : decode cX12_newOne 76 = .ok (.aload_n 0, 1) := by decide +kernel
theorem dX12_newOne_77 : decode cX12_newOne 77 = .ok (.iconst 3, 1) := by decide +kernel
theorem dX12_newOne_78 : decode cX12_newOne 78 = .ok (.invokevirtual 160, 3) := by decide +kernel
theorem dX12_newOne_81 : decode cX12_newOne 81 = .ok (.ireturn, 1) := by decide +kernel
theorem dX12_newOne_82 : decode cX12_newOne 82 = .ok (.aload_n 0, 1) := by decide +kernel
theorem dX12_newOne_83 : decode cX12_newOne 83 = .ok (.getfield 13, 3) := by decide +kernel
theorem dX12_newOne_86 : decode cX12_newOne 86 = .ok (.bipush 56, 2) := by decide +kernel
theorem dX12_newOne_88 : decode cX12_newOne 88 = .ok (.iload_n 3, 1) := by decide +kernel
theorem dX12_newOne_89 : decode cX12_newOne 89 = .ok (.iadd, 1) := by decide +kernel
theorem dX12_newOne_90 : decode cX12_newOne 90 = .ok (.aload_n 0, 1) := by decide +kernel
theorem dX12_newOne_91 : decode cX12_newOne 91 = .ok (.getfield 7, 3) := by decide +kernel
theorem dX12_newOne_94 : decode cX12_newOne 94 = .ok (.sipush 5600, 3) := by decide +kernel
theorem dX12_newOne_97 : decode cX12_newOne 97 = .ok (.iload_n 1, 1) := by decide +kernel
theorem dX12_newOne_98 : decode cX12_newOne 98 = .ok (.iadd, 1) := by decide +kernel
theorem dX12_newOne_99 : decode cX12_newOne 99 = .ok (.iaload, 1) := by decide +kernel
theorem dX12_newOne_100 : decode cX12_newOne 100 = .ok (.iadd, 1) := by decide +kernel
theorem dX12_newOne_101 : decode cX12_newOne 101 = .ok (.aload_n 0, 1) := by decide +kernel
theorem dX12_newOne_102 : decode cX12_newOne 102 = .ok (.invokevirtual 167, 3) := by decide +kernel
theorem dX12_newOne_105 : decode cX12_newOne 105 = .ok (.lastore, 1) := by decide +kernel
theorem dX12_newOne_106 : decode cX12_newOne 106 = .ok (.aload_n 0, 1) := by decide +kernel
theorem dX12_newOne_107 : decode cX12_newOne 107 = .ok (.invokevirtual 154, 3) := by decide +kernel
theorem dX12_newOne_110 : decode cX12_newOne 110 = .ok (.iconst 1, 1) := by decide +kernel
theorem dX12_newOne_111 : decode cX12_newOne 111 = .ok (.ireturn, 1) := by decide +kernel
theorem dX12_aFind_0 : decode cX12_aFind 0 = .ok (.sipush 5600, 3) := by decide +kernel
theorem dX12_aFind_3 : decode cX12_aFind 3 = .ok (.aload_n 0, 1) := by decide +kernel
theorem dX12_aFind_4 : decode cX12_aFind 4 = .ok (.getfield 7, 3) := by decide +kernel
theorem dX12_aFind_7 : decode cX12_aFind 7 = .ok (.sipush 5602, 3) := by decide +kernel
theorem dX12_aFind_10 : decode cX12_aFind 10 = .ok (.iaload, 1) := by decide +kernel
theorem dX12_aFind_11 : decode cX12_aFind 11 = .ok (.invokestatic 171, 3) := by decide +kernel
theorem dX12_aFind_14 : decode cX12_aFind 14 = .ok (.istore_n 1, 1) := by decide +kernel
theorem dX12_aFind_15 : decode cX12_aFind 15 = .ok (.aload_n 0, 1) := by decide +kernel
theorem dX12_aFind_16 : decode cX12_aFind 16 = .ok (.iconst 2, 1) := by decide +kernel
theorem dX12_aFind_17 : decode cX12_aFind 17 = .ok (.bipush 8, 2) := by decide +kernel
theorem dX12_aFind_19 : decode cX12_aFind 19 = .ok (.bipush 6, 2) := by decide +kernel
theorem dX12_aFind_21 : decode cX12_aFind 21 = .ok (.invokevirtual 198, 3) := by decide +kernel
theorem dX12_aFind_24 : decode cX12_aFind 24 = .ok (.ifCond .eq 11, 3) := by decide +kernel
theorem dX12_aFind_27 : decode cX12_aFind 27 = .ok (.aload_n 0, 1) := by decide +kernel
theorem dX12_aFind_28 : decode cX12_aFind 28 = .ok (.iload_n 1, 1) := by decide +kernel
theorem dX12_aFind_29 : decode cX12_aFind 29 = .ok (.invokevirtual 201, 3) := by decide +kernel
theorem dX12_aFind_32 : decode cX12_aFind 32 = .ok (.ifCond .ne 5, 3) := by decide +kernel
theorem dX12_aFind_35 : decode cX12_aFind 35 = .ok (.iconst 0, 1) := by decide +kernel
theorem dX12_aFind_36 : decode cX12_aFind 36 = .ok (.ireturn, 1) := by decide +kernel
theorem dX12_aFind_37 : decode cX12_aFind 37 = .ok (.aload_n 0, 1) := by decide +kernel
theorem dX12_aFind_38 : decode cX12_aFind 38 = .ok (.ldc 178, 2) := by decide +kernel
theorem dX12_aFind_40 : decode cX12_aFind 40 = .ok (.bipush 10, 2) := by decide +kernel
theorem dX12_aFind_42 : decode cX12_aFind 42 = .ok (.invokevirtual 187, 3) := by decide +kernel
theorem dX12_aFind_45 : decode cX12_aFind 45 = .ok (.ifCond .eq 17, 3) := by decide +kernel
theorem dX12_aFind_48 : decode cX12_aFind 48 = .ok (.aload_n 0, 1) := by decide +kernel
theorem dX12_aFind_49 : decode cX12_aFind 49 = .ok (.iload_n 1, 1) := by decide +kernel
theorem dX12_aFind_50 : decode cX12_aFind 50 = .ok (.iconst 1, 1) := by decide +kernel
theorem dX12_aFind_51 : decode cX12_aFind 51 = .ok (.iadd, 1) := by decide +kernel
theorem dX12_aFind_52 : decode cX12_aFind 52 = .ok (.iconst 0, 1) := by decide +kernel
theorem dX12_aFind_53 : decode cX12_aFind 53 = .ok (.sipush 999, 3) := by decide +kernel
theorem dX12_aFind_56 : decode cX12_aFind 56 = .ok (.invokevirtual 191, 3) := by decide +kernel
theorem dX12_aFind_59 : decode cX12_aFind 59 = .ok (.ifCond .ne 5, 3) := by decide +kernel
theorem dX12_aFind_62 : decode cX12_aFind 62 = .ok (.iconst 0, 1) := by decide +kernel
theorem dX12_aFind_63 : decode cX12_aFind 63 = .ok (.ireturn, 1) := by decide +kernel
theorem dX12_aFind_64 : decode cX12_aFind 64 = .ok (.aload_n 0, 1) := by decide +kernel
theorem dX12_aFind_65 : decode cX12_aFind 65 = .ok (.getfield 7, 3) := by decide +kernel
theorem dX12_aFind_68 : decode cX12_aFind 68 = .ok (.sipush 5607, 3) := by decide +kernel
theorem dX12_aFind_71 : decode cX12_aFind 71 = .ok (.dup2, 1) := by decide +kernel
theorem dX12_aFind_72 : decode cX12_aFind 72 = .ok (.iaload, 1) := by decide +kernel
theorem dX12_aFind_73 : decode cX12_aFind 73 = .ok (.iconst 1, 1) := by decide +kernel
theorem dX12_aFind_74 : decode cX12_aFind 74 = .ok (.aload_n 0, 1) := by decide +kernel
theorem dX12_aFind_75 : decode cX12_aFind 75 = .ok (.getfield 7, 3) := by decide +kernel
theorem dX12_aFind_78 : decode cX12_aFind 78 = .ok (.sipush 5602, 3) := by decide +kernel
theorem dX12_aFind_81 : decode cX12_aFind 81 = .ok (.iaload, 1) := by decide +kernel
theorem dX12_aFind_82 : decode cX12_aFind 82 = .ok (.ishl, 1) := by decide +kernel
theorem dX12_aFind_83 : decode cX12_aFind 83 = .ok (.ior, 1) := by decide +kernel
theorem dX12_aFind_84 : decode cX12_aFind 84 = .ok (.iastore, 1) := by decide +kernel
theorem dX12_aFind_85 : decode cX12_aFind 85 = .ok (.aload_n 0, 1) := by decide +kernel
theorem dX12_aFind_86 : decode cX12_aFind 86 = .ok (.getfield 7, 3) := by decide +kernel
theorem dX12_aFind_89 : decode cX12_aFind 89 = .ok (.sipush 5602, 3) := by decide +kernel
theorem dX12_aFind_92 : decode cX12_aFind 92 = .ok (.dup2, 1) := by decide +kernel
theorem dX12_aFind_93 : decode cX12_aFind 93 = .ok (.iaload, 1) := by decide +kernel
theorem dX12_aFind_94 : decode cX12_aFind 94 = .ok (.iconst 1, 1) := by decide +kernel
theorem dX12_aFind_95 : decode cX12_aFind 95 = .ok (.iadd, 1) := by decide +kernel
theorem dX12_aFind_96 : decode cX12_aFind 96 = .ok (.iastore, 1) := by decide +kernel
theorem dX12_aFind_97 : decode cX12_aFind 97 = .ok (.iconst 1, 1) := by decide +kernel
theorem dX12_aFind_98 : decode cX12_aFind 98 = .ok (.ireturn, 1) := by decide +kernel
theorem dX12_aFinder_0 : decode cX12_aFinder 0 = .ok (.sipush 5610, 3) := by decide +kernel
theorem dX12_aFinder_3 : decode cX12_aFinder 3 = .ok (.iconst 5, 1) := by decide +kernel
theorem dX12_aFinder_4 : decode cX12_aFinder 4 = .ok (.aload_n 0, 1) := by decide +kernel
theorem dX12_aFinder_5 : decode cX12_aFinder 5 = .ok (.getfield 7, 3) := by decide +kernel
theorem dX12_aFinder_8 : decode cX12_aFinder 8 = .ok (.sipush 5601, 3) := by decide +kernel
theorem dX12_aFinder_11 : decode cX12_aFinder 11 = .ok (.iaload, 1) := by decide +kernel
theorem dX12_aFinder_12 : decode cX12_aFinder 12 = .ok (.imul, 1) := by decide +kernel
theorem dX12_aFinder_13 : decode cX12_aFinder 13 = .ok (.iadd, 1) := by decide +kernel
theorem dX12_aFinder_14 : decode cX12_aFinder 14 = .ok (.istore_n 1, 1) := by decide +kernel
theorem dX12_aFinder_15 : decode cX12_aFinder 15 = .ok (.aload_n 0, 1) := by decide +kernel
theorem dX12_aFinder_16 : decode cX12_aFinder 16 = .ok (.iconst 1, 1) := by decide +kernel
theorem dX12_aFinder_17 : decode cX12_aFinder 17 = .ok (.bipush 6, 2) := by decide +kernel
theorem dX12_aFinder_19 : decode cX12_aFinder 19 = .ok (.iconst 0, 1) := by decide +kernel
theorem dX12_aFinder_20 : decode cX12_aFinder 20 = .ok (.invokevirtual 198, 3) := by decide +kernel
theorem dX12_aFinder_23 : decode cX12_aFinder 23 = .ok (.ifCond .eq 11, 3) := by decide +kernel
theorem dX12_aFinder_26 : decode cX12_aFinder 26 = .ok (.aload_n 0, 1) := by decide +kernel
theorem dX12_aFinder_27 : decode cX12_aFinder 27 = .ok (.iload_n 1, 1) := by decide +kernel
theorem dX12_aFinder_28 : decode cX12_aFinder 28 = .ok (.invokevirtual 201, 3) := by decide +kernel
theorem dX12_aFinder_31 : decode cX12_aFinder 31 = .ok (.ifCond .ne 5, 3) := by decide +kernel
theorem dX12_aFinder_34 : decode cX12_aFinder 34 = .ok (.iconst 0, 1) := by decide +kernel
theorem dX12_aFinder_35 : decode cX12_aFinder 35 = .ok (.ireturn, 1) := by decide +kernel
theorem dX12_aFinder_36 : decode cX12_aFinder 36 = .ok (.aload_n 0, 1) := by decide +kernel
theorem dX12_aFinder_37 : decode cX12_aFinder 37 = .ok (.ldc 178, 2) := by decide +kernel
theorem dX12_aFinder_39 : decode cX12_aFinder 39 = .ok (.bipush 8, 2) := by decide +kernel
theorem dX12_aFinder_41 : decode cX12_aFinder 41 = .ok (.invokevirtual 187, 3) := by decide +kernel
theorem dX12_aFinder_44 : decode cX12_aFinder 44 = .ok (.ifCond .eq 40, 3) := by decide +kernel
theorem dX12_aFinder_47 : decode cX12_aFinder 47 = .ok (.aload_n 0, 1) := by decide +kernel
theorem dX12_aFinder_48 : decode cX12_aFinder 48 = .ok (.iload_n 1, 1) := by decide +kernel
theorem dX12_aFinder_49 : decode cX12_aFinder 49 = .ok (.iconst 1, 1) := by decide +kernel
theorem dX12_aFinder_50 : decode cX12_aFinder 50 = .ok (.iadd, 1) := by decide +kernel
theorem dX12_aFinder_51 : decode cX12_aFinder 51 = .ok (.iconst 1, 1) := by decide +kernel
theorem dX12_aFinder_52 : decode cX12_aFinder 52 = .ok (.bipush 9, 2) := by decide +kernel
theorem dX12_aFinder_54 : decode cX12_aFinder 54 = .ok (.invokevirtual 191, 3) := by decide +kernel
theorem dX12_aFinder_57 : decode cX12_aFinder 57 = .ok (.ifCond .eq 27, 3) := by decide +kernel
theorem dX12_aFinder_60 : decode cX12_aFinder 60 = .ok (.aload_n 0, 1) := by decide +kernel
theorem dX12_aFinder_61 : decode cX12_aFinder 61 = .ok (.ldc 178, 2) := by decide +kernel
theorem dX12_aFinder_63 : decode cX12_aFinder 63 = .ok (.bipush 9, 2) := by decide +kernel
theorem dX12_aFinder_65 : decode cX12_aFinder 65 = .ok (.invokevirtual 187, 3) := by decide +kernel
theorem dX12_aFinder_68 : decode cX12_aFinder 68 = .ok (.ifCond .eq 16, 3) := by decide +kernel
theorem dX12_aFinder_71 : decode cX12_aFinder 71 = .ok (.aload_n 0, 1) := by decide +kernel
theorem dX12_aFinder_72 : decode cX12_aFinder 72 = .ok (.iload_n 1, 1) := by decide +kernel
theorem dX12_aFinder_73 : decode cX12_aFinder 73 = .ok (.iconst 2, 1) := by decide +kernel
theorem dX12_aFinder_74 : decode cX12_aFinder 74 = .ok (.iadd, 1) := by decide +kernel
theorem dX12_aFinder_75 : decode cX12_aFinder 75 = .ok (.iconst 0, 1) := by decide +kernel
theorem dX12_aFinder_76 : decode cX12_aFinder 76 = .ok (.bipush 20, 2) := by decide +kernel
theorem dX12_aFinder_78 : decode cX12_aFinder 78 = .ok (.invokevirtual 191, 3) := by decide +kernel
theorem dX12_aFinder_81 : decode cX12_aFinder 81 = .ok (.ifCond .ne 5, 3) := by decide +kernel
theorem dX12_aFinder_84 : decode cX12_aFinder 84 = .ok (.iconst 0, 1) := by decide +kernel
theorem dX12_aFinder_85 : decode cX12_aFinder 85 = .ok (.ireturn, 1) := by decide +kernel
theorem dX12_aFinder_86 : decode cX12_aFinder 86 = .ok (.aload_n 0, 1) := by decide +kernel
theorem dX12_aFinder_87 : decode cX12_aFinder 87 = .ok (.getfield 7, 3) := by decide +kernel
theorem dX12_aFinder_90 : decode cX12_aFinder 90 = .ok (.sipush 5601, 3) := by decide +kernel
theorem dX12_aFinder_93 : decode cX12_aFinder 93 = .ok (.dup2, 1) := by decide +kernel
theorem dX12_aFinder_94 : decode cX12_aFinder 94 = .ok (.iaload, 1) := by decide +kernel
theorem dX12_aFinder_95 : decode cX12_aFinder 95 = .ok (.iconst 1, 1) := by decide +kernel
theorem dX12_aFinder_96 : decode cX12_aFinder 96 = .ok (.iadd, 1) := by decide +kernel
theorem dX12_aFinder_97 : decode cX12_aFinder 97 = .ok (.iastore, 1) := by decide +kernel
theorem dX12_aFinder_98 : decode cX12_aFinder 98 = .ok (.iconst 1, 1) := by decide +kernel
theorem dX12_aFinder_99 : decode cX12_aFinder 99 = .ok (.ireturn, 1) := by decide +kernel
theorem dX12_comes_0 : decode cX12_comes 0 = .ok (.aload_n 0, 1) := by decide +kernel
theorem dX12_comes_1 : decode cX12_comes 1 = .ok (.getfield 7, 3) := by decide +kernel
theorem dX12_comes_4 : decode cX12_comes 4 = .ok (.iload_n 1, 1) := by decide +kernel
theorem dX12_comes_5 : decode cX12_comes 5 = .ok (.iload_n 2, 1) := by decide +kernel
theorem dX12_comes_6 : decode cX12_comes 6 = .ok (.invokestatic 171, 3) := by decide +kernel
theorem dX12_comes_9 : decode cX12_comes 9 = .ok (.iconst 2, 1) := by decide +kernel
theorem dX12_comes_10 : decode cX12_comes 10 = .ok (.iadd, 1) := by decide +kernel
theorem dX12_comes_11 : decode cX12_comes 11 = .ok (.iaload, 1) := by decide +kernel
theorem dX12_comes_12 : decode cX12_comes 12 = .ok (.istore 5, 2) := by decide +kernel
theorem dX12_comes_14 : decode cX12_comes 14 = .ok (.iload 5, 2) := by decide +kernel
theorem dX12_comes_16 : decode cX12_comes 16 = .ok (.ifCond .le 86, 3) := by decide +kernel
theorem dX12_comes_19 : decode cX12_comes 19 = .ok (.aload_n 0, 1) := by decide +kernel
theorem dX12_comes_20 : decode cX12_comes 20 = .ok (.getfield 7, 3) := by decide +kernel
theorem dX12_comes_23 : decode cX12_comes 23 = .ok (.iload_n 1, 1) := by decide +kernel
theorem dX12_comes_24 : decode cX12_comes 24 = .ok (.iload_n 2, 1) := by decide +kernel
theorem dX12_comes_25 : decode cX12_comes 25 = .ok (.iload 5, 2) := by decide +kernel
theorem dX12_comes_27 : decode cX12_comes 27 = .ok (.iconst 1, 1) := by decide +kernel
theorem dX12_comes_28 : decode cX12_comes 28 = .ok (.isub, 1) := by decide +kernel
theorem dX12_comes_29 : decode cX12_comes 29 = .ok (.invokestatic 174, 3) := by decide +kernel
theorem dX12_comes_32 : decode cX12_comes 32 = .ok (.iconst 1, 1) := by decide +kernel
theorem dX12_comes_33 : decode cX12_comes 33 = .ok (.iadd, 1) := by decide +kernel
theorem dX12_comes_34 : decode cX12_comes 34 = .ok (.iaload, 1) := by decide +kernel
theorem dX12_comes_35 : decode cX12_comes 35 = .ok (.iload 4, 2) := by decide +kernel
theorem dX12_comes_37 : decode cX12_comes 37 = .ok (.if_icmp .le 65, 3) := by decide +kernel
theorem dX12_comes_40 : decode cX12_comes 40 = .ok (.aload_n 0, 1) := by decide +kernel
theorem dX12_comes_41 : decode cX12_comes 41 = .ok (.getfield 7, 3) := by decide +kernel
theorem dX12_comes_44 : decode cX12_comes 44 = .ok (.iload_n 1, 1) := by decide +kernel
theorem dX12_comes_45 : decode cX12_comes 45 = .ok (.iload_n 2, 1) := by decide +kernel
theorem dX12_comes_46 : decode cX12_comes 46 = .ok (.iload 5, 2) := by decide +kernel
theorem dX12_comes_48 : decode cX12_comes 48 = .ok (.invokestatic 174, 3) := by decide +kernel
theorem dX12_comes_51 : decode cX12_comes 51 = .ok (.aload_n 0, 1) := by decide +kernel
theorem dX12_comes_52 : decode cX12_comes 52 = .ok (.getfield 7, 3) := by decide +kernel
theorem dX12_comes_55 : decode cX12_comes 55 = .ok (.iload_n 1, 1) := by decide +kernel
theorem dX12_comes_56 : decode cX12_comes 56 = .ok (.iload_n 2, 1) := by decide +kernel
theorem dX12_comes_57 : decode cX12_comes 57 = .ok (.iload 5, 2) := by decide +kernel
theorem dX12_comes_59 : decode cX12_comes 59 = .ok (.iconst 1, 1) := by decide +kernel
theorem dX12_comes_60 : decode cX12_comes 60 = .ok (.isub, 1) := by decide +kernel
theorem dX12_comes_61 : decode cX12_comes 61 = .ok (.invokestatic 174, 3) := by decide +kernel
theorem dX12_comes_64 : decode cX12_comes 64 = .ok (.iaload, 1) := by decide +kernel
theorem dX12_comes_65 : decode cX12_comes 65 = .ok (.iastore, 1) := by decide +kernel
theorem dX12_comes_66 : decode cX12_comes 66 = .ok (.aload_n 0, 1) := by decide +kernel
theorem dX12_comes_67 : decode cX12_comes 67 = .ok (.getfield 7, 3) := by decide +kernel
theorem dX12_comes_70 : decode cX12_comes 70 = .ok (.iload_n 1, 1) := by decide +kernel
theorem dX12_comes_71 : decode cX12_comes 71 = .ok (.iload_n 2, 1) := by decide +kernel
theorem dX12_comes_72 : decode cX12_comes 72 = .ok (.iload 5, 2) := by decide +kernel
theorem dX12_comes_74 : decode cX12_comes 74 = .ok (.invokestatic 174, 3) := by decide +kernel
theorem dX12_comes_77 : decode cX12_comes 77 = .ok (.iconst 1, 1) := by decide +kernel
theorem dX12_comes_78 : decode cX12_comes 78 = .ok (.iadd, 1) := by decide +kernel
theorem dX12_comes_79 : decode cX12_comes 79 = .ok (.aload_n 0, 1) := by decide +kernel
theorem dX12_comes_80 : decode cX12_comes 80 = .ok (.getfield 7, 3) := by decide +kernel
theorem dX12_comes_83 : decode cX12_comes 83 = .ok (.iload_n 1, 1) := by decide +kernel
theorem dX12_comes_84 : decode cX12_comes 84 = .ok (.iload_n 2, 1) := by decide +kernel
theorem dX12_comes_85 : decode cX12_comes 85 = .ok (.iload 5, 2) := by decide +kernel
theorem dX12_comes_87 : decode cX12_comes 87 = .ok (.iconst 1, 1) := by decide +kernel
theorem dX12_comes_88 : decode cX12_comes 88 = .ok (.isub, 1) := by decide +kernel
theorem dX12_comes_89 : decode cX12_comes 89 = .ok (.invokestatic 174, 3) := by decide +kernel
theorem dX12_comes_92 : decode cX12_comes 92 = .ok (.iconst 1, 1) := by decide +kernel
theorem dX12_comes_93 : decode cX12_comes 93 = .ok (.iadd, 1) := by decide +kernel
theorem dX12_comes_94 : decode cX12_comes 94 = .ok (.iaload, 1) := by decide +kernel
theorem dX12_comes_95 : decode cX12_comes 95 = .ok (.iastore, 1) := by decide +kernel
theorem dX12_comes_96 : decode cX12_comes 96 = .ok (.iinc 5 (-1), 3) := by decide +kernel
theorem dX12_comes_99 : decode cX12_comes 99 = .ok (.goto (-85), 3) := by decide +kernel
theorem dX12_comes_102 : decode cX12_comes 102 = .ok (.aload_n 0, 1) := by decide +kernel
theorem dX12_comes_103 : decode cX12_comes 103 = .ok (.getfield 7, 3) := by decide +kernel
theorem dX12_comes_106 : decode cX12_comes 106 = .ok (.iload_n 1, 1) := by decide +kernel
theorem dX12_comes_107 : decode cX12_comes 107 = .ok (.iload_n 2, 1) := by decide +kernel
theorem dX12_comes_108 : decode cX12_comes 108 = .ok (.iload 5, 2) := by decide +kernel
theorem dX12_comes_110 : decode cX12_comes 110 = .ok (.invokestatic 174, 3) := by decide +kernel
theorem dX12_comes_113 : decode cX12_comes 113 = .ok (.iload_n 3, 1) := by decide +kernel
theorem dX12_comes_114 : decode cX12_comes 114 = .ok (.iastore, 1) := by decide +kernel
theorem dX12_comes_115 : decode cX12_comes 115 = .ok (.aload_n 0, 1) := by decide +kernel
theorem dX12_comes_116 : decode cX12_comes 116 = .ok (.getfield 7, 3) := by decide +kernel
theorem dX12_comes_119 : decode cX12_comes 119 = .ok (.iload_n 1, 1) := by decide +kernel
theorem dX12_comes_120 : decode cX12_comes 120 = .ok (.iload_n 2, 1) := by decide +kernel
theorem dX12_comes_121 : decode cX12_comes 121 = .ok (.iload 5, 2) := by decide +kernel
theorem dX12_comes_123 : decode cX12_comes 123 = .ok (.invokestatic 174, 3) := by decide +kernel
theorem dX12_comes_126 : decode cX12_comes 126 = .ok (.iconst 1, 1) := by decide +kernel
theorem dX12_comes_127 : decode cX12_comes 127 = .ok (.iadd, 1) := by decide +kernel
theorem dX12_comes_128 : decode cX12_comes 128 = .ok (.iload 4, 2) := by decide +kernel
theorem dX12_comes_130 : decode cX12_comes 130 = .ok (.iastore, 1) := by decide +kernel
theorem dX12_comes_131 : decode cX12_comes 131 = .ok (.aload_n 0, 1) := by decide +kernel
theorem dX12_comes_132 : decode cX12_comes 132 = .ok (.getfield 7, 3) := by decide +kernel
theorem dX12_comes_135 : decode cX12_comes 135 = .ok (.iload_n 1, 1) := by decide +kernel
theorem dX12_comes_136 : decode cX12_comes 136 = .ok (.iload_n 2, 1) := by decide +kernel
theorem dX12_comes_137 : decode cX12_comes 137 = .ok (.invokestatic 171, 3) := by decide +kernel
theorem dX12_comes_140 : decode cX12_comes 140 = .ok (.iconst 2, 1) := by decide +kernel
theorem dX12_comes_141 : decode cX12_comes 141 = .ok (.iadd, 1) := by decide +kernel
theorem dX12_comes_142 : decode cX12_comes 142 = .ok (.dup2, 1) := by decide +kernel
theorem dX12_comes_143 : decode cX12_comes 143 = .ok (.iaload, 1) := by decide +kernel
theorem dX12_comes_144 : decode cX12_comes 144 = .ok (.iconst 1, 1) := by decide +kernel
theorem dX12_comes_145 : decode cX12_comes 145 = .ok (.iadd, 1) := by decide +kernel
theorem dX12_comes_146 : decode cX12_comes 146 = .ok (.iastore, 1) := by decide +kernel
theorem dX12_comes_147 : decode cX12_comes 147 = .ok (.aload_n 0, 1) := by decide +kernel
theorem dX12_comes_148 : decode cX12_comes 148 = .ok (.getfield 7, 3) := by decide +kernel
theorem dX12_comes_151 : decode cX12_comes 151 = .ok (.iload_n 1, 1) := by decide +kernel
theorem dX12_comes_152 : decode cX12_comes 152 = .ok (.bipush 8, 2) := by decide +kernel
theorem dX12_comes_154 : decode cX12_comes 154 = .ok (.iadd, 1) := by decide +kernel
theorem dX12_comes_155 : decode cX12_comes 155 = .ok (.dup2, 1) := by decide +kernel
theorem dX12_comes_156 : decode cX12_comes 156 = .ok (.iaload, 1) := by decide +kernel
theorem dX12_comes_157 : decode cX12_comes 157 = .ok (.iconst 1, 1) := by decide +kernel
theorem dX12_comes_158 : decode cX12_comes 158 = .ok (.iadd, 1) := by decide +kernel
theorem dX12_comes_159 : decode cX12_comes 159 = .ok (.iastore, 1) := by decide +kernel
theorem dX12_comes_160 : decode cX12_comes 160 = .ok (.return_, 1) := by decide +kernel
theorem dX12_oldOne_0 : decode cX12_oldOne 0 = .ok (.aload_n 0, 1) := by decide +kernel
theorem dX12_oldOne_1 : decode cX12_oldOne 1 = .ok (.ldc 178, 2) := by decide +kernel
theorem dX12_oldOne_3 : decode cX12_oldOne 3 = .ok (.invokevirtual 180, 3) := by decide +kernel
theorem dX12_oldOne_6 : decode cX12_oldOne 6 = .ok (.ifCond .ne 9, 3) := by decide +kernel
theorem dX12_oldOne_9 : decode cX12_oldOne 9 = .ok (.aload_n 0, 1) := by decide +kernel
theorem dX12_oldOne_10 : decode cX12_oldOne 10 = .ok (.iconst 2, 1) := by decide +kernel
theorem dX12_oldOne_11 : decode cX12_oldOne 11 = .ok (.invokevirtual 160, 3) := by decide +kernel
theorem dX12_oldOne_14 : decode cX12_oldOne 14 = .ok (.ireturn, 1) := by decide +kernel
theorem dX12_oldOne_15 : decode cX12_oldOne 15 = .ok (.aload_n 0, 1) := by decide +kernel
theorem dX12_oldOne_16 : decode cX12_oldOne 16 = .ok (.getfield 7, 3) := by decide +kernel
theorem dX12_oldOne_19 : decode cX12_oldOne 19 = .ok (.iload_n 3, 1) := by decide +kernel
theorem dX12_oldOne_20 : decode cX12_oldOne 20 = .ok (.aload_n 0, 1) := by decide +kernel
theorem dX12_oldOne_21 : decode cX12_oldOne 21 = .ok (.iload_n 1, 1) := by decide +kernel
theorem dX12_oldOne_22 : decode cX12_oldOne 22 = .ok (.iload_n 2, 1) := by decide +kernel
theorem dX12_oldOne_23 : decode cX12_oldOne 23 = .ok (.invokevirtual 184, 3) := by decide +kernel
theorem dX12_oldOne_26 : decode cX12_oldOne 26 = .ok (.iastore, 1) := by decide +kernel
theorem dX12_oldOne_27 : decode cX12_oldOne 27 = .ok (.aload_n 0, 1) := by decide +kernel
theorem dX12_oldOne_28 : decode cX12_oldOne 28 = .ok (.getfield 7, 3) := by decide +kernel
theorem dX12_oldOne_31 : decode cX12_oldOne 31 = .ok (.iload_n 3, 1) := by decide +kernel
theorem dX12_oldOne_32 : decode cX12_oldOne 32 = .ok (.iaload, 1) := by decide +kernel
theorem dX12_oldOne_33 : decode cX12_oldOne 33 = .ok (.iconst (-1), 1) := by decide +kernel
theorem dX12_oldOne_34 : decode cX12_oldOne 34 = .ok (.if_icmp .ne 9, 3) := by decide +kernel
theorem dX12_oldOne_37 : decode cX12_oldOne 37 = .ok (.aload_n 0, 1) := by decide +kernel
theorem dX12_oldOne_38 : decode cX12_oldOne 38 = .ok (.iconst 3, 1) := by decide +kernel
theorem dX12_oldOne_39 : decode cX12_oldOne 39 = .ok (.invokevirtual 160, 3) := by decide +kernel
theorem dX12_oldOne_42 : decode cX12_oldOne 42 = .ok (.ireturn, 1) := by decide +kernel
theorem dX12_oldOne_43 : decode cX12_oldOne 43 = .ok (.aload_n 0, 1) := by decide +kernel
theorem dX12_oldOne_44 : decode cX12_oldOne 44 = .ok (.invokevirtual 154, 3) := by decide +kernel
theorem dX12_oldOne_47 : decode cX12_oldOne 47 = .ok (.iconst 1, 1) := by decide +kernel
theorem dX12_oldOne_48 : decode cX12_oldOne 48 = .ok (.ireturn, 1) := by decide +kernel
theorem dX12_aPebble_0 : decode cX12_aPebble 0 = .ok (.aload_n 0, 1) := by decide +kernel
theorem dX12_aPebble_1 : decode cX12_aPebble 1 = .ok (.getfield 204, 3) := by decide +kernel
theorem dX12_aPebble_4 : decode cX12_aPebble 4 = .ok (.bipush 30, 2) := by decide +kernel
theorem dX12_aPebble_6 : decode cX12_aPebble 6 = .ok (.if_icmp .ne 10, 3) := by decide +kernel
theorem dX12_aPebble_9 : decode cX12_aPebble 9 = .ok (.aload_n 0, 1) := by decide +kernel
theorem dX12_aPebble_10 : decode cX12_aPebble 10 = .ok (.bipush 6, 2) := by decide +kernel
theorem dX12_aPebble_12 : decode cX12_aPebble 12 = .ok (.invokevirtual 160, 3) := by decide +kernel
theorem dX12_aPebble_15 : decode cX12_aPebble 15 = .ok (.ireturn, 1) := by decide +kernel
theorem dX12_aPebble_16 : decode cX12_aPebble 16 = .ok (.aload_n 0, 1) := by decide +kernel
theorem dX12_aPebble_17 : decode cX12_aPebble 17 = .ok (.invokevirtual 154, 3) := by decide +kernel
theorem dX12_aPebble_20 : decode cX12_aPebble 20 = .ok (.aload_n 0, 1) := by decide +kernel
theorem dX12_aPebble_21 : decode cX12_aPebble 21 = .ok (.ldc 178, 2) := by decide +kernel
theorem dX12_aPebble_23 : decode cX12_aPebble 23 = .ok (.bipush 11, 2) := by decide +kernel
theorem dX12_aPebble_25 : decode cX12_aPebble 25 = .ok (.invokevirtual 187, 3) := by decide +kernel
theorem dX12_aPebble_28 : decode cX12_aPebble 28 = .ok (.ifCond .eq 23, 3) := by decide +kernel
theorem dX12_aPebble_31 : decode cX12_aPebble 31 = .ok (.aload_n 0, 1) := by decide +kernel
theorem dX12_aPebble_32 : decode cX12_aPebble 32 = .ok (.bipush 56, 2) := by decide +kernel
theorem dX12_aPebble_34 : decode cX12_aPebble 34 = .ok (.aload_n 0, 1) := by decide +kernel
theorem dX12_aPebble_35 : decode cX12_aPebble 35 = .ok (.getfield 7, 3) := by decide +kernel
theorem dX12_aPebble_38 : decode cX12_aPebble 38 = .ok (.sipush 5601, 3) := by decide +kernel
theorem dX12_aPebble_41 : decode cX12_aPebble 41 = .ok (.iaload, 1) := by decide +kernel
theorem dX12_aPebble_42 : decode cX12_aPebble 42 = .ok (.sipush 6995, 3) := by decide +kernel
theorem dX12_aPebble_45 : decode cX12_aPebble 45 = .ok (.invokevirtual 207, 3) := by decide +kernel
theorem dX12_aPebble_48 : decode cX12_aPebble 48 = .ok (.ifCond .ne 5, 3) := by decide +kernel
theorem dX12_aPebble_51 : decode cX12_aPebble 51 = .ok (.iconst 0, 1) := by decide +kernel
theorem dX12_aPebble_52 : decode cX12_aPebble 52 = .ok (.ireturn, 1) := by decide +kernel
theorem dX12_aPebble_53 : decode cX12_aPebble 53 = .ok (.aload_n 0, 1) := by decide +kernel
theorem dX12_aPebble_54 : decode cX12_aPebble 54 = .ok (.ldc 178, 2) := by decide +kernel
theorem dX12_aPebble_56 : decode cX12_aPebble 56 = .ok (.bipush 12, 2) := by decide +kernel
theorem dX12_aPebble_58 : decode cX12_aPebble 58 = .ok (.invokevirtual 187, 3) := by decide +kernel
theorem dX12_aPebble_61 : decode cX12_aPebble 61 = .ok (.ifCond .eq 23, 3) := by decide +kernel
theorem dX12_aPebble_64 : decode cX12_aPebble 64 = .ok (.aload_n 0, 1) := by decide +kernel
theorem dX12_aPebble_65 : decode cX12_aPebble 65 = .ok (.bipush 62, 2) := by decide +kernel
theorem dX12_aPebble_67 : decode cX12_aPebble 67 = .ok (.aload_n 0, 1) := by decide +kernel
theorem dX12_aPebble_68 : decode cX12_aPebble 68 = .ok (.getfield 7, 3) := by decide +kernel
theorem dX12_aPebble_71 : decode cX12_aPebble 71 = .ok (.sipush 5602, 3) := by decide +kernel
theorem dX12_aPebble_74 : decode cX12_aPebble 74 = .ok (.iaload, 1) := by decide +kernel
theorem dX12_aPebble_75 : decode cX12_aPebble 75 = .ok (.sipush 6996, 3) := by decide +kernel
theorem dX12_aPebble_78 : decode cX12_aPebble 78 = .ok (.invokevirtual 207, 3) := by decide +kernel
theorem dX12_aPebble_81 : decode cX12_aPebble 81 = .ok (.ifCond .ne 5, 3) := by decide +kernel
theorem dX12_aPebble_84 : decode cX12_aPebble 84 = .ok (.iconst 0, 1) := by decide +kernel
theorem dX12_aPebble_85 : decode cX12_aPebble 85 = .ok (.ireturn, 1) := by decide +kernel
theorem dX12_aPebble_86 : decode cX12_aPebble 86 = .ok (.aload_n 0, 1) := by decide +kernel
theorem dX12_aPebble_87 : decode cX12_aPebble 87 = .ok (.ldc 178, 2) := by decide +kernel
theorem dX12_aPebble_89 : decode cX12_aPebble 89 = .ok (.bipush 7, 2) := by decide +kernel
theorem dX12_aPebble_91 : decode cX12_aPebble 91 = .ok (.invokevirtual 187, 3) := by decide +kernel
theorem dX12_aPebble_94 : decode cX12_aPebble 94 = .ok (.ifCond .eq 22, 3) := by decide +kernel
theorem dX12_aPebble_97 : decode cX12_aPebble 97 = .ok (.aload_n 0, 1) := by decide +kernel
theorem dX12_aPebble_98 : decode cX12_aPebble 98 = .ok (.sipush 6997, 3) := by decide +kernel
theorem dX12_aPebble_101 : decode cX12_aPebble 101 = .ok (.iconst 0, 1) := by decide +kernel
theorem dX12_aPebble_102 : decode cX12_aPebble 102 = .ok (.aload_n 0, 1) := by decide +kernel
theorem dX12_aPebble_103 : decode cX12_aPebble 103 = .ok (.getfield 7, 3) := by decide +kernel
theorem dX12_aPebble_106 : decode cX12_aPebble 106 = .ok (.sipush 5603, 3) := by decide +kernel
theorem dX12_aPebble_109 : decode cX12_aPebble 109 = .ok (.iaload, 1) := by decide +kernel
theorem dX12_aPebble_110 : decode cX12_aPebble 110 = .ok (.invokevirtual 191, 3) := by decide +kernel
theorem dX12_aPebble_113 : decode cX12_aPebble 113 = .ok (.ifCond .ne 5, 3) := by decide +kernel
theorem dX12_aPebble_116 : decode cX12_aPebble 116 = .ok (.iconst 0, 1) := by decide +kernel
theorem dX12_aPebble_117 : decode cX12_aPebble 117 = .ok (.ireturn, 1) := by decide +kernel
theorem dX12_aPebble_118 : decode cX12_aPebble 118 = .ok (.aload_n 0, 1) := by decide +kernel
theorem dX12_aPebble_119 : decode cX12_aPebble 119 = .ok (.sipush 5600, 3) := by decide +kernel
theorem dX12_aPebble_122 : decode cX12_aPebble 122 = .ok (.aload_n 0, 1) := by decide +kernel
theorem dX12_aPebble_123 : decode cX12_aPebble 123 = .ok (.getfield 7, 3) := by decide +kernel
theorem dX12_aPebble_126 : decode cX12_aPebble 126 = .ok (.sipush 6996, 3) := by decide +kernel
theorem dX12_aPebble_129 : decode cX12_aPebble 129 = .ok (.iaload, 1) := by decide +kernel
theorem dX12_aPebble_130 : decode cX12_aPebble 130 = .ok (.aload_n 0, 1) := by decide +kernel
theorem dX12_aPebble_131 : decode cX12_aPebble 131 = .ok (.getfield 7, 3) := by decide +kernel
theorem dX12_aPebble_134 : decode cX12_aPebble 134 = .ok (.sipush 6995, 3) := by decide +kernel
theorem dX12_aPebble_137 : decode cX12_aPebble 137 = .ok (.iaload, 1) := by decide +kernel
theorem dX12_aPebble_138 : decode cX12_aPebble 138 = .ok (.aload_n 0, 1) := by decide +kernel
theorem dX12_aPebble_139 : decode cX12_aPebble 139 = .ok (.getfield 7, 3) := by decide +kernel
theorem dX12_aPebble_142 : decode cX12_aPebble 142 = .ok (.sipush 6997, 3) := by decide +kernel
theorem dX12_aPebble_145 : decode cX12_aPebble 145 = .ok (.iaload, 1) := by decide +kernel
theorem dX12_aPebble_146 : decode cX12_aPebble 146 = .ok (.invokevirtual 210, 3) := by decide +kernel
theorem dX12_aPebble_149 : decode cX12_aPebble 149 = .ok (.aload_n 0, 1) := by decide +kernel
theorem dX12_aPebble_150 : decode cX12_aPebble 150 = .ok (.dup, 1) := by decide +kernel
theorem dX12_aPebble_151 : decode cX12_aPebble 151 = .ok (.getfield 204, 3) := by decide +kernel
theorem dX12_aPebble_154 : decode cX12_aPebble 154 = .ok (.iconst 1, 1) := by decide +kernel
theorem dX12_aPebble_155 : decode cX12_aPebble 155 = .ok (.iadd, 1) := by decide +kernel
theorem dX12_aPebble_156 : decode cX12_aPebble 156 = .ok (.putfield 204, 3) := by decide +kernel
theorem dX12_aPebble_159 : decode cX12_aPebble 159 = .ok (.iconst 1, 1) := by decide +kernel
theorem dX12_aPebble_160 : decode cX12_aPebble 160 = .ok (.ireturn, 1) := by decide +kernel
theorem dX12_isSign_0 : decode cX12_isSign 0 = .ok (.aload_n 0, 1) := by decide +kernel
theorem dX12_isSign_1 : decode cX12_isSign 1 = .ok (.getfield 123, 3) := by decide +kernel
theorem dX12_isSign_4 : decode cX12_isSign 4 = .ok (.iconst 4, 1) := by decide +kernel
theorem dX12_isSign_5 : decode cX12_isSign 5 = .ok (.if_icmp .ne 15, 3) := by decide +kernel
theorem dX12_isSign_8 : decode cX12_isSign 8 = .ok (.aload_n 0, 1) := by decide +kernel
theorem dX12_isSign_9 : decode cX12_isSign 9 = .ok (.getfield 120, 3) := by decide +kernel
theorem dX12_isSign_12 : decode cX12_isSign 12 = .ok (.iload_n 1, 1) := by decide +kernel
theorem dX12_isSign_13 : decode cX12_isSign 13 = .ok (.if_icmp .ne 7, 3) := by decide +kernel
theorem dX12_isSign_16 : decode cX12_isSign 16 = .ok (.iconst 1, 1) := by decide +kernel
theorem dX12_isSign_17 : decode cX12_isSign 17 = .ok (.goto 4, 3) := by decide +kernel
theorem dX12_isSign_20 : decode cX12_isSign 20 = .ok (.iconst 0, 1) := by decide +kernel
theorem dX12_isSign_21 : decode cX12_isSign 21 = .ok (.ireturn, 1) := by decide +kernel
theorem dX12_wantSign_0 : decode cX12_wantSign 0 = .ok (.aload_n 0, 1) := by decide +kernel
theorem dX12_wantSign_1 : decode cX12_wantSign 1 = .ok (.iload_n 1, 1) := by decide +kernel
theorem dX12_wantSign_2 : decode cX12_wantSign 2 = .ok (.invokevirtual 157, 3) := by decide +kernel
theorem dX12_wantSign_5 : decode cX12_wantSign 5 = .ok (.ifCond .ne 9, 3) := by decide +kernel
theorem dX12_wantSign_8 : decode cX12_wantSign 8 = .ok (.aload_n 0, 1) := by decide +kernel
theorem dX12_wantSign_9 : decode cX12_wantSign 9 = .ok (.iconst 2, 1) := by decide +kernel
theorem dX12_wantSign_10 : decode cX12_wantSign 10 = .ok (.invokevirtual 160, 3) := by decide +kernel
theorem dX12_wantSign_13 : decode cX12_wantSign 13 = .ok (.ireturn, 1) := by decide +kernel
theorem dX12_wantSign_14 : decode cX12_wantSign 14 = .ok (.aload_n 0, 1) := by decide +kernel
theorem dX12_wantSign_15 : decode cX12_wantSign 15 = .ok (.invokevirtual 154, 3) := by decide +kernel
theorem dX12_wantSign_18 : decode cX12_wantSign 18 = .ok (.iconst 1, 1) := by decide +kernel
theorem dX12_wantSign_19 : decode cX12_wantSign 19 = .ok (.ireturn, 1) := by decide +kernel
theorem dX12_beachPart_0 : decode cX12_beachPart 0 = .ok (.aload_n 0, 1) := by decide +kernel
theorem dX12_beachPart_1 : decode cX12_beachPart 1 = .ok (.ldc 178, 2) := by decide +kernel
theorem dX12_beachPart_3 : decode cX12_beachPart 3 = .ok (.invokevirtual 163, 3) := by decide +kernel
theorem dX12_beachPart_6 : decode cX12_beachPart 6 = .ok (.tableswitch 62 3 6 #[30, 38, 46, 54], 30) := by decide +kernel
theorem dX12_beachPart_36 : decode cX12_beachPart 36 = .ok (.aload_n 0, 1) := by decide +kernel
theorem dX12_beachPart_37 : decode cX12_beachPart 37 = .ok (.invokevirtual 218, 3) := by decide +kernel
theorem dX12_beachPart_40 : decode cX12_beachPart 40 = .ok (.istore_n 1, 1) := by decide +kernel
theorem dX12_beachPart_41 : decode cX12_beachPart 41 = .ok (.goto 33, 3) := by decide +kernel
theorem dX12_beachPart_44 : decode cX12_beachPart 44 = .ok (.aload_n 0, 1) := by decide +kernel
theorem dX12_beachPart_45 : decode cX12_beachPart 45 = .ok (.invokevirtual 222, 3) := by decide +kernel
theorem dX12_beachPart_48 : decode cX12_beachPart 48 = .ok (.istore_n 1, 1) := by decide +kernel
theorem dX12_beachPart_49 : decode cX12_beachPart 49 = .ok (.goto 25, 3) := by decide +kernel
theorem dX12_beachPart_52 : decode cX12_beachPart 52 = .ok (.aload_n 0, 1) := by decide +kernel
theorem dX12_beachPart_53 : decode cX12_beachPart 53 = .ok (.invokevirtual 225, 3) := by decide +kernel
theorem dX12_beachPart_56 : decode cX12_beachPart 56 = .ok (.istore_n 1, 1) := by decide +kernel
theorem dX12_beachPart_57 : decode cX12_beachPart 57 = .ok (.goto 17, 3) := by decide +kernel
theorem dX12_beachPart_60 : decode cX12_beachPart 60 = .ok (.aload_n 0, 1) := by decide +kernel
theorem dX12_beachPart_61 : decode cX12_beachPart 61 = .ok (.invokevirtual 228, 3) := by decide +kernel
theorem dX12_beachPart_64 : decode cX12_beachPart 64 = .ok (.istore_n 1, 1) := by decide +kernel
theorem dX12_beachPart_65 : decode cX12_beachPart 65 = .ok (.goto 9, 3) := by decide +kernel
theorem dX12_beachPart_68 : decode cX12_beachPart 68 = .ok (.aload_n 0, 1) := by decide +kernel
theorem dX12_beachPart_69 : decode cX12_beachPart 69 = .ok (.iconst 2, 1) := by decide +kernel
theorem dX12_beachPart_70 : decode cX12_beachPart 70 = .ok (.invokevirtual 160, 3) := by decide +kernel
theorem dX12_beachPart_73 : decode cX12_beachPart 73 = .ok (.ireturn, 1) := by decide +kernel
theorem dX12_beachPart_74 : decode cX12_beachPart 74 = .ok (.iload_n 1, 1) := by decide +kernel
theorem dX12_beachPart_75 : decode cX12_beachPart 75 = .ok (.ifCond .eq 16, 3) := by decide +kernel
theorem dX12_beachPart_78 : decode cX12_beachPart 78 = .ok (.aload_n 0, 1) := by decide +kernel
theorem dX12_beachPart_79 : decode cX12_beachPart 79 = .ok (.bipush 59, 2) := by decide +kernel
theorem dX12_beachPart_81 : decode cX12_beachPart 81 = .ok (.invokevirtual 195, 3) := by decide +kernel
theorem dX12_beachPart_84 : decode cX12_beachPart 84 = .ok (.ifCond .eq 7, 3) := by decide +kernel
theorem dX12_beachPart_87 : decode cX12_beachPart 87 = .ok (.iconst 1, 1) := by decide +kernel
theorem dX12_beachPart_88 : decode cX12_beachPart 88 = .ok (.goto 4, 3) := by decide +kernel
theorem dX12_beachPart_91 : decode cX12_beachPart 91 = .ok (.iconst 0, 1) := by decide +kernel
theorem dX12_beachPart_92 : decode cX12_beachPart 92 = .ok (.ireturn, 1) := by decide +kernel
theorem dX12_begins_0 : decode cX12_begins 0 = .ok (.iload_n 1, 1) := by decide +kernel
theorem dX12_begins_1 : decode cX12_begins 1 = .ok (.ifCond .lt 16, 3) := by decide +kernel
theorem dX12_begins_4 : decode cX12_begins 4 = .ok (.iload_n 1, 1) := by decide +kernel
theorem dX12_begins_5 : decode cX12_begins 5 = .ok (.aload_n 0, 1) := by decide +kernel
theorem dX12_begins_6 : decode cX12_begins 6 = .ok (.getfield 102, 3) := by decide +kernel
theorem dX12_begins_9 : decode cX12_begins 9 = .ok (.if_icmp .gt 8, 3) := by decide +kernel
theorem dX12_begins_12 : decode cX12_begins 12 = .ok (.iload_n 1, 1) := by decide +kernel
theorem dX12_begins_13 : decode cX12_begins 13 = .ok (.iload_n 2, 1) := by decide +kernel
theorem dX12_begins_14 : decode cX12_begins 14 = .ok (.if_icmp .le 5, 3) := by decide +kernel
theorem dX12_begins_17 : decode cX12_begins 17 = .ok (.iconst 0, 1) := by decide +kernel
theorem dX12_begins_18 : decode cX12_begins 18 = .ok (.ireturn, 1) := by decide +kernel
theorem dX12_begins_19 : decode cX12_begins 19 = .ok (.aload_n 0, 1) := by decide +kernel
theorem dX12_begins_20 : decode cX12_begins 20 = .ok (.iload_n 1, 1) := by decide +kernel
theorem dX12_begins_21 : decode cX12_begins 21 = .ok (.putfield 108, 3) := by decide +kernel
theorem dX12_begins_24 : decode cX12_begins 24 = .ok (.iconst 0, 1) := by decide +kernel
theorem dX12_begins_25 : decode cX12_begins 25 = .ok (.istore_n 3, 1) := by decide +kernel
theorem dX12_begins_26 : decode cX12_begins 26 = .ok (.iload_n 3, 1) := by decide +kernel
theorem dX12_begins_27 : decode cX12_begins 27 = .ok (.iload_n 1, 1) := by decide +kernel
theorem dX12_begins_28 : decode cX12_begins 28 = .ok (.if_icmp .ge 21, 3) := by decide +kernel
theorem dX12_begins_31 : decode cX12_begins 31 = .ok (.aload_n 0, 1) := by decide +kernel
theorem dX12_begins_32 : decode cX12_begins 32 = .ok (.getfield 34, 3) := by decide +kernel
theorem dX12_begins_35 : decode cX12_begins 35 = .ok (.iload_n 3, 1) := by decide +kernel
theorem dX12_begins_36 : decode cX12_begins 36 = .ok (.aload_n 0, 1) := by decide +kernel
theorem dX12_begins_37 : decode cX12_begins 37 = .ok (.getfield 30, 3) := by decide +kernel
theorem dX12_begins_40 : decode cX12_begins 40 = .ok (.iload_n 3, 1) := by decide +kernel
theorem dX12_begins_41 : decode cX12_begins 41 = .ok (.baload, 1) := by decide +kernel
theorem dX12_begins_42 : decode cX12_begins 42 = .ok (.bastore, 1) := by decide +kernel
theorem dX12_begins_43 : decode cX12_begins 43 = .ok (.iinc 3 1, 3) := by decide +kernel
theorem dX12_begins_46 : decode cX12_begins 46 = .ok (.goto (-20), 3) := by decide +kernel
theorem dX12_begins_49 : decode cX12_begins 49 = .ok (.aload_n 0, 1) := by decide +kernel
theorem dX12_begins_50 : decode cX12_begins 50 = .ok (.iconst 0, 1) := by decide +kernel
theorem dX12_begins_51 : decode cX12_begins 51 = .ok (.putfield 102, 3) := by decide +kernel
theorem dX12_begins_54 : decode cX12_begins 54 = .ok (.aload_n 0, 1) := by decide +kernel
theorem dX12_begins_55 : decode cX12_begins 55 = .ok (.iconst 0, 1) := by decide +kernel
theorem dX12_begins_56 : decode cX12_begins 56 = .ok (.putfield 148, 3) := by decide +kernel
theorem dX12_begins_59 : decode cX12_begins 59 = .ok (.aload_n 0, 1) := by decide +kernel
theorem dX12_begins_60 : decode cX12_begins 60 = .ok (.iconst (-1), 1) := by decide +kernel
theorem dX12_begins_61 : decode cX12_begins 61 = .ok (.putfield 41, 3) := by decide +kernel
theorem dX12_begins_64 : decode cX12_begins 64 = .ok (.aload_n 0, 1) := by decide +kernel
theorem dX12_begins_65 : decode cX12_begins 65 = .ok (.iconst 0, 1) := by decide +kernel
theorem dX12_begins_66 : decode cX12_begins 66 = .ok (.putfield 111, 3) := by decide +kernel
theorem dX12_begins_69 : decode cX12_begins 69 = .ok (.aload_n 0, 1) := by decide +kernel
theorem dX12_begins_70 : decode cX12_begins 70 = .ok (.iconst 0, 1) := by decide +kernel
theorem dX12_begins_71 : decode cX12_begins 71 = .ok (.putfield 151, 3) := by decide +kernel
theorem dX12_begins_74 : decode cX12_begins 74 = .ok (.aload_n 0, 1) := by decide +kernel
theorem dX12_begins_75 : decode cX12_begins 75 = .ok (.invokevirtual 154, 3) := by decide +kernel
theorem dX12_begins_78 : decode cX12_begins 78 = .ok (.iconst 1, 1) := by decide +kernel
theorem dX12_begins_79 : decode cX12_begins 79 = .ok (.ireturn, 1) := by decide +kernel
theorem dX12_first_0 : decode cX12_first 0 = .ok (.aload_n 0, 1) := by decide +kernel
theorem dX12_first_1 : decode cX12_first 1 = .ok (.ldc 178, 2) := by decide +kernel
theorem dX12_first_3 : decode cX12_first 3 = .ok (.iconst 0, 1) := by decide +kernel
theorem dX12_first_4 : decode cX12_first 4 = .ok (.invokevirtual 187, 3) := by decide +kernel
theorem dX12_first_7 : decode cX12_first 7 = .ok (.ifCond .eq 40, 3) := by decide +kernel
theorem dX12_first_10 : decode cX12_first 10 = .ok (.aload_n 0, 1) := by decide +kernel
theorem dX12_first_11 : decode cX12_first 11 = .ok (.sipush 5600, 3) := by decide +kernel
theorem dX12_first_14 : decode cX12_first 14 = .ok (.iconst 2, 1) := by decide +kernel
theorem dX12_first_15 : decode cX12_first 15 = .ok (.bipush 40, 2) := by decide +kernel
theorem dX12_first_17 : decode cX12_first 17 = .ok (.invokevirtual 191, 3) := by decide +kernel
theorem dX12_first_20 : decode cX12_first 20 = .ok (.ifCond .eq 27, 3) := by decide +kernel
theorem dX12_first_23 : decode cX12_first 23 = .ok (.aload_n 0, 1) := by decide +kernel
theorem dX12_first_24 : decode cX12_first 24 = .ok (.ldc 178, 2) := by decide +kernel
theorem dX12_first_26 : decode cX12_first 26 = .ok (.iconst 1, 1) := by decide +kernel
theorem dX12_first_27 : decode cX12_first 27 = .ok (.invokevirtual 187, 3) := by decide +kernel
theorem dX12_first_30 : decode cX12_first 30 = .ok (.ifCond .eq 17, 3) := by decide +kernel
theorem dX12_first_33 : decode cX12_first 33 = .ok (.aload_n 0, 1) := by decide +kernel
theorem dX12_first_34 : decode cX12_first 34 = .ok (.sipush 5603, 3) := by decide +kernel
theorem dX12_first_37 : decode cX12_first 37 = .ok (.iconst 1, 1) := by decide +kernel
theorem dX12_first_38 : decode cX12_first 38 = .ok (.sipush 240, 3) := by decide +kernel
theorem dX12_first_41 : decode cX12_first 41 = .ok (.invokevirtual 191, 3) := by decide +kernel
theorem dX12_first_44 : decode cX12_first 44 = .ok (.ifCond .ne 5, 3) := by decide +kernel
theorem dX12_first_47 : decode cX12_first 47 = .ok (.iconst 0, 1) := by decide +kernel
theorem dX12_first_48 : decode cX12_first 48 = .ok (.ireturn, 1) := by decide +kernel
theorem dX12_first_49 : decode cX12_first 49 = .ok (.aload_n 0, 1) := by decide +kernel
theorem dX12_first_50 : decode cX12_first 50 = .ok (.ldc 178, 2) := by decide +kernel
theorem dX12_first_52 : decode cX12_first 52 = .ok (.invokevirtual 163, 3) := by decide +kernel
theorem dX12_first_55 : decode cX12_first 55 = .ok (.iconst 2, 1) := by decide +kernel
theorem dX12_first_56 : decode cX12_first 56 = .ok (.if_icmp .ne 22, 3) := by decide +kernel
theorem dX12_first_59 : decode cX12_first 59 = .ok (.aload_n 0, 1) := by decide +kernel
theorem dX12_first_60 : decode cX12_first 60 = .ok (.invokevirtual 154, 3) := by decide +kernel
theorem dX12_first_63 : decode cX12_first 63 = .ok (.aload_n 0, 1) := by decide +kernel
theorem dX12_first_64 : decode cX12_first 64 = .ok (.sipush 5604, 3) := by decide +kernel
theorem dX12_first_67 : decode cX12_first 67 = .ok (.iconst 0, 1) := by decide +kernel
theorem dX12_first_68 : decode cX12_first 68 = .ok (.bipush 60, 2) := by decide +kernel
theorem dX12_first_70 : decode cX12_first 70 = .ok (.invokevirtual 191, 3) := by decide +kernel
theorem dX12_first_73 : decode cX12_first 73 = .ok (.ifCond .ne 5, 3) := by decide +kernel
theorem dX12_first_76 : decode cX12_first 76 = .ok (.iconst 0, 1) := by decide +kernel
theorem dX12_first_77 : decode cX12_first 77 = .ok (.ireturn, 1) := by decide +kernel
theorem dX12_first_78 : decode cX12_first 78 = .ok (.aload_n 0, 1) := by decide +kernel
theorem dX12_first_79 : decode cX12_first 79 = .ok (.bipush 59, 2) := by decide +kernel
theorem dX12_first_81 : decode cX12_first 81 = .ok (.invokevirtual 195, 3) := by decide +kernel
theorem dX12_first_84 : decode cX12_first 84 = .ok (.ireturn, 1) := by decide +kernel
theorem dX12_plain_0 : decode cX12_plain 0 = .ok (.iconst 0, 1) := by decide +kernel
theorem dX12_plain_1 : decode cX12_plain 1 = .ok (.istore_n 2, 1) := by decide +kernel
theorem dX12_plain_2 : decode cX12_plain 2 = .ok (.iload_n 2, 1) := by decide +kernel
theorem dX12_plain_3 : decode cX12_plain 3 = .ok (.sipush 1400, 3) := by decide +kernel
theorem dX12_plain_6 : decode cX12_plain 6 = .ok (.if_icmp .ge 18, 3) := by decide +kernel
theorem dX12_plain_9 : decode cX12_plain 9 = .ok (.aload_n 0, 1) := by decide +kernel
theorem dX12_plain_10 : decode cX12_plain 10 = .ok (.getfield 7, 3) := by decide +kernel
theorem dX12_plain_13 : decode cX12_plain 13 = .ok (.iload_n 1, 1) := by decide +kernel
theorem dX12_plain_14 : decode cX12_plain 14 = .ok (.iload_n 2, 1) := by decide +kernel
theorem dX12_plain_15 : decode cX12_plain 15 = .ok (.iadd, 1) := by decide +kernel
theorem dX12_plain_16 : decode cX12_plain 16 = .ok (.iconst 0, 1) := by decide +kernel
theorem dX12_plain_17 : decode cX12_plain 17 = .ok (.iastore, 1) := by decide +kernel
theorem dX12_plain_18 : decode cX12_plain 18 = .ok (.iinc 2 1, 3) := by decide +kernel
theorem dX12_plain_21 : decode cX12_plain 21 = .ok (.goto (-19), 3) := by decide +kernel
theorem dX12_plain_24 : decode cX12_plain 24 = .ok (.aload_n 0, 1) := by decide +kernel
theorem dX12_plain_25 : decode cX12_plain 25 = .ok (.getfield 7, 3) := by decide +kernel
theorem dX12_plain_28 : decode cX12_plain 28 = .ok (.iload_n 1, 1) := by decide +kernel
theorem dX12_plain_29 : decode cX12_plain 29 = .ok (.iconst 5, 1) := by decide +kernel
theorem dX12_plain_30 : decode cX12_plain 30 = .ok (.iadd, 1) := by decide +kernel
theorem dX12_plain_31 : decode cX12_plain 31 = .ok (.iconst 1, 1) := by decide +kernel
theorem dX12_plain_32 : decode cX12_plain 32 = .ok (.iastore, 1) := by decide +kernel
theorem dX12_plain_33 : decode cX12_plain 33 = .ok (.aload_n 0, 1) := by decide +kernel
theorem dX12_plain_34 : decode cX12_plain 34 = .ok (.getfield 7, 3) := by decide +kernel
theorem dX12_plain_37 : decode cX12_plain 37 = .ok (.iload_n 1, 1) := by decide +kernel
theorem dX12_plain_38 : decode cX12_plain 38 = .ok (.bipush 9, 2) := by decide +kernel
theorem dX12_plain_40 : decode cX12_plain 40 = .ok (.iadd, 1) := by decide +kernel
theorem dX12_plain_41 : decode cX12_plain 41 = .ok (.iconst (-1), 1) := by decide +kernel
theorem dX12_plain_42 : decode cX12_plain 42 = .ok (.iastore, 1) := by decide +kernel
theorem dX12_plain_43 : decode cX12_plain 43 = .ok (.return_, 1) := by decide +kernel
theorem dX12_taken_0 : decode cX12_taken 0 = .ok (.aload_n 0, 1) := by decide +kernel
theorem dX12_taken_1 : decode cX12_taken 1 = .ok (.aload_n 0, 1) := by decide +kernel
theorem dX12_taken_2 : decode cX12_taken 2 = .ok (.getfield 148, 3) := by decide +kernel
theorem dX12_taken_5 : decode cX12_taken 5 = .ok (.putfield 37, 3) := by decide +kernel
theorem dX12_taken_8 : decode cX12_taken 8 = .ok (.aload_n 0, 1) := by decide +kernel
theorem dX12_taken_9 : decode cX12_taken 9 = .ok (.getfield 148, 3) := by decide +kernel
theorem dX12_taken_12 : decode cX12_taken 12 = .ok (.ifCond .le 12, 3) := by decide +kernel
theorem dX12_taken_15 : decode cX12_taken 15 = .ok (.aload_n 0, 1) := by decide +kernel
theorem dX12_taken_16 : decode cX12_taken 16 = .ok (.bipush 9, 2) := by decide +kernel
theorem dX12_taken_18 : decode cX12_taken 18 = .ok (.invokevirtual 78, 3) := by decide +kernel
theorem dX12_taken_21 : decode cX12_taken 21 = .ok (.goto 8, 3) := by decide +kernel
theorem dX12_taken_24 : decode cX12_taken 24 = .ok (.aload_n 0, 1) := by decide +kernel
theorem dX12_taken_25 : decode cX12_taken 25 = .ok (.iload_n 1, 1) := by decide +kernel
theorem dX12_taken_26 : decode cX12_taken 26 = .ok (.invokevirtual 82, 3) := by decide +kernel
theorem dX12_taken_29 : decode cX12_taken 29 = .ok (.ireturn, 1) := by decide +kernel
theorem dX12_beach_0 : decode cX12_beach 0 = .ok (.aload_n 0, 1) := by decide +kernel
theorem dX12_beach_1 : decode cX12_beach 1 = .ok (.iload_n 1, 1) := by decide +kernel
theorem dX12_beach_2 : decode cX12_beach 2 = .ok (.sipush 900, 3) := by decide +kernel
theorem dX12_beach_5 : decode cX12_beach 5 = .ok (.invokevirtual 231, 3) := by decide +kernel
theorem dX12_beach_8 : decode cX12_beach 8 = .ok (.ifCond .ne 9, 3) := by decide +kernel
theorem dX12_beach_11 : decode cX12_beach 11 = .ok (.aload_n 0, 1) := by decide +kernel
theorem dX12_beach_12 : decode cX12_beach 12 = .ok (.iconst 1, 1) := by decide +kernel
theorem dX12_beach_13 : decode cX12_beach 13 = .ok (.invokevirtual 78, 3) := by decide +kernel
theorem dX12_beach_16 : decode cX12_beach 16 = .ok (.ireturn, 1) := by decide +kernel
theorem dX12_beach_17 : decode cX12_beach 17 = .ok (.aload_n 0, 1) := by decide +kernel
theorem dX12_beach_18 : decode cX12_beach 18 = .ok (.sipush 5600, 3) := by decide +kernel
theorem dX12_beach_21 : decode cX12_beach 21 = .ok (.invokevirtual 68, 3) := by decide +kernel
theorem dX12_beach_24 : decode cX12_beach 24 = .ok (.aload_n 0, 1) := by decide +kernel
theorem dX12_beach_25 : decode cX12_beach 25 = .ok (.iconst 0, 1) := by decide +kernel
theorem dX12_beach_26 : decode cX12_beach 26 = .ok (.putfield 214, 3) := by decide +kernel
theorem dX12_beach_29 : decode cX12_beach 29 = .ok (.aload_n 0, 1) := by decide +kernel
theorem dX12_beach_30 : decode cX12_beach 30 = .ok (.iconst 0, 1) := by decide +kernel
theorem dX12_beach_31 : decode cX12_beach 31 = .ok (.putfield 204, 3) := by decide +kernel
theorem dX12_beach_34 : decode cX12_beach 34 = .ok (.aload_n 0, 1) := by decide +kernel
theorem dX12_beach_35 : decode cX12_beach 35 = .ok (.invokevirtual 235, 3) := by decide +kernel
theorem dX12_beach_38 : decode cX12_beach 38 = .ok (.istore_n 2, 1) := by decide +kernel
theorem dX12_beach_39 : decode cX12_beach 39 = .ok (.iload_n 2, 1) := by decide +kernel
theorem dX12_beach_40 : decode cX12_beach 40 = .ok (.ifCond .eq 18, 3) := by decide +kernel
theorem dX12_beach_43 : decode cX12_beach 43 = .ok (.aload_n 0, 1) := by decide +kernel
theorem dX12_beach_44 : decode cX12_beach 44 = .ok (.getfield 123, 3) := by decide +kernel
theorem dX12_beach_47 : decode cX12_beach 47 = .ok (.ifCond .eq 11, 3) := by decide +kernel
theorem dX12_beach_50 : decode cX12_beach 50 = .ok (.aload_n 0, 1) := by decide +kernel
theorem dX12_beach_51 : decode cX12_beach 51 = .ok (.invokevirtual 238, 3) := by decide +kernel
theorem dX12_beach_54 : decode cX12_beach 54 = .ok (.istore_n 2, 1) := by decide +kernel
theorem dX12_beach_55 : decode cX12_beach 55 = .ok (.goto (-16), 3) := by decide +kernel
theorem dX12_beach_58 : decode cX12_beach 58 = .ok (.aload_n 0, 1) := by decide +kernel
theorem dX12_beach_59 : decode cX12_beach 59 = .ok (.getfield 148, 3) := by decide +kernel
theorem dX12_beach_62 : decode cX12_beach 62 = .ok (.ifCond .ne 63, 3) := by decide +kernel
theorem dX12_beach_65 : decode cX12_beach 65 = .ok (.iconst 0, 1) := by decide +kernel
theorem dX12_beach_66 : decode cX12_beach 66 = .ok (.istore_n 3, 1) := by decide +kernel
theorem dX12_beach_67 : decode cX12_beach 67 = .ok (.iload_n 3, 1) := by decide +kernel
theorem dX12_beach_68 : decode cX12_beach 68 = .ok (.sipush 1400, 3) := by decide +kernel
theorem dX12_beach_71 : decode cX12_beach 71 = .ok (.if_icmp .ge 25, 3) := by decide +kernel
theorem dX12_beach_74 : decode cX12_beach 74 = .ok (.aload_n 0, 1) := by decide +kernel
theorem dX12_beach_75 : decode cX12_beach 75 = .ok (.getfield 7, 3) := by decide +kernel
theorem dX12_beach_78 : decode cX12_beach 78 = .ok (.iload_n 3, 1) := by decide +kernel
theorem dX12_beach_79 : decode cX12_beach 79 = .ok (.aload_n 0, 1) := by decide +kernel
theorem dX12_beach_80 : decode cX12_beach 80 = .ok (.getfield 7, 3) := by decide +kernel
theorem dX12_beach_83 : decode cX12_beach 83 = .ok (.sipush 5600, 3) := by decide +kernel
theorem dX12_beach_86 : decode cX12_beach 86 = .ok (.iload_n 3, 1) := by decide +kernel
theorem dX12_beach_87 : decode cX12_beach 87 = .ok (.iadd, 1) := by decide +kernel
theorem dX12_beach_88 : decode cX12_beach 88 = .ok (.iaload, 1) := by decide +kernel
theorem dX12_beach_89 : decode cX12_beach 89 = .ok (.iastore, 1) := by decide +kernel
theorem dX12_beach_90 : decode cX12_beach 90 = .ok (.iinc 3 1, 3) := by decide +kernel
theorem dX12_beach_93 : decode cX12_beach 93 = .ok (.goto (-26), 3) := by decide +kernel
theorem dX12_beach_96 : decode cX12_beach 96 = .ok (.iconst 0, 1) := by decide +kernel
theorem dX12_beach_97 : decode cX12_beach 97 = .ok (.istore_n 3, 1) := by decide +kernel
theorem dX12_beach_98 : decode cX12_beach 98 = .ok (.iload_n 3, 1) := by decide +kernel
theorem dX12_beach_99 : decode cX12_beach 99 = .ok (.bipush 14, 2) := by decide +kernel
theorem dX12_beach_101 : decode cX12_beach 101 = .ok (.if_icmp .ge 24, 3) := by decide +kernel
theorem dX12_beach_104 : decode cX12_beach 104 = .ok (.aload_n 0, 1) := by decide +kernel
theorem dX12_beach_105 : decode cX12_beach 105 = .ok (.getfield 13, 3) := by decide +kernel
theorem dX12_beach_108 : decode cX12_beach 108 = .ok (.iload_n 3, 1) := by decide +kernel
theorem dX12_beach_109 : decode cX12_beach 109 = .ok (.aload_n 0, 1) := by decide +kernel
theorem dX12_beach_110 : decode cX12_beach 110 = .ok (.getfield 13, 3) := by decide +kernel
theorem dX12_beach_113 : decode cX12_beach 113 = .ok (.bipush 56, 2) := by decide +kernel
theorem dX12_beach_115 : decode cX12_beach 115 = .ok (.iload_n 3, 1) := by decide +kernel
theorem dX12_beach_116 : decode cX12_beach 116 = .ok (.iadd, 1) := by decide +kernel
theorem dX12_beach_117 : decode cX12_beach 117 = .ok (.laload, 1) := by decide +kernel
theorem dX12_beach_118 : decode cX12_beach 118 = .ok (.lastore, 1) := by decide +kernel
theorem dX12_beach_119 : decode cX12_beach 119 = .ok (.iinc 3 1, 3) := by decide +kernel
theorem dX12_beach_122 : decode cX12_beach 122 = .ok (.goto (-24), 3) := by decide +kernel
theorem dX12_beach_125 : decode cX12_beach 125 = .ok (.aload_n 0, 1) := by decide +kernel
theorem dX12_beach_126 : decode cX12_beach 126 = .ok (.aload_n 0, 1) := by decide +kernel
theorem dX12_beach_127 : decode cX12_beach 127 = .ok (.getfield 7, 3) := by decide +kernel
theorem dX12_beach_130 : decode cX12_beach 130 = .ok (.iconst 2, 1) := by decide +kernel
theorem dX12_beach_131 : decode cX12_beach 131 = .ok (.iaload, 1) := by decide +kernel
theorem dX12_beach_132 : decode cX12_beach 132 = .ok (.invokevirtual 241, 3) := by decide +kernel
theorem dX12_beach_135 : decode cX12_beach 135 = .ok (.ireturn, 1) := by decide +kernel
theorem dX12_isThere_0 : decode cX12_isThere 0 = .ok (.aload_n 0, 1) := by decide +kernel
theorem dX12_isThere_1 : decode cX12_isThere 1 = .ok (.getfield 7, 3) := by decide +kernel
theorem dX12_isThere_4 : decode cX12_isThere 4 = .ok (.bipush 7, 2) := by decide +kernel
theorem dX12_isThere_6 : decode cX12_isThere 6 = .ok (.iaload, 1) := by decide +kernel
theorem dX12_isThere_7 : decode cX12_isThere 7 = .ok (.iload_n 1, 1) := by decide +kernel
theorem dX12_isThere_8 : decode cX12_isThere 8 = .ok (.ishr, 1) := by decide +kernel
theorem dX12_isThere_9 : decode cX12_isThere 9 = .ok (.iconst 1, 1) := by decide +kernel
theorem dX12_isThere_10 : decode cX12_isThere 10 = .ok (.iand, 1) := by decide +kernel
theorem dX12_isThere_11 : decode cX12_isThere 11 = .ok (.iconst 1, 1) := by decide +kernel
theorem dX12_isThere_12 : decode cX12_isThere 12 = .ok (.if_icmp .ne 7, 3) := by decide +kernel
theorem dX12_isThere_15 : decode cX12_isThere 15 = .ok (.iconst 1, 1) := by decide +kernel
theorem dX12_isThere_16 : decode cX12_isThere 16 = .ok (.goto 4, 3) := by decide +kernel
theorem dX12_isThere_19 : decode cX12_isThere 19 = .ok (.iconst 0, 1) := by decide +kernel
theorem dX12_isThere_20 : decode cX12_isThere 20 = .ok (.ireturn, 1) := by decide +kernel
theorem dX12_minuteAt_0 : decode cX12_minuteAt 0 = .ok (.aload_n 0, 1) := by decide +kernel
theorem dX12_minuteAt_1 : decode cX12_minuteAt 1 = .ok (.getfield 7, 3) := by decide +kernel
theorem dX12_minuteAt_4 : decode cX12_minuteAt 4 = .ok (.iconst 0, 1) := by decide +kernel
theorem dX12_minuteAt_5 : decode cX12_minuteAt 5 = .ok (.iload_n 1, 1) := by decide +kernel
theorem dX12_minuteAt_6 : decode cX12_minuteAt 6 = .ok (.iload_n 2, 1) := by decide +kernel
theorem dX12_minuteAt_7 : decode cX12_minuteAt 7 = .ok (.invokestatic 174, 3) := by decide +kernel
theorem dX12_minuteAt_10 : decode cX12_minuteAt 10 = .ok (.iconst 1, 1) := by decide +kernel
theorem dX12_minuteAt_11 : decode cX12_minuteAt 11 = .ok (.iadd, 1) := by decide +kernel
theorem dX12_minuteAt_12 : decode cX12_minuteAt 12 = .ok (.iaload, 1) := by decide +kernel
theorem dX12_minuteAt_13 : decode cX12_minuteAt 13 = .ok (.ireturn, 1) := by decide +kernel
theorem dX12_lastOn_0 : decode cX12_lastOn 0 = .ok (.iconst 0, 1) := by decide +kernel
theorem dX12_lastOn_1 : decode cX12_lastOn 1 = .ok (.istore_n 2, 1) := by decide +kernel
theorem dX12_lastOn_2 : decode cX12_lastOn 2 = .ok (.aload_n 0, 1) := by decide +kernel
theorem dX12_lastOn_3 : decode cX12_lastOn 3 = .ok (.iload_n 1, 1) := by decide +kernel
theorem dX12_lastOn_4 : decode cX12_lastOn 4 = .ok (.invokevirtual 277, 3) := by decide +kernel
theorem dX12_lastOn_7 : decode cX12_lastOn 7 = .ok (.iconst 1, 1) := by decide +kernel
theorem dX12_lastOn_8 : decode cX12_lastOn 8 = .ok (.isub, 1) := by decide +kernel
theorem dX12_lastOn_9 : decode cX12_lastOn 9 = .ok (.istore_n 3, 1) := by decide +kernel
theorem dX12_lastOn_10 : decode cX12_lastOn 10 = .ok (.iload_n 3, 1) := by decide +kernel
theorem dX12_lastOn_11 : decode cX12_lastOn 11 = .ok (.ifCond .lt 41, 3) := by decide +kernel
theorem dX12_lastOn_14 : decode cX12_lastOn 14 = .ok (.aload_n 0, 1) := by decide +kernel
theorem dX12_lastOn_15 : decode cX12_lastOn 15 = .ok (.iload_n 1, 1) := by decide +kernel
theorem dX12_lastOn_16 : decode cX12_lastOn 16 = .ok (.iload_n 3, 1) := by decide +kernel
theorem dX12_lastOn_17 : decode cX12_lastOn 17 = .ok (.invokevirtual 314, 3) := by decide +kernel
theorem dX12_lastOn_20 : decode cX12_lastOn 20 = .ok (.aload_n 0, 1) := by decide +kernel
theorem dX12_lastOn_21 : decode cX12_lastOn 21 = .ok (.iload_n 1, 1) := by decide +kernel
theorem dX12_lastOn_22 : decode cX12_lastOn 22 = .ok (.aload_n 0, 1) := by decide +kernel
theorem dX12_lastOn_23 : decode cX12_lastOn 23 = .ok (.iload_n 1, 1) := by decide +kernel
theorem dX12_lastOn_24 : decode cX12_lastOn 24 = .ok (.invokevirtual 277, 3) := by decide +kernel
theorem dX12_lastOn_27 : decode cX12_lastOn 27 = .ok (.iconst 1, 1) := by decide +kernel
theorem dX12_lastOn_28 : decode cX12_lastOn 28 = .ok (.isub, 1) := by decide +kernel
theorem dX12_lastOn_29 : decode cX12_lastOn 29 = .ok (.invokevirtual 314, 3) := by decide +kernel
theorem dX12_lastOn_32 : decode cX12_lastOn 32 = .ok (.if_icmp .ne 20, 3) := by decide +kernel
theorem dX12_lastOn_35 : decode cX12_lastOn 35 = .ok (.iload_n 2, 1) := by decide +kernel
theorem dX12_lastOn_36 : decode cX12_lastOn 36 = .ok (.iconst 1, 1) := by decide +kernel
theorem dX12_lastOn_37 : decode cX12_lastOn 37 = .ok (.aload_n 0, 1) := by decide +kernel
theorem dX12_lastOn_38 : decode cX12_lastOn 38 = .ok (.iload_n 1, 1) := by decide +kernel
theorem dX12_lastOn_39 : decode cX12_lastOn 39 = .ok (.iload_n 3, 1) := by decide +kernel
theorem dX12_lastOn_40 : decode cX12_lastOn 40 = .ok (.invokevirtual 308, 3) := by decide +kernel
theorem dX12_lastOn_43 : decode cX12_lastOn 43 = .ok (.ishl, 1) := by decide +kernel
theorem dX12_lastOn_44 : decode cX12_lastOn 44 = .ok (.ior, 1) := by decide +kernel
theorem dX12_lastOn_45 : decode cX12_lastOn 45 = .ok (.istore_n 2, 1) := by decide +kernel
theorem dX12_lastOn_46 : decode cX12_lastOn 46 = .ok (.iinc 3 (-1), 3) := by decide +kernel
theorem dX12_lastOn_49 : decode cX12_lastOn 49 = .ok (.goto (-39), 3) := by decide +kernel
theorem dX12_lastOn_52 : decode cX12_lastOn 52 = .ok (.iload_n 2, 1) := by decide +kernel
theorem dX12_lastOn_53 : decode cX12_lastOn 53 = .ok (.ireturn, 1) := by decide +kernel
theorem dX12_ownersOf_0 : decode cX12_ownersOf 0 = .ok (.aload_n 0, 1) := by decide +kernel
theorem dX12_ownersOf_1 : decode cX12_ownersOf 1 = .ok (.iload_n 1, 1) := by decide +kernel
theorem dX12_ownersOf_2 : decode cX12_ownersOf 2 = .ok (.invokevirtual 337, 3) := by decide +kernel
theorem dX12_ownersOf_5 : decode cX12_ownersOf 5 = .ok (.istore_n 2, 1) := by decide +kernel
theorem dX12_ownersOf_6 : decode cX12_ownersOf 6 = .ok (.iload_n 2, 1) := by decide +kernel
theorem dX12_ownersOf_7 : decode cX12_ownersOf 7 = .ok (.invokestatic 340, 3) := by decide +kernel
theorem dX12_ownersOf_10 : decode cX12_ownersOf 10 = .ok (.iconst 2, 1) := by decide +kernel
theorem dX12_ownersOf_11 : decode cX12_ownersOf 11 = .ok (.if_icmp .lt 13, 3) := by decide +kernel
theorem dX12_ownersOf_14 : decode cX12_ownersOf 14 = .ok (.aload_n 0, 1) := by decide +kernel
theorem dX12_ownersOf_15 : decode cX12_ownersOf 15 = .ok (.getfield 7, 3) := by decide +kernel
theorem dX12_ownersOf_18 : decode cX12_ownersOf 18 = .ok (.iconst 5, 1) := by decide +kernel
theorem dX12_ownersOf_19 : decode cX12_ownersOf 19 = .ok (.iaload, 1) := by decide +kernel
theorem dX12_ownersOf_20 : decode cX12_ownersOf 20 = .ok (.iconst 3, 1) := by decide +kernel
theorem dX12_ownersOf_21 : decode cX12_ownersOf 21 = .ok (.if_icmp .ne 5, 3) := by decide +kernel
theorem dX12_ownersOf_24 : decode cX12_ownersOf 24 = .ok (.iload_n 2, 1) := by decide +kernel
theorem dX12_ownersOf_25 : decode cX12_ownersOf 25 = .ok (.ireturn, 1) := by decide +kernel
theorem dX12_ownersOf_26 : decode cX12_ownersOf 26 = .ok (.aload_n 0, 1) := by decide +kernel
theorem dX12_ownersOf_27 : decode cX12_ownersOf 27 = .ok (.getfield 7, 3) := by decide +kernel
theorem dX12_ownersOf_30 : decode cX12_ownersOf 30 = .ok (.iconst 5, 1) := by decide +kernel
theorem dX12_ownersOf_31 : decode cX12_ownersOf 31 = .ok (.iaload, 1) := by decide +kernel
theorem dX12_ownersOf_32 : decode cX12_ownersOf 32 = .ok (.ifCond .ne 5, 3) := by decide +kernel
theorem dX12_ownersOf_35 : decode cX12_ownersOf 35 = .ok (.iconst 0, 1) := by decide +kernel
theorem dX12_ownersOf_36 : decode cX12_ownersOf 36 = .ok (.ireturn, 1) := by decide +kernel
theorem dX12_ownersOf_37 : decode cX12_ownersOf 37 = .ok (.iconst (-1), 1) := by decide +kernel
theorem dX12_ownersOf_38 : decode cX12_ownersOf 38 = .ok (.istore_n 3, 1) := by decide +kernel
theorem dX12_ownersOf_39 : decode cX12_ownersOf 39 = .ok (.iconst 0, 1) := by decide +kernel
theorem dX12_ownersOf_40 : decode cX12_ownersOf 40 = .ok (.istore 4, 2) := by decide +kernel
theorem dX12_ownersOf_42 : decode cX12_ownersOf 42 = .ok (.iload 4, 2) := by decide +kernel
theorem dX12_ownersOf_44 : decode cX12_ownersOf 44 = .ok (.aload_n 0, 1) := by decide +kernel
theorem dX12_ownersOf_45 : decode cX12_ownersOf 45 = .ok (.getfield 7, 3) := by decide +kernel
theorem dX12_ownersOf_48 : decode cX12_ownersOf 48 = .ok (.iconst 1, 1) := by decide +kernel
theorem dX12_ownersOf_49 : decode cX12_ownersOf 49 = .ok (.iaload, 1) := by decide +kernel
theorem dX12_ownersOf_50 : decode cX12_ownersOf 50 = .ok (.if_icmp .ge 37, 3) := by decide +kernel
theorem dX12_ownersOf_53 : decode cX12_ownersOf 53 = .ok (.iload_n 2, 1) := by decide +kernel
theorem dX12_ownersOf_54 : decode cX12_ownersOf 54 = .ok (.iload 4, 2) := by decide +kernel
theorem dX12_ownersOf_56 : decode cX12_ownersOf 56 = .ok (.ishr, 1) := by decide +kernel
theorem dX12_ownersOf_57 : decode cX12_ownersOf 57 = .ok (.iconst 1, 1) := by decide +kernel
theorem dX12_ownersOf_58 : decode cX12_ownersOf 58 = .ok (.iand, 1) := by decide +kernel
theorem dX12_ownersOf_59 : decode cX12_ownersOf 59 = .ok (.iconst 1, 1) := by decide +kernel
theorem dX12_ownersOf_60 : decode cX12_ownersOf 60 = .ok (.if_icmp .ne 21, 3) := by decide +kernel
theorem dX12_ownersOf_63 : decode cX12_ownersOf 63 = .ok (.iload_n 3, 1) := by decide +kernel
theorem dX12_ownersOf_64 : decode cX12_ownersOf 64 = .ok (.iconst (-1), 1) := by decide +kernel
theorem dX12_ownersOf_65 : decode cX12_ownersOf 65 = .ok (.if_icmp .eq 13, 3) := by decide +kernel
theorem dX12_ownersOf_68 : decode cX12_ownersOf 68 = .ok (.aload_n 0, 1) := by decide +kernel
theorem dX12_ownersOf_69 : decode cX12_ownersOf 69 = .ok (.getfield 7, 3) := by decide +kernel
theorem dX12_ownersOf_72 : decode cX12_ownersOf 72 = .ok (.iconst 5, 1) := by decide +kernel
theorem dX12_ownersOf_73 : decode cX12_ownersOf 73 = .ok (.iaload, 1) := by decide +kernel
theorem dX12_ownersOf_74 : decode cX12_ownersOf 74 = .ok (.iconst 2, 1) := by decide +kernel
theorem dX12_ownersOf_75 : decode cX12_ownersOf 75 = .ok (.if_icmp .ne 6, 3) := by decide +kernel
theorem dX12_ownersOf_78 : decode cX12_ownersOf 78 = .ok (.iload 4, 2) := by decide +kernel
theorem dX12_ownersOf_80 : decode cX12_ownersOf 80 = .ok (.istore_n 3, 1) := by decide +kernel
theorem dX12_ownersOf_81 : decode cX12_ownersOf 81 = .ok (.iinc 4 1, 3) := by decide +kernel
theorem dX12_ownersOf_84 : decode cX12_ownersOf 84 = .ok (.goto (-42), 3) := by decide +kernel
theorem dX12_ownersOf_87 : decode cX12_ownersOf 87 = .ok (.iconst 1, 1) := by decide +kernel
theorem dX12_ownersOf_88 : decode cX12_ownersOf 88 = .ok (.iload_n 3, 1) := by decide +kernel
theorem dX12_ownersOf_89 : decode cX12_ownersOf 89 = .ok (.ishl, 1) := by decide +kernel
theorem dX12_ownersOf_90 : decode cX12_ownersOf 90 = .ok (.ireturn, 1) := by decide +kernel
theorem dX12_shareOf_0 : decode cX12_shareOf 0 = .ok (.aload_n 0, 1) := by decide +kernel
theorem dX12_shareOf_1 : decode cX12_shareOf 1 = .ok (.iload_n 2, 1) := by decide +kernel
theorem dX12_shareOf_2 : decode cX12_shareOf 2 = .ok (.invokevirtual 268, 3) := by decide +kernel
theorem dX12_shareOf_5 : decode cX12_shareOf 5 = .ok (.ifCond .eq 11, 3) := by decide +kernel
theorem dX12_shareOf_8 : decode cX12_shareOf 8 = .ok (.aload_n 0, 1) := by decide +kernel
theorem dX12_shareOf_9 : decode cX12_shareOf 9 = .ok (.iload_n 2, 1) := by decide +kernel
theorem dX12_shareOf_10 : decode cX12_shareOf 10 = .ok (.invokevirtual 343, 3) := by decide +kernel
theorem dX12_shareOf_13 : decode cX12_shareOf 13 = .ok (.goto 4, 3) := by decide +kernel
theorem dX12_shareOf_16 : decode cX12_shareOf 16 = .ok (.iconst 0, 1) := by decide +kernel
theorem dX12_shareOf_17 : decode cX12_shareOf 17 = .ok (.istore_n 3, 1) := by decide +kernel
theorem dX12_shareOf_18 : decode cX12_shareOf 18 = .ok (.iload_n 3, 1) := by decide +kernel
theorem dX12_shareOf_19 : decode cX12_shareOf 19 = .ok (.iload_n 1, 1) := by decide +kernel
theorem dX12_shareOf_20 : decode cX12_shareOf 20 = .ok (.ishr, 1) := by decide +kernel
theorem dX12_shareOf_21 : decode cX12_shareOf 21 = .ok (.iconst 1, 1) := by decide +kernel
theorem dX12_shareOf_22 : decode cX12_shareOf 22 = .ok (.iand, 1) := by decide +kernel
theorem dX12_shareOf_23 : decode cX12_shareOf 23 = .ok (.ifCond .ne 7, 3) := by decide +kernel
theorem dX12_shareOf_26 : decode cX12_shareOf 26 = .ok (.iconst 0, 1) := by decide +kernel
theorem dX12_shareOf_27 : decode cX12_shareOf 27 = .ok (.goto 20, 3) := by decide +kernel
theorem dX12_shareOf_30 : decode cX12_shareOf 30 = .ok (.aload_n 0, 1) := by decide +kernel
theorem dX12_shareOf_31 : decode cX12_shareOf 31 = .ok (.getfield 7, 3) := by decide +kernel
theorem dX12_shareOf_34 : decode cX12_shareOf 34 = .ok (.iconst 0, 1) := by decide +kernel
theorem dX12_shareOf_35 : decode cX12_shareOf 35 = .ok (.iload_n 2, 1) := by decide +kernel
theorem dX12_shareOf_36 : decode cX12_shareOf 36 = .ok (.invokestatic 171, 3) := by decide +kernel
theorem dX12_shareOf_39 : decode cX12_shareOf 39 = .ok (.iconst 1, 1) := by decide +kernel
theorem dX12_shareOf_40 : decode cX12_shareOf 40 = .ok (.iadd, 1) := by decide +kernel
theorem dX12_shareOf_41 : decode cX12_shareOf 41 = .ok (.iaload, 1) := by decide +kernel
theorem dX12_shareOf_42 : decode cX12_shareOf 42 = .ok (.iload_n 3, 1) := by decide +kernel
theorem dX12_shareOf_43 : decode cX12_shareOf 43 = .ok (.invokestatic 340, 3) := by decide +kernel
theorem dX12_shareOf_46 : decode cX12_shareOf 46 = .ok (.idiv, 1) := by decide +kernel
theorem dX12_shareOf_47 : decode cX12_shareOf 47 = .ok (.ireturn, 1) := by decide +kernel
theorem dX12_leadOf_0 : decode cX12_leadOf 0 = .ok (.iconst 0, 1) := by decide +kernel
theorem dX12_leadOf_1 : decode cX12_leadOf 1 = .ok (.istore_n 2, 1) := by decide +kernel
theorem dX12_leadOf_2 : decode cX12_leadOf 2 = .ok (.iconst 0, 1) := by decide +kernel
theorem dX12_leadOf_3 : decode cX12_leadOf 3 = .ok (.istore_n 3, 1) := by decide +kernel
theorem dX12_leadOf_4 : decode cX12_leadOf 4 = .ok (.iload_n 3, 1) := by decide +kernel
theorem dX12_leadOf_5 : decode cX12_leadOf 5 = .ok (.aload_n 0, 1) := by decide +kernel
theorem dX12_leadOf_6 : decode cX12_leadOf 6 = .ok (.getfield 7, 3) := by decide +kernel
theorem dX12_leadOf_9 : decode cX12_leadOf 9 = .ok (.iconst 2, 1) := by decide +kernel
theorem dX12_leadOf_10 : decode cX12_leadOf 10 = .ok (.iaload, 1) := by decide +kernel
theorem dX12_leadOf_11 : decode cX12_leadOf 11 = .ok (.if_icmp .ge 18, 3) := by decide +kernel
theorem dX12_leadOf_14 : decode cX12_leadOf 14 = .ok (.iload_n 2, 1) := by decide +kernel
theorem dX12_leadOf_15 : decode cX12_leadOf 15 = .ok (.aload_n 0, 1) := by decide +kernel
theorem dX12_leadOf_16 : decode cX12_leadOf 16 = .ok (.iload_n 1, 1) := by decide +kernel
theorem dX12_leadOf_17 : decode cX12_leadOf 17 = .ok (.iload_n 3, 1) := by decide +kernel
theorem dX12_leadOf_18 : decode cX12_leadOf 18 = .ok (.invokevirtual 346, 3) := by decide +kernel
theorem dX12_leadOf_21 : decode cX12_leadOf 21 = .ok (.iadd, 1) := by decide +kernel
theorem dX12_leadOf_22 : decode cX12_leadOf 22 = .ok (.istore_n 2, 1) := by decide +kernel
theorem dX12_leadOf_23 : decode cX12_leadOf 23 = .ok (.iinc 3 1, 3) := by decide +kernel
theorem dX12_leadOf_26 : decode cX12_leadOf 26 = .ok (.goto (-22), 3) := by decide +kernel
theorem dX12_leadOf_29 : decode cX12_leadOf 29 = .ok (.iload_n 2, 1) := by decide +kernel
theorem dX12_leadOf_30 : decode cX12_leadOf 30 = .ok (.ireturn, 1) := by decide +kernel
theorem dX12_atRank_0 : decode cX12_atRank 0 = .ok (.iconst 0, 1) := by decide +kernel
theorem dX12_atRank_1 : decode cX12_atRank 1 = .ok (.istore_n 2, 1) := by decide +kernel
theorem dX12_atRank_2 : decode cX12_atRank 2 = .ok (.iload_n 2, 1) := by decide +kernel
theorem dX12_atRank_3 : decode cX12_atRank 3 = .ok (.aload_n 0, 1) := by decide +kernel
theorem dX12_atRank_4 : decode cX12_atRank 4 = .ok (.getfield 7, 3) := by decide +kernel
theorem dX12_atRank_7 : decode cX12_atRank 7 = .ok (.iconst 1, 1) := by decide +kernel
theorem dX12_atRank_8 : decode cX12_atRank 8 = .ok (.iaload, 1) := by decide +kernel
theorem dX12_atRank_9 : decode cX12_atRank 9 = .ok (.if_icmp .ge 80, 3) := by decide +kernel
theorem dX12_atRank_12 : decode cX12_atRank 12 = .ok (.iconst 0, 1) := by decide +kernel
theorem dX12_atRank_13 : decode cX12_atRank 13 = .ok (.istore_n 3, 1) := by decide +kernel
theorem dX12_atRank_14 : decode cX12_atRank 14 = .ok (.iconst 0, 1) := by decide +kernel
theorem dX12_atRank_15 : decode cX12_atRank 15 = .ok (.istore 4, 2) := by decide +kernel
theorem dX12_atRank_17 : decode cX12_atRank 17 = .ok (.iload 4, 2) := by decide +kernel
theorem dX12_atRank_19 : decode cX12_atRank 19 = .ok (.aload_n 0, 1) := by decide +kernel
theorem dX12_atRank_20 : decode cX12_atRank 20 = .ok (.getfield 7, 3) := by decide +kernel
theorem dX12_atRank_23 : decode cX12_atRank 23 = .ok (.iconst 1, 1) := by decide +kernel
theorem dX12_atRank_24 : decode cX12_atRank 24 = .ok (.iaload, 1) := by decide +kernel
theorem dX12_atRank_25 : decode cX12_atRank 25 = .ok (.if_icmp .ge 51, 3) := by decide +kernel
theorem dX12_atRank_28 : decode cX12_atRank 28 = .ok (.iload_n 3, 1) := by decide +kernel
theorem dX12_atRank_29 : decode cX12_atRank 29 = .ok (.aload_n 0, 1) := by decide +kernel
theorem dX12_atRank_30 : decode cX12_atRank 30 = .ok (.iload 4, 2) := by decide +kernel
theorem dX12_atRank_32 : decode cX12_atRank 32 = .ok (.invokevirtual 352, 3) := by decide +kernel
theorem dX12_atRank_35 : decode cX12_atRank 35 = .ok (.aload_n 0, 1) := by decide +kernel
theorem dX12_atRank_36 : decode cX12_atRank 36 = .ok (.iload_n 2, 1) := by decide +kernel
theorem dX12_atRank_37 : decode cX12_atRank 37 = .ok (.invokevirtual 352, 3) := by decide +kernel
theorem dX12_atRank_40 : decode cX12_atRank 40 = .ok (.if_icmp .gt 23, 3) := by decide +kernel
theorem dX12_atRank_43 : decode cX12_atRank 43 = .ok (.aload_n 0, 1) := by decide +kernel
theorem dX12_atRank_44 : decode cX12_atRank 44 = .ok (.iload 4, 2) := by decide +kernel
theorem dX12_atRank_46 : decode cX12_atRank 46 = .ok (.invokevirtual 352, 3) := by decide +kernel
theorem dX12_atRank_49 : decode cX12_atRank 49 = .ok (.aload_n 0, 1) := by decide +kernel
theorem dX12_atRank_50 : decode cX12_atRank 50 = .ok (.iload_n 2, 1) := by decide +kernel
theorem dX12_atRank_51 : decode cX12_atRank 51 = .ok (.invokevirtual 352, 3) := by decide +kernel
theorem dX12_atRank_54 : decode cX12_atRank 54 = .ok (.if_icmp .ne 13, 3) := by decide +kernel
theorem dX12_atRank_57 : decode cX12_atRank 57 = .ok (.iload 4, 2) := by decide +kernel
theorem dX12_atRank_59 : decode cX12_atRank 59 = .ok (.iload_n 2, 1) := by decide +kernel
theorem dX12_atRank_60 : decode cX12_atRank 60 = .ok (.if_icmp .ge 7, 3) := by decide +kernel
theorem dX12_atRank_63 : decode cX12_atRank 63 = .ok (.iconst 1, 1) := by decide +kernel
theorem dX12_atRank_64 : decode cX12_atRank 64 = .ok (.goto 4, 3) := by decide +kernel
theorem dX12_atRank_67 : decode cX12_atRank 67 = .ok (.iconst 0, 1) := by decide +kernel
theorem dX12_atRank_68 : decode cX12_atRank 68 = .ok (.iadd, 1) := by decide +kernel
theorem dX12_atRank_69 : decode cX12_atRank 69 = .ok (.istore_n 3, 1) := by decide +kernel
theorem dX12_atRank_70 : decode cX12_atRank 70 = .ok (.iinc 4 1, 3) := by decide +kernel
theorem dX12_atRank_73 : decode cX12_atRank 73 = .ok (.goto (-56), 3) := by decide +kernel
theorem dX12_atRank_76 : decode cX12_atRank 76 = .ok (.iload_n 3, 1) := by decide +kernel
theorem dX12_atRank_77 : decode cX12_atRank 77 = .ok (.iload_n 1, 1) := by decide +kernel
theorem dX12_atRank_78 : decode cX12_atRank 78 = .ok (.if_icmp .ne 5, 3) := by decide +kernel
theorem dX12_atRank_81 : decode cX12_atRank 81 = .ok (.iload_n 2, 1) := by decide +kernel
theorem dX12_atRank_82 : decode cX12_atRank 82 = .ok (.ireturn, 1) := by decide +kernel
theorem dX12_atRank_83 : decode cX12_atRank 83 = .ok (.iinc 2 1, 3) := by decide +kernel
theorem dX12_atRank_86 : decode cX12_atRank 86 = .ok (.goto (-84), 3) := by decide +kernel
theorem dX12_atRank_89 : decode cX12_atRank 89 = .ok (.iconst (-1), 1) := by decide +kernel
theorem dX12_atRank_90 : decode cX12_atRank 90 = .ok (.ireturn, 1) := by decide +kernel
theorem dX12_isFinder_0 : decode cX12_isFinder 0 = .ok (.iload_n 1, 1) := by decide +kernel
theorem dX12_isFinder_1 : decode cX12_isFinder 1 = .ok (.ifCond .lt 17, 3) := by decide +kernel
theorem dX12_isFinder_4 : decode cX12_isFinder 4 = .ok (.iload_n 1, 1) := by decide +kernel
theorem dX12_isFinder_5 : decode cX12_isFinder 5 = .ok (.aload_n 0, 1) := by decide +kernel
theorem dX12_isFinder_6 : decode cX12_isFinder 6 = .ok (.getfield 7, 3) := by decide +kernel
theorem dX12_isFinder_9 : decode cX12_isFinder 9 = .ok (.iconst 1, 1) := by decide +kernel
theorem dX12_isFinder_10 : decode cX12_isFinder 10 = .ok (.iaload, 1) := by decide +kernel
theorem dX12_isFinder_11 : decode cX12_isFinder 11 = .ok (.if_icmp .ge 7, 3) := by decide +kernel
theorem dX12_isFinder_14 : decode cX12_isFinder 14 = .ok (.iconst 1, 1) := by decide +kernel
theorem dX12_isFinder_15 : decode cX12_isFinder 15 = .ok (.goto 4, 3) := by decide +kernel
theorem dX12_isFinder_18 : decode cX12_isFinder 18 = .ok (.iconst 0, 1) := by decide +kernel
theorem dX12_isFinder_19 : decode cX12_isFinder 19 = .ok (.ireturn, 1) := by decide +kernel
theorem dX12_behind_0 : decode cX12_behind 0 = .ok (.aload_n 0, 1) := by decide +kernel
theorem dX12_behind_1 : decode cX12_behind 1 = .ok (.iload_n 1, 1) := by decide +kernel
theorem dX12_behind_2 : decode cX12_behind 2 = .ok (.invokevirtual 271, 3) := by decide +kernel
theorem dX12_behind_5 : decode cX12_behind 5 = .ok (.ifCond .eq 25, 3) := by decide +kernel
theorem dX12_behind_8 : decode cX12_behind 8 = .ok (.aload_n 0, 1) := by decide +kernel
theorem dX12_behind_9 : decode cX12_behind 9 = .ok (.aload_n 0, 1) := by decide +kernel
theorem dX12_behind_10 : decode cX12_behind 10 = .ok (.aload_n 0, 1) := by decide +kernel
theorem dX12_behind_11 : decode cX12_behind 11 = .ok (.iconst 0, 1) := by decide +kernel
theorem dX12_behind_12 : decode cX12_behind 12 = .ok (.invokevirtual 355, 3) := by decide +kernel
theorem dX12_behind_15 : decode cX12_behind 15 = .ok (.invokevirtual 352, 3) := by decide +kernel
theorem dX12_behind_18 : decode cX12_behind 18 = .ok (.aload_n 0, 1) := by decide +kernel
theorem dX12_behind_19 : decode cX12_behind 19 = .ok (.iload_n 1, 1) := by decide +kernel
theorem dX12_behind_20 : decode cX12_behind 20 = .ok (.invokevirtual 352, 3) := by decide +kernel
theorem dX12_behind_23 : decode cX12_behind 23 = .ok (.isub, 1) := by decide +kernel
theorem dX12_behind_24 : decode cX12_behind 24 = .ok (.invokevirtual 82, 3) := by decide +kernel
theorem dX12_behind_27 : decode cX12_behind 27 = .ok (.goto 8, 3) := by decide +kernel
theorem dX12_behind_30 : decode cX12_behind 30 = .ok (.aload_n 0, 1) := by decide +kernel
theorem dX12_behind_31 : decode cX12_behind 31 = .ok (.iconst 1, 1) := by decide +kernel
theorem dX12_behind_32 : decode cX12_behind 32 = .ok (.invokevirtual 78, 3) := by decide +kernel
theorem dX12_behind_35 : decode cX12_behind 35 = .ok (.ireturn, 1) := by decide +kernel
theorem dX12_behindOthers_0 : decode cX12_behindOthers 0 = .ok (.iconst 0, 1) := by decide +kernel
theorem dX12_behindOthers_1 : decode cX12_behindOthers 1 = .ok (.istore_n 3, 1) := by decide +kernel
theorem dX12_behindOthers_2 : decode cX12_behindOthers 2 = .ok (.iconst 0, 1) := by decide +kernel
theorem dX12_behindOthers_3 : decode cX12_behindOthers 3 = .ok (.istore 4, 2) := by decide +kernel
theorem dX12_behindOthers_5 : decode cX12_behindOthers 5 = .ok (.iload 4, 2) := by decide +kernel
theorem dX12_behindOthers_7 : decode cX12_behindOthers 7 = .ok (.aload_n 0, 1) := by decide +kernel
theorem dX12_behindOthers_8 : decode cX12_behindOthers 8 = .ok (.iload_n 2, 1) := by decide +kernel
theorem dX12_behindOthers_9 : decode cX12_behindOthers 9 = .ok (.invokevirtual 277, 3) := by decide +kernel
theorem dX12_behindOthers_12 : decode cX12_behindOthers 12 = .ok (.if_icmp .ge 34, 3) := by decide +kernel
theorem dX12_behindOthers_15 : decode cX12_behindOthers 15 = .ok (.aload_n 0, 1) := by decide +kernel
theorem dX12_behindOthers_16 : decode cX12_behindOthers 16 = .ok (.iload_n 2, 1) := by decide +kernel
theorem dX12_behindOthers_17 : decode cX12_behindOthers 17 = .ok (.iload 4, 2) := by decide +kernel
theorem dX12_behindOthers_19 : decode cX12_behindOthers 19 = .ok (.invokevirtual 308, 3) := by decide +kernel
theorem dX12_behindOthers_22 : decode cX12_behindOthers 22 = .ok (.iload_n 1, 1) := by decide +kernel
theorem dX12_behindOthers_23 : decode cX12_behindOthers 23 = .ok (.if_icmp .eq 17, 3) := by decide +kernel
theorem dX12_behindOthers_26 : decode cX12_behindOthers 26 = .ok (.iload_n 3, 1) := by decide +kernel
theorem dX12_behindOthers_27 : decode cX12_behindOthers 27 = .ok (.aload_n 0, 1) := by decide +kernel
theorem dX12_behindOthers_28 : decode cX12_behindOthers 28 = .ok (.iload_n 2, 1) := by decide +kernel
theorem dX12_behindOthers_29 : decode cX12_behindOthers 29 = .ok (.iload 4, 2) := by decide +kernel
theorem dX12_behindOthers_31 : decode cX12_behindOthers 31 = .ok (.invokevirtual 314, 3) := by decide +kernel
theorem dX12_behindOthers_34 : decode cX12_behindOthers 34 = .ok (.iconst 1, 1) := by decide +kernel
theorem dX12_behindOthers_35 : decode cX12_behindOthers 35 = .ok (.iadd, 1) := by decide +kernel
theorem dX12_behindOthers_36 : decode cX12_behindOthers 36 = .ok (.invokestatic 375, 3) := by decide +kernel
theorem dX12_behindOthers_39 : decode cX12_behindOthers 39 = .ok (.istore_n 3, 1) := by decide +kernel
theorem dX12_behindOthers_40 : decode cX12_behindOthers 40 = .ok (.iinc 4 1, 3) := by decide +kernel
theorem dX12_behindOthers_43 : decode cX12_behindOthers 43 = .ok (.goto (-38), 3) := by decide +kernel
theorem dX12_behindOthers_46 : decode cX12_behindOthers 46 = .ok (.iload_n 3, 1) := by decide +kernel
theorem dX12_behindOthers_47 : decode cX12_behindOthers 47 = .ok (.ireturn, 1) := by decide +kernel
theorem dX12_finderRow_0 : decode cX12_finderRow 0 = .ok (.bipush 10, 2) := by decide +kernel
theorem dX12_finderRow_2 : decode cX12_finderRow 2 = .ok (.iconst 5, 1) := by decide +kernel
theorem dX12_finderRow_3 : decode cX12_finderRow 3 = .ok (.iload_n 0, 1) := by decide +kernel
theorem dX12_finderRow_4 : decode cX12_finderRow 4 = .ok (.imul, 1) := by decide +kernel
theorem dX12_finderRow_5 : decode cX12_finderRow 5 = .ok (.iadd, 1) := by decide +kernel
theorem dX12_finderRow_6 : decode cX12_finderRow 6 = .ok (.ireturn, 1) := by decide +kernel
theorem dX12_rounds_0 : decode cX12_rounds 0 = .ok (.iload_n 1, 1) := by decide +kernel
theorem dX12_rounds_1 : decode cX12_rounds 1 = .ok (.invokestatic 274, 3) := by decide +kernel
theorem dX12_rounds_4 : decode cX12_rounds 4 = .ok (.istore_n 3, 1) := by decide +kernel
theorem dX12_rounds_5 : decode cX12_rounds 5 = .ok (.iconst 0, 1) := by decide +kernel
theorem dX12_rounds_6 : decode cX12_rounds 6 = .ok (.istore 4, 2) := by decide +kernel
theorem dX12_rounds_8 : decode cX12_rounds 8 = .ok (.iconst 0, 1) := by decide +kernel
theorem dX12_rounds_9 : decode cX12_rounds 9 = .ok (.istore 5, 2) := by decide +kernel
theorem dX12_rounds_11 : decode cX12_rounds 11 = .ok (.iconst 0, 1) := by decide +kernel
theorem dX12_rounds_12 : decode cX12_rounds 12 = .ok (.istore 6, 2) := by decide +kernel
theorem dX12_rounds_14 : decode cX12_rounds 14 = .ok (.iconst 0, 1) := by decide +kernel
theorem dX12_rounds_15 : decode cX12_rounds 15 = .ok (.istore 7, 2) := by decide +kernel
theorem dX12_rounds_17 : decode cX12_rounds 17 = .ok (.aload_n 0, 1) := by decide +kernel
theorem dX12_rounds_18 : decode cX12_rounds 18 = .ok (.iconst 0, 1) := by decide +kernel
theorem dX12_rounds_19 : decode cX12_rounds 19 = .ok (.putfield 396, 3) := by decide +kernel
theorem dX12_rounds_22 : decode cX12_rounds 22 = .ok (.aload_n 0, 1) := by decide +kernel
theorem dX12_rounds_23 : decode cX12_rounds 23 = .ok (.getfield 47, 3) := by decide +kernel
theorem dX12_rounds_26 : decode cX12_rounds 26 = .ok (.iconst 0, 1) := by decide +kernel
theorem dX12_rounds_27 : decode cX12_rounds 27 = .ok (.iconst (-1), 1) := by decide +kernel
theorem dX12_rounds_28 : decode cX12_rounds 28 = .ok (.iastore, 1) := by decide +kernel
theorem dX12_rounds_29 : decode cX12_rounds 29 = .ok (.iload 7, 2) := by decide +kernel
theorem dX12_rounds_31 : decode cX12_rounds 31 = .ok (.ifCond .lt 368, 3) := by decide +kernel
theorem dX12_rounds_34 : decode cX12_rounds 34 = .ok (.aload_n 0, 1) := by decide +kernel
theorem dX12_rounds_35 : decode cX12_rounds 35 = .ok (.getfield 47, 3) := by decide +kernel
theorem dX12_rounds_38 : decode cX12_rounds 38 = .ok (.iload 7, 2) := by decide +kernel
theorem dX12_rounds_40 : decode cX12_rounds 40 = .ok (.iaload, 1) := by decide +kernel
theorem dX12_rounds_41 : decode cX12_rounds 41 = .ok (.iconst (-1), 1) := by decide +kernel
theorem dX12_rounds_42 : decode cX12_rounds 42 = .ok (.if_icmp .eq 42, 3) := by decide +kernel
theorem dX12_rounds_45 : decode cX12_rounds 45 = .ok (.iload 6, 2) := by decide +kernel
theorem dX12_rounds_47 : decode cX12_rounds 47 = .ok (.iconst 1, 1) := by decide +kernel
theorem dX12_rounds_48 : decode cX12_rounds 48 = .ok (.aload_n 0, 1) := by decide +kernel
theorem dX12_rounds_49 : decode cX12_rounds 49 = .ok (.getfield 47, 3) := by decide +kernel
theorem dX12_rounds_52 : decode cX12_rounds 52 = .ok (.iload 7, 2) := by decide +kernel
theorem dX12_rounds_54 : decode cX12_rounds 54 = .ok (.iaload, 1) := by decide +kernel
theorem dX12_rounds_55 : decode cX12_rounds 55 = .ok (.ishl, 1) := by decide +kernel
theorem dX12_rounds_56 : decode cX12_rounds 56 = .ok (.iconst (-1), 1) := by decide +kernel
theorem dX12_rounds_57 : decode cX12_rounds 57 = .ok (.ixor, 1) := by decide +kernel
theorem dX12_rounds_58 : decode cX12_rounds 58 = .ok (.iand, 1) := by decide +kernel
theorem dX12_rounds_59 : decode cX12_rounds 59 = .ok (.istore 6, 2) := by decide +kernel
theorem dX12_rounds_61 : decode cX12_rounds 61 = .ok (.iload 5, 2) := by decide +kernel
theorem dX12_rounds_63 : decode cX12_rounds 63 = .ok (.aload_n 0, 1) := by decide +kernel
theorem dX12_rounds_64 : decode cX12_rounds 64 = .ok (.getfield 7, 3) := by decide +kernel
theorem dX12_rounds_67 : decode cX12_rounds 67 = .ok (.iconst 0, 1) := by decide +kernel
theorem dX12_rounds_68 : decode cX12_rounds 68 = .ok (.aload_n 0, 1) := by decide +kernel
theorem dX12_rounds_69 : decode cX12_rounds 69 = .ok (.getfield 47, 3) := by decide +kernel
theorem dX12_rounds_72 : decode cX12_rounds 72 = .ok (.iload 7, 2) := by decide +kernel
theorem dX12_rounds_74 : decode cX12_rounds 74 = .ok (.iaload, 1) := by decide +kernel
theorem dX12_rounds_75 : decode cX12_rounds 75 = .ok (.invokestatic 171, 3) := by decide +kernel
theorem dX12_rounds_78 : decode cX12_rounds 78 = .ok (.iconst 1, 1) := by decide +kernel
theorem dX12_rounds_79 : decode cX12_rounds 79 = .ok (.iadd, 1) := by decide +kernel
theorem dX12_rounds_80 : decode cX12_rounds 80 = .ok (.iaload, 1) := by decide +kernel
theorem dX12_rounds_81 : decode cX12_rounds 81 = .ok (.isub, 1) := by decide +kernel
theorem dX12_rounds_82 : decode cX12_rounds 82 = .ok (.istore 5, 2) := by decide +kernel
theorem dX12_rounds_84 : decode cX12_rounds 84 = .ok (.aload_n 0, 1) := by decide +kernel
theorem dX12_rounds_85 : decode cX12_rounds 85 = .ok (.getfield 47, 3) := by decide +kernel
theorem dX12_rounds_88 : decode cX12_rounds 88 = .ok (.iload 7, 2) := by decide +kernel
theorem dX12_rounds_90 : decode cX12_rounds 90 = .ok (.iaload, 1) := by decide +kernel
theorem dX12_rounds_91 : decode cX12_rounds 91 = .ok (.iconst 1, 1) := by decide +kernel
theorem dX12_rounds_92 : decode cX12_rounds 92 = .ok (.iadd, 1) := by decide +kernel
theorem dX12_rounds_93 : decode cX12_rounds 93 = .ok (.istore 8, 2) := by decide +kernel
theorem dX12_rounds_95 : decode cX12_rounds 95 = .ok (.iload 7, 2) := by decide +kernel
theorem dX12_rounds_97 : decode cX12_rounds 97 = .ok (.ifCond .ne 12, 3) := by decide +kernel
theorem dX12_rounds_100 : decode cX12_rounds 100 = .ok (.aload_n 0, 1) := by decide +kernel
theorem dX12_rounds_101 : decode cX12_rounds 101 = .ok (.getfield 7, 3) := by decide +kernel
theorem dX12_rounds_104 : decode cX12_rounds 104 = .ok (.iload_n 3, 1) := by decide +kernel
theorem dX12_rounds_105 : decode cX12_rounds 105 = .ok (.iaload, 1) := by decide +kernel
theorem dX12_rounds_106 : decode cX12_rounds 106 = .ok (.goto 21, 3) := by decide +kernel
theorem dX12_rounds_109 : decode cX12_rounds 109 = .ok (.aload_n 0, 1) := by decide +kernel
theorem dX12_rounds_110 : decode cX12_rounds 110 = .ok (.getfield 7, 3) := by decide +kernel
theorem dX12_rounds_113 : decode cX12_rounds 113 = .ok (.iconst 0, 1) := by decide +kernel
theorem dX12_rounds_114 : decode cX12_rounds 114 = .ok (.aload_n 0, 1) := by decide +kernel
theorem dX12_rounds_115 : decode cX12_rounds 115 = .ok (.getfield 47, 3) := by decide +kernel
theorem dX12_rounds_118 : decode cX12_rounds 118 = .ok (.iload 7, 2) := by decide +kernel
theorem dX12_rounds_120 : decode cX12_rounds 120 = .ok (.iconst 1, 1) := by decide +kernel
theorem dX12_rounds_121 : decode cX12_rounds 121 = .ok (.isub, 1) := by decide +kernel
theorem dX12_rounds_122 : decode cX12_rounds 122 = .ok (.iaload, 1) := by decide +kernel
theorem dX12_rounds_123 : decode cX12_rounds 123 = .ok (.invokestatic 171, 3) := by decide +kernel
theorem dX12_rounds_126 : decode cX12_rounds 126 = .ok (.iaload, 1) := by decide +kernel
theorem dX12_rounds_127 : decode cX12_rounds 127 = .ok (.istore 9, 2) := by decide +kernel
theorem dX12_rounds_129 : decode cX12_rounds 129 = .ok (.iload 7, 2) := by decide +kernel
theorem dX12_rounds_131 : decode cX12_rounds 131 = .ok (.ifCond .ne 14, 3) := by decide +kernel
theorem dX12_rounds_134 : decode cX12_rounds 134 = .ok (.aload_n 0, 1) := by decide +kernel
theorem dX12_rounds_135 : decode cX12_rounds 135 = .ok (.getfield 7, 3) := by decide +kernel
theorem dX12_rounds_138 : decode cX12_rounds 138 = .ok (.iload_n 3, 1) := by decide +kernel
theorem dX12_rounds_139 : decode cX12_rounds 139 = .ok (.iconst 3, 1) := by decide +kernel
theorem dX12_rounds_140 : decode cX12_rounds 140 = .ok (.iadd, 1) := by decide +kernel
theorem dX12_rounds_141 : decode cX12_rounds 141 = .ok (.iaload, 1) := by decide +kernel
theorem dX12_rounds_142 : decode cX12_rounds 142 = .ok (.goto 12, 3) := by decide +kernel
theorem dX12_rounds_145 : decode cX12_rounds 145 = .ok (.aload_n 0, 1) := by decide +kernel
theorem dX12_rounds_146 : decode cX12_rounds 146 = .ok (.getfield 50, 3) := by decide +kernel
theorem dX12_rounds_149 : decode cX12_rounds 149 = .ok (.iload 7, 2) := by decide +kernel
theorem dX12_rounds_151 : decode cX12_rounds 151 = .ok (.iconst 1, 1) := by decide +kernel
theorem dX12_rounds_152 : decode cX12_rounds 152 = .ok (.isub, 1) := by decide +kernel
theorem dX12_rounds_153 : decode cX12_rounds 153 = .ok (.iaload, 1) := by decide +kernel
theorem dX12_rounds_154 : decode cX12_rounds 154 = .ok (.istore 10, 2) := by decide +kernel
theorem dX12_rounds_156 : decode cX12_rounds 156 = .ok (.iload 8, 2) := by decide +kernel
theorem dX12_rounds_158 : decode cX12_rounds 158 = .ok (.aload_n 0, 1) := by decide +kernel
theorem dX12_rounds_159 : decode cX12_rounds 159 = .ok (.getfield 7, 3) := by decide +kernel
theorem dX12_rounds_162 : decode cX12_rounds 162 = .ok (.iconst 2, 1) := by decide +kernel
theorem dX12_rounds_163 : decode cX12_rounds 163 = .ok (.iaload, 1) := by decide +kernel
theorem dX12_rounds_164 : decode cX12_rounds 164 = .ok (.if_icmp .ge 88, 3) := by decide +kernel
theorem dX12_rounds_167 : decode cX12_rounds 167 = .ok (.aload_n 0, 1) := by decide +kernel
theorem dX12_rounds_168 : decode cX12_rounds 168 = .ok (.getfield 50, 3) := by decide +kernel
theorem dX12_rounds_171 : decode cX12_rounds 171 = .ok (.iload 7, 2) := by decide +kernel
theorem dX12_rounds_173 : decode cX12_rounds 173 = .ok (.iload 10, 2) := by decide +kernel
theorem dX12_rounds_175 : decode cX12_rounds 175 = .ok (.aload_n 0, 1) := by decide +kernel
theorem dX12_rounds_176 : decode cX12_rounds 176 = .ok (.getfield 7, 3) := by decide +kernel
theorem dX12_rounds_179 : decode cX12_rounds 179 = .ok (.iload_n 3, 1) := by decide +kernel
theorem dX12_rounds_180 : decode cX12_rounds 180 = .ok (.iconst 1, 1) := by decide +kernel
theorem dX12_rounds_181 : decode cX12_rounds 181 = .ok (.iadd, 1) := by decide +kernel
theorem dX12_rounds_182 : decode cX12_rounds 182 = .ok (.iaload, 1) := by decide +kernel
theorem dX12_rounds_183 : decode cX12_rounds 183 = .ok (.iload 9, 2) := by decide +kernel
theorem dX12_rounds_185 : decode cX12_rounds 185 = .ok (.aload_n 0, 1) := by decide +kernel
theorem dX12_rounds_186 : decode cX12_rounds 186 = .ok (.getfield 7, 3) := by decide +kernel
theorem dX12_rounds_189 : decode cX12_rounds 189 = .ok (.iconst 0, 1) := by decide +kernel
theorem dX12_rounds_190 : decode cX12_rounds 190 = .ok (.iload 8, 2) := by decide +kernel
theorem dX12_rounds_192 : decode cX12_rounds 192 = .ok (.invokestatic 171, 3) := by decide +kernel
theorem dX12_rounds_195 : decode cX12_rounds 195 = .ok (.iaload, 1) := by decide +kernel
theorem dX12_rounds_196 : decode cX12_rounds 196 = .ok (.isub, 1) := by decide +kernel
theorem dX12_rounds_197 : decode cX12_rounds 197 = .ok (.invokestatic 280, 3) := by decide +kernel
theorem dX12_rounds_200 : decode cX12_rounds 200 = .ok (.imul, 1) := by decide +kernel
theorem dX12_rounds_201 : decode cX12_rounds 201 = .ok (.iadd, 1) := by decide +kernel
theorem dX12_rounds_202 : decode cX12_rounds 202 = .ok (.aload_n 0, 1) := by decide +kernel
theorem dX12_rounds_203 : decode cX12_rounds 203 = .ok (.iload_n 1, 1) := by decide +kernel
theorem dX12_rounds_204 : decode cX12_rounds 204 = .ok (.iload 8, 2) := by decide +kernel
theorem dX12_rounds_206 : decode cX12_rounds 206 = .ok (.invokevirtual 387, 3) := by decide +kernel
theorem dX12_rounds_209 : decode cX12_rounds 209 = .ok (.invokestatic 375, 3) := by decide +kernel
theorem dX12_rounds_212 : decode cX12_rounds 212 = .ok (.iastore, 1) := by decide +kernel
theorem dX12_rounds_213 : decode cX12_rounds 213 = .ok (.aload_n 0, 1) := by decide +kernel
theorem dX12_rounds_214 : decode cX12_rounds 214 = .ok (.iload 8, 2) := by decide +kernel
theorem dX12_rounds_216 : decode cX12_rounds 216 = .ok (.invokevirtual 268, 3) := by decide +kernel
theorem dX12_rounds_219 : decode cX12_rounds 219 = .ok (.ifCond .eq 27, 3) := by decide +kernel
theorem dX12_rounds_222 : decode cX12_rounds 222 = .ok (.iload 6, 2) := by decide +kernel
theorem dX12_rounds_224 : decode cX12_rounds 224 = .ok (.iload 8, 2) := by decide +kernel
theorem dX12_rounds_226 : decode cX12_rounds 226 = .ok (.ishr, 1) := by decide +kernel
theorem dX12_rounds_227 : decode cX12_rounds 227 = .ok (.iconst 1, 1) := by decide +kernel
theorem dX12_rounds_228 : decode cX12_rounds 228 = .ok (.iand, 1) := by decide +kernel
theorem dX12_rounds_229 : decode cX12_rounds 229 = .ok (.ifCond .ne 17, 3) := by decide +kernel
theorem dX12_rounds_232 : decode cX12_rounds 232 = .ok (.aload_n 0, 1) := by decide +kernel
theorem dX12_rounds_233 : decode cX12_rounds 233 = .ok (.getfield 50, 3) := by decide +kernel
theorem dX12_rounds_236 : decode cX12_rounds 236 = .ok (.iload 7, 2) := by decide +kernel
theorem dX12_rounds_238 : decode cX12_rounds 238 = .ok (.iaload, 1) := by decide +kernel
theorem dX12_rounds_239 : decode cX12_rounds 239 = .ok (.iload_n 2, 1) := by decide +kernel
theorem dX12_rounds_240 : decode cX12_rounds 240 = .ok (.if_icmp .gt 6, 3) := by decide +kernel
theorem dX12_rounds_243 : decode cX12_rounds 243 = .ok (.goto 9, 3) := by decide +kernel
theorem dX12_rounds_246 : decode cX12_rounds 246 = .ok (.iinc 8 1, 3) := by decide +kernel
theorem dX12_rounds_249 : decode cX12_rounds 249 = .ok (.goto (-93), 3) := by decide +kernel
theorem dX12_rounds_252 : decode cX12_rounds 252 = .ok (.iload 8, 2) := by decide +kernel
theorem dX12_rounds_254 : decode cX12_rounds 254 = .ok (.aload_n 0, 1) := by decide +kernel
theorem dX12_rounds_255 : decode cX12_rounds 255 = .ok (.getfield 7, 3) := by decide +kernel
theorem dX12_rounds_258 : decode cX12_rounds 258 = .ok (.iconst 2, 1) := by decide +kernel
theorem dX12_rounds_259 : decode cX12_rounds 259 = .ok (.iaload, 1) := by decide +kernel
theorem dX12_rounds_260 : decode cX12_rounds 260 = .ok (.if_icmp .eq 16, 3) := by decide +kernel
theorem dX12_rounds_263 : decode cX12_rounds 263 = .ok (.iload 7, 2) := by decide +kernel
theorem dX12_rounds_265 : decode cX12_rounds 265 = .ok (.aload_n 0, 1) := by decide +kernel
theorem dX12_rounds_266 : decode cX12_rounds 266 = .ok (.getfield 7, 3) := by decide +kernel
theorem dX12_rounds_269 : decode cX12_rounds 269 = .ok (.iload_n 3, 1) := by decide +kernel
theorem dX12_rounds_270 : decode cX12_rounds 270 = .ok (.iconst 2, 1) := by decide +kernel
theorem dX12_rounds_271 : decode cX12_rounds 271 = .ok (.iadd, 1) := by decide +kernel
theorem dX12_rounds_272 : decode cX12_rounds 272 = .ok (.iaload, 1) := by decide +kernel
theorem dX12_rounds_273 : decode cX12_rounds 273 = .ok (.if_icmp .ne 9, 3) := by decide +kernel
theorem dX12_rounds_276 : decode cX12_rounds 276 = .ok (.iinc 7 (-1), 3) := by decide +kernel
theorem dX12_rounds_279 : decode cX12_rounds 279 = .ok (.goto (-250), 3) := by decide +kernel
theorem dX12_rounds_282 : decode cX12_rounds 282 = .ok (.aload_n 0, 1) := by decide +kernel
theorem dX12_rounds_283 : decode cX12_rounds 283 = .ok (.getfield 47, 3) := by decide +kernel
theorem dX12_rounds_286 : decode cX12_rounds 286 = .ok (.iload 7, 2) := by decide +kernel
theorem dX12_rounds_288 : decode cX12_rounds 288 = .ok (.iload 8, 2) := by decide +kernel
theorem dX12_rounds_290 : decode cX12_rounds 290 = .ok (.iastore, 1) := by decide +kernel
theorem dX12_rounds_291 : decode cX12_rounds 291 = .ok (.iload 6, 2) := by decide +kernel
theorem dX12_rounds_293 : decode cX12_rounds 293 = .ok (.iconst 1, 1) := by decide +kernel
theorem dX12_rounds_294 : decode cX12_rounds 294 = .ok (.iload 8, 2) := by decide +kernel
theorem dX12_rounds_296 : decode cX12_rounds 296 = .ok (.ishl, 1) := by decide +kernel
theorem dX12_rounds_297 : decode cX12_rounds 297 = .ok (.ior, 1) := by decide +kernel
theorem dX12_rounds_298 : decode cX12_rounds 298 = .ok (.istore 6, 2) := by decide +kernel
theorem dX12_rounds_300 : decode cX12_rounds 300 = .ok (.iload 5, 2) := by decide +kernel
theorem dX12_rounds_302 : decode cX12_rounds 302 = .ok (.aload_n 0, 1) := by decide +kernel
theorem dX12_rounds_303 : decode cX12_rounds 303 = .ok (.getfield 7, 3) := by decide +kernel
theorem dX12_rounds_306 : decode cX12_rounds 306 = .ok (.iconst 0, 1) := by decide +kernel
theorem dX12_rounds_307 : decode cX12_rounds 307 = .ok (.iload 8, 2) := by decide +kernel
theorem dX12_rounds_309 : decode cX12_rounds 309 = .ok (.invokestatic 171, 3) := by decide +kernel
theorem dX12_rounds_312 : decode cX12_rounds 312 = .ok (.iconst 1, 1) := by decide +kernel
theorem dX12_rounds_313 : decode cX12_rounds 313 = .ok (.iadd, 1) := by decide +kernel
theorem dX12_rounds_314 : decode cX12_rounds 314 = .ok (.iaload, 1) := by decide +kernel
theorem dX12_rounds_315 : decode cX12_rounds 315 = .ok (.iadd, 1) := by decide +kernel
theorem dX12_rounds_316 : decode cX12_rounds 316 = .ok (.istore 5, 2) := by decide +kernel
theorem dX12_rounds_318 : decode cX12_rounds 318 = .ok (.iload 5, 2) := by decide +kernel
theorem dX12_rounds_320 : decode cX12_rounds 320 = .ok (.iload 4, 2) := by decide +kernel
theorem dX12_rounds_322 : decode cX12_rounds 322 = .ok (.if_icmp .gt 21, 3) := by decide +kernel
theorem dX12_rounds_325 : decode cX12_rounds 325 = .ok (.iload 5, 2) := by decide +kernel
theorem dX12_rounds_327 : decode cX12_rounds 327 = .ok (.iload 4, 2) := by decide +kernel
theorem dX12_rounds_329 : decode cX12_rounds 329 = .ok (.if_icmp .ne 56, 3) := by decide +kernel
theorem dX12_rounds_332 : decode cX12_rounds 332 = .ok (.iload 7, 2) := by decide +kernel
theorem dX12_rounds_334 : decode cX12_rounds 334 = .ok (.iconst 1, 1) := by decide +kernel
theorem dX12_rounds_335 : decode cX12_rounds 335 = .ok (.iadd, 1) := by decide +kernel
theorem dX12_rounds_336 : decode cX12_rounds 336 = .ok (.aload_n 0, 1) := by decide +kernel
theorem dX12_rounds_337 : decode cX12_rounds 337 = .ok (.getfield 396, 3) := by decide +kernel
theorem dX12_rounds_340 : decode cX12_rounds 340 = .ok (.if_icmp .ge 45, 3) := by decide +kernel
theorem dX12_rounds_343 : decode cX12_rounds 343 = .ok (.iload 5, 2) := by decide +kernel
theorem dX12_rounds_345 : decode cX12_rounds 345 = .ok (.istore 4, 2) := by decide +kernel
theorem dX12_rounds_347 : decode cX12_rounds 347 = .ok (.aload_n 0, 1) := by decide +kernel
theorem dX12_rounds_348 : decode cX12_rounds 348 = .ok (.iload 7, 2) := by decide +kernel
theorem dX12_rounds_350 : decode cX12_rounds 350 = .ok (.iconst 1, 1) := by decide +kernel
theorem dX12_rounds_351 : decode cX12_rounds 351 = .ok (.iadd, 1) := by decide +kernel
theorem dX12_rounds_352 : decode cX12_rounds 352 = .ok (.putfield 396, 3) := by decide +kernel
theorem dX12_rounds_355 : decode cX12_rounds 355 = .ok (.iconst 0, 1) := by decide +kernel
theorem dX12_rounds_356 : decode cX12_rounds 356 = .ok (.istore 11, 2) := by decide +kernel
theorem dX12_rounds_358 : decode cX12_rounds 358 = .ok (.iload 11, 2) := by decide +kernel
theorem dX12_rounds_360 : decode cX12_rounds 360 = .ok (.iload 7, 2) := by decide +kernel
theorem dX12_rounds_362 : decode cX12_rounds 362 = .ok (.if_icmp .gt 23, 3) := by decide +kernel
theorem dX12_rounds_365 : decode cX12_rounds 365 = .ok (.aload_n 0, 1) := by decide +kernel
theorem dX12_rounds_366 : decode cX12_rounds 366 = .ok (.getfield 53, 3) := by decide +kernel
theorem dX12_rounds_369 : decode cX12_rounds 369 = .ok (.iload 11, 2) := by decide +kernel
theorem dX12_rounds_371 : decode cX12_rounds 371 = .ok (.aload_n 0, 1) := by decide +kernel
theorem dX12_rounds_372 : decode cX12_rounds 372 = .ok (.getfield 47, 3) := by decide +kernel
theorem dX12_rounds_375 : decode cX12_rounds 375 = .ok (.iload 11, 2) := by decide +kernel
theorem dX12_rounds_377 : decode cX12_rounds 377 = .ok (.iaload, 1) := by decide +kernel
theorem dX12_rounds_378 : decode cX12_rounds 378 = .ok (.iastore, 1) := by decide +kernel
theorem dX12_rounds_379 : decode cX12_rounds 379 = .ok (.iinc 11 1, 3) := by decide +kernel
theorem dX12_rounds_382 : decode cX12_rounds 382 = .ok (.goto (-24), 3) := by decide +kernel
theorem dX12_rounds_385 : decode cX12_rounds 385 = .ok (.iinc 7 1, 3) := by decide +kernel
theorem dX12_rounds_388 : decode cX12_rounds 388 = .ok (.aload_n 0, 1) := by decide +kernel
theorem dX12_rounds_389 : decode cX12_rounds 389 = .ok (.getfield 47, 3) := by decide +kernel
theorem dX12_rounds_392 : decode cX12_rounds 392 = .ok (.iload 7, 2) := by decide +kernel
theorem dX12_rounds_394 : decode cX12_rounds 394 = .ok (.iconst (-1), 1) := by decide +kernel
theorem dX12_rounds_395 : decode cX12_rounds 395 = .ok (.iastore, 1) := by decide +kernel
theorem dX12_rounds_396 : decode cX12_rounds 396 = .ok (.goto (-367), 3) := by decide +kernel
theorem dX12_rounds_399 : decode cX12_rounds 399 = .ok (.iload 4, 2) := by decide +kernel
theorem dX12_rounds_401 : decode cX12_rounds 401 = .ok (.ireturn, 1) := by decide +kernel
theorem dX12_best_0 : decode cX12_best 0 = .ok (.aload_n 0, 1) := by decide +kernel
theorem dX12_best_1 : decode cX12_best 1 = .ok (.iload_n 1, 1) := by decide +kernel
theorem dX12_best_2 : decode cX12_best 2 = .ok (.invokevirtual 271, 3) := by decide +kernel
theorem dX12_best_5 : decode cX12_best 5 = .ok (.ifCond .ne 9, 3) := by decide +kernel
theorem dX12_best_8 : decode cX12_best 8 = .ok (.aload_n 0, 1) := by decide +kernel
theorem dX12_best_9 : decode cX12_best 9 = .ok (.iconst 1, 1) := by decide +kernel
theorem dX12_best_10 : decode cX12_best 10 = .ok (.invokevirtual 78, 3) := by decide +kernel
theorem dX12_best_13 : decode cX12_best 13 = .ok (.ireturn, 1) := by decide +kernel
theorem dX12_best_14 : decode cX12_best 14 = .ok (.aload_n 0, 1) := by decide +kernel
theorem dX12_best_15 : decode cX12_best 15 = .ok (.iload_n 1, 1) := by decide +kernel
theorem dX12_best_16 : decode cX12_best 16 = .ok (.aload_n 0, 1) := by decide +kernel
theorem dX12_best_17 : decode cX12_best 17 = .ok (.getfield 7, 3) := by decide +kernel
theorem dX12_best_20 : decode cX12_best 20 = .ok (.iconst 3, 1) := by decide +kernel
theorem dX12_best_21 : decode cX12_best 21 = .ok (.iaload, 1) := by decide +kernel
theorem dX12_best_22 : decode cX12_best 22 = .ok (.invokevirtual 399, 3) := by decide +kernel
theorem dX12_best_25 : decode cX12_best 25 = .ok (.istore_n 2, 1) := by decide +kernel
theorem dX12_best_26 : decode cX12_best 26 = .ok (.aload_n 0, 1) := by decide +kernel
theorem dX12_best_27 : decode cX12_best 27 = .ok (.aload_n 0, 1) := by decide +kernel
theorem dX12_best_28 : decode cX12_best 28 = .ok (.getfield 396, 3) := by decide +kernel
theorem dX12_best_31 : decode cX12_best 31 = .ok (.putfield 402, 3) := by decide +kernel
theorem dX12_best_34 : decode cX12_best 34 = .ok (.iconst 0, 1) := by decide +kernel
theorem dX12_best_35 : decode cX12_best 35 = .ok (.istore_n 3, 1) := by decide +kernel
theorem dX12_best_36 : decode cX12_best 36 = .ok (.iload_n 3, 1) := by decide +kernel
theorem dX12_best_37 : decode cX12_best 37 = .ok (.aload_n 0, 1) := by decide +kernel
theorem dX12_best_38 : decode cX12_best 38 = .ok (.getfield 396, 3) := by decide +kernel
theorem dX12_best_41 : decode cX12_best 41 = .ok (.if_icmp .ge 21, 3) := by decide +kernel
theorem dX12_best_44 : decode cX12_best 44 = .ok (.aload_n 0, 1) := by decide +kernel
theorem dX12_best_45 : decode cX12_best 45 = .ok (.getfield 56, 3) := by decide +kernel
theorem dX12_best_48 : decode cX12_best 48 = .ok (.iload_n 3, 1) := by decide +kernel
theorem dX12_best_49 : decode cX12_best 49 = .ok (.aload_n 0, 1) := by decide +kernel
theorem dX12_best_50 : decode cX12_best 50 = .ok (.getfield 53, 3) := by decide +kernel
theorem dX12_best_53 : decode cX12_best 53 = .ok (.iload_n 3, 1) := by decide +kernel
theorem dX12_best_54 : decode cX12_best 54 = .ok (.iaload, 1) := by decide +kernel
theorem dX12_best_55 : decode cX12_best 55 = .ok (.iastore, 1) := by decide +kernel
theorem dX12_best_56 : decode cX12_best 56 = .ok (.iinc 3 1, 3) := by decide +kernel
theorem dX12_best_59 : decode cX12_best 59 = .ok (.goto (-23), 3) := by decide +kernel
theorem dX12_best_62 : decode cX12_best 62 = .ok (.aload_n 0, 1) := by decide +kernel
theorem dX12_best_63 : decode cX12_best 63 = .ok (.iload_n 2, 1) := by decide +kernel
theorem dX12_best_64 : decode cX12_best 64 = .ok (.invokevirtual 82, 3) := by decide +kernel
theorem dX12_best_67 : decode cX12_best 67 = .ok (.ireturn, 1) := by decide +kernel
theorem dX12_bestAt_0 : decode cX12_bestAt 0 = .ok (.iload_n 1, 1) := by decide +kernel
theorem dX12_bestAt_1 : decode cX12_bestAt 1 = .ok (.ifCond .lt 11, 3) := by decide +kernel
theorem dX12_bestAt_4 : decode cX12_bestAt 4 = .ok (.iload_n 1, 1) := by decide +kernel
theorem dX12_bestAt_5 : decode cX12_bestAt 5 = .ok (.aload_n 0, 1) := by decide +kernel
theorem dX12_bestAt_6 : decode cX12_bestAt 6 = .ok (.getfield 402, 3) := by decide +kernel
theorem dX12_bestAt_9 : decode cX12_bestAt 9 = .ok (.if_icmp .lt 12, 3) := by decide +kernel
theorem dX12_bestAt_12 : decode cX12_bestAt 12 = .ok (.aload_n 0, 1) := by decide +kernel
theorem dX12_bestAt_13 : decode cX12_bestAt 13 = .ok (.bipush 6, 2) := by decide +kernel
theorem dX12_bestAt_15 : decode cX12_bestAt 15 = .ok (.invokevirtual 78, 3) := by decide +kernel
theorem dX12_bestAt_18 : decode cX12_bestAt 18 = .ok (.goto 13, 3) := by decide +kernel
theorem dX12_bestAt_21 : decode cX12_bestAt 21 = .ok (.aload_n 0, 1) := by decide +kernel
theorem dX12_bestAt_22 : decode cX12_bestAt 22 = .ok (.aload_n 0, 1) := by decide +kernel
theorem dX12_bestAt_23 : decode cX12_bestAt 23 = .ok (.getfield 56, 3) := by decide +kernel
theorem dX12_bestAt_26 : decode cX12_bestAt 26 = .ok (.iload_n 1, 1) := by decide +kernel
theorem dX12_bestAt_27 : decode cX12_bestAt 27 = .ok (.iaload, 1) := by decide +kernel
theorem dX12_bestAt_28 : decode cX12_bestAt 28 = .ok (.invokevirtual 82, 3) := by decide +kernel
theorem dX12_bestAt_31 : decode cX12_bestAt 31 = .ok (.ireturn, 1) := by decide +kernel
theorem dX12_isFrom_0 : decode cX12_isFrom 0 = .ok (.lload_n 0, 1) := by decide +kernel
theorem dX12_isFrom_1 : decode cX12_isFrom 1 = .ok (.lload_n 2, 1) := by decide +kernel
theorem dX12_isFrom_2 : decode cX12_isFrom 2 = .ok (.lcmp, 1) := by decide +kernel
theorem dX12_isFrom_3 : decode cX12_isFrom 3 = .ok (.ifCond .lt 14, 3) := by decide +kernel
theorem dX12_isFrom_6 : decode cX12_isFrom 6 = .ok (.lload_n 0, 1) := by decide +kernel
theorem dX12_isFrom_7 : decode cX12_isFrom 7 = .ok (.lload 4, 2) := by decide +kernel
theorem dX12_isFrom_9 : decode cX12_isFrom 9 = .ok (.lcmp, 1) := by decide +kernel
theorem dX12_isFrom_10 : decode cX12_isFrom 10 = .ok (.ifCond .gt 7, 3) := by decide +kernel
theorem dX12_isFrom_13 : decode cX12_isFrom 13 = .ok (.iconst 1, 1) := by decide +kernel
theorem dX12_isFrom_14 : decode cX12_isFrom 14 = .ok (.goto 4, 3) := by decide +kernel
theorem dX12_isFrom_17 : decode cX12_isFrom 17 = .ok (.iconst 0, 1) := by decide +kernel
theorem dX12_isFrom_18 : decode cX12_isFrom 18 = .ok (.ireturn, 1) := by decide +kernel
theorem dX12_seenBy_0 : decode cX12_seenBy 0 = .ok (.iconst 0, 1) := by decide +kernel
theorem dX12_seenBy_1 : decode cX12_seenBy 1 = .ok (.istore_n 3, 1) := by decide +kernel
theorem dX12_seenBy_2 : decode cX12_seenBy 2 = .ok (.iconst 0, 1) := by decide +kernel
theorem dX12_seenBy_3 : decode cX12_seenBy 3 = .ok (.istore 4, 2) := by decide +kernel
theorem dX12_seenBy_5 : decode cX12_seenBy 5 = .ok (.iload 4, 2) := by decide +kernel
theorem dX12_seenBy_7 : decode cX12_seenBy 7 = .ok (.aload_n 0, 1) := by decide +kernel
theorem dX12_seenBy_8 : decode cX12_seenBy 8 = .ok (.getfield 7, 3) := by decide +kernel
theorem dX12_seenBy_11 : decode cX12_seenBy 11 = .ok (.iconst 2, 1) := by decide +kernel
theorem dX12_seenBy_12 : decode cX12_seenBy 12 = .ok (.iaload, 1) := by decide +kernel
theorem dX12_seenBy_13 : decode cX12_seenBy 13 = .ok (.if_icmp .ge 57, 3) := by decide +kernel
theorem dX12_seenBy_16 : decode cX12_seenBy 16 = .ok (.iload_n 3, 1) := by decide +kernel
theorem dX12_seenBy_17 : decode cX12_seenBy 17 = .ok (.aload_n 0, 1) := by decide +kernel
theorem dX12_seenBy_18 : decode cX12_seenBy 18 = .ok (.iload 4, 2) := by decide +kernel
theorem dX12_seenBy_20 : decode cX12_seenBy 20 = .ok (.invokevirtual 268, 3) := by decide +kernel
theorem dX12_seenBy_23 : decode cX12_seenBy 23 = .ok (.ifCond .eq 38, 3) := by decide +kernel
theorem dX12_seenBy_26 : decode cX12_seenBy 26 = .ok (.aload_n 0, 1) := by decide +kernel
theorem dX12_seenBy_27 : decode cX12_seenBy 27 = .ok (.getfield 7, 3) := by decide +kernel
theorem dX12_seenBy_30 : decode cX12_seenBy 30 = .ok (.iconst 0, 1) := by decide +kernel
theorem dX12_seenBy_31 : decode cX12_seenBy 31 = .ok (.iload 4, 2) := by decide +kernel
theorem dX12_seenBy_33 : decode cX12_seenBy 33 = .ok (.invokestatic 171, 3) := by decide +kernel
theorem dX12_seenBy_36 : decode cX12_seenBy 36 = .ok (.iaload, 1) := by decide +kernel
theorem dX12_seenBy_37 : decode cX12_seenBy 37 = .ok (.aload_n 0, 1) := by decide +kernel
theorem dX12_seenBy_38 : decode cX12_seenBy 38 = .ok (.getfield 7, 3) := by decide +kernel
theorem dX12_seenBy_41 : decode cX12_seenBy 41 = .ok (.iload_n 1, 1) := by decide +kernel
theorem dX12_seenBy_42 : decode cX12_seenBy 42 = .ok (.invokestatic 274, 3) := by decide +kernel
theorem dX12_seenBy_45 : decode cX12_seenBy 45 = .ok (.iaload, 1) := by decide +kernel
theorem dX12_seenBy_46 : decode cX12_seenBy 46 = .ok (.isub, 1) := by decide +kernel
theorem dX12_seenBy_47 : decode cX12_seenBy 47 = .ok (.invokestatic 280, 3) := by decide +kernel
theorem dX12_seenBy_50 : decode cX12_seenBy 50 = .ok (.iload_n 2, 1) := by decide +kernel
theorem dX12_seenBy_51 : decode cX12_seenBy 51 = .ok (.if_icmp .gt 10, 3) := by decide +kernel
theorem dX12_seenBy_54 : decode cX12_seenBy 54 = .ok (.iconst 1, 1) := by decide +kernel
theorem dX12_seenBy_55 : decode cX12_seenBy 55 = .ok (.iload 4, 2) := by decide +kernel
theorem dX12_seenBy_57 : decode cX12_seenBy 57 = .ok (.ishl, 1) := by decide +kernel
theorem dX12_seenBy_58 : decode cX12_seenBy 58 = .ok (.goto 4, 3) := by decide +kernel
theorem dX12_seenBy_61 : decode cX12_seenBy 61 = .ok (.iconst 0, 1) := by decide +kernel
theorem dX12_seenBy_62 : decode cX12_seenBy 62 = .ok (.ior, 1) := by decide +kernel
theorem dX12_seenBy_63 : decode cX12_seenBy 63 = .ok (.istore_n 3, 1) := by decide +kernel
theorem dX12_seenBy_64 : decode cX12_seenBy 64 = .ok (.iinc 4 1, 3) := by decide +kernel
theorem dX12_seenBy_67 : decode cX12_seenBy 67 = .ok (.goto (-62), 3) := by decide +kernel
theorem dX12_seenBy_70 : decode cX12_seenBy 70 = .ok (.iload_n 3, 1) := by decide +kernel
theorem dX12_seenBy_71 : decode cX12_seenBy 71 = .ok (.ireturn, 1) := by decide +kernel
theorem dX12_both_0 : decode cX12_both 0 = .ok (.aload_n 0, 1) := by decide +kernel
theorem dX12_both_1 : decode cX12_both 1 = .ok (.iload_n 1, 1) := by decide +kernel
theorem dX12_both_2 : decode cX12_both 2 = .ok (.invokevirtual 271, 3) := by decide +kernel
theorem dX12_both_5 : decode cX12_both 5 = .ok (.ifCond .eq 28, 3) := by decide +kernel
theorem dX12_both_8 : decode cX12_both 8 = .ok (.aload_n 0, 1) := by decide +kernel
theorem dX12_both_9 : decode cX12_both 9 = .ok (.iload_n 2, 1) := by decide +kernel
theorem dX12_both_10 : decode cX12_both 10 = .ok (.invokevirtual 271, 3) := by decide +kernel
theorem dX12_both_13 : decode cX12_both 13 = .ok (.ifCond .eq 20, 3) := by decide +kernel
theorem dX12_both_16 : decode cX12_both 16 = .ok (.iload_n 1, 1) := by decide +kernel
theorem dX12_both_17 : decode cX12_both 17 = .ok (.iload_n 2, 1) := by decide +kernel
theorem dX12_both_18 : decode cX12_both 18 = .ok (.if_icmp .eq 15, 3) := by decide +kernel
theorem dX12_both_21 : decode cX12_both 21 = .ok (.iload_n 3, 1) := by decide +kernel
theorem dX12_both_22 : decode cX12_both 22 = .ok (.i2l, 1) := by decide +kernel
theorem dX12_both_23 : decode cX12_both 23 = .ok (.lconst 0, 1) := by decide +kernel
theorem dX12_both_24 : decode cX12_both 24 = .ok (.ldc2_w 332, 3) := by decide +kernel
theorem dX12_both_27 : decode cX12_both 27 = .ok (.invokestatic 289, 3) := by decide +kernel
theorem dX12_both_30 : decode cX12_both 30 = .ok (.ifCond .ne 9, 3) := by decide +kernel
theorem dX12_both_33 : decode cX12_both 33 = .ok (.aload_n 0, 1) := by decide +kernel
theorem dX12_both_34 : decode cX12_both 34 = .ok (.iconst 1, 1) := by decide +kernel
theorem dX12_both_35 : decode cX12_both 35 = .ok (.invokevirtual 78, 3) := by decide +kernel
theorem dX12_both_38 : decode cX12_both 38 = .ok (.ireturn, 1) := by decide +kernel
theorem dX12_both_39 : decode cX12_both 39 = .ok (.aload_n 0, 1) := by decide +kernel
theorem dX12_both_40 : decode cX12_both 40 = .ok (.aload_n 0, 1) := by decide +kernel
theorem dX12_both_41 : decode cX12_both 41 = .ok (.iload_n 1, 1) := by decide +kernel
theorem dX12_both_42 : decode cX12_both 42 = .ok (.iload_n 3, 1) := by decide +kernel
theorem dX12_both_43 : decode cX12_both 43 = .ok (.invokevirtual 378, 3) := by decide +kernel
theorem dX12_both_46 : decode cX12_both 46 = .ok (.aload_n 0, 1) := by decide +kernel
theorem dX12_both_47 : decode cX12_both 47 = .ok (.iload_n 2, 1) := by decide +kernel
theorem dX12_both_48 : decode cX12_both 48 = .ok (.iload_n 3, 1) := by decide +kernel
theorem dX12_both_49 : decode cX12_both 49 = .ok (.invokevirtual 378, 3) := by decide +kernel
theorem dX12_both_52 : decode cX12_both 52 = .ok (.iand, 1) := by decide +kernel
theorem dX12_both_53 : decode cX12_both 53 = .ok (.invokevirtual 82, 3) := by decide +kernel
theorem dX12_both_56 : decode cX12_both 56 = .ok (.ireturn, 1) := by decide +kernel
theorem dX12_bottom_0 : decode cX12_bottom 0 = .ok (.aload_n 0, 1) := by decide +kernel
theorem dX12_bottom_1 : decode cX12_bottom 1 = .ok (.getfield 17, 3) := by decide +kernel
theorem dX12_bottom_4 : decode cX12_bottom 4 = .ok (.lreturn, 1) := by decide +kernel
theorem dX12_boyFrom_0 : decode cX12_boyFrom 0 = .ok (.iconst (-1), 1) := by decide +kernel
theorem dX12_boyFrom_1 : decode cX12_boyFrom 1 = .ok (.istore_n 3, 1) := by decide +kernel
theorem dX12_boyFrom_2 : decode cX12_boyFrom 2 = .ok (.iconst 0, 1) := by decide +kernel
theorem dX12_boyFrom_3 : decode cX12_boyFrom 3 = .ok (.istore 4, 2) := by decide +kernel
theorem dX12_boyFrom_5 : decode cX12_boyFrom 5 = .ok (.iload 4, 2) := by decide +kernel
theorem dX12_boyFrom_7 : decode cX12_boyFrom 7 = .ok (.aload_n 0, 1) := by decide +kernel
theorem dX12_boyFrom_8 : decode cX12_boyFrom 8 = .ok (.getfield 7, 3) := by decide +kernel
theorem dX12_boyFrom_11 : decode cX12_boyFrom 11 = .ok (.iconst 2, 1) := by decide +kernel
theorem dX12_boyFrom_12 : decode cX12_boyFrom 12 = .ok (.iaload, 1) := by decide +kernel
theorem dX12_boyFrom_13 : decode cX12_boyFrom 13 = .ok (.if_icmp .ge 65, 3) := by decide +kernel
theorem dX12_boyFrom_16 : decode cX12_boyFrom 16 = .ok (.aload_n 0, 1) := by decide +kernel
theorem dX12_boyFrom_17 : decode cX12_boyFrom 17 = .ok (.iload 4, 2) := by decide +kernel
theorem dX12_boyFrom_19 : decode cX12_boyFrom 19 = .ok (.invokevirtual 268, 3) := by decide +kernel
theorem dX12_boyFrom_22 : decode cX12_boyFrom 22 = .ok (.ifCond .eq 50, 3) := by decide +kernel
theorem dX12_boyFrom_25 : decode cX12_boyFrom 25 = .ok (.aload_n 0, 1) := by decide +kernel
theorem dX12_boyFrom_26 : decode cX12_boyFrom 26 = .ok (.getfield 7, 3) := by decide +kernel
theorem dX12_boyFrom_29 : decode cX12_boyFrom 29 = .ok (.iconst 0, 1) := by decide +kernel
theorem dX12_boyFrom_30 : decode cX12_boyFrom 30 = .ok (.iload 4, 2) := by decide +kernel
theorem dX12_boyFrom_32 : decode cX12_boyFrom 32 = .ok (.invokestatic 171, 3) := by decide +kernel
theorem dX12_boyFrom_35 : decode cX12_boyFrom 35 = .ok (.iaload, 1) := by decide +kernel
theorem dX12_boyFrom_36 : decode cX12_boyFrom 36 = .ok (.iload_n 1, 1) := by decide +kernel
theorem dX12_boyFrom_37 : decode cX12_boyFrom 37 = .ok (.if_icmp .lt 35, 3) := by decide +kernel
theorem dX12_boyFrom_40 : decode cX12_boyFrom 40 = .ok (.iload_n 3, 1) := by decide +kernel
theorem dX12_boyFrom_41 : decode cX12_boyFrom 41 = .ok (.iconst (-1), 1) := by decide +kernel
theorem dX12_boyFrom_42 : decode cX12_boyFrom 42 = .ok (.if_icmp .eq 18, 3) := by decide +kernel
theorem dX12_boyFrom_45 : decode cX12_boyFrom 45 = .ok (.aload_n 0, 1) := by decide +kernel
theorem dX12_boyFrom_46 : decode cX12_boyFrom 46 = .ok (.getfield 7, 3) := by decide +kernel
theorem dX12_boyFrom_49 : decode cX12_boyFrom 49 = .ok (.iconst 0, 1) := by decide +kernel
theorem dX12_boyFrom_50 : decode cX12_boyFrom 50 = .ok (.iload 4, 2) := by decide +kernel
theorem dX12_boyFrom_52 : decode cX12_boyFrom 52 = .ok (.invokestatic 171, 3) := by decide +kernel
theorem dX12_boyFrom_55 : decode cX12_boyFrom 55 = .ok (.iaload, 1) := by decide +kernel
theorem dX12_boyFrom_56 : decode cX12_boyFrom 56 = .ok (.iload_n 3, 1) := by decide +kernel
theorem dX12_boyFrom_57 : decode cX12_boyFrom 57 = .ok (.if_icmp .ge 15, 3) := by decide +kernel
theorem dX12_boyFrom_60 : decode cX12_boyFrom 60 = .ok (.aload_n 0, 1) := by decide +kernel
theorem dX12_boyFrom_61 : decode cX12_boyFrom 61 = .ok (.getfield 7, 3) := by decide +kernel
theorem dX12_boyFrom_64 : decode cX12_boyFrom 64 = .ok (.iconst 0, 1) := by decide +kernel
theorem dX12_boyFrom_65 : decode cX12_boyFrom 65 = .ok (.iload 4, 2) := by decide +kernel
theorem dX12_boyFrom_67 : decode cX12_boyFrom 67 = .ok (.invokestatic 171, 3) := by decide +kernel
theorem dX12_boyFrom_70 : decode cX12_boyFrom 70 = .ok (.iaload, 1) := by decide +kernel
theorem dX12_boyFrom_71 : decode cX12_boyFrom 71 = .ok (.istore_n 3, 1) := by decide +kernel
theorem dX12_boyFrom_72 : decode cX12_boyFrom 72 = .ok (.iinc 4 1, 3) := by decide +kernel
theorem dX12_boyFrom_75 : decode cX12_boyFrom 75 = .ok (.goto (-70), 3) := by decide +kernel
theorem dX12_boyFrom_78 : decode cX12_boyFrom 78 = .ok (.iload_n 3, 1) := by decide +kernel
theorem dX12_boyFrom_79 : decode cX12_boyFrom 79 = .ok (.iconst (-1), 1) := by decide +kernel
theorem dX12_boyFrom_80 : decode cX12_boyFrom 80 = .ok (.if_icmp .ne 7, 3) := by decide +kernel
theorem dX12_boyFrom_83 : decode cX12_boyFrom 83 = .ok (.iconst (-1), 1) := by decide +kernel
theorem dX12_boyFrom_84 : decode cX12_boyFrom 84 = .ok (.goto 17, 3) := by decide +kernel
theorem dX12_boyFrom_87 : decode cX12_boyFrom 87 = .ok (.iload_n 3, 1) := by decide +kernel
theorem dX12_boyFrom_88 : decode cX12_boyFrom 88 = .ok (.iload_n 2, 1) := by decide +kernel
theorem dX12_boyFrom_89 : decode cX12_boyFrom 89 = .ok (.iadd, 1) := by decide +kernel
theorem dX12_boyFrom_90 : decode cX12_boyFrom 90 = .ok (.aload_n 0, 1) := by decide +kernel
theorem dX12_boyFrom_91 : decode cX12_boyFrom 91 = .ok (.getfield 7, 3) := by decide +kernel
theorem dX12_boyFrom_94 : decode cX12_boyFrom 94 = .ok (.iconst 0, 1) := by decide +kernel
theorem dX12_boyFrom_95 : decode cX12_boyFrom 95 = .ok (.iaload, 1) := by decide +kernel
theorem dX12_boyFrom_96 : decode cX12_boyFrom 96 = .ok (.iconst 1, 1) := by decide +kernel
theorem dX12_boyFrom_97 : decode cX12_boyFrom 97 = .ok (.isub, 1) := by decide +kernel
theorem dX12_boyFrom_98 : decode cX12_boyFrom 98 = .ok (.invokestatic 133, 3) := by decide +kernel
theorem dX12_boyFrom_101 : decode cX12_boyFrom 101 = .ok (.ireturn, 1) := by decide +kernel
theorem dX12_boy_0 : decode cX12_boy 0 = .ok (.aload_n 0, 1) := by decide +kernel
theorem dX12_boy_1 : decode cX12_boy 1 = .ok (.iconst 0, 1) := by decide +kernel
theorem dX12_boy_2 : decode cX12_boy 2 = .ok (.iload_n 1, 1) := by decide +kernel
theorem dX12_boy_3 : decode cX12_boy 3 = .ok (.invokevirtual 405, 3) := by decide +kernel
theorem dX12_boy_6 : decode cX12_boy 6 = .ok (.istore_n 3, 1) := by decide +kernel
theorem dX12_boy_7 : decode cX12_boy 7 = .ok (.iconst 0, 1) := by decide +kernel
theorem dX12_boy_8 : decode cX12_boy 8 = .ok (.istore 4, 2) := by decide +kernel
theorem dX12_boy_10 : decode cX12_boy 10 = .ok (.iload 4, 2) := by decide +kernel
theorem dX12_boy_12 : decode cX12_boy 12 = .ok (.iload_n 2, 1) := by decide +kernel
theorem dX12_boy_13 : decode cX12_boy 13 = .ok (.if_icmp .ge 25, 3) := by decide +kernel
theorem dX12_boy_16 : decode cX12_boy 16 = .ok (.iload_n 3, 1) := by decide +kernel
theorem dX12_boy_17 : decode cX12_boy 17 = .ok (.iconst (-1), 1) := by decide +kernel
theorem dX12_boy_18 : decode cX12_boy 18 = .ok (.if_icmp .eq 20, 3) := by decide +kernel
theorem dX12_boy_21 : decode cX12_boy 21 = .ok (.aload_n 0, 1) := by decide +kernel
theorem dX12_boy_22 : decode cX12_boy 22 = .ok (.iload_n 3, 1) := by decide +kernel
theorem dX12_boy_23 : decode cX12_boy 23 = .ok (.iload_n 1, 1) := by decide +kernel
theorem dX12_boy_24 : decode cX12_boy 24 = .ok (.iadd, 1) := by decide +kernel
theorem dX12_boy_25 : decode cX12_boy 25 = .ok (.iconst 1, 1) := by decide +kernel
theorem dX12_boy_26 : decode cX12_boy 26 = .ok (.iadd, 1) := by decide +kernel
theorem dX12_boy_27 : decode cX12_boy 27 = .ok (.iload_n 1, 1) := by decide +kernel
theorem dX12_boy_28 : decode cX12_boy 28 = .ok (.invokevirtual 405, 3) := by decide +kernel
theorem dX12_boy_31 : decode cX12_boy 31 = .ok (.istore_n 3, 1) := by decide +kernel
theorem dX12_boy_32 : decode cX12_boy 32 = .ok (.iinc 4 1, 3) := by decide +kernel
theorem dX12_boy_35 : decode cX12_boy 35 = .ok (.goto (-25), 3) := by decide +kernel
theorem dX12_boy_38 : decode cX12_boy 38 = .ok (.iload_n 3, 1) := by decide +kernel
theorem dX12_boy_39 : decode cX12_boy 39 = .ok (.ireturn, 1) := by decide +kernel
theorem dX12_orNone_0 : decode cX12_orNone 0 = .ok (.iload_n 1, 1) := by decide +kernel
theorem dX12_orNone_1 : decode cX12_orNone 1 = .ok (.iconst (-1), 1) := by decide +kernel
theorem dX12_orNone_2 : decode cX12_orNone 2 = .ok (.if_icmp .ne 12, 3) := by decide +kernel
theorem dX12_orNone_5 : decode cX12_orNone 5 = .ok (.aload_n 0, 1) := by decide +kernel
theorem dX12_orNone_6 : decode cX12_orNone 6 = .ok (.bipush 6, 2) := by decide +kernel
theorem dX12_orNone_8 : decode cX12_orNone 8 = .ok (.invokevirtual 78, 3) := by decide +kernel
theorem dX12_orNone_11 : decode cX12_orNone 11 = .ok (.goto 8, 3) := by decide +kernel
theorem dX12_orNone_14 : decode cX12_orNone 14 = .ok (.aload_n 0, 1) := by decide +kernel
theorem dX12_orNone_15 : decode cX12_orNone 15 = .ok (.iload_n 1, 1) := by decide +kernel
theorem dX12_orNone_16 : decode cX12_orNone 16 = .ok (.invokevirtual 82, 3) := by decide +kernel
theorem dX12_orNone_19 : decode cX12_orNone 19 = .ok (.ireturn, 1) := by decide +kernel
theorem dX12_boyAt_0 : decode cX12_boyAt 0 = .ok (.iload_n 1, 1) := by decide +kernel
theorem dX12_boyAt_1 : decode cX12_boyAt 1 = .ok (.i2l, 1) := by decide +kernel
theorem dX12_boyAt_2 : decode cX12_boyAt 2 = .ok (.lconst 0, 1) := by decide +kernel
theorem dX12_boyAt_3 : decode cX12_boyAt 3 = .ok (.ldc2_w 332, 3) := by decide +kernel
theorem dX12_boyAt_6 : decode cX12_boyAt 6 = .ok (.invokestatic 289, 3) := by decide +kernel
theorem dX12_boyAt_9 : decode cX12_boyAt 9 = .ok (.ifCond .ne 9, 3) := by decide +kernel
theorem dX12_boyAt_12 : decode cX12_boyAt 12 = .ok (.aload_n 0, 1) := by decide +kernel
theorem dX12_boyAt_13 : decode cX12_boyAt 13 = .ok (.iconst 1, 1) := by decide +kernel
theorem dX12_boyAt_14 : decode cX12_boyAt 14 = .ok (.invokevirtual 78, 3) := by decide +kernel
theorem dX12_boyAt_17 : decode cX12_boyAt 17 = .ok (.ireturn, 1) := by decide +kernel
theorem dX12_boyAt_18 : decode cX12_boyAt 18 = .ok (.iload_n 2, 1) := by decide +kernel
theorem dX12_boyAt_19 : decode cX12_boyAt 19 = .ok (.ifCond .lt 9, 3) := by decide +kernel
theorem dX12_boyAt_22 : decode cX12_boyAt 22 = .ok (.iload_n 2, 1) := by decide +kernel
theorem dX12_boyAt_23 : decode cX12_boyAt 23 = .ok (.bipush 8, 2) := by decide +kernel
theorem dX12_boyAt_25 : decode cX12_boyAt 25 = .ok (.if_icmp .le 12, 3) := by decide +kernel
theorem dX12_boyAt_28 : decode cX12_boyAt 28 = .ok (.aload_n 0, 1) := by decide +kernel
theorem dX12_boyAt_29 : decode cX12_boyAt 29 = .ok (.bipush 6, 2) := by decide +kernel
theorem dX12_boyAt_31 : decode cX12_boyAt 31 = .ok (.invokevirtual 78, 3) := by decide +kernel
theorem dX12_boyAt_34 : decode cX12_boyAt 34 = .ok (.goto 13, 3) := by decide +kernel
theorem dX12_boyAt_37 : decode cX12_boyAt 37 = .ok (.aload_n 0, 1) := by decide +kernel
theorem dX12_boyAt_38 : decode cX12_boyAt 38 = .ok (.aload_n 0, 1) := by decide +kernel
theorem dX12_boyAt_39 : decode cX12_boyAt 39 = .ok (.iload_n 1, 1) := by decide +kernel
theorem dX12_boyAt_40 : decode cX12_boyAt 40 = .ok (.iload_n 2, 1) := by decide +kernel
theorem dX12_boyAt_41 : decode cX12_boyAt 41 = .ok (.invokevirtual 408, 3) := by decide +kernel
theorem dX12_boyAt_44 : decode cX12_boyAt 44 = .ok (.invokevirtual 358, 3) := by decide +kernel
theorem dX12_boyAt_47 : decode cX12_boyAt 47 = .ok (.ireturn, 1) := by decide +kernel
theorem dX12_boys_0 : decode cX12_boys 0 = .ok (.iload_n 1, 1) := by decide +kernel
theorem dX12_boys_1 : decode cX12_boys 1 = .ok (.i2l, 1) := by decide +kernel
theorem dX12_boys_2 : decode cX12_boys 2 = .ok (.lconst 0, 1) := by decide +kernel
theorem dX12_boys_3 : decode cX12_boys 3 = .ok (.ldc2_w 332, 3) := by decide +kernel
theorem dX12_boys_6 : decode cX12_boys 6 = .ok (.invokestatic 289, 3) := by decide +kernel
theorem dX12_boys_9 : decode cX12_boys 9 = .ok (.ifCond .ne 9, 3) := by decide +kernel
theorem dX12_boys_12 : decode cX12_boys 12 = .ok (.aload_n 0, 1) := by decide +kernel
theorem dX12_boys_13 : decode cX12_boys 13 = .ok (.iconst 1, 1) := by decide +kernel
theorem dX12_boys_14 : decode cX12_boys 14 = .ok (.invokevirtual 78, 3) := by decide +kernel
theorem dX12_boys_17 : decode cX12_boys 17 = .ok (.ireturn, 1) := by decide +kernel
theorem dX12_boys_18 : decode cX12_boys 18 = .ok (.iconst 0, 1) := by decide +kernel
theorem dX12_boys_19 : decode cX12_boys 19 = .ok (.istore_n 2, 1) := by decide +kernel
theorem dX12_boys_20 : decode cX12_boys 20 = .ok (.iload_n 2, 1) := by decide +kernel
theorem dX12_boys_21 : decode cX12_boys 21 = .ok (.bipush 8, 2) := by decide +kernel
theorem dX12_boys_23 : decode cX12_boys 23 = .ok (.if_icmp .ge 19, 3) := by decide +kernel
theorem dX12_boys_26 : decode cX12_boys 26 = .ok (.aload_n 0, 1) := by decide +kernel
theorem dX12_boys_27 : decode cX12_boys 27 = .ok (.iload_n 1, 1) := by decide +kernel
theorem dX12_boys_28 : decode cX12_boys 28 = .ok (.iload_n 2, 1) := by decide +kernel
theorem dX12_boys_29 : decode cX12_boys 29 = .ok (.invokevirtual 408, 3) := by decide +kernel
theorem dX12_boys_32 : decode cX12_boys 32 = .ok (.iconst (-1), 1) := by decide +kernel
theorem dX12_boys_33 : decode cX12_boys 33 = .ok (.if_icmp .eq 9, 3) := by decide +kernel
theorem dX12_boys_36 : decode cX12_boys 36 = .ok (.iinc 2 1, 3) := by decide +kernel
theorem dX12_boys_39 : decode cX12_boys 39 = .ok (.goto (-19), 3) := by decide +kernel
theorem dX12_boys_42 : decode cX12_boys 42 = .ok (.aload_n 0, 1) := by decide +kernel
theorem dX12_boys_43 : decode cX12_boys 43 = .ok (.iload_n 2, 1) := by decide +kernel
theorem dX12_boys_44 : decode cX12_boys 44 = .ok (.invokevirtual 82, 3) := by decide +kernel
theorem dX12_boys_47 : decode cX12_boys 47 = .ok (.ireturn, 1) := by decide +kernel
theorem dX12_ownMany_0 : decode cX12_ownMany 0 = .ok (.iconst 0, 1) := by decide +kernel
theorem dX12_ownMany_1 : decode cX12_ownMany 1 = .ok (.istore_n 3, 1) := by decide +kernel
theorem dX12_ownMany_2 : decode cX12_ownMany 2 = .ok (.iconst 0, 1) := by decide +kernel
theorem dX12_ownMany_3 : decode cX12_ownMany 3 = .ok (.istore 4, 2) := by decide +kernel
theorem dX12_ownMany_5 : decode cX12_ownMany 5 = .ok (.iload 4, 2) := by decide +kernel
theorem dX12_ownMany_7 : decode cX12_ownMany 7 = .ok (.aload_n 0, 1) := by decide +kernel
theorem dX12_ownMany_8 : decode cX12_ownMany 8 = .ok (.iload_n 2, 1) := by decide +kernel
theorem dX12_ownMany_9 : decode cX12_ownMany 9 = .ok (.invokevirtual 277, 3) := by decide +kernel
theorem dX12_ownMany_12 : decode cX12_ownMany 12 = .ok (.if_icmp .ge 28, 3) := by decide +kernel
theorem dX12_ownMany_15 : decode cX12_ownMany 15 = .ok (.iload_n 3, 1) := by decide +kernel
theorem dX12_ownMany_16 : decode cX12_ownMany 16 = .ok (.aload_n 0, 1) := by decide +kernel
theorem dX12_ownMany_17 : decode cX12_ownMany 17 = .ok (.iload_n 2, 1) := by decide +kernel
theorem dX12_ownMany_18 : decode cX12_ownMany 18 = .ok (.iload 4, 2) := by decide +kernel
theorem dX12_ownMany_20 : decode cX12_ownMany 20 = .ok (.invokevirtual 308, 3) := by decide +kernel
theorem dX12_ownMany_23 : decode cX12_ownMany 23 = .ok (.iload_n 1, 1) := by decide +kernel
theorem dX12_ownMany_24 : decode cX12_ownMany 24 = .ok (.if_icmp .ne 7, 3) := by decide +kernel
theorem dX12_ownMany_27 : decode cX12_ownMany 27 = .ok (.iconst 1, 1) := by decide +kernel
theorem dX12_ownMany_28 : decode cX12_ownMany 28 = .ok (.goto 4, 3) := by decide +kernel
theorem dX12_ownMany_31 : decode cX12_ownMany 31 = .ok (.iconst 0, 1) := by decide +kernel
theorem dX12_ownMany_32 : decode cX12_ownMany 32 = .ok (.iadd, 1) := by decide +kernel
theorem dX12_ownMany_33 : decode cX12_ownMany 33 = .ok (.istore_n 3, 1) := by decide +kernel
theorem dX12_ownMany_34 : decode cX12_ownMany 34 = .ok (.iinc 4 1, 3) := by decide +kernel
theorem dX12_ownMany_37 : decode cX12_ownMany 37 = .ok (.goto (-32), 3) := by decide +kernel
theorem dX12_ownMany_40 : decode cX12_ownMany 40 = .ok (.iload_n 3, 1) := by decide +kernel
theorem dX12_ownMany_41 : decode cX12_ownMany 41 = .ok (.ireturn, 1) := by decide +kernel
theorem dX12_strewnOf_0 : decode cX12_strewnOf 0 = .ok (.iconst 0, 1) := by decide +kernel
theorem dX12_strewnOf_1 : decode cX12_strewnOf 1 = .ok (.istore_n 2, 1) := by decide +kernel
theorem dX12_strewnOf_2 : decode cX12_strewnOf 2 = .ok (.iconst 0, 1) := by decide +kernel
theorem dX12_strewnOf_3 : decode cX12_strewnOf 3 = .ok (.istore_n 3, 1) := by decide +kernel
theorem dX12_strewnOf_4 : decode cX12_strewnOf 4 = .ok (.iload_n 3, 1) := by decide +kernel
theorem dX12_strewnOf_5 : decode cX12_strewnOf 5 = .ok (.aload_n 0, 1) := by decide +kernel
theorem dX12_strewnOf_6 : decode cX12_strewnOf 6 = .ok (.getfield 7, 3) := by decide +kernel
theorem dX12_strewnOf_9 : decode cX12_strewnOf 9 = .ok (.iconst 2, 1) := by decide +kernel
theorem dX12_strewnOf_10 : decode cX12_strewnOf 10 = .ok (.iaload, 1) := by decide +kernel
theorem dX12_strewnOf_11 : decode cX12_strewnOf 11 = .ok (.if_icmp .ge 18, 3) := by decide +kernel
theorem dX12_strewnOf_14 : decode cX12_strewnOf 14 = .ok (.iload_n 2, 1) := by decide +kernel
theorem dX12_strewnOf_15 : decode cX12_strewnOf 15 = .ok (.aload_n 0, 1) := by decide +kernel
theorem dX12_strewnOf_16 : decode cX12_strewnOf 16 = .ok (.iload_n 1, 1) := by decide +kernel
theorem dX12_strewnOf_17 : decode cX12_strewnOf 17 = .ok (.iload_n 3, 1) := by decide +kernel
theorem dX12_strewnOf_18 : decode cX12_strewnOf 18 = .ok (.invokevirtual 364, 3) := by decide +kernel
theorem dX12_strewnOf_21 : decode cX12_strewnOf 21 = .ok (.iadd, 1) := by decide +kernel
theorem dX12_strewnOf_22 : decode cX12_strewnOf 22 = .ok (.istore_n 2, 1) := by decide +kernel
theorem dX12_strewnOf_23 : decode cX12_strewnOf 23 = .ok (.iinc 3 1, 3) := by decide +kernel
theorem dX12_strewnOf_26 : decode cX12_strewnOf 26 = .ok (.goto (-22), 3) := by decide +kernel
theorem dX12_strewnOf_29 : decode cX12_strewnOf 29 = .ok (.iload_n 2, 1) := by decide +kernel
theorem dX12_strewnOf_30 : decode cX12_strewnOf 30 = .ok (.ireturn, 1) := by decide +kernel
theorem dX12_busiest_0 : decode cX12_busiest 0 = .ok (.iconst (-1), 1) := by decide +kernel
theorem dX12_busiest_1 : decode cX12_busiest 1 = .ok (.istore_n 1, 1) := by decide +kernel
theorem dX12_busiest_2 : decode cX12_busiest 2 = .ok (.iconst 0, 1) := by decide +kernel
theorem dX12_busiest_3 : decode cX12_busiest 3 = .ok (.istore_n 2, 1) := by decide +kernel
theorem dX12_busiest_4 : decode cX12_busiest 4 = .ok (.iload_n 2, 1) := by decide +kernel
theorem dX12_busiest_5 : decode cX12_busiest 5 = .ok (.aload_n 0, 1) := by decide +kernel
theorem dX12_busiest_6 : decode cX12_busiest 6 = .ok (.getfield 7, 3) := by decide +kernel
theorem dX12_busiest_9 : decode cX12_busiest 9 = .ok (.iconst 1, 1) := by decide +kernel
theorem dX12_busiest_10 : decode cX12_busiest 10 = .ok (.iaload, 1) := by decide +kernel
theorem dX12_busiest_11 : decode cX12_busiest 11 = .ok (.if_icmp .ge 29, 3) := by decide +kernel
theorem dX12_busiest_14 : decode cX12_busiest 14 = .ok (.iload_n 1, 1) := by decide +kernel
theorem dX12_busiest_15 : decode cX12_busiest 15 = .ok (.iconst (-1), 1) := by decide +kernel
theorem dX12_busiest_16 : decode cX12_busiest 16 = .ok (.if_icmp .eq 16, 3) := by decide +kernel
theorem dX12_busiest_19 : decode cX12_busiest 19 = .ok (.aload_n 0, 1) := by decide +kernel
theorem dX12_busiest_20 : decode cX12_busiest 20 = .ok (.iload_n 2, 1) := by decide +kernel
theorem dX12_busiest_21 : decode cX12_busiest 21 = .ok (.invokevirtual 361, 3) := by decide +kernel
theorem dX12_busiest_24 : decode cX12_busiest 24 = .ok (.aload_n 0, 1) := by decide +kernel
theorem dX12_busiest_25 : decode cX12_busiest 25 = .ok (.iload_n 1, 1) := by decide +kernel
theorem dX12_busiest_26 : decode cX12_busiest 26 = .ok (.invokevirtual 361, 3) := by decide +kernel
theorem dX12_busiest_29 : decode cX12_busiest 29 = .ok (.if_icmp .le 5, 3) := by decide +kernel
theorem dX12_busiest_32 : decode cX12_busiest 32 = .ok (.iload_n 2, 1) := by decide +kernel
theorem dX12_busiest_33 : decode cX12_busiest 33 = .ok (.istore_n 1, 1) := by decide +kernel
theorem dX12_busiest_34 : decode cX12_busiest 34 = .ok (.iinc 2 1, 3) := by decide +kernel
theorem dX12_busiest_37 : decode cX12_busiest 37 = .ok (.goto (-33), 3) := by decide +kernel
theorem dX12_busiest_40 : decode cX12_busiest 40 = .ok (.aload_n 0, 1) := by decide +kernel
theorem dX12_busiest_41 : decode cX12_busiest 41 = .ok (.iload_n 1, 1) := by decide +kernel
theorem dX12_busiest_42 : decode cX12_busiest 42 = .ok (.invokevirtual 358, 3) := by decide +kernel
theorem dX12_busiest_45 : decode cX12_busiest 45 = .ok (.ireturn, 1) := by decide +kernel
theorem dX12_crowd_0 : decode cX12_crowd 0 = .ok (.iload_n 1, 1) := by decide +kernel
theorem dX12_crowd_1 : decode cX12_crowd 1 = .ok (.i2l, 1) := by decide +kernel
theorem dX12_crowd_2 : decode cX12_crowd 2 = .ok (.lconst 1, 1) := by decide +kernel
theorem dX12_crowd_3 : decode cX12_crowd 3 = .ok (.ldc2_w 332, 3) := by decide +kernel
theorem dX12_crowd_6 : decode cX12_crowd 6 = .ok (.invokestatic 289, 3) := by decide +kernel
theorem dX12_crowd_9 : decode cX12_crowd 9 = .ok (.ifCond .ne 9, 3) := by decide +kernel
theorem dX12_crowd_12 : decode cX12_crowd 12 = .ok (.aload_n 0, 1) := by decide +kernel
theorem dX12_crowd_13 : decode cX12_crowd 13 = .ok (.iconst 1, 1) := by decide +kernel
theorem dX12_crowd_14 : decode cX12_crowd 14 = .ok (.invokevirtual 78, 3) := by decide +kernel
theorem dX12_crowd_17 : decode cX12_crowd 17 = .ok (.ireturn, 1) := by decide +kernel
theorem dX12_crowd_18 : decode cX12_crowd 18 = .ok (.iconst 0, 1) := by decide +kernel
theorem dX12_crowd_19 : decode cX12_crowd 19 = .ok (.istore_n 2, 1) := by decide +kernel
theorem dX12_crowd_20 : decode cX12_crowd 20 = .ok (.iconst 0, 1) := by decide +kernel
theorem dX12_crowd_21 : decode cX12_crowd 21 = .ok (.istore_n 3, 1) := by decide +kernel
theorem dX12_crowd_22 : decode cX12_crowd 22 = .ok (.iload_n 3, 1) := by decide +kernel
theorem dX12_crowd_23 : decode cX12_crowd 23 = .ok (.aload_n 0, 1) := by decide +kernel
theorem dX12_crowd_24 : decode cX12_crowd 24 = .ok (.getfield 7, 3) := by decide +kernel
theorem dX12_crowd_27 : decode cX12_crowd 27 = .ok (.iconst 0, 1) := by decide +kernel
theorem dX12_crowd_28 : decode cX12_crowd 28 = .ok (.iaload, 1) := by decide +kernel
theorem dX12_crowd_29 : decode cX12_crowd 29 = .ok (.if_icmp .ge 79, 3) := by decide +kernel
theorem dX12_crowd_32 : decode cX12_crowd 32 = .ok (.iconst 0, 1) := by decide +kernel
theorem dX12_crowd_33 : decode cX12_crowd 33 = .ok (.istore 4, 2) := by decide +kernel
theorem dX12_crowd_35 : decode cX12_crowd 35 = .ok (.iconst 0, 1) := by decide +kernel
theorem dX12_crowd_36 : decode cX12_crowd 36 = .ok (.istore 5, 2) := by decide +kernel
theorem dX12_crowd_38 : decode cX12_crowd 38 = .ok (.iload 5, 2) := by decide +kernel
theorem dX12_crowd_40 : decode cX12_crowd 40 = .ok (.aload_n 0, 1) := by decide +kernel
theorem dX12_crowd_41 : decode cX12_crowd 41 = .ok (.getfield 7, 3) := by decide +kernel
theorem dX12_crowd_44 : decode cX12_crowd 44 = .ok (.iconst 1, 1) := by decide +kernel
theorem dX12_crowd_45 : decode cX12_crowd 45 = .ok (.iaload, 1) := by decide +kernel
theorem dX12_crowd_46 : decode cX12_crowd 46 = .ok (.if_icmp .ge 49, 3) := by decide +kernel
theorem dX12_crowd_49 : decode cX12_crowd 49 = .ok (.iload 4, 2) := by decide +kernel
theorem dX12_crowd_51 : decode cX12_crowd 51 = .ok (.aload_n 0, 1) := by decide +kernel
theorem dX12_crowd_52 : decode cX12_crowd 52 = .ok (.getfield 7, 3) := by decide +kernel
theorem dX12_crowd_55 : decode cX12_crowd 55 = .ok (.iload 5, 2) := by decide +kernel
theorem dX12_crowd_57 : decode cX12_crowd 57 = .ok (.invokestatic 274, 3) := by decide +kernel
theorem dX12_crowd_60 : decode cX12_crowd 60 = .ok (.iaload, 1) := by decide +kernel
theorem dX12_crowd_61 : decode cX12_crowd 61 = .ok (.iload_n 3, 1) := by decide +kernel
theorem dX12_crowd_62 : decode cX12_crowd 62 = .ok (.if_icmp .lt 23, 3) := by decide +kernel
theorem dX12_crowd_65 : decode cX12_crowd 65 = .ok (.aload_n 0, 1) := by decide +kernel
theorem dX12_crowd_66 : decode cX12_crowd 66 = .ok (.getfield 7, 3) := by decide +kernel
theorem dX12_crowd_69 : decode cX12_crowd 69 = .ok (.iload 5, 2) := by decide +kernel
theorem dX12_crowd_71 : decode cX12_crowd 71 = .ok (.invokestatic 274, 3) := by decide +kernel
theorem dX12_crowd_74 : decode cX12_crowd 74 = .ok (.iaload, 1) := by decide +kernel
theorem dX12_crowd_75 : decode cX12_crowd 75 = .ok (.iload_n 3, 1) := by decide +kernel
theorem dX12_crowd_76 : decode cX12_crowd 76 = .ok (.iload_n 1, 1) := by decide +kernel
theorem dX12_crowd_77 : decode cX12_crowd 77 = .ok (.iadd, 1) := by decide +kernel
theorem dX12_crowd_78 : decode cX12_crowd 78 = .ok (.if_icmp .ge 7, 3) := by decide +kernel
theorem dX12_crowd_81 : decode cX12_crowd 81 = .ok (.iconst 1, 1) := by decide +kernel
theorem dX12_crowd_82 : decode cX12_crowd 82 = .ok (.goto 4, 3) := by decide +kernel
theorem dX12_crowd_85 : decode cX12_crowd 85 = .ok (.iconst 0, 1) := by decide +kernel
theorem dX12_crowd_86 : decode cX12_crowd 86 = .ok (.iadd, 1) := by decide +kernel
theorem dX12_crowd_87 : decode cX12_crowd 87 = .ok (.istore 4, 2) := by decide +kernel
theorem dX12_crowd_89 : decode cX12_crowd 89 = .ok (.iinc 5 1, 3) := by decide +kernel
theorem dX12_crowd_92 : decode cX12_crowd 92 = .ok (.goto (-54), 3) := by decide +kernel
theorem dX12_crowd_95 : decode cX12_crowd 95 = .ok (.iload_n 2, 1) := by decide +kernel
theorem dX12_crowd_96 : decode cX12_crowd 96 = .ok (.iload 4, 2) := by decide +kernel
theorem dX12_crowd_98 : decode cX12_crowd 98 = .ok (.invokestatic 375, 3) := by decide +kernel
theorem dX12_crowd_101 : decode cX12_crowd 101 = .ok (.istore_n 2, 1) := by decide +kernel
theorem dX12_crowd_102 : decode cX12_crowd 102 = .ok (.iinc 3 1, 3) := by decide +kernel
theorem dX12_crowd_105 : decode cX12_crowd 105 = .ok (.goto (-83), 3) := by decide +kernel
theorem dX12_crowd_108 : decode cX12_crowd 108 = .ok (.aload_n 0, 1) := by decide +kernel
theorem dX12_crowd_109 : decode cX12_crowd 109 = .ok (.iload_n 2, 1) := by decide +kernel
theorem dX12_crowd_110 : decode cX12_crowd 110 = .ok (.invokevirtual 82, 3) := by decide +kernel
theorem dX12_crowd_113 : decode cX12_crowd 113 = .ok (.ireturn, 1) := by decide +kernel
theorem dX12_dawns_0 : decode cX12_dawns 0 = .ok (.aload_n 0, 1) := by decide +kernel
theorem dX12_dawns_1 : decode cX12_dawns 1 = .ok (.getfield 7, 3) := by decide +kernel
theorem dX12_dawns_4 : decode cX12_dawns 4 = .ok (.bipush 7, 2) := by decide +kernel
theorem dX12_dawns_6 : decode cX12_dawns 6 = .ok (.iconst 1, 1) := by decide +kernel
theorem dX12_dawns_7 : decode cX12_dawns 7 = .ok (.aload_n 0, 1) := by decide +kernel
theorem dX12_dawns_8 : decode cX12_dawns 8 = .ok (.getfield 7, 3) := by decide +kernel
theorem dX12_dawns_11 : decode cX12_dawns 11 = .ok (.iconst 2, 1) := by decide +kernel
theorem dX12_dawns_12 : decode cX12_dawns 12 = .ok (.iaload, 1) := by decide +kernel
theorem dX12_dawns_13 : decode cX12_dawns 13 = .ok (.ishl, 1) := by decide +kernel
theorem dX12_dawns_14 : decode cX12_dawns 14 = .ok (.iconst 1, 1) := by decide +kernel
theorem dX12_dawns_15 : decode cX12_dawns 15 = .ok (.isub, 1) := by decide +kernel
theorem dX12_dawns_16 : decode cX12_dawns 16 = .ok (.iastore, 1) := by decide +kernel
theorem dX12_dawns_17 : decode cX12_dawns 17 = .ok (.return_, 1) := by decide +kernel
theorem dX12_dawn_0 : decode cX12_dawn 0 = .ok (.aload_n 0, 1) := by decide +kernel
theorem dX12_dawn_1 : decode cX12_dawn 1 = .ok (.getfield 7, 3) := by decide +kernel
theorem dX12_dawn_4 : decode cX12_dawn 4 = .ok (.bipush 7, 2) := by decide +kernel
theorem dX12_dawn_6 : decode cX12_dawn 6 = .ok (.iaload, 1) := by decide +kernel
theorem dX12_dawn_7 : decode cX12_dawn 7 = .ok (.ifCond .eq 10, 3) := by decide +kernel
theorem dX12_dawn_10 : decode cX12_dawn 10 = .ok (.aload_n 0, 1) := by decide +kernel
theorem dX12_dawn_11 : decode cX12_dawn 11 = .ok (.bipush 7, 2) := by decide +kernel
theorem dX12_dawn_13 : decode cX12_dawn 13 = .ok (.invokevirtual 78, 3) := by decide +kernel
theorem dX12_dawn_16 : decode cX12_dawn 16 = .ok (.ireturn, 1) := by decide +kernel
theorem dX12_dawn_17 : decode cX12_dawn 17 = .ok (.aload_n 0, 1) := by decide +kernel
theorem dX12_dawn_18 : decode cX12_dawn 18 = .ok (.invokevirtual 384, 3) := by decide +kernel
theorem dX12_dawn_21 : decode cX12_dawn 21 = .ok (.aload_n 0, 1) := by decide +kernel
theorem dX12_dawn_22 : decode cX12_dawn 22 = .ok (.aload_n 0, 1) := by decide +kernel
theorem dX12_dawn_23 : decode cX12_dawn 23 = .ok (.getfield 7, 3) := by decide +kernel
theorem dX12_dawn_26 : decode cX12_dawn 26 = .ok (.iconst 2, 1) := by decide +kernel
theorem dX12_dawn_27 : decode cX12_dawn 27 = .ok (.iaload, 1) := by decide +kernel
theorem dX12_dawn_28 : decode cX12_dawn 28 = .ok (.invokevirtual 82, 3) := by decide +kernel
theorem dX12_dawn_31 : decode cX12_dawn 31 = .ok (.ireturn, 1) := by decide +kernel
theorem dX12_findTo_0 : decode cX12_findTo 0 = .ok (.aload_n 0, 1) := by decide +kernel
theorem dX12_findTo_1 : decode cX12_findTo 1 = .ok (.bipush 6, 2) := by decide +kernel
theorem dX12_findTo_3 : decode cX12_findTo 3 = .ok (.aload_n 0, 1) := by decide +kernel
theorem dX12_findTo_4 : decode cX12_findTo 4 = .ok (.getfield 7, 3) := by decide +kernel
theorem dX12_findTo_7 : decode cX12_findTo 7 = .ok (.iconst 2, 1) := by decide +kernel
theorem dX12_findTo_8 : decode cX12_findTo 8 = .ok (.iaload, 1) := by decide +kernel
theorem dX12_findTo_9 : decode cX12_findTo 9 = .ok (.iload_n 1, 1) := by decide +kernel
theorem dX12_findTo_10 : decode cX12_findTo 10 = .ok (.invokevirtual 207, 3) := by decide +kernel
theorem dX12_findTo_13 : decode cX12_findTo 13 = .ok (.ireturn, 1) := by decide +kernel
theorem dX12_finderTo_0 : decode cX12_finderTo 0 = .ok (.aload_n 0, 1) := by decide +kernel
theorem dX12_finderTo_1 : decode cX12_finderTo 1 = .ok (.iconst 0, 1) := by decide +kernel
theorem dX12_finderTo_2 : decode cX12_finderTo 2 = .ok (.aload_n 0, 1) := by decide +kernel
theorem dX12_finderTo_3 : decode cX12_finderTo 3 = .ok (.getfield 7, 3) := by decide +kernel
theorem dX12_finderTo_6 : decode cX12_finderTo 6 = .ok (.iconst 1, 1) := by decide +kernel
theorem dX12_finderTo_7 : decode cX12_finderTo 7 = .ok (.iaload, 1) := by decide +kernel
theorem dX12_finderTo_8 : decode cX12_finderTo 8 = .ok (.iload_n 1, 1) := by decide +kernel
theorem dX12_finderTo_9 : decode cX12_finderTo 9 = .ok (.invokevirtual 207, 3) := by decide +kernel
theorem dX12_finderTo_12 : decode cX12_finderTo 12 = .ok (.ireturn, 1) := by decide +kernel
theorem dX12_test_0 : decode cX12_test 0 = .ok (.aload_n 0, 1) := by decide +kernel
theorem dX12_test_1 : decode cX12_test 1 = .ok (.ldc 178, 2) := by decide +kernel
theorem dX12_test_3 : decode cX12_test 3 = .ok (.invokevirtual 163, 3) := by decide +kernel
theorem dX12_test_6 : decode cX12_test 6 = .ok (.istore_n 2, 1) := by decide +kernel
theorem dX12_test_7 : decode cX12_test 7 = .ok (.iload_n 2, 1) := by decide +kernel
theorem dX12_test_8 : decode cX12_test 8 = .ok (.bipush 28, 2) := by decide +kernel
theorem dX12_test_10 : decode cX12_test 10 = .ok (.if_icmp .eq 21, 3) := by decide +kernel
theorem dX12_test_13 : decode cX12_test 13 = .ok (.iload_n 2, 1) := by decide +kernel
theorem dX12_test_14 : decode cX12_test 14 = .ok (.bipush 15, 2) := by decide +kernel
theorem dX12_test_16 : decode cX12_test 16 = .ok (.if_icmp .eq 15, 3) := by decide +kernel
theorem dX12_test_19 : decode cX12_test 19 = .ok (.iload_n 2, 1) := by decide +kernel
theorem dX12_test_20 : decode cX12_test 20 = .ok (.bipush 29, 2) := by decide +kernel
theorem dX12_test_22 : decode cX12_test 22 = .ok (.if_icmp .eq 9, 3) := by decide +kernel
theorem dX12_test_25 : decode cX12_test 25 = .ok (.aload_n 0, 1) := by decide +kernel
theorem dX12_test_26 : decode cX12_test 26 = .ok (.iconst 2, 1) := by decide +kernel
theorem dX12_test_27 : decode cX12_test 27 = .ok (.invokevirtual 160, 3) := by decide +kernel
theorem dX12_test_30 : decode cX12_test 30 = .ok (.ireturn, 1) := by decide +kernel
theorem dX12_test_31 : decode cX12_test 31 = .ok (.aload_n 0, 1) := by decide +kernel
theorem dX12_test_32 : decode cX12_test 32 = .ok (.getfield 7, 3) := by decide +kernel
theorem dX12_test_35 : decode cX12_test 35 = .ok (.iload_n 1, 1) := by decide +kernel
theorem dX12_test_36 : decode cX12_test 36 = .ok (.sipush 2400, 3) := by decide +kernel
theorem dX12_test_39 : decode cX12_test 39 = .ok (.iload_n 2, 1) := by decide +kernel
theorem dX12_test_40 : decode cX12_test 40 = .ok (.iadd, 1) := by decide +kernel
theorem dX12_test_41 : decode cX12_test 41 = .ok (.iastore, 1) := by decide +kernel
theorem dX12_test_42 : decode cX12_test 42 = .ok (.aload_n 0, 1) := by decide +kernel
theorem dX12_test_43 : decode cX12_test 43 = .ok (.invokevirtual 154, 3) := by decide +kernel
theorem dX12_test_46 : decode cX12_test 46 = .ok (.iload_n 2, 1) := by decide +kernel
theorem dX12_test_47 : decode cX12_test 47 = .ok (.bipush 29, 2) := by decide +kernel
theorem dX12_test_49 : decode cX12_test 49 = .ok (.if_icmp .ne 11, 3) := by decide +kernel
theorem dX12_test_52 : decode cX12_test 52 = .ok (.aload_n 0, 1) := by decide +kernel
theorem dX12_test_53 : decode cX12_test 53 = .ok (.iload_n 1, 1) := by decide +kernel
theorem dX12_test_54 : decode cX12_test 54 = .ok (.iconst 1, 1) := by decide +kernel
theorem dX12_test_55 : decode cX12_test 55 = .ok (.iadd, 1) := by decide +kernel
theorem dX12_test_56 : decode cX12_test 56 = .ok (.invokevirtual 244, 3) := by decide +kernel
theorem dX12_test_59 : decode cX12_test 59 = .ok (.ireturn, 1) := by decide +kernel
theorem dX12_test_60 : decode cX12_test 60 = .ok (.aload_n 0, 1) := by decide +kernel
theorem dX12_test_61 : decode cX12_test 61 = .ok (.iload_n 1, 1) := by decide +kernel
theorem dX12_test_62 : decode cX12_test 62 = .ok (.iconst 1, 1) := by decide +kernel
theorem dX12_test_63 : decode cX12_test 63 = .ok (.iadd, 1) := by decide +kernel
theorem dX12_test_64 : decode cX12_test 64 = .ok (.invokevirtual 247, 3) := by decide +kernel
theorem dX12_test_67 : decode cX12_test 67 = .ok (.ifCond .ne 5, 3) := by decide +kernel
theorem dX12_test_70 : decode cX12_test 70 = .ok (.iconst 0, 1) := by decide +kernel
theorem dX12_test_71 : decode cX12_test 71 = .ok (.ireturn, 1) := by decide +kernel
theorem dX12_test_72 : decode cX12_test 72 = .ok (.iload_n 2, 1) := by decide +kernel
theorem dX12_test_73 : decode cX12_test 73 = .ok (.bipush 15, 2) := by decide +kernel
theorem dX12_test_75 : decode cX12_test 75 = .ok (.if_icmp .ne 30, 3) := by decide +kernel
theorem dX12_test_78 : decode cX12_test 78 = .ok (.aload_n 0, 1) := by decide +kernel
theorem dX12_test_79 : decode cX12_test 79 = .ok (.ldc 178, 2) := by decide +kernel
theorem dX12_test_81 : decode cX12_test 81 = .ok (.bipush 12, 2) := by decide +kernel
theorem dX12_test_83 : decode cX12_test 83 = .ok (.invokevirtual 187, 3) := by decide +kernel
theorem dX12_test_86 : decode cX12_test 86 = .ok (.ifCond .eq 17, 3) := by decide +kernel
theorem dX12_test_89 : decode cX12_test 89 = .ok (.aload_n 0, 1) := by decide +kernel
theorem dX12_test_90 : decode cX12_test 90 = .ok (.iload_n 1, 1) := by decide +kernel
theorem dX12_test_91 : decode cX12_test 91 = .ok (.iconst 2, 1) := by decide +kernel
theorem dX12_test_92 : decode cX12_test 92 = .ok (.iadd, 1) := by decide +kernel
theorem dX12_test_93 : decode cX12_test 93 = .ok (.invokevirtual 244, 3) := by decide +kernel
theorem dX12_test_96 : decode cX12_test 96 = .ok (.ifCond .eq 7, 3) := by decide +kernel
theorem dX12_test_99 : decode cX12_test 99 = .ok (.iconst 1, 1) := by decide +kernel
theorem dX12_test_100 : decode cX12_test 100 = .ok (.goto 4, 3) := by decide +kernel
theorem dX12_test_103 : decode cX12_test 103 = .ok (.iconst 0, 1) := by decide +kernel
theorem dX12_test_104 : decode cX12_test 104 = .ok (.ireturn, 1) := by decide +kernel
theorem dX12_test_105 : decode cX12_test 105 = .ok (.aload_n 0, 1) := by decide +kernel
theorem dX12_test_106 : decode cX12_test 106 = .ok (.bipush 60, 2) := by decide +kernel
theorem dX12_test_108 : decode cX12_test 108 = .ok (.invokevirtual 157, 3) := by decide +kernel
theorem dX12_test_111 : decode cX12_test 111 = .ok (.ifCond .ne 27, 3) := by decide +kernel
theorem dX12_test_114 : decode cX12_test 114 = .ok (.aload_n 0, 1) := by decide +kernel
theorem dX12_test_115 : decode cX12_test 115 = .ok (.bipush 62, 2) := by decide +kernel
theorem dX12_test_117 : decode cX12_test 117 = .ok (.invokevirtual 157, 3) := by decide +kernel
theorem dX12_test_120 : decode cX12_test 120 = .ok (.ifCond .ne 18, 3) := by decide +kernel
theorem dX12_test_123 : decode cX12_test 123 = .ok (.aload_n 0, 1) := by decide +kernel
theorem dX12_test_124 : decode cX12_test 124 = .ok (.bipush 61, 2) := by decide +kernel
theorem dX12_test_126 : decode cX12_test 126 = .ok (.invokevirtual 157, 3) := by decide +kernel
theorem dX12_test_129 : decode cX12_test 129 = .ok (.ifCond .ne 9, 3) := by decide +kernel
theorem dX12_test_132 : decode cX12_test 132 = .ok (.aload_n 0, 1) := by decide +kernel
theorem dX12_test_133 : decode cX12_test 133 = .ok (.iconst 2, 1) := by decide +kernel
theorem dX12_test_134 : decode cX12_test 134 = .ok (.invokevirtual 160, 3) := by decide +kernel
theorem dX12_test_137 : decode cX12_test 137 = .ok (.ireturn, 1) := by decide +kernel
theorem dX12_test_138 : decode cX12_test 138 = .ok (.aload_n 0, 1) := by decide +kernel
theorem dX12_test_139 : decode cX12_test 139 = .ok (.getfield 7, 3) := by decide +kernel
theorem dX12_test_142 : decode cX12_test 142 = .ok (.iload_n 1, 1) := by decide +kernel
theorem dX12_test_143 : decode cX12_test 143 = .ok (.iconst 5, 1) := by decide +kernel
theorem dX12_test_144 : decode cX12_test 144 = .ok (.iadd, 1) := by decide +kernel
theorem dX12_test_145 : decode cX12_test 145 = .ok (.aload_n 0, 1) := by decide +kernel
theorem dX12_test_146 : decode cX12_test 146 = .ok (.getfield 120, 3) := by decide +kernel
theorem dX12_test_149 : decode cX12_test 149 = .ok (.iastore, 1) := by decide +kernel
theorem dX12_test_150 : decode cX12_test 150 = .ok (.aload_n 0, 1) := by decide +kernel
theorem dX12_test_151 : decode cX12_test 151 = .ok (.invokevirtual 154, 3) := by decide +kernel
theorem dX12_test_154 : decode cX12_test 154 = .ok (.aload_n 0, 1) := by decide +kernel
theorem dX12_test_155 : decode cX12_test 155 = .ok (.iload_n 1, 1) := by decide +kernel
theorem dX12_test_156 : decode cX12_test 156 = .ok (.iconst 2, 1) := by decide +kernel
theorem dX12_test_157 : decode cX12_test 157 = .ok (.iadd, 1) := by decide +kernel
theorem dX12_test_158 : decode cX12_test 158 = .ok (.iconst 0, 1) := by decide +kernel
theorem dX12_test_159 : decode cX12_test 159 = .ok (.sipush 9999, 3) := by decide +kernel
theorem dX12_test_162 : decode cX12_test 162 = .ok (.invokevirtual 191, 3) := by decide +kernel
theorem dX12_test_165 : decode cX12_test 165 = .ok (.ireturn, 1) := by decide +kernel
theorem dX12_dayOrder_0 : decode cX12_dayOrder 0 = .ok (.iload_n 1, 1) := by decide +kernel
theorem dX12_dayOrder_1 : decode cX12_dayOrder 1 = .ok (.tableswitch 199 18 25 #[47, 93, 130, 93, 160, 171, 182, 188], 47) := by decide +kernel
theorem dX12_dayOrder_48 : decode cX12_dayOrder 48 = .ok (.aload_n 0, 1) := by decide +kernel
theorem dX12_dayOrder_49 : decode cX12_dayOrder 49 = .ok (.iload_n 2, 1) := by decide +kernel
theorem dX12_dayOrder_50 : decode cX12_dayOrder 50 = .ok (.iconst 1, 1) := by decide +kernel
theorem dX12_dayOrder_51 : decode cX12_dayOrder 51 = .ok (.iadd, 1) := by decide +kernel
theorem dX12_dayOrder_52 : decode cX12_dayOrder 52 = .ok (.invokevirtual 247, 3) := by decide +kernel
theorem dX12_dayOrder_55 : decode cX12_dayOrder 55 = .ok (.ifCond .eq 37, 3) := by decide +kernel
theorem dX12_dayOrder_58 : decode cX12_dayOrder 58 = .ok (.aload_n 0, 1) := by decide +kernel
theorem dX12_dayOrder_59 : decode cX12_dayOrder 59 = .ok (.ldc 178, 2) := by decide +kernel
theorem dX12_dayOrder_61 : decode cX12_dayOrder 61 = .ok (.bipush 17, 2) := by decide +kernel
theorem dX12_dayOrder_63 : decode cX12_dayOrder 63 = .ok (.invokevirtual 187, 3) := by decide +kernel
theorem dX12_dayOrder_66 : decode cX12_dayOrder 66 = .ok (.ifCond .eq 26, 3) := by decide +kernel
theorem dX12_dayOrder_69 : decode cX12_dayOrder 69 = .ok (.aload_n 0, 1) := by decide +kernel
theorem dX12_dayOrder_70 : decode cX12_dayOrder 70 = .ok (.iload_n 2, 1) := by decide +kernel
theorem dX12_dayOrder_71 : decode cX12_dayOrder 71 = .ok (.iconst 2, 1) := by decide +kernel
theorem dX12_dayOrder_72 : decode cX12_dayOrder 72 = .ok (.iadd, 1) := by decide +kernel
theorem dX12_dayOrder_73 : decode cX12_dayOrder 73 = .ok (.iconst 0, 1) := by decide +kernel
theorem dX12_dayOrder_74 : decode cX12_dayOrder 74 = .ok (.aload_n 0, 1) := by decide +kernel
theorem dX12_dayOrder_75 : decode cX12_dayOrder 75 = .ok (.getfield 7, 3) := by decide +kernel
theorem dX12_dayOrder_78 : decode cX12_dayOrder 78 = .ok (.iconst 0, 1) := by decide +kernel
theorem dX12_dayOrder_79 : decode cX12_dayOrder 79 = .ok (.iaload, 1) := by decide +kernel
theorem dX12_dayOrder_80 : decode cX12_dayOrder 80 = .ok (.iconst 1, 1) := by decide +kernel
theorem dX12_dayOrder_81 : decode cX12_dayOrder 81 = .ok (.isub, 1) := by decide +kernel
theorem dX12_dayOrder_82 : decode cX12_dayOrder 82 = .ok (.invokevirtual 191, 3) := by decide +kernel
theorem dX12_dayOrder_85 : decode cX12_dayOrder 85 = .ok (.ifCond .eq 7, 3) := by decide +kernel
theorem dX12_dayOrder_88 : decode cX12_dayOrder 88 = .ok (.iconst 1, 1) := by decide +kernel
theorem dX12_dayOrder_89 : decode cX12_dayOrder 89 = .ok (.goto 4, 3) := by decide +kernel
theorem dX12_dayOrder_92 : decode cX12_dayOrder 92 = .ok (.iconst 0, 1) := by decide +kernel
theorem dX12_dayOrder_93 : decode cX12_dayOrder 93 = .ok (.ireturn, 1) := by decide +kernel
theorem dX12_dayOrder_94 : decode cX12_dayOrder 94 = .ok (.aload_n 0, 1) := by decide +kernel
theorem dX12_dayOrder_95 : decode cX12_dayOrder 95 = .ok (.iload_n 2, 1) := by decide +kernel
theorem dX12_dayOrder_96 : decode cX12_dayOrder 96 = .ok (.iconst 1, 1) := by decide +kernel
theorem dX12_dayOrder_97 : decode cX12_dayOrder 97 = .ok (.iadd, 1) := by decide +kernel
theorem dX12_dayOrder_98 : decode cX12_dayOrder 98 = .ok (.invokevirtual 247, 3) := by decide +kernel
theorem dX12_dayOrder_101 : decode cX12_dayOrder 101 = .ok (.ifCond .eq 28, 3) := by decide +kernel
theorem dX12_dayOrder_104 : decode cX12_dayOrder 104 = .ok (.aload_n 0, 1) := by decide +kernel
theorem dX12_dayOrder_105 : decode cX12_dayOrder 105 = .ok (.ldc 178, 2) := by decide +kernel
theorem dX12_dayOrder_107 : decode cX12_dayOrder 107 = .ok (.bipush 12, 2) := by decide +kernel
theorem dX12_dayOrder_109 : decode cX12_dayOrder 109 = .ok (.invokevirtual 187, 3) := by decide +kernel
theorem dX12_dayOrder_112 : decode cX12_dayOrder 112 = .ok (.ifCond .eq 17, 3) := by decide +kernel
theorem dX12_dayOrder_115 : decode cX12_dayOrder 115 = .ok (.aload_n 0, 1) := by decide +kernel
theorem dX12_dayOrder_116 : decode cX12_dayOrder 116 = .ok (.iload_n 2, 1) := by decide +kernel
theorem dX12_dayOrder_117 : decode cX12_dayOrder 117 = .ok (.iconst 2, 1) := by decide +kernel
theorem dX12_dayOrder_118 : decode cX12_dayOrder 118 = .ok (.iadd, 1) := by decide +kernel
theorem dX12_dayOrder_119 : decode cX12_dayOrder 119 = .ok (.invokevirtual 244, 3) := by decide +kernel
theorem dX12_dayOrder_122 : decode cX12_dayOrder 122 = .ok (.ifCond .eq 7, 3) := by decide +kernel
theorem dX12_dayOrder_125 : decode cX12_dayOrder 125 = .ok (.iconst 1, 1) := by decide +kernel
theorem dX12_dayOrder_126 : decode cX12_dayOrder 126 = .ok (.goto 4, 3) := by decide +kernel
theorem dX12_dayOrder_129 : decode cX12_dayOrder 129 = .ok (.iconst 0, 1) := by decide +kernel
theorem dX12_dayOrder_130 : decode cX12_dayOrder 130 = .ok (.ireturn, 1) := by decide +kernel
theorem dX12_dayOrder_131 : decode cX12_dayOrder 131 = .ok (.aload_n 0, 1) := by decide +kernel
theorem dX12_dayOrder_132 : decode cX12_dayOrder 132 = .ok (.iload_n 2, 1) := by decide +kernel
theorem dX12_dayOrder_133 : decode cX12_dayOrder 133 = .ok (.iconst 1, 1) := by decide +kernel
theorem dX12_dayOrder_134 : decode cX12_dayOrder 134 = .ok (.iadd, 1) := by decide +kernel
theorem dX12_dayOrder_135 : decode cX12_dayOrder 135 = .ok (.invokevirtual 247, 3) := by decide +kernel
theorem dX12_dayOrder_138 : decode cX12_dayOrder 138 = .ok (.ifCond .eq 21, 3) := by decide +kernel
theorem dX12_dayOrder_141 : decode cX12_dayOrder 141 = .ok (.aload_n 0, 1) := by decide +kernel
theorem dX12_dayOrder_142 : decode cX12_dayOrder 142 = .ok (.iload_n 2, 1) := by decide +kernel
theorem dX12_dayOrder_143 : decode cX12_dayOrder 143 = .ok (.iconst 2, 1) := by decide +kernel
theorem dX12_dayOrder_144 : decode cX12_dayOrder 144 = .ok (.iadd, 1) := by decide +kernel
theorem dX12_dayOrder_145 : decode cX12_dayOrder 145 = .ok (.iconst 1, 1) := by decide +kernel
theorem dX12_dayOrder_146 : decode cX12_dayOrder 146 = .ok (.sipush 240, 3) := by decide +kernel
theorem dX12_dayOrder_149 : decode cX12_dayOrder 149 = .ok (.invokevirtual 191, 3) := by decide +kernel
theorem dX12_dayOrder_152 : decode cX12_dayOrder 152 = .ok (.ifCond .eq 7, 3) := by decide +kernel
theorem dX12_dayOrder_155 : decode cX12_dayOrder 155 = .ok (.iconst 1, 1) := by decide +kernel
theorem dX12_dayOrder_156 : decode cX12_dayOrder 156 = .ok (.goto 4, 3) := by decide +kernel
theorem dX12_dayOrder_159 : decode cX12_dayOrder 159 = .ok (.iconst 0, 1) := by decide +kernel
theorem dX12_dayOrder_160 : decode cX12_dayOrder 160 = .ok (.ireturn, 1) := by decide +kernel
theorem dX12_dayOrder_161 : decode cX12_dayOrder 161 = .ok (.aload_n 0, 1) := by decide +kernel
theorem dX12_dayOrder_162 : decode cX12_dayOrder 162 = .ok (.iload_n 2, 1) := by decide +kernel
theorem dX12_dayOrder_163 : decode cX12_dayOrder 163 = .ok (.iconst 1, 1) := by decide +kernel
theorem dX12_dayOrder_164 : decode cX12_dayOrder 164 = .ok (.iadd, 1) := by decide +kernel
theorem dX12_dayOrder_165 : decode cX12_dayOrder 165 = .ok (.iconst 0, 1) := by decide +kernel
theorem dX12_dayOrder_166 : decode cX12_dayOrder 166 = .ok (.bipush 16, 2) := by decide +kernel
theorem dX12_dayOrder_168 : decode cX12_dayOrder 168 = .ok (.invokevirtual 191, 3) := by decide +kernel
theorem dX12_dayOrder_171 : decode cX12_dayOrder 171 = .ok (.ireturn, 1) := by decide +kernel
theorem dX12_dayOrder_172 : decode cX12_dayOrder 172 = .ok (.aload_n 0, 1) := by decide +kernel
theorem dX12_dayOrder_173 : decode cX12_dayOrder 173 = .ok (.iload_n 2, 1) := by decide +kernel
theorem dX12_dayOrder_174 : decode cX12_dayOrder 174 = .ok (.iconst 1, 1) := by decide +kernel
theorem dX12_dayOrder_175 : decode cX12_dayOrder 175 = .ok (.iadd, 1) := by decide +kernel
theorem dX12_dayOrder_176 : decode cX12_dayOrder 176 = .ok (.iconst 0, 1) := by decide +kernel
theorem dX12_dayOrder_177 : decode cX12_dayOrder 177 = .ok (.bipush 40, 2) := by decide +kernel
theorem dX12_dayOrder_179 : decode cX12_dayOrder 179 = .ok (.invokevirtual 191, 3) := by decide +kernel
theorem dX12_dayOrder_182 : decode cX12_dayOrder 182 = .ok (.ireturn, 1) := by decide +kernel
theorem dX12_dayOrder_183 : decode cX12_dayOrder 183 = .ok (.aload_n 0, 1) := by decide +kernel
theorem dX12_dayOrder_184 : decode cX12_dayOrder 184 = .ok (.iload_n 2, 1) := by decide +kernel
theorem dX12_dayOrder_185 : decode cX12_dayOrder 185 = .ok (.invokevirtual 250, 3) := by decide +kernel
theorem dX12_dayOrder_188 : decode cX12_dayOrder 188 = .ok (.ireturn, 1) := by decide +kernel
theorem dX12_dayOrder_189 : decode cX12_dayOrder 189 = .ok (.aload_n 0, 1) := by decide +kernel
theorem dX12_dayOrder_190 : decode cX12_dayOrder 190 = .ok (.iload_n 2, 1) := by decide +kernel
theorem dX12_dayOrder_191 : decode cX12_dayOrder 191 = .ok (.iconst 1, 1) := by decide +kernel
theorem dX12_dayOrder_192 : decode cX12_dayOrder 192 = .ok (.iadd, 1) := by decide +kernel
theorem dX12_dayOrder_193 : decode cX12_dayOrder 193 = .ok (.iconst 1, 1) := by decide +kernel
theorem dX12_dayOrder_194 : decode cX12_dayOrder 194 = .ok (.bipush 99, 2) := by decide +kernel
theorem dX12_dayOrder_196 : decode cX12_dayOrder 196 = .ok (.invokevirtual 191, 3) := by decide +kernel
theorem dX12_dayOrder_199 : decode cX12_dayOrder 199 = .ok (.ireturn, 1) := by decide +kernel
theorem dX12_dayOrder_200 : decode cX12_dayOrder 200 = .ok (.iconst 1, 1) := by decide +kernel
theorem dX12_dayOrder_201 : decode cX12_dayOrder 201 = .ok (.ireturn, 1) := by decide +kernel
theorem dX12_dayStep_0 : decode cX12_dayStep 0 = .ok (.aload_n 0, 1) := by decide +kernel
theorem dX12_dayStep_1 : decode cX12_dayStep 1 = .ok (.ldc 178, 2) := by decide +kernel
theorem dX12_dayStep_3 : decode cX12_dayStep 3 = .ok (.invokevirtual 163, 3) := by decide +kernel
theorem dX12_dayStep_6 : decode cX12_dayStep 6 = .ok (.istore_n 1, 1) := by decide +kernel
theorem dX12_dayStep_7 : decode cX12_dayStep 7 = .ok (.aload_n 0, 1) := by decide +kernel
theorem dX12_dayStep_8 : decode cX12_dayStep 8 = .ok (.getfield 7, 3) := by decide +kernel
theorem dX12_dayStep_11 : decode cX12_dayStep 11 = .ok (.sipush 5609, 3) := by decide +kernel
theorem dX12_dayStep_14 : decode cX12_dayStep 14 = .ok (.iaload, 1) := by decide +kernel
theorem dX12_dayStep_15 : decode cX12_dayStep 15 = .ok (.istore_n 2, 1) := by decide +kernel
theorem dX12_dayStep_16 : decode cX12_dayStep 16 = .ok (.sipush 6630, 3) := by decide +kernel
theorem dX12_dayStep_19 : decode cX12_dayStep 19 = .ok (.bipush 6, 2) := by decide +kernel
theorem dX12_dayStep_21 : decode cX12_dayStep 21 = .ok (.iload_n 2, 1) := by decide +kernel
theorem dX12_dayStep_22 : decode cX12_dayStep 22 = .ok (.imul, 1) := by decide +kernel
theorem dX12_dayStep_23 : decode cX12_dayStep 23 = .ok (.iadd, 1) := by decide +kernel
theorem dX12_dayStep_24 : decode cX12_dayStep 24 = .ok (.istore_n 3, 1) := by decide +kernel
theorem dX12_dayStep_25 : decode cX12_dayStep 25 = .ok (.iload_n 1, 1) := by decide +kernel
theorem dX12_dayStep_26 : decode cX12_dayStep 26 = .ok (.bipush 24, 2) := by decide +kernel
theorem dX12_dayStep_28 : decode cX12_dayStep 28 = .ok (.if_icmp .eq 9, 3) := by decide +kernel
theorem dX12_dayStep_31 : decode cX12_dayStep 31 = .ok (.iload_n 1, 1) := by decide +kernel
theorem dX12_dayStep_32 : decode cX12_dayStep 32 = .ok (.bipush 25, 2) := by decide +kernel
theorem dX12_dayStep_34 : decode cX12_dayStep 34 = .ok (.if_icmp .ne 7, 3) := by decide +kernel
theorem dX12_dayStep_37 : decode cX12_dayStep 37 = .ok (.iconst 1, 1) := by decide +kernel
theorem dX12_dayStep_38 : decode cX12_dayStep 38 = .ok (.goto 4, 3) := by decide +kernel
theorem dX12_dayStep_41 : decode cX12_dayStep 41 = .ok (.iconst 0, 1) := by decide +kernel
theorem dX12_dayStep_42 : decode cX12_dayStep 42 = .ok (.istore 4, 2) := by decide +kernel
theorem dX12_dayStep_44 : decode cX12_dayStep 44 = .ok (.iload_n 1, 1) := by decide +kernel
theorem dX12_dayStep_45 : decode cX12_dayStep 45 = .ok (.iconst 1, 1) := by decide +kernel
theorem dX12_dayStep_46 : decode cX12_dayStep 46 = .ok (.if_icmp .eq 15, 3) := by decide +kernel
theorem dX12_dayStep_49 : decode cX12_dayStep 49 = .ok (.iload_n 1, 1) := by decide +kernel
theorem dX12_dayStep_50 : decode cX12_dayStep 50 = .ok (.bipush 18, 2) := by decide +kernel
theorem dX12_dayStep_52 : decode cX12_dayStep 52 = .ok (.if_icmp .lt 22, 3) := by decide +kernel
theorem dX12_dayStep_55 : decode cX12_dayStep 55 = .ok (.iload_n 1, 1) := by decide +kernel
theorem dX12_dayStep_56 : decode cX12_dayStep 56 = .ok (.bipush 27, 2) := by decide +kernel
theorem dX12_dayStep_58 : decode cX12_dayStep 58 = .ok (.if_icmp .gt 16, 3) := by decide +kernel
theorem dX12_dayStep_61 : decode cX12_dayStep 61 = .ok (.iload_n 1, 1) := by decide +kernel
theorem dX12_dayStep_62 : decode cX12_dayStep 62 = .ok (.bipush 26, 2) := by decide +kernel
theorem dX12_dayStep_64 : decode cX12_dayStep 64 = .ok (.if_icmp .ne 16, 3) := by decide +kernel
theorem dX12_dayStep_67 : decode cX12_dayStep 67 = .ok (.aload_n 0, 1) := by decide +kernel
theorem dX12_dayStep_68 : decode cX12_dayStep 68 = .ok (.getfield 253, 3) := by decide +kernel
theorem dX12_dayStep_71 : decode cX12_dayStep 71 = .ok (.ifCond .ne 9, 3) := by decide +kernel
theorem dX12_dayStep_74 : decode cX12_dayStep 74 = .ok (.aload_n 0, 1) := by decide +kernel
theorem dX12_dayStep_75 : decode cX12_dayStep 75 = .ok (.iconst 2, 1) := by decide +kernel
theorem dX12_dayStep_76 : decode cX12_dayStep 76 = .ok (.invokevirtual 160, 3) := by decide +kernel
theorem dX12_dayStep_79 : decode cX12_dayStep 79 = .ok (.ireturn, 1) := by decide +kernel
theorem dX12_dayStep_80 : decode cX12_dayStep 80 = .ok (.iload_n 1, 1) := by decide +kernel
theorem dX12_dayStep_81 : decode cX12_dayStep 81 = .ok (.bipush 26, 2) := by decide +kernel
theorem dX12_dayStep_83 : decode cX12_dayStep 83 = .ok (.if_icmp .eq 19, 3) := by decide +kernel
theorem dX12_dayStep_86 : decode cX12_dayStep 86 = .ok (.aload_n 0, 1) := by decide +kernel
theorem dX12_dayStep_87 : decode cX12_dayStep 87 = .ok (.getfield 256, 3) := by decide +kernel
theorem dX12_dayStep_90 : decode cX12_dayStep 90 = .ok (.bipush 30, 2) := by decide +kernel
theorem dX12_dayStep_92 : decode cX12_dayStep 92 = .ok (.if_icmp .ne 10, 3) := by decide +kernel
theorem dX12_dayStep_95 : decode cX12_dayStep 95 = .ok (.aload_n 0, 1) := by decide +kernel
theorem dX12_dayStep_96 : decode cX12_dayStep 96 = .ok (.bipush 6, 2) := by decide +kernel
theorem dX12_dayStep_98 : decode cX12_dayStep 98 = .ok (.invokevirtual 160, 3) := by decide +kernel
theorem dX12_dayStep_101 : decode cX12_dayStep 101 = .ok (.ireturn, 1) := by decide +kernel
theorem dX12_dayStep_102 : decode cX12_dayStep 102 = .ok (.iload 4, 2) := by decide +kernel
theorem dX12_dayStep_104 : decode cX12_dayStep 104 = .ok (.ifCond .eq 18, 3) := by decide +kernel
theorem dX12_dayStep_107 : decode cX12_dayStep 107 = .ok (.aload_n 0, 1) := by decide +kernel
theorem dX12_dayStep_108 : decode cX12_dayStep 108 = .ok (.getfield 253, 3) := by decide +kernel
theorem dX12_dayStep_111 : decode cX12_dayStep 111 = .ok (.iconst 3, 1) := by decide +kernel
theorem dX12_dayStep_112 : decode cX12_dayStep 112 = .ok (.if_icmp .ne 10, 3) := by decide +kernel
theorem dX12_dayStep_115 : decode cX12_dayStep 115 = .ok (.aload_n 0, 1) := by decide +kernel
theorem dX12_dayStep_116 : decode cX12_dayStep 116 = .ok (.bipush 7, 2) := by decide +kernel
theorem dX12_dayStep_118 : decode cX12_dayStep 118 = .ok (.invokevirtual 160, 3) := by decide +kernel
theorem dX12_dayStep_121 : decode cX12_dayStep 121 = .ok (.ireturn, 1) := by decide +kernel
theorem dX12_dayStep_122 : decode cX12_dayStep 122 = .ok (.aload_n 0, 1) := by decide +kernel
theorem dX12_dayStep_123 : decode cX12_dayStep 123 = .ok (.dup, 1) := by decide +kernel
theorem dX12_dayStep_124 : decode cX12_dayStep 124 = .ok (.getfield 256, 3) := by decide +kernel
theorem dX12_dayStep_127 : decode cX12_dayStep 127 = .ok (.iload_n 1, 1) := by decide +kernel
theorem dX12_dayStep_128 : decode cX12_dayStep 128 = .ok (.bipush 26, 2) := by decide +kernel
theorem dX12_dayStep_130 : decode cX12_dayStep 130 = .ok (.if_icmp .ne 7, 3) := by decide +kernel
theorem dX12_dayStep_133 : decode cX12_dayStep 133 = .ok (.iconst 0, 1) := by decide +kernel
theorem dX12_dayStep_134 : decode cX12_dayStep 134 = .ok (.goto 4, 3) := by decide +kernel
theorem dX12_dayStep_137 : decode cX12_dayStep 137 = .ok (.iconst 1, 1) := by decide +kernel
theorem dX12_dayStep_138 : decode cX12_dayStep 138 = .ok (.iadd, 1) := by decide +kernel
theorem dX12_dayStep_139 : decode cX12_dayStep 139 = .ok (.putfield 256, 3) := by decide +kernel
theorem dX12_dayStep_142 : decode cX12_dayStep 142 = .ok (.aload_n 0, 1) := by decide +kernel
theorem dX12_dayStep_143 : decode cX12_dayStep 143 = .ok (.getfield 7, 3) := by decide +kernel
theorem dX12_dayStep_146 : decode cX12_dayStep 146 = .ok (.iload_n 3, 1) := by decide +kernel
theorem dX12_dayStep_147 : decode cX12_dayStep 147 = .ok (.iload_n 1, 1) := by decide +kernel
theorem dX12_dayStep_148 : decode cX12_dayStep 148 = .ok (.iastore, 1) := by decide +kernel
theorem dX12_dayStep_149 : decode cX12_dayStep 149 = .ok (.iconst 1, 1) := by decide +kernel
theorem dX12_dayStep_150 : decode cX12_dayStep 150 = .ok (.istore 5, 2) := by decide +kernel
theorem dX12_dayStep_152 : decode cX12_dayStep 152 = .ok (.iload 5, 2) := by decide +kernel
theorem dX12_dayStep_154 : decode cX12_dayStep 154 = .ok (.bipush 6, 2) := by decide +kernel
theorem dX12_dayStep_156 : decode cX12_dayStep 156 = .ok (.if_icmp .ge 19, 3) := by decide +kernel
theorem dX12_dayStep_159 : decode cX12_dayStep 159 = .ok (.aload_n 0, 1) := by decide +kernel
theorem dX12_dayStep_160 : decode cX12_dayStep 160 = .ok (.getfield 7, 3) := by decide +kernel
theorem dX12_dayStep_163 : decode cX12_dayStep 163 = .ok (.iload_n 3, 1) := by decide +kernel
theorem dX12_dayStep_164 : decode cX12_dayStep 164 = .ok (.iload 5, 2) := by decide +kernel
theorem dX12_dayStep_166 : decode cX12_dayStep 166 = .ok (.iadd, 1) := by decide +kernel
theorem dX12_dayStep_167 : decode cX12_dayStep 167 = .ok (.iconst 0, 1) := by decide +kernel
theorem dX12_dayStep_168 : decode cX12_dayStep 168 = .ok (.iastore, 1) := by decide +kernel
theorem dX12_dayStep_169 : decode cX12_dayStep 169 = .ok (.iinc 5 1, 3) := by decide +kernel
theorem dX12_dayStep_172 : decode cX12_dayStep 172 = .ok (.goto (-20), 3) := by decide +kernel
theorem dX12_dayStep_175 : decode cX12_dayStep 175 = .ok (.aload_n 0, 1) := by decide +kernel
theorem dX12_dayStep_176 : decode cX12_dayStep 176 = .ok (.getfield 7, 3) := by decide +kernel
theorem dX12_dayStep_179 : decode cX12_dayStep 179 = .ok (.sipush 5609, 3) := by decide +kernel
theorem dX12_dayStep_182 : decode cX12_dayStep 182 = .ok (.dup2, 1) := by decide +kernel
theorem dX12_dayStep_183 : decode cX12_dayStep 183 = .ok (.iaload, 1) := by decide +kernel
theorem dX12_dayStep_184 : decode cX12_dayStep 184 = .ok (.iconst 1, 1) := by decide +kernel
theorem dX12_dayStep_185 : decode cX12_dayStep 185 = .ok (.iadd, 1) := by decide +kernel
theorem dX12_dayStep_186 : decode cX12_dayStep 186 = .ok (.iastore, 1) := by decide +kernel
theorem dX12_dayStep_187 : decode cX12_dayStep 187 = .ok (.aload_n 0, 1) := by decide +kernel
theorem dX12_dayStep_188 : decode cX12_dayStep 188 = .ok (.invokevirtual 154, 3) := by decide +kernel
theorem dX12_dayStep_191 : decode cX12_dayStep 191 = .ok (.aload_n 0, 1) := by decide +kernel
theorem dX12_dayStep_192 : decode cX12_dayStep 192 = .ok (.iload_n 1, 1) := by decide +kernel
theorem dX12_dayStep_193 : decode cX12_dayStep 193 = .ok (.iload_n 3, 1) := by decide +kernel
theorem dX12_dayStep_194 : decode cX12_dayStep 194 = .ok (.invokevirtual 259, 3) := by decide +kernel
theorem dX12_dayStep_197 : decode cX12_dayStep 197 = .ok (.ifCond .ne 5, 3) := by decide +kernel
theorem dX12_dayStep_200 : decode cX12_dayStep 200 = .ok (.iconst 0, 1) := by decide +kernel
theorem dX12_dayStep_201 : decode cX12_dayStep 201 = .ok (.ireturn, 1) := by decide +kernel
theorem dX12_dayStep_202 : decode cX12_dayStep 202 = .ok (.iload 4, 2) := by decide +kernel
theorem dX12_dayStep_204 : decode cX12_dayStep 204 = .ok (.ifCond .eq 23, 3) := by decide +kernel
theorem dX12_dayStep_207 : decode cX12_dayStep 207 = .ok (.aload_n 0, 1) := by decide +kernel
theorem dX12_dayStep_208 : decode cX12_dayStep 208 = .ok (.getfield 44, 3) := by decide +kernel
theorem dX12_dayStep_211 : decode cX12_dayStep 211 = .ok (.aload_n 0, 1) := by decide +kernel
theorem dX12_dayStep_212 : decode cX12_dayStep 212 = .ok (.getfield 253, 3) := by decide +kernel
theorem dX12_dayStep_215 : decode cX12_dayStep 215 = .ok (.iload_n 2, 1) := by decide +kernel
theorem dX12_dayStep_216 : decode cX12_dayStep 216 = .ok (.iastore, 1) := by decide +kernel
theorem dX12_dayStep_217 : decode cX12_dayStep 217 = .ok (.aload_n 0, 1) := by decide +kernel
theorem dX12_dayStep_218 : decode cX12_dayStep 218 = .ok (.dup, 1) := by decide +kernel
theorem dX12_dayStep_219 : decode cX12_dayStep 219 = .ok (.getfield 253, 3) := by decide +kernel
theorem dX12_dayStep_222 : decode cX12_dayStep 222 = .ok (.iconst 1, 1) := by decide +kernel
theorem dX12_dayStep_223 : decode cX12_dayStep 223 = .ok (.iadd, 1) := by decide +kernel
theorem dX12_dayStep_224 : decode cX12_dayStep 224 = .ok (.putfield 253, 3) := by decide +kernel
theorem dX12_dayStep_227 : decode cX12_dayStep 227 = .ok (.iload_n 1, 1) := by decide +kernel
theorem dX12_dayStep_228 : decode cX12_dayStep 228 = .ok (.bipush 26, 2) := by decide +kernel
theorem dX12_dayStep_230 : decode cX12_dayStep 230 = .ok (.if_icmp .ne 54, 3) := by decide +kernel
theorem dX12_dayStep_233 : decode cX12_dayStep 233 = .ok (.aload_n 0, 1) := by decide +kernel
theorem dX12_dayStep_234 : decode cX12_dayStep 234 = .ok (.dup, 1) := by decide +kernel
theorem dX12_dayStep_235 : decode cX12_dayStep 235 = .ok (.getfield 253, 3) := by decide +kernel
theorem dX12_dayStep_238 : decode cX12_dayStep 238 = .ok (.iconst 1, 1) := by decide +kernel
theorem dX12_dayStep_239 : decode cX12_dayStep 239 = .ok (.isub, 1) := by decide +kernel
theorem dX12_dayStep_240 : decode cX12_dayStep 240 = .ok (.putfield 253, 3) := by decide +kernel
theorem dX12_dayStep_243 : decode cX12_dayStep 243 = .ok (.aload_n 0, 1) := by decide +kernel
theorem dX12_dayStep_244 : decode cX12_dayStep 244 = .ok (.getfield 7, 3) := by decide +kernel
theorem dX12_dayStep_247 : decode cX12_dayStep 247 = .ok (.iload_n 3, 1) := by decide +kernel
theorem dX12_dayStep_248 : decode cX12_dayStep 248 = .ok (.iconst 4, 1) := by decide +kernel
theorem dX12_dayStep_249 : decode cX12_dayStep 249 = .ok (.iadd, 1) := by decide +kernel
theorem dX12_dayStep_250 : decode cX12_dayStep 250 = .ok (.aload_n 0, 1) := by decide +kernel
theorem dX12_dayStep_251 : decode cX12_dayStep 251 = .ok (.getfield 44, 3) := by decide +kernel
theorem dX12_dayStep_254 : decode cX12_dayStep 254 = .ok (.aload_n 0, 1) := by decide +kernel
theorem dX12_dayStep_255 : decode cX12_dayStep 255 = .ok (.getfield 253, 3) := by decide +kernel
theorem dX12_dayStep_258 : decode cX12_dayStep 258 = .ok (.iaload, 1) := by decide +kernel
theorem dX12_dayStep_259 : decode cX12_dayStep 259 = .ok (.iastore, 1) := by decide +kernel
theorem dX12_dayStep_260 : decode cX12_dayStep 260 = .ok (.aload_n 0, 1) := by decide +kernel
theorem dX12_dayStep_261 : decode cX12_dayStep 261 = .ok (.getfield 7, 3) := by decide +kernel
theorem dX12_dayStep_264 : decode cX12_dayStep 264 = .ok (.sipush 6630, 3) := by decide +kernel
theorem dX12_dayStep_267 : decode cX12_dayStep 267 = .ok (.bipush 6, 2) := by decide +kernel
theorem dX12_dayStep_269 : decode cX12_dayStep 269 = .ok (.aload_n 0, 1) := by decide +kernel
theorem dX12_dayStep_270 : decode cX12_dayStep 270 = .ok (.getfield 44, 3) := by decide +kernel
theorem dX12_dayStep_273 : decode cX12_dayStep 273 = .ok (.aload_n 0, 1) := by decide +kernel
theorem dX12_dayStep_274 : decode cX12_dayStep 274 = .ok (.getfield 253, 3) := by decide +kernel
theorem dX12_dayStep_277 : decode cX12_dayStep 277 = .ok (.iaload, 1) := by decide +kernel
theorem dX12_dayStep_278 : decode cX12_dayStep 278 = .ok (.imul, 1) := by decide +kernel
theorem dX12_dayStep_279 : decode cX12_dayStep 279 = .ok (.iadd, 1) := by decide +kernel
theorem dX12_dayStep_280 : decode cX12_dayStep 280 = .ok (.iconst 4, 1) := by decide +kernel
theorem dX12_dayStep_281 : decode cX12_dayStep 281 = .ok (.iadd, 1) := by decide +kernel
theorem dX12_dayStep_282 : decode cX12_dayStep 282 = .ok (.iload_n 2, 1) := by decide +kernel
theorem dX12_dayStep_283 : decode cX12_dayStep 283 = .ok (.iastore, 1) := by decide +kernel
theorem dX12_dayStep_284 : decode cX12_dayStep 284 = .ok (.aload_n 0, 1) := by decide +kernel
theorem dX12_dayStep_285 : decode cX12_dayStep 285 = .ok (.bipush 59, 2) := by decide +kernel
theorem dX12_dayStep_287 : decode cX12_dayStep 287 = .ok (.invokevirtual 195, 3) := by decide +kernel
theorem dX12_dayStep_290 : decode cX12_dayStep 290 = .ok (.ireturn, 1) := by decide +kernel
theorem dX12_days_0 : decode cX12_days 0 = .ok (.aload_n 0, 1) := by decide +kernel
theorem dX12_days_1 : decode cX12_days 1 = .ok (.iload_n 1, 1) := by decide +kernel
theorem dX12_days_2 : decode cX12_days 2 = .ok (.sipush 300, 3) := by decide +kernel
theorem dX12_days_5 : decode cX12_days 5 = .ok (.invokevirtual 231, 3) := by decide +kernel
theorem dX12_days_8 : decode cX12_days 8 = .ok (.ifCond .ne 9, 3) := by decide +kernel
theorem dX12_days_11 : decode cX12_days 11 = .ok (.aload_n 0, 1) := by decide +kernel
theorem dX12_days_12 : decode cX12_days 12 = .ok (.iconst 1, 1) := by decide +kernel
theorem dX12_days_13 : decode cX12_days 13 = .ok (.invokevirtual 78, 3) := by decide +kernel
theorem dX12_days_16 : decode cX12_days 16 = .ok (.ireturn, 1) := by decide +kernel
theorem dX12_days_17 : decode cX12_days 17 = .ok (.aload_n 0, 1) := by decide +kernel
theorem dX12_days_18 : decode cX12_days 18 = .ok (.getfield 7, 3) := by decide +kernel
theorem dX12_days_21 : decode cX12_days 21 = .ok (.sipush 5609, 3) := by decide +kernel
theorem dX12_days_24 : decode cX12_days 24 = .ok (.iconst 0, 1) := by decide +kernel
theorem dX12_days_25 : decode cX12_days 25 = .ok (.iastore, 1) := by decide +kernel
theorem dX12_days_26 : decode cX12_days 26 = .ok (.aload_n 0, 1) := by decide +kernel
theorem dX12_days_27 : decode cX12_days 27 = .ok (.iconst 0, 1) := by decide +kernel
theorem dX12_days_28 : decode cX12_days 28 = .ok (.putfield 253, 3) := by decide +kernel
theorem dX12_days_31 : decode cX12_days 31 = .ok (.aload_n 0, 1) := by decide +kernel
theorem dX12_days_32 : decode cX12_days 32 = .ok (.iconst 0, 1) := by decide +kernel
theorem dX12_days_33 : decode cX12_days 33 = .ok (.putfield 256, 3) := by decide +kernel
theorem dX12_days_36 : decode cX12_days 36 = .ok (.iconst 1, 1) := by decide +kernel
theorem dX12_days_37 : decode cX12_days 37 = .ok (.istore_n 2, 1) := by decide +kernel
theorem dX12_days_38 : decode cX12_days 38 = .ok (.iload_n 2, 1) := by decide +kernel
theorem dX12_days_39 : decode cX12_days 39 = .ok (.ifCond .eq 18, 3) := by decide +kernel
theorem dX12_days_42 : decode cX12_days 42 = .ok (.aload_n 0, 1) := by decide +kernel
theorem dX12_days_43 : decode cX12_days 43 = .ok (.getfield 123, 3) := by decide +kernel
theorem dX12_days_46 : decode cX12_days 46 = .ok (.ifCond .eq 11, 3) := by decide +kernel
theorem dX12_days_49 : decode cX12_days 49 = .ok (.aload_n 0, 1) := by decide +kernel
theorem dX12_days_50 : decode cX12_days 50 = .ok (.invokevirtual 262, 3) := by decide +kernel
theorem dX12_days_53 : decode cX12_days 53 = .ok (.istore_n 2, 1) := by decide +kernel
theorem dX12_days_54 : decode cX12_days 54 = .ok (.goto (-16), 3) := by decide +kernel
theorem dX12_days_57 : decode cX12_days 57 = .ok (.aload_n 0, 1) := by decide +kernel
theorem dX12_days_58 : decode cX12_days 58 = .ok (.getfield 148, 3) := by decide +kernel
theorem dX12_days_61 : decode cX12_days 61 = .ok (.ifCond .ne 16, 3) := by decide +kernel
theorem dX12_days_64 : decode cX12_days 64 = .ok (.aload_n 0, 1) := by decide +kernel
theorem dX12_days_65 : decode cX12_days 65 = .ok (.getfield 253, 3) := by decide +kernel
theorem dX12_days_68 : decode cX12_days 68 = .ok (.ifCond .le 9, 3) := by decide +kernel
theorem dX12_days_71 : decode cX12_days 71 = .ok (.aload_n 0, 1) := by decide +kernel
theorem dX12_days_72 : decode cX12_days 72 = .ok (.iconst 2, 1) := by decide +kernel
theorem dX12_days_73 : decode cX12_days 73 = .ok (.invokevirtual 160, 3) := by decide +kernel
theorem dX12_days_76 : decode cX12_days 76 = .ok (.pop, 1) := by decide +kernel
theorem dX12_days_77 : decode cX12_days 77 = .ok (.aload_n 0, 1) := by decide +kernel
theorem dX12_days_78 : decode cX12_days 78 = .ok (.getfield 148, 3) := by decide +kernel
theorem dX12_days_81 : decode cX12_days 81 = .ok (.ifCond .ne 51, 3) := by decide +kernel
