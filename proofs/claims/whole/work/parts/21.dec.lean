/-! what each instruction decodes to (printed by TURN) -/
theorem dX3_takeLeads_27 : decode cX3_takeLeads 27 = .ok (.iload_n 2, 1) := by decide +kernel
theorem dX3_takeLeads_28 : decode cX3_takeLeads 28 = .ok (.iconst (-1), 1) := by decide +kernel
theorem dX3_takeLeads_29 : decode cX3_takeLeads 29 = .ok (.if_icmp .ne 5, 3) := by decide +kernel
theorem dX3_takeLeads_32 : decode cX3_takeLeads 32 = .ok (.iconst 0, 1) := by decide +kernel
theorem dX3_takeLeads_33 : decode cX3_takeLeads 33 = .ok (.ireturn, 1) := by decide +kernel
theorem dX3_takeLeads_34 : decode cX3_takeLeads 34 = .ok (.aload_n 0, 1) := by decide +kernel
theorem dX3_takeLeads_35 : decode cX3_takeLeads 35 = .ok (.getfield 15, 3) := by decide +kernel
theorem dX3_takeLeads_38 : decode cX3_takeLeads 38 = .ok (.iconst 0, 1) := by decide +kernel
theorem dX3_takeLeads_39 : decode cX3_takeLeads 39 = .ok (.sipush 9999, 3) := by decide +kernel
theorem dX3_takeLeads_42 : decode cX3_takeLeads 42 = .ok (.invokevirtual 128, 3) := by decide +kernel
theorem dX3_takeLeads_45 : decode cX3_takeLeads 45 = .ok (.istore_n 3, 1) := by decide +kernel
theorem dX3_takeLeads_46 : decode cX3_takeLeads 46 = .ok (.iload_n 3, 1) := by decide +kernel
theorem dX3_takeLeads_47 : decode cX3_takeLeads 47 = .ok (.iconst (-1), 1) := by decide +kernel
theorem dX3_takeLeads_48 : decode cX3_takeLeads 48 = .ok (.if_icmp .eq 19, 3) := by decide +kernel
theorem dX3_takeLeads_51 : decode cX3_takeLeads 51 = .ok (.aload_n 0, 1) := by decide +kernel
theorem dX3_takeLeads_52 : decode cX3_takeLeads 52 = .ok (.bipush 25, 2) := by decide +kernel
theorem dX3_takeLeads_54 : decode cX3_takeLeads 54 = .ok (.iload_n 1, 1) := by decide +kernel
theorem dX3_takeLeads_55 : decode cX3_takeLeads 55 = .ok (.iload_n 3, 1) := by decide +kernel
theorem dX3_takeLeads_56 : decode cX3_takeLeads 56 = .ok (.iload_n 2, 1) := by decide +kernel
theorem dX3_takeLeads_57 : decode cX3_takeLeads 57 = .ok (.invokevirtual 107, 3) := by decide +kernel
theorem dX3_takeLeads_60 : decode cX3_takeLeads 60 = .ok (.ifCond .eq 7, 3) := by decide +kernel
theorem dX3_takeLeads_63 : decode cX3_takeLeads 63 = .ok (.iconst 1, 1) := by decide +kernel
theorem dX3_takeLeads_64 : decode cX3_takeLeads 64 = .ok (.goto 4, 3) := by decide +kernel
theorem dX3_takeLeads_67 : decode cX3_takeLeads 67 = .ok (.iconst 0, 1) := by decide +kernel
theorem dX3_takeLeads_68 : decode cX3_takeLeads 68 = .ok (.ireturn, 1) := by decide +kernel
theorem dX3_takeOnFind_0 : decode cX3_takeOnFind 0 = .ok (.aload_n 0, 1) := by decide +kernel
theorem dX3_takeOnFind_1 : decode cX3_takeOnFind 1 = .ok (.getfield 15, 3) := by decide +kernel
theorem dX3_takeOnFind_4 : decode cX3_takeOnFind 4 = .ok (.aload_n 0, 1) := by decide +kernel
theorem dX3_takeOnFind_5 : decode cX3_takeOnFind 5 = .ok (.getfield 19, 3) := by decide +kernel
theorem dX3_takeOnFind_8 : decode cX3_takeOnFind 8 = .ok (.invokevirtual 115, 3) := by decide +kernel
theorem dX3_takeOnFind_11 : decode cX3_takeOnFind 11 = .ok (.istore_n 2, 1) := by decide +kernel
theorem dX3_takeOnFind_12 : decode cX3_takeOnFind 12 = .ok (.iload_n 2, 1) := by decide +kernel
theorem dX3_takeOnFind_13 : decode cX3_takeOnFind 13 = .ok (.iconst (-1), 1) := by decide +kernel
theorem dX3_takeOnFind_14 : decode cX3_takeOnFind 14 = .ok (.if_icmp .ne 5, 3) := by decide +kernel
theorem dX3_takeOnFind_17 : decode cX3_takeOnFind 17 = .ok (.iconst 0, 1) := by decide +kernel
theorem dX3_takeOnFind_18 : decode cX3_takeOnFind 18 = .ok (.ireturn, 1) := by decide +kernel
theorem dX3_takeOnFind_19 : decode cX3_takeOnFind 19 = .ok (.aload_n 0, 1) := by decide +kernel
theorem dX3_takeOnFind_20 : decode cX3_takeOnFind 20 = .ok (.getfield 15, 3) := by decide +kernel
theorem dX3_takeOnFind_23 : decode cX3_takeOnFind 23 = .ok (.bipush 11, 2) := by decide +kernel
theorem dX3_takeOnFind_25 : decode cX3_takeOnFind 25 = .ok (.aload_n 0, 1) := by decide +kernel
theorem dX3_takeOnFind_26 : decode cX3_takeOnFind 26 = .ok (.getfield 19, 3) := by decide +kernel
theorem dX3_takeOnFind_29 : decode cX3_takeOnFind 29 = .ok (.invokevirtual 132, 3) := by decide +kernel
theorem dX3_takeOnFind_32 : decode cX3_takeOnFind 32 = .ok (.istore_n 3, 1) := by decide +kernel
theorem dX3_takeOnFind_33 : decode cX3_takeOnFind 33 = .ok (.iload_n 3, 1) := by decide +kernel
theorem dX3_takeOnFind_34 : decode cX3_takeOnFind 34 = .ok (.iconst (-1), 1) := by decide +kernel
theorem dX3_takeOnFind_35 : decode cX3_takeOnFind 35 = .ok (.if_icmp .eq 18, 3) := by decide +kernel
theorem dX3_takeOnFind_38 : decode cX3_takeOnFind 38 = .ok (.aload_n 0, 1) := by decide +kernel
theorem dX3_takeOnFind_39 : decode cX3_takeOnFind 39 = .ok (.iload_n 1, 1) := by decide +kernel
theorem dX3_takeOnFind_40 : decode cX3_takeOnFind 40 = .ok (.iload_n 2, 1) := by decide +kernel
theorem dX3_takeOnFind_41 : decode cX3_takeOnFind 41 = .ok (.iload_n 3, 1) := by decide +kernel
theorem dX3_takeOnFind_42 : decode cX3_takeOnFind 42 = .ok (.iconst 0, 1) := by decide +kernel
theorem dX3_takeOnFind_43 : decode cX3_takeOnFind 43 = .ok (.invokevirtual 107, 3) := by decide +kernel
theorem dX3_takeOnFind_46 : decode cX3_takeOnFind 46 = .ok (.ifCond .eq 7, 3) := by decide +kernel
theorem dX3_takeOnFind_49 : decode cX3_takeOnFind 49 = .ok (.iconst 1, 1) := by decide +kernel
theorem dX3_takeOnFind_50 : decode cX3_takeOnFind 50 = .ok (.goto 4, 3) := by decide +kernel
theorem dX3_takeOnFind_53 : decode cX3_takeOnFind 53 = .ok (.iconst 0, 1) := by decide +kernel
theorem dX3_takeOnFind_54 : decode cX3_takeOnFind 54 = .ok (.ireturn, 1) := by decide +kernel
theorem dX3_takeOnlyNumber_0 : decode cX3_takeOnlyNumber 0 = .ok (.aload_n 0, 1) := by decide +kernel
theorem dX3_takeOnlyNumber_1 : decode cX3_takeOnlyNumber 1 = .ok (.getfield 15, 3) := by decide +kernel
theorem dX3_takeOnlyNumber_4 : decode cX3_takeOnlyNumber 4 = .ok (.iload_n 2, 1) := by decide +kernel
theorem dX3_takeOnlyNumber_5 : decode cX3_takeOnlyNumber 5 = .ok (.iload_n 3, 1) := by decide +kernel
theorem dX3_takeOnlyNumber_6 : decode cX3_takeOnlyNumber 6 = .ok (.invokevirtual 128, 3) := by decide +kernel
theorem dX3_takeOnlyNumber_9 : decode cX3_takeOnlyNumber 9 = .ok (.istore 4, 2) := by decide +kernel
theorem dX3_takeOnlyNumber_11 : decode cX3_takeOnlyNumber 11 = .ok (.iload 4, 2) := by decide +kernel
theorem dX3_takeOnlyNumber_13 : decode cX3_takeOnlyNumber 13 = .ok (.iconst (-1), 1) := by decide +kernel
theorem dX3_takeOnlyNumber_14 : decode cX3_takeOnlyNumber 14 = .ok (.if_icmp .eq 19, 3) := by decide +kernel
theorem dX3_takeOnlyNumber_17 : decode cX3_takeOnlyNumber 17 = .ok (.aload_n 0, 1) := by decide +kernel
theorem dX3_takeOnlyNumber_18 : decode cX3_takeOnlyNumber 18 = .ok (.iload_n 1, 1) := by decide +kernel
theorem dX3_takeOnlyNumber_19 : decode cX3_takeOnlyNumber 19 = .ok (.iload 4, 2) := by decide +kernel
theorem dX3_takeOnlyNumber_21 : decode cX3_takeOnlyNumber 21 = .ok (.iconst 0, 1) := by decide +kernel
theorem dX3_takeOnlyNumber_22 : decode cX3_takeOnlyNumber 22 = .ok (.iconst 0, 1) := by decide +kernel
theorem dX3_takeOnlyNumber_23 : decode cX3_takeOnlyNumber 23 = .ok (.invokevirtual 107, 3) := by decide +kernel
theorem dX3_takeOnlyNumber_26 : decode cX3_takeOnlyNumber 26 = .ok (.ifCond .eq 7, 3) := by decide +kernel
theorem dX3_takeOnlyNumber_29 : decode cX3_takeOnlyNumber 29 = .ok (.iconst 1, 1) := by decide +kernel
theorem dX3_takeOnlyNumber_30 : decode cX3_takeOnlyNumber 30 = .ok (.goto 4, 3) := by decide +kernel
theorem dX3_takeOnlyNumber_33 : decode cX3_takeOnlyNumber 33 = .ok (.iconst 0, 1) := by decide +kernel
theorem dX3_takeOnlyNumber_34 : decode cX3_takeOnlyNumber 34 = .ok (.ireturn, 1) := by decide +kernel
theorem dX3_takeWait_0 : decode cX3_takeWait 0 = .ok (.aload_n 0, 1) := by decide +kernel
theorem dX3_takeWait_1 : decode cX3_takeWait 1 = .ok (.getfield 15, 3) := by decide +kernel
theorem dX3_takeWait_4 : decode cX3_takeWait 4 = .ok (.aload_n 0, 1) := by decide +kernel
theorem dX3_takeWait_5 : decode cX3_takeWait 5 = .ok (.getfield 19, 3) := by decide +kernel
theorem dX3_takeWait_8 : decode cX3_takeWait 8 = .ok (.invokevirtual 115, 3) := by decide +kernel
theorem dX3_takeWait_11 : decode cX3_takeWait 11 = .ok (.istore_n 1, 1) := by decide +kernel
theorem dX3_takeWait_12 : decode cX3_takeWait 12 = .ok (.iload_n 1, 1) := by decide +kernel
theorem dX3_takeWait_13 : decode cX3_takeWait 13 = .ok (.iconst (-1), 1) := by decide +kernel
theorem dX3_takeWait_14 : decode cX3_takeWait 14 = .ok (.if_icmp .ne 5, 3) := by decide +kernel
theorem dX3_takeWait_17 : decode cX3_takeWait 17 = .ok (.iconst 0, 1) := by decide +kernel
theorem dX3_takeWait_18 : decode cX3_takeWait 18 = .ok (.ireturn, 1) := by decide +kernel
theorem dX3_takeWait_19 : decode cX3_takeWait 19 = .ok (.aload_n 0, 1) := by decide +kernel
theorem dX3_takeWait_20 : decode cX3_takeWait 20 = .ok (.getfield 15, 3) := by decide +kernel
theorem dX3_takeWait_23 : decode cX3_takeWait 23 = .ok (.iconst 1, 1) := by decide +kernel
theorem dX3_takeWait_24 : decode cX3_takeWait 24 = .ok (.sipush 240, 3) := by decide +kernel
theorem dX3_takeWait_27 : decode cX3_takeWait 27 = .ok (.invokevirtual 128, 3) := by decide +kernel
theorem dX3_takeWait_30 : decode cX3_takeWait 30 = .ok (.istore_n 2, 1) := by decide +kernel
theorem dX3_takeWait_31 : decode cX3_takeWait 31 = .ok (.iload_n 2, 1) := by decide +kernel
theorem dX3_takeWait_32 : decode cX3_takeWait 32 = .ok (.iconst (-1), 1) := by decide +kernel
theorem dX3_takeWait_33 : decode cX3_takeWait 33 = .ok (.if_icmp .eq 19, 3) := by decide +kernel
theorem dX3_takeWait_36 : decode cX3_takeWait 36 = .ok (.aload_n 0, 1) := by decide +kernel
theorem dX3_takeWait_37 : decode cX3_takeWait 37 = .ok (.bipush 20, 2) := by decide +kernel
theorem dX3_takeWait_39 : decode cX3_takeWait 39 = .ok (.iload_n 1, 1) := by decide +kernel
theorem dX3_takeWait_40 : decode cX3_takeWait 40 = .ok (.iload_n 2, 1) := by decide +kernel
theorem dX3_takeWait_41 : decode cX3_takeWait 41 = .ok (.iconst 0, 1) := by decide +kernel
theorem dX3_takeWait_42 : decode cX3_takeWait 42 = .ok (.invokevirtual 107, 3) := by decide +kernel
theorem dX3_takeWait_45 : decode cX3_takeWait 45 = .ok (.ifCond .eq 7, 3) := by decide +kernel
theorem dX3_takeWait_48 : decode cX3_takeWait 48 = .ok (.iconst 1, 1) := by decide +kernel
theorem dX3_takeWait_49 : decode cX3_takeWait 49 = .ok (.goto 4, 3) := by decide +kernel
theorem dX3_takeWait_52 : decode cX3_takeWait 52 = .ok (.iconst 0, 1) := by decide +kernel
theorem dX3_takeWait_53 : decode cX3_takeWait 53 = .ok (.ireturn, 1) := by decide +kernel
theorem dX3_takeStep_0 : decode cX3_takeStep 0 = .ok (.iload_n 1, 1) := by decide +kernel
theorem dX3_takeStep_1 : decode cX3_takeStep 1 = .ok (.tableswitch 204 (-1) 27 #[131, 204, 204, 204, 204, 204, 204, 204, 204, 204, 204, 204, 204, 204, 204, 204, 192, 204, 204, 133, 138, 145, 150, 157, 167, 204, 187, 199, 177], 131) := by decide +kernel
theorem dX3_takeStep_132 : decode cX3_takeStep 132 = .ok (.iconst 0, 1) := by decide +kernel
theorem dX3_takeStep_133 : decode cX3_takeStep 133 = .ok (.ireturn, 1) := by decide +kernel
theorem dX3_takeStep_134 : decode cX3_takeStep 134 = .ok (.aload_n 0, 1) := by decide +kernel
theorem dX3_takeStep_135 : decode cX3_takeStep 135 = .ok (.invokevirtual 88, 3) := by decide +kernel
theorem dX3_takeStep_138 : decode cX3_takeStep 138 = .ok (.ireturn, 1) := by decide +kernel
theorem dX3_takeStep_139 : decode cX3_takeStep 139 = .ok (.aload_n 0, 1) := by decide +kernel
theorem dX3_takeStep_140 : decode cX3_takeStep 140 = .ok (.bipush 19, 2) := by decide +kernel
theorem dX3_takeStep_142 : decode cX3_takeStep 142 = .ok (.invokevirtual 91, 3) := by decide +kernel
theorem dX3_takeStep_145 : decode cX3_takeStep 145 = .ok (.ireturn, 1) := by decide +kernel
theorem dX3_takeStep_146 : decode cX3_takeStep 146 = .ok (.aload_n 0, 1) := by decide +kernel
theorem dX3_takeStep_147 : decode cX3_takeStep 147 = .ok (.invokevirtual 94, 3) := by decide +kernel
theorem dX3_takeStep_150 : decode cX3_takeStep 150 = .ok (.ireturn, 1) := by decide +kernel
theorem dX3_takeStep_151 : decode cX3_takeStep 151 = .ok (.aload_n 0, 1) := by decide +kernel
theorem dX3_takeStep_152 : decode cX3_takeStep 152 = .ok (.bipush 21, 2) := by decide +kernel
theorem dX3_takeStep_154 : decode cX3_takeStep 154 = .ok (.invokevirtual 91, 3) := by decide +kernel
theorem dX3_takeStep_157 : decode cX3_takeStep 157 = .ok (.ireturn, 1) := by decide +kernel
theorem dX3_takeStep_158 : decode cX3_takeStep 158 = .ok (.aload_n 0, 1) := by decide +kernel
theorem dX3_takeStep_159 : decode cX3_takeStep 159 = .ok (.bipush 22, 2) := by decide +kernel
theorem dX3_takeStep_161 : decode cX3_takeStep 161 = .ok (.iconst 0, 1) := by decide +kernel
theorem dX3_takeStep_162 : decode cX3_takeStep 162 = .ok (.bipush 16, 2) := by decide +kernel
theorem dX3_takeStep_164 : decode cX3_takeStep 164 = .ok (.invokevirtual 97, 3) := by decide +kernel
theorem dX3_takeStep_167 : decode cX3_takeStep 167 = .ok (.ireturn, 1) := by decide +kernel
theorem dX3_takeStep_168 : decode cX3_takeStep 168 = .ok (.aload_n 0, 1) := by decide +kernel
theorem dX3_takeStep_169 : decode cX3_takeStep 169 = .ok (.bipush 23, 2) := by decide +kernel
theorem dX3_takeStep_171 : decode cX3_takeStep 171 = .ok (.iconst 0, 1) := by decide +kernel
theorem dX3_takeStep_172 : decode cX3_takeStep 172 = .ok (.bipush 40, 2) := by decide +kernel
theorem dX3_takeStep_174 : decode cX3_takeStep 174 = .ok (.invokevirtual 97, 3) := by decide +kernel
theorem dX3_takeStep_177 : decode cX3_takeStep 177 = .ok (.ireturn, 1) := by decide +kernel
theorem dX3_takeStep_178 : decode cX3_takeStep 178 = .ok (.aload_n 0, 1) := by decide +kernel
theorem dX3_takeStep_179 : decode cX3_takeStep 179 = .ok (.bipush 27, 2) := by decide +kernel
theorem dX3_takeStep_181 : decode cX3_takeStep 181 = .ok (.iconst 1, 1) := by decide +kernel
theorem dX3_takeStep_182 : decode cX3_takeStep 182 = .ok (.bipush 99, 2) := by decide +kernel
theorem dX3_takeStep_184 : decode cX3_takeStep 184 = .ok (.invokevirtual 97, 3) := by decide +kernel
theorem dX3_takeStep_187 : decode cX3_takeStep 187 = .ok (.ireturn, 1) := by decide +kernel
theorem dX3_takeStep_188 : decode cX3_takeStep 188 = .ok (.aload_n 0, 1) := by decide +kernel
theorem dX3_takeStep_189 : decode cX3_takeStep 189 = .ok (.invokevirtual 101, 3) := by decide +kernel
theorem dX3_takeStep_192 : decode cX3_takeStep 192 = .ok (.ireturn, 1) := by decide +kernel
theorem dX3_takeStep_193 : decode cX3_takeStep 193 = .ok (.aload_n 0, 1) := by decide +kernel
theorem dX3_takeStep_194 : decode cX3_takeStep 194 = .ok (.bipush 15, 2) := by decide +kernel
theorem dX3_takeStep_196 : decode cX3_takeStep 196 = .ok (.invokevirtual 91, 3) := by decide +kernel
theorem dX3_takeStep_199 : decode cX3_takeStep 199 = .ok (.ireturn, 1) := by decide +kernel
theorem dX3_takeStep_200 : decode cX3_takeStep 200 = .ok (.aload_n 0, 1) := by decide +kernel
theorem dX3_takeStep_201 : decode cX3_takeStep 201 = .ok (.invokevirtual 104, 3) := by decide +kernel
theorem dX3_takeStep_204 : decode cX3_takeStep 204 = .ok (.ireturn, 1) := by decide +kernel
theorem dX3_takeStep_205 : decode cX3_takeStep 205 = .ok (.aload_n 0, 1) := by decide +kernel
theorem dX3_takeStep_206 : decode cX3_takeStep 206 = .ok (.iload_n 1, 1) := by decide +kernel
theorem dX3_takeStep_207 : decode cX3_takeStep 207 = .ok (.iconst 0, 1) := by decide +kernel
theorem dX3_takeStep_208 : decode cX3_takeStep 208 = .ok (.iconst 0, 1) := by decide +kernel
theorem dX3_takeStep_209 : decode cX3_takeStep 209 = .ok (.iconst 0, 1) := by decide +kernel
theorem dX3_takeStep_210 : decode cX3_takeStep 210 = .ok (.invokevirtual 107, 3) := by decide +kernel
theorem dX3_takeStep_213 : decode cX3_takeStep 213 = .ok (.ireturn, 1) := by decide +kernel
theorem dX3_takeDays_0 : decode cX3_takeDays 0 = .ok (.aload_n 0, 1) := by decide +kernel
theorem dX3_takeDays_1 : decode cX3_takeDays 1 = .ok (.aload_n 1, 1) := by decide +kernel
theorem dX3_takeDays_2 : decode cX3_takeDays 2 = .ok (.putfield 19, 3) := by decide +kernel
theorem dX3_takeDays_5 : decode cX3_takeDays 5 = .ok (.aload_n 0, 1) := by decide +kernel
theorem dX3_takeDays_6 : decode cX3_takeDays 6 = .ok (.aload_n 2, 1) := by decide +kernel
theorem dX3_takeDays_7 : decode cX3_takeDays 7 = .ok (.putfield 23, 3) := by decide +kernel
theorem dX3_takeDays_10 : decode cX3_takeDays 10 = .ok (.aload_n 0, 1) := by decide +kernel
theorem dX3_takeDays_11 : decode cX3_takeDays 11 = .ok (.getfield 23, 3) := by decide +kernel
theorem dX3_takeDays_14 : decode cX3_takeDays 14 = .ok (.invokevirtual 27, 3) := by decide +kernel
theorem dX3_takeDays_17 : decode cX3_takeDays 17 = .ok (.aload_n 0, 1) := by decide +kernel
theorem dX3_takeDays_18 : decode cX3_takeDays 18 = .ok (.iconst 0, 1) := by decide +kernel
theorem dX3_takeDays_19 : decode cX3_takeDays 19 = .ok (.putfield 32, 3) := by decide +kernel
theorem dX3_takeDays_22 : decode cX3_takeDays 22 = .ok (.iconst 1, 1) := by decide +kernel
theorem dX3_takeDays_23 : decode cX3_takeDays 23 = .ok (.istore_n 3, 1) := by decide +kernel
theorem dX3_takeDays_24 : decode cX3_takeDays 24 = .ok (.iconst 0, 1) := by decide +kernel
theorem dX3_takeDays_25 : decode cX3_takeDays 25 = .ok (.istore 4, 2) := by decide +kernel
theorem dX3_takeDays_27 : decode cX3_takeDays 27 = .ok (.iload 4, 2) := by decide +kernel
theorem dX3_takeDays_29 : decode cX3_takeDays 29 = .ok (.sipush 300, 3) := by decide +kernel
theorem dX3_takeDays_32 : decode cX3_takeDays 32 = .ok (.if_icmp .ge 74, 3) := by decide +kernel
theorem dX3_takeDays_35 : decode cX3_takeDays 35 = .ok (.iload_n 3, 1) := by decide +kernel
theorem dX3_takeDays_36 : decode cX3_takeDays 36 = .ok (.ifCond .eq 70, 3) := by decide +kernel
theorem dX3_takeDays_39 : decode cX3_takeDays 39 = .ok (.aload_n 0, 1) := by decide +kernel
theorem dX3_takeDays_40 : decode cX3_takeDays 40 = .ok (.getfield 15, 3) := by decide +kernel
theorem dX3_takeDays_43 : decode cX3_takeDays 43 = .ok (.invokevirtual 36, 3) := by decide +kernel
theorem dX3_takeDays_46 : decode cX3_takeDays 46 = .ok (.ifCond .ne 60, 3) := by decide +kernel
theorem dX3_takeDays_49 : decode cX3_takeDays 49 = .ok (.aload_n 0, 1) := by decide +kernel
theorem dX3_takeDays_50 : decode cX3_takeDays 50 = .ok (.getfield 15, 3) := by decide +kernel
theorem dX3_takeDays_53 : decode cX3_takeDays 53 = .ok (.invokevirtual 42, 3) := by decide +kernel
theorem dX3_takeDays_56 : decode cX3_takeDays 56 = .ok (.bipush 28, 2) := by decide +kernel
theorem dX3_takeDays_58 : decode cX3_takeDays 58 = .ok (.if_icmp .ne 13, 3) := by decide +kernel
theorem dX3_takeDays_61 : decode cX3_takeDays 61 = .ok (.aload_n 0, 1) := by decide +kernel
theorem dX3_takeDays_62 : decode cX3_takeDays 62 = .ok (.invokevirtual 48, 3) := by decide +kernel
theorem dX3_takeDays_65 : decode cX3_takeDays 65 = .ok (.ifCond .eq 33, 3) := by decide +kernel
theorem dX3_takeDays_68 : decode cX3_takeDays 68 = .ok (.goto 14, 3) := by decide +kernel
theorem dX3_takeDays_71 : decode cX3_takeDays 71 = .ok (.aload_n 0, 1) := by decide +kernel
theorem dX3_takeDays_72 : decode cX3_takeDays 72 = .ok (.aload_n 0, 1) := by decide +kernel
theorem dX3_takeDays_73 : decode cX3_takeDays 73 = .ok (.invokevirtual 51, 3) := by decide +kernel
theorem dX3_takeDays_76 : decode cX3_takeDays 76 = .ok (.invokevirtual 54, 3) := by decide +kernel
theorem dX3_takeDays_79 : decode cX3_takeDays 79 = .ok (.ifCond .eq 19, 3) := by decide +kernel
theorem dX3_takeDays_82 : decode cX3_takeDays 82 = .ok (.aload_n 0, 1) := by decide +kernel
theorem dX3_takeDays_83 : decode cX3_takeDays 83 = .ok (.getfield 15, 3) := by decide +kernel
theorem dX3_takeDays_86 : decode cX3_takeDays 86 = .ok (.bipush 59, 2) := by decide +kernel
theorem dX3_takeDays_88 : decode cX3_takeDays 88 = .ok (.invokevirtual 58, 3) := by decide +kernel
theorem dX3_takeDays_91 : decode cX3_takeDays 91 = .ok (.ifCond .eq 7, 3) := by decide +kernel
theorem dX3_takeDays_94 : decode cX3_takeDays 94 = .ok (.iconst 1, 1) := by decide +kernel
theorem dX3_takeDays_95 : decode cX3_takeDays 95 = .ok (.goto 4, 3) := by decide +kernel
theorem dX3_takeDays_98 : decode cX3_takeDays 98 = .ok (.iconst 0, 1) := by decide +kernel
theorem dX3_takeDays_99 : decode cX3_takeDays 99 = .ok (.istore_n 3, 1) := by decide +kernel
theorem dX3_takeDays_100 : decode cX3_takeDays 100 = .ok (.iinc 4 1, 3) := by decide +kernel
theorem dX3_takeDays_103 : decode cX3_takeDays 103 = .ok (.goto (-76), 3) := by decide +kernel
theorem dX3_takeDays_106 : decode cX3_takeDays 106 = .ok (.iload_n 3, 1) := by decide +kernel
theorem dX3_takeDays_107 : decode cX3_takeDays 107 = .ok (.ifCond .eq 19, 3) := by decide +kernel
theorem dX3_takeDays_110 : decode cX3_takeDays 110 = .ok (.aload_n 0, 1) := by decide +kernel
theorem dX3_takeDays_111 : decode cX3_takeDays 111 = .ok (.getfield 32, 3) := by decide +kernel
theorem dX3_takeDays_114 : decode cX3_takeDays 114 = .ok (.ifCond .le 12, 3) := by decide +kernel
theorem dX3_takeDays_117 : decode cX3_takeDays 117 = .ok (.aload_n 0, 1) := by decide +kernel
theorem dX3_takeDays_118 : decode cX3_takeDays 118 = .ok (.getfield 15, 3) := by decide +kernel
theorem dX3_takeDays_121 : decode cX3_takeDays 121 = .ok (.iconst 2, 1) := by decide +kernel
theorem dX3_takeDays_122 : decode cX3_takeDays 122 = .ok (.invokevirtual 62, 3) := by decide +kernel
theorem dX3_takeDays_125 : decode cX3_takeDays 125 = .ok (.istore_n 3, 1) := by decide +kernel
theorem dX3_takeDays_126 : decode cX3_takeDays 126 = .ok (.aload_n 0, 1) := by decide +kernel
theorem dX3_takeDays_127 : decode cX3_takeDays 127 = .ok (.getfield 23, 3) := by decide +kernel
theorem dX3_takeDays_130 : decode cX3_takeDays 130 = .ok (.iload_n 3, 1) := by decide +kernel
theorem dX3_takeDays_131 : decode cX3_takeDays 131 = .ok (.putfield 65, 3) := by decide +kernel
theorem dX3_takeDays_134 : decode cX3_takeDays 134 = .ok (.iload_n 3, 1) := by decide +kernel
theorem dX3_takeDays_135 : decode cX3_takeDays 135 = .ok (.ireturn, 1) := by decide +kernel
theorem dX11_days_0 : decode cX11_days 0 = .ok (.iload_n 1, 1) := by decide +kernel
theorem dX11_days_1 : decode cX11_days 1 = .ok (.ifCond .lt 21, 3) := by decide +kernel
theorem dX11_days_4 : decode cX11_days 4 = .ok (.iload_n 1, 1) := by decide +kernel
theorem dX11_days_5 : decode cX11_days 5 = .ok (.aload_n 0, 1) := by decide +kernel
theorem dX11_days_6 : decode cX11_days 6 = .ok (.getfield 18, 3) := by decide +kernel
theorem dX11_days_9 : decode cX11_days 9 = .ok (.getfield 162, 3) := by decide +kernel
theorem dX11_days_12 : decode cX11_days 12 = .ok (.if_icmp .gt 10, 3) := by decide +kernel
theorem dX11_days_15 : decode cX11_days 15 = .ok (.iload_n 1, 1) := by decide +kernel
theorem dX11_days_16 : decode cX11_days 16 = .ok (.sipush 300, 3) := by decide +kernel
theorem dX11_days_19 : decode cX11_days 19 = .ok (.if_icmp .le 9, 3) := by decide +kernel
theorem dX11_days_22 : decode cX11_days 22 = .ok (.aload_n 0, 1) := by decide +kernel
theorem dX11_days_23 : decode cX11_days 23 = .ok (.iconst 1, 1) := by decide +kernel
theorem dX11_days_24 : decode cX11_days 24 = .ok (.invokevirtual 100, 3) := by decide +kernel
theorem dX11_days_27 : decode cX11_days 27 = .ok (.ireturn, 1) := by decide +kernel
theorem dX11_days_28 : decode cX11_days 28 = .ok (.aload_n 0, 1) := by decide +kernel
theorem dX11_days_29 : decode cX11_days 29 = .ok (.getfield 18, 3) := by decide +kernel
theorem dX11_days_32 : decode cX11_days 32 = .ok (.iload_n 1, 1) := by decide +kernel
theorem dX11_days_33 : decode cX11_days 33 = .ok (.invokevirtual 165, 3) := by decide +kernel
theorem dX11_days_36 : decode cX11_days 36 = .ok (.aload_n 0, 1) := by decide +kernel
theorem dX11_days_37 : decode cX11_days 37 = .ok (.getfield 34, 3) := by decide +kernel
theorem dX11_days_40 : decode cX11_days 40 = .ok (.aload_n 0, 1) := by decide +kernel
theorem dX11_days_41 : decode cX11_days 41 = .ok (.getfield 69, 3) := by decide +kernel
theorem dX11_days_44 : decode cX11_days 44 = .ok (.aload_n 0, 1) := by decide +kernel
theorem dX11_days_45 : decode cX11_days 45 = .ok (.getfield 81, 3) := by decide +kernel
theorem dX11_days_48 : decode cX11_days 48 = .ok (.invokevirtual 178, 3) := by decide +kernel
theorem dX11_days_51 : decode cX11_days 51 = .ok (.ifCond .ne 10, 3) := by decide +kernel
theorem dX11_days_54 : decode cX11_days 54 = .ok (.aload_n 0, 1) := by decide +kernel
theorem dX11_days_55 : decode cX11_days 55 = .ok (.bipush 9, 2) := by decide +kernel
theorem dX11_days_57 : decode cX11_days 57 = .ok (.invokevirtual 100, 3) := by decide +kernel
theorem dX11_days_60 : decode cX11_days 60 = .ok (.ireturn, 1) := by decide +kernel
theorem dX11_days_61 : decode cX11_days 61 = .ok (.aload_n 0, 1) := by decide +kernel
theorem dX11_days_62 : decode cX11_days 62 = .ok (.getfield 77, 3) := by decide +kernel
theorem dX11_days_65 : decode cX11_days 65 = .ok (.astore_n 2, 1) := by decide +kernel
theorem dX11_days_66 : decode cX11_days 66 = .ok (.aload_n 0, 1) := by decide +kernel
theorem dX11_days_67 : decode cX11_days 67 = .ok (.aload_n 0, 1) := by decide +kernel
theorem dX11_days_68 : decode cX11_days 68 = .ok (.getfield 81, 3) := by decide +kernel
theorem dX11_days_71 : decode cX11_days 71 = .ok (.putfield 77, 3) := by decide +kernel
theorem dX11_days_74 : decode cX11_days 74 = .ok (.aload_n 0, 1) := by decide +kernel
theorem dX11_days_75 : decode cX11_days 75 = .ok (.aload_n 2, 1) := by decide +kernel
theorem dX11_days_76 : decode cX11_days 76 = .ok (.putfield 81, 3) := by decide +kernel
theorem dX11_days_79 : decode cX11_days 79 = .ok (.aload_n 0, 1) := by decide +kernel
theorem dX11_days_80 : decode cX11_days 80 = .ok (.aload_n 0, 1) := by decide +kernel
theorem dX11_days_81 : decode cX11_days 81 = .ok (.getfield 77, 3) := by decide +kernel
theorem dX11_days_84 : decode cX11_days 84 = .ok (.getfield 182, 3) := by decide +kernel
theorem dX11_days_87 : decode cX11_days 87 = .ok (.invokevirtual 96, 3) := by decide +kernel
theorem dX11_days_90 : decode cX11_days 90 = .ok (.ireturn, 1) := by decide +kernel
theorem dX11_duels_0 : decode cX11_duels 0 = .ok (.iconst 0, 1) := by decide +kernel
theorem dX11_duels_1 : decode cX11_duels 1 = .ok (.istore_n 1, 1) := by decide +kernel
theorem dX11_duels_2 : decode cX11_duels 2 = .ok (.iconst 0, 1) := by decide +kernel
theorem dX11_duels_3 : decode cX11_duels 3 = .ok (.istore_n 2, 1) := by decide +kernel
theorem dX11_duels_4 : decode cX11_duels 4 = .ok (.iload_n 2, 1) := by decide +kernel
theorem dX11_duels_5 : decode cX11_duels 5 = .ok (.aload_n 0, 1) := by decide +kernel
theorem dX11_duels_6 : decode cX11_duels 6 = .ok (.getfield 69, 3) := by decide +kernel
theorem dX11_duels_9 : decode cX11_duels 9 = .ok (.getfield 175, 3) := by decide +kernel
theorem dX11_duels_12 : decode cX11_duels 12 = .ok (.if_icmp .ge 34, 3) := by decide +kernel
theorem dX11_duels_15 : decode cX11_duels 15 = .ok (.aload_n 0, 1) := by decide +kernel
theorem dX11_duels_16 : decode cX11_duels 16 = .ok (.getfield 69, 3) := by decide +kernel
theorem dX11_duels_19 : decode cX11_duels 19 = .ok (.getfield 303, 3) := by decide +kernel
theorem dX11_duels_22 : decode cX11_duels 22 = .ok (.iload_n 2, 1) := by decide +kernel
theorem dX11_duels_23 : decode cX11_duels 23 = .ok (.aaload, 1) := by decide +kernel
theorem dX11_duels_24 : decode cX11_duels 24 = .ok (.invokevirtual 290, 3) := by decide +kernel
theorem dX11_duels_27 : decode cX11_duels 27 = .ok (.invokestatic 307, 3) := by decide +kernel
theorem dX11_duels_30 : decode cX11_duels 30 = .ok (.iconst 1, 1) := by decide +kernel
theorem dX11_duels_31 : decode cX11_duels 31 = .ok (.if_icmp .le 9, 3) := by decide +kernel
theorem dX11_duels_34 : decode cX11_duels 34 = .ok (.iload_n 1, 1) := by decide +kernel
theorem dX11_duels_35 : decode cX11_duels 35 = .ok (.iconst 1, 1) := by decide +kernel
theorem dX11_duels_36 : decode cX11_duels 36 = .ok (.iload_n 2, 1) := by decide +kernel
theorem dX11_duels_37 : decode cX11_duels 37 = .ok (.ishl, 1) := by decide +kernel
theorem dX11_duels_38 : decode cX11_duels 38 = .ok (.ior, 1) := by decide +kernel
theorem dX11_duels_39 : decode cX11_duels 39 = .ok (.istore_n 1, 1) := by decide +kernel
theorem dX11_duels_40 : decode cX11_duels 40 = .ok (.iinc 2 1, 3) := by decide +kernel
theorem dX11_duels_43 : decode cX11_duels 43 = .ok (.goto (-39), 3) := by decide +kernel
theorem dX11_duels_46 : decode cX11_duels 46 = .ok (.aload_n 0, 1) := by decide +kernel
theorem dX11_duels_47 : decode cX11_duels 47 = .ok (.iload_n 1, 1) := by decide +kernel
theorem dX11_duels_48 : decode cX11_duels 48 = .ok (.invokevirtual 96, 3) := by decide +kernel
theorem dX11_duels_51 : decode cX11_duels 51 = .ok (.ireturn, 1) := by decide +kernel
theorem dX5_minutesTo_0 : decode cX5_minutesTo 0 = .ok (.aload_n 0, 1) := by decide +kernel
theorem dX5_minutesTo_1 : decode cX5_minutesTo 1 = .ok (.getfield 17, 3) := by decide +kernel
theorem dX5_minutesTo_4 : decode cX5_minutesTo 4 = .ok (.iload_n 1, 1) := by decide +kernel
theorem dX5_minutesTo_5 : decode cX5_minutesTo 5 = .ok (.aload_n 0, 1) := by decide +kernel
theorem dX5_minutesTo_6 : decode cX5_minutesTo 6 = .ok (.getfield 13, 3) := by decide +kernel
theorem dX5_minutesTo_9 : decode cX5_minutesTo 9 = .ok (.isub, 1) := by decide +kernel
theorem dX5_minutesTo_10 : decode cX5_minutesTo 10 = .ok (.invokestatic 29, 3) := by decide +kernel
theorem dX5_minutesTo_13 : decode cX5_minutesTo 13 = .ok (.imul, 1) := by decide +kernel
theorem dX5_minutesTo_14 : decode cX5_minutesTo 14 = .ok (.ireturn, 1) := by decide +kernel
theorem dX11_farthest_0 : decode cX11_farthest 0 = .ok (.aload_n 0, 1) := by decide +kernel
theorem dX11_farthest_1 : decode cX11_farthest 1 = .ok (.getfield 69, 3) := by decide +kernel
theorem dX11_farthest_4 : decode cX11_farthest 4 = .ok (.iload_n 1, 1) := by decide +kernel
theorem dX11_farthest_5 : decode cX11_farthest 5 = .ok (.invokevirtual 216, 3) := by decide +kernel
theorem dX11_farthest_8 : decode cX11_farthest 8 = .ok (.astore_n 2, 1) := by decide +kernel
theorem dX11_farthest_9 : decode cX11_farthest 9 = .ok (.aload_n 2, 1) := by decide +kernel
theorem dX11_farthest_10 : decode cX11_farthest 10 = .ok (.ifnonnull 9, 3) := by decide +kernel
theorem dX11_farthest_13 : decode cX11_farthest 13 = .ok (.aload_n 0, 1) := by decide +kernel
theorem dX11_farthest_14 : decode cX11_farthest 14 = .ok (.iconst 1, 1) := by decide +kernel
theorem dX11_farthest_15 : decode cX11_farthest 15 = .ok (.invokevirtual 100, 3) := by decide +kernel
theorem dX11_farthest_18 : decode cX11_farthest 18 = .ok (.ireturn, 1) := by decide +kernel
theorem dX11_farthest_19 : decode cX11_farthest 19 = .ok (.iconst (-1), 1) := by decide +kernel
theorem dX11_farthest_20 : decode cX11_farthest 20 = .ok (.istore_n 3, 1) := by decide +kernel
theorem dX11_farthest_21 : decode cX11_farthest 21 = .ok (.iconst (-1), 1) := by decide +kernel
theorem dX11_farthest_22 : decode cX11_farthest 22 = .ok (.istore 4, 2) := by decide +kernel
theorem dX11_farthest_24 : decode cX11_farthest 24 = .ok (.iconst 0, 1) := by decide +kernel
theorem dX11_farthest_25 : decode cX11_farthest 25 = .ok (.istore 5, 2) := by decide +kernel
theorem dX11_farthest_27 : decode cX11_farthest 27 = .ok (.iload 5, 2) := by decide +kernel
theorem dX11_farthest_29 : decode cX11_farthest 29 = .ok (.aload_n 0, 1) := by decide +kernel
theorem dX11_farthest_30 : decode cX11_farthest 30 = .ok (.getfield 69, 3) := by decide +kernel
theorem dX11_farthest_33 : decode cX11_farthest 33 = .ok (.getfield 175, 3) := by decide +kernel
theorem dX11_farthest_36 : decode cX11_farthest 36 = .ok (.if_icmp .ge 57, 3) := by decide +kernel
theorem dX11_farthest_39 : decode cX11_farthest 39 = .ok (.aload_n 0, 1) := by decide +kernel
theorem dX11_farthest_40 : decode cX11_farthest 40 = .ok (.getfield 69, 3) := by decide +kernel
theorem dX11_farthest_43 : decode cX11_farthest 43 = .ok (.getfield 303, 3) := by decide +kernel
theorem dX11_farthest_46 : decode cX11_farthest 46 = .ok (.iload 5, 2) := by decide +kernel
theorem dX11_farthest_48 : decode cX11_farthest 48 = .ok (.aaload, 1) := by decide +kernel
theorem dX11_farthest_49 : decode cX11_farthest 49 = .ok (.astore 6, 2) := by decide +kernel
theorem dX11_farthest_51 : decode cX11_farthest 51 = .ok (.aload 6, 2) := by decide +kernel
theorem dX11_farthest_53 : decode cX11_farthest 53 = .ok (.getfield 287, 3) := by decide +kernel
theorem dX11_farthest_56 : decode cX11_farthest 56 = .ok (.ifCond .eq 31, 3) := by decide +kernel
theorem dX11_farthest_59 : decode cX11_farthest 59 = .ok (.aload_n 2, 1) := by decide +kernel
theorem dX11_farthest_60 : decode cX11_farthest 60 = .ok (.aload 6, 2) := by decide +kernel
theorem dX11_farthest_62 : decode cX11_farthest 62 = .ok (.getfield 241, 3) := by decide +kernel
theorem dX11_farthest_65 : decode cX11_farthest 65 = .ok (.invokevirtual 365, 3) := by decide +kernel
theorem dX11_farthest_68 : decode cX11_farthest 68 = .ok (.iload 4, 2) := by decide +kernel
theorem dX11_farthest_70 : decode cX11_farthest 70 = .ok (.if_icmp .le 17, 3) := by decide +kernel
theorem dX11_farthest_73 : decode cX11_farthest 73 = .ok (.aload_n 2, 1) := by decide +kernel
theorem dX11_farthest_74 : decode cX11_farthest 74 = .ok (.aload 6, 2) := by decide +kernel
theorem dX11_farthest_76 : decode cX11_farthest 76 = .ok (.getfield 241, 3) := by decide +kernel
theorem dX11_farthest_79 : decode cX11_farthest 79 = .ok (.invokevirtual 365, 3) := by decide +kernel
theorem dX11_farthest_82 : decode cX11_farthest 82 = .ok (.istore 4, 2) := by decide +kernel
theorem dX11_farthest_84 : decode cX11_farthest 84 = .ok (.iload 5, 2) := by decide +kernel
theorem dX11_farthest_86 : decode cX11_farthest 86 = .ok (.istore_n 3, 1) := by decide +kernel
theorem dX11_farthest_87 : decode cX11_farthest 87 = .ok (.iinc 5 1, 3) := by decide +kernel
theorem dX11_farthest_90 : decode cX11_farthest 90 = .ok (.goto (-63), 3) := by decide +kernel
theorem dX11_farthest_93 : decode cX11_farthest 93 = .ok (.iload_n 3, 1) := by decide +kernel
theorem dX11_farthest_94 : decode cX11_farthest 94 = .ok (.iconst (-1), 1) := by decide +kernel
theorem dX11_farthest_95 : decode cX11_farthest 95 = .ok (.if_icmp .ne 12, 3) := by decide +kernel
theorem dX11_farthest_98 : decode cX11_farthest 98 = .ok (.aload_n 0, 1) := by decide +kernel
theorem dX11_farthest_99 : decode cX11_farthest 99 = .ok (.bipush 6, 2) := by decide +kernel
theorem dX11_farthest_101 : decode cX11_farthest 101 = .ok (.invokevirtual 100, 3) := by decide +kernel
theorem dX11_farthest_104 : decode cX11_farthest 104 = .ok (.goto 8, 3) := by decide +kernel
theorem dX11_farthest_107 : decode cX11_farthest 107 = .ok (.aload_n 0, 1) := by decide +kernel
theorem dX11_farthest_108 : decode cX11_farthest 108 = .ok (.iload_n 3, 1) := by decide +kernel
theorem dX11_farthest_109 : decode cX11_farthest 109 = .ok (.invokevirtual 96, 3) := by decide +kernel
theorem dX11_farthest_112 : decode cX11_farthest 112 = .ok (.ireturn, 1) := by decide +kernel
theorem dX11_fault_0 : decode cX11_fault 0 = .ok (.iload_n 1, 1) := by decide +kernel
theorem dX11_fault_1 : decode cX11_fault 1 = .ok (.ifCond .ne 11, 3) := by decide +kernel
theorem dX11_fault_4 : decode cX11_fault 4 = .ok (.aload_n 0, 1) := by decide +kernel
theorem dX11_fault_5 : decode cX11_fault 5 = .ok (.getfield 18, 3) := by decide +kernel
theorem dX11_fault_8 : decode cX11_fault 8 = .ok (.getfield 185, 3) := by decide +kernel
theorem dX11_fault_11 : decode cX11_fault 11 = .ok (.ireturn, 1) := by decide +kernel
theorem dX11_fault_12 : decode cX11_fault 12 = .ok (.iload_n 1, 1) := by decide +kernel
theorem dX11_fault_13 : decode cX11_fault 13 = .ok (.iconst 1, 1) := by decide +kernel
theorem dX11_fault_14 : decode cX11_fault 14 = .ok (.if_icmp .ne 13, 3) := by decide +kernel
theorem dX11_fault_17 : decode cX11_fault 17 = .ok (.aload_n 0, 1) := by decide +kernel
theorem dX11_fault_18 : decode cX11_fault 18 = .ok (.getfield 18, 3) := by decide +kernel
theorem dX11_fault_21 : decode cX11_fault 21 = .ok (.getfield 188, 3) := by decide +kernel
theorem dX11_fault_24 : decode cX11_fault 24 = .ok (.goto 4, 3) := by decide +kernel
theorem dX11_fault_27 : decode cX11_fault 27 = .ok (.iconst (-1), 1) := by decide +kernel
theorem dX11_fault_28 : decode cX11_fault 28 = .ok (.ireturn, 1) := by decide +kernel
theorem dX7_feedInt_0 : decode cX7_feedInt 0 = .ok (.bipush 24, 2) := by decide +kernel
theorem dX7_feedInt_2 : decode cX7_feedInt 2 = .ok (.istore_n 2, 1) := by decide +kernel
theorem dX7_feedInt_3 : decode cX7_feedInt 3 = .ok (.iload_n 2, 1) := by decide +kernel
theorem dX7_feedInt_4 : decode cX7_feedInt 4 = .ok (.ifCond .lt 42, 3) := by decide +kernel
theorem dX7_feedInt_7 : decode cX7_feedInt 7 = .ok (.aload_n 0, 1) := by decide +kernel
theorem dX7_feedInt_8 : decode cX7_feedInt 8 = .ok (.getfield 56, 3) := by decide +kernel
theorem dX7_feedInt_11 : decode cX7_feedInt 11 = .ok (.sipush 900, 3) := by decide +kernel
theorem dX7_feedInt_14 : decode cX7_feedInt 14 = .ok (.if_icmp .ge 32, 3) := by decide +kernel
theorem dX7_feedInt_17 : decode cX7_feedInt 17 = .ok (.aload_n 0, 1) := by decide +kernel
theorem dX7_feedInt_18 : decode cX7_feedInt 18 = .ok (.getfield 11, 3) := by decide +kernel
theorem dX7_feedInt_21 : decode cX7_feedInt 21 = .ok (.aload_n 0, 1) := by decide +kernel
theorem dX7_feedInt_22 : decode cX7_feedInt 22 = .ok (.getfield 56, 3) := by decide +kernel
theorem dX7_feedInt_25 : decode cX7_feedInt 25 = .ok (.iload_n 1, 1) := by decide +kernel
theorem dX7_feedInt_26 : decode cX7_feedInt 26 = .ok (.iload_n 2, 1) := by decide +kernel
theorem dX7_feedInt_27 : decode cX7_feedInt 27 = .ok (.ishr, 1) := by decide +kernel
theorem dX7_feedInt_28 : decode cX7_feedInt 28 = .ok (.i2b, 1) := by decide +kernel
theorem dX7_feedInt_29 : decode cX7_feedInt 29 = .ok (.bastore, 1) := by decide +kernel
theorem dX7_feedInt_30 : decode cX7_feedInt 30 = .ok (.aload_n 0, 1) := by decide +kernel
theorem dX7_feedInt_31 : decode cX7_feedInt 31 = .ok (.dup, 1) := by decide +kernel
theorem dX7_feedInt_32 : decode cX7_feedInt 32 = .ok (.getfield 56, 3) := by decide +kernel
theorem dX7_feedInt_35 : decode cX7_feedInt 35 = .ok (.iconst 1, 1) := by decide +kernel
theorem dX7_feedInt_36 : decode cX7_feedInt 36 = .ok (.iadd, 1) := by decide +kernel
theorem dX7_feedInt_37 : decode cX7_feedInt 37 = .ok (.putfield 56, 3) := by decide +kernel
theorem dX7_feedInt_40 : decode cX7_feedInt 40 = .ok (.iinc 2 (-8), 3) := by decide +kernel
theorem dX7_feedInt_43 : decode cX7_feedInt 43 = .ok (.goto (-40), 3) := by decide +kernel
theorem dX7_feedInt_46 : decode cX7_feedInt 46 = .ok (.return_, 1) := by decide +kernel
theorem dX7_hasRoom_0 : decode cX7_hasRoom 0 = .ok (.aload_n 0, 1) := by decide +kernel
theorem dX7_hasRoom_1 : decode cX7_hasRoom 1 = .ok (.getfield 56, 3) := by decide +kernel
theorem dX7_hasRoom_4 : decode cX7_hasRoom 4 = .ok (.sipush 880, 3) := by decide +kernel
theorem dX7_hasRoom_7 : decode cX7_hasRoom 7 = .ok (.if_icmp .gt 7, 3) := by decide +kernel
theorem dX7_hasRoom_10 : decode cX7_hasRoom 10 = .ok (.iconst 1, 1) := by decide +kernel
theorem dX7_hasRoom_11 : decode cX7_hasRoom 11 = .ok (.goto 4, 3) := by decide +kernel
theorem dX7_hasRoom_14 : decode cX7_hasRoom 14 = .ok (.iconst 0, 1) := by decide +kernel
theorem dX7_hasRoom_15 : decode cX7_hasRoom 15 = .ok (.ireturn, 1) := by decide +kernel
theorem dX11_feed_0 : decode cX11_feed 0 = .ok (.aload_n 0, 1) := by decide +kernel
theorem dX11_feed_1 : decode cX11_feed 1 = .ok (.getfield 18, 3) := by decide +kernel
theorem dX11_feed_4 : decode cX11_feed 4 = .ok (.invokevirtual 155, 3) := by decide +kernel
theorem dX11_feed_7 : decode cX11_feed 7 = .ok (.ifCond .ne 5, 3) := by decide +kernel
theorem dX11_feed_10 : decode cX11_feed 10 = .ok (.iconst (-1), 1) := by decide +kernel
theorem dX11_feed_11 : decode cX11_feed 11 = .ok (.ireturn, 1) := by decide +kernel
theorem dX11_feed_12 : decode cX11_feed 12 = .ok (.aload_n 0, 1) := by decide +kernel
theorem dX11_feed_13 : decode cX11_feed 13 = .ok (.getfield 18, 3) := by decide +kernel
theorem dX11_feed_16 : decode cX11_feed 16 = .ok (.iload_n 1, 1) := by decide +kernel
theorem dX11_feed_17 : decode cX11_feed 17 = .ok (.invokevirtual 158, 3) := by decide +kernel
theorem dX11_feed_20 : decode cX11_feed 20 = .ok (.aload_n 0, 1) := by decide +kernel
theorem dX11_feed_21 : decode cX11_feed 21 = .ok (.getfield 18, 3) := by decide +kernel
theorem dX11_feed_24 : decode cX11_feed 24 = .ok (.iload_n 2, 1) := by decide +kernel
theorem dX11_feed_25 : decode cX11_feed 25 = .ok (.invokevirtual 158, 3) := by decide +kernel
theorem dX11_feed_28 : decode cX11_feed 28 = .ok (.aload_n 0, 1) := by decide +kernel
theorem dX11_feed_29 : decode cX11_feed 29 = .ok (.getfield 18, 3) := by decide +kernel
theorem dX11_feed_32 : decode cX11_feed 32 = .ok (.iload_n 3, 1) := by decide +kernel
theorem dX11_feed_33 : decode cX11_feed 33 = .ok (.invokevirtual 158, 3) := by decide +kernel
theorem dX11_feed_36 : decode cX11_feed 36 = .ok (.aload_n 0, 1) := by decide +kernel
theorem dX11_feed_37 : decode cX11_feed 37 = .ok (.getfield 18, 3) := by decide +kernel
theorem dX11_feed_40 : decode cX11_feed 40 = .ok (.iload 4, 2) := by decide +kernel
theorem dX11_feed_42 : decode cX11_feed 42 = .ok (.invokevirtual 158, 3) := by decide +kernel
theorem dX11_feed_45 : decode cX11_feed 45 = .ok (.aload_n 0, 1) := by decide +kernel
theorem dX11_feed_46 : decode cX11_feed 46 = .ok (.getfield 18, 3) := by decide +kernel
theorem dX11_feed_49 : decode cX11_feed 49 = .ok (.iload 5, 2) := by decide +kernel
theorem dX11_feed_51 : decode cX11_feed 51 = .ok (.invokevirtual 158, 3) := by decide +kernel
theorem dX11_feed_54 : decode cX11_feed 54 = .ok (.aload_n 0, 1) := by decide +kernel
theorem dX11_feed_55 : decode cX11_feed 55 = .ok (.getfield 18, 3) := by decide +kernel
theorem dX11_feed_58 : decode cX11_feed 58 = .ok (.getfield 162, 3) := by decide +kernel
theorem dX11_feed_61 : decode cX11_feed 61 = .ok (.ireturn, 1) := by decide +kernel
theorem dX11_find_0 : decode cX11_find 0 = .ok (.aload_n 0, 1) := by decide +kernel
theorem dX11_find_1 : decode cX11_find 1 = .ok (.getfield 69, 3) := by decide +kernel
theorem dX11_find_4 : decode cX11_find 4 = .ok (.iload_n 1, 1) := by decide +kernel
theorem dX11_find_5 : decode cX11_find 5 = .ok (.invokevirtual 237, 3) := by decide +kernel
theorem dX11_find_8 : decode cX11_find 8 = .ok (.astore_n 3, 1) := by decide +kernel
theorem dX11_find_9 : decode cX11_find 9 = .ok (.aload_n 3, 1) := by decide +kernel
theorem dX11_find_10 : decode cX11_find 10 = .ok (.ifnonnull 9, 3) := by decide +kernel
theorem dX11_find_13 : decode cX11_find 13 = .ok (.aload_n 0, 1) := by decide +kernel
theorem dX11_find_14 : decode cX11_find 14 = .ok (.iconst 1, 1) := by decide +kernel
theorem dX11_find_15 : decode cX11_find 15 = .ok (.invokevirtual 100, 3) := by decide +kernel
theorem dX11_find_18 : decode cX11_find 18 = .ok (.ireturn, 1) := by decide +kernel
theorem dX11_find_19 : decode cX11_find 19 = .ok (.iload_n 2, 1) := by decide +kernel
theorem dX11_find_20 : decode cX11_find 20 = .ok (.tableswitch 55 0 2 #[28, 37, 46], 28) := by decide +kernel
theorem dX11_find_48 : decode cX11_find 48 = .ok (.aload_n 0, 1) := by decide +kernel
theorem dX11_find_49 : decode cX11_find 49 = .ok (.aload_n 3, 1) := by decide +kernel
theorem dX11_find_50 : decode cX11_find 50 = .ok (.getfield 241, 3) := by decide +kernel
theorem dX11_find_53 : decode cX11_find 53 = .ok (.invokevirtual 96, 3) := by decide +kernel
theorem dX11_find_56 : decode cX11_find 56 = .ok (.ireturn, 1) := by decide +kernel
theorem dX11_find_57 : decode cX11_find 57 = .ok (.aload_n 0, 1) := by decide +kernel
theorem dX11_find_58 : decode cX11_find 58 = .ok (.aload_n 3, 1) := by decide +kernel
theorem dX11_find_59 : decode cX11_find 59 = .ok (.getfield 244, 3) := by decide +kernel
theorem dX11_find_62 : decode cX11_find 62 = .ok (.invokevirtual 96, 3) := by decide +kernel
theorem dX11_find_65 : decode cX11_find 65 = .ok (.ireturn, 1) := by decide +kernel
theorem dX11_find_66 : decode cX11_find 66 = .ok (.aload_n 0, 1) := by decide +kernel
theorem dX11_find_67 : decode cX11_find 67 = .ok (.aload_n 3, 1) := by decide +kernel
theorem dX11_find_68 : decode cX11_find 68 = .ok (.getfield 247, 3) := by decide +kernel
theorem dX11_find_71 : decode cX11_find 71 = .ok (.invokevirtual 96, 3) := by decide +kernel
theorem dX11_find_74 : decode cX11_find 74 = .ok (.ireturn, 1) := by decide +kernel
theorem dX11_find_75 : decode cX11_find 75 = .ok (.aload_n 0, 1) := by decide +kernel
theorem dX11_find_76 : decode cX11_find 76 = .ok (.iconst 1, 1) := by decide +kernel
theorem dX11_find_77 : decode cX11_find 77 = .ok (.invokevirtual 100, 3) := by decide +kernel
theorem dX11_find_80 : decode cX11_find 80 = .ok (.ireturn, 1) := by decide +kernel
theorem dX11_finder_0 : decode cX11_finder 0 = .ok (.aload_n 0, 1) := by decide +kernel
theorem dX11_finder_1 : decode cX11_finder 1 = .ok (.getfield 69, 3) := by decide +kernel
theorem dX11_finder_4 : decode cX11_finder 4 = .ok (.iload_n 1, 1) := by decide +kernel
theorem dX11_finder_5 : decode cX11_finder 5 = .ok (.invokevirtual 216, 3) := by decide +kernel
theorem dX11_finder_8 : decode cX11_finder 8 = .ok (.astore_n 3, 1) := by decide +kernel
theorem dX11_finder_9 : decode cX11_finder 9 = .ok (.aload_n 3, 1) := by decide +kernel
theorem dX11_finder_10 : decode cX11_finder 10 = .ok (.ifnonnull 9, 3) := by decide +kernel
theorem dX11_finder_13 : decode cX11_finder 13 = .ok (.aload_n 0, 1) := by decide +kernel
theorem dX11_finder_14 : decode cX11_finder 14 = .ok (.iconst 1, 1) := by decide +kernel
theorem dX11_finder_15 : decode cX11_finder 15 = .ok (.invokevirtual 100, 3) := by decide +kernel
theorem dX11_finder_18 : decode cX11_finder 18 = .ok (.ireturn, 1) := by decide +kernel
theorem dX11_finder_19 : decode cX11_finder 19 = .ok (.iload_n 2, 1) := by decide +kernel
theorem dX11_finder_20 : decode cX11_finder 20 = .ok (.tableswitch 81 0 4 #[36, 45, 54, 63, 72], 36) := by decide +kernel
theorem dX11_finder_56 : decode cX11_finder 56 = .ok (.aload_n 0, 1) := by decide +kernel
theorem dX11_finder_57 : decode cX11_finder 57 = .ok (.aload_n 3, 1) := by decide +kernel
theorem dX11_finder_58 : decode cX11_finder 58 = .ok (.getfield 220, 3) := by decide +kernel
theorem dX11_finder_61 : decode cX11_finder 61 = .ok (.invokevirtual 96, 3) := by decide +kernel
theorem dX11_finder_64 : decode cX11_finder 64 = .ok (.ireturn, 1) := by decide +kernel
theorem dX11_finder_65 : decode cX11_finder 65 = .ok (.aload_n 0, 1) := by decide +kernel
theorem dX11_finder_66 : decode cX11_finder 66 = .ok (.aload_n 3, 1) := by decide +kernel
theorem dX11_finder_67 : decode cX11_finder 67 = .ok (.getfield 225, 3) := by decide +kernel
theorem dX11_finder_70 : decode cX11_finder 70 = .ok (.invokevirtual 96, 3) := by decide +kernel
theorem dX11_finder_73 : decode cX11_finder 73 = .ok (.ireturn, 1) := by decide +kernel
theorem dX11_finder_74 : decode cX11_finder 74 = .ok (.aload_n 0, 1) := by decide +kernel
theorem dX11_finder_75 : decode cX11_finder 75 = .ok (.aload_n 3, 1) := by decide +kernel
theorem dX11_finder_76 : decode cX11_finder 76 = .ok (.getfield 228, 3) := by decide +kernel
theorem dX11_finder_79 : decode cX11_finder 79 = .ok (.invokevirtual 96, 3) := by decide +kernel
theorem dX11_finder_82 : decode cX11_finder 82 = .ok (.ireturn, 1) := by decide +kernel
theorem dX11_finder_83 : decode cX11_finder 83 = .ok (.aload_n 0, 1) := by decide +kernel
theorem dX11_finder_84 : decode cX11_finder 84 = .ok (.aload_n 3, 1) := by decide +kernel
theorem dX11_finder_85 : decode cX11_finder 85 = .ok (.getfield 231, 3) := by decide +kernel
theorem dX11_finder_88 : decode cX11_finder 88 = .ok (.invokevirtual 96, 3) := by decide +kernel
theorem dX11_finder_91 : decode cX11_finder 91 = .ok (.ireturn, 1) := by decide +kernel
theorem dX11_finder_92 : decode cX11_finder 92 = .ok (.aload_n 0, 1) := by decide +kernel
theorem dX11_finder_93 : decode cX11_finder 93 = .ok (.aload_n 3, 1) := by decide +kernel
theorem dX11_finder_94 : decode cX11_finder 94 = .ok (.getfield 234, 3) := by decide +kernel
theorem dX11_finder_97 : decode cX11_finder 97 = .ok (.invokevirtual 96, 3) := by decide +kernel
theorem dX11_finder_100 : decode cX11_finder 100 = .ok (.ireturn, 1) := by decide +kernel
theorem dX11_finder_101 : decode cX11_finder 101 = .ok (.aload_n 0, 1) := by decide +kernel
theorem dX11_finder_102 : decode cX11_finder 102 = .ok (.iconst 1, 1) := by decide +kernel
theorem dX11_finder_103 : decode cX11_finder 103 = .ok (.invokevirtual 100, 3) := by decide +kernel
theorem dX11_finder_106 : decode cX11_finder 106 = .ok (.ireturn, 1) := by decide +kernel
theorem dX0_soonestOf_0 : decode cX0_soonestOf 0 = .ok (.aload_n 0, 1) := by decide +kernel
theorem dX0_soonestOf_1 : decode cX0_soonestOf 1 = .ok (.iload_n 1, 1) := by decide +kernel
theorem dX0_soonestOf_2 : decode cX0_soonestOf 2 = .ok (.invokevirtual 95, 3) := by decide +kernel
theorem dX0_soonestOf_5 : decode cX0_soonestOf 5 = .ok (.astore_n 3, 1) := by decide +kernel
theorem dX0_soonestOf_6 : decode cX0_soonestOf 6 = .ok (.aload_n 3, 1) := by decide +kernel
theorem dX0_soonestOf_7 : decode cX0_soonestOf 7 = .ok (.ifnull 17, 3) := by decide +kernel
theorem dX0_soonestOf_10 : decode cX0_soonestOf 10 = .ok (.aload_n 2, 1) := by decide +kernel
theorem dX0_soonestOf_11 : decode cX0_soonestOf 11 = .ok (.getfield 84, 3) := by decide +kernel
theorem dX0_soonestOf_14 : decode cX0_soonestOf 14 = .ok (.ifCond .eq 10, 3) := by decide +kernel
theorem dX0_soonestOf_17 : decode cX0_soonestOf 17 = .ok (.aload_n 3, 1) := by decide +kernel
theorem dX0_soonestOf_18 : decode cX0_soonestOf 18 = .ok (.getfield 70, 3) := by decide +kernel
theorem dX0_soonestOf_21 : decode cX0_soonestOf 21 = .ok (.ifCond .ne 5, 3) := by decide +kernel
theorem dX0_soonestOf_24 : decode cX0_soonestOf 24 = .ok (.iconst (-1), 1) := by decide +kernel
theorem dX0_soonestOf_25 : decode cX0_soonestOf 25 = .ok (.ireturn, 1) := by decide +kernel
theorem dX0_soonestOf_26 : decode cX0_soonestOf 26 = .ok (.aload_n 3, 1) := by decide +kernel
theorem dX0_soonestOf_27 : decode cX0_soonestOf 27 = .ok (.getfield 73, 3) := by decide +kernel
theorem dX0_soonestOf_30 : decode cX0_soonestOf 30 = .ok (.aload_n 3, 1) := by decide +kernel
theorem dX0_soonestOf_31 : decode cX0_soonestOf 31 = .ok (.aload_n 2, 1) := by decide +kernel
theorem dX0_soonestOf_32 : decode cX0_soonestOf 32 = .ok (.getfield 80, 3) := by decide +kernel
theorem dX0_soonestOf_35 : decode cX0_soonestOf 35 = .ok (.invokevirtual 99, 3) := by decide +kernel
theorem dX0_soonestOf_38 : decode cX0_soonestOf 38 = .ok (.iadd, 1) := by decide +kernel
theorem dX0_soonestOf_39 : decode cX0_soonestOf 39 = .ok (.aload_n 2, 1) := by decide +kernel
theorem dX0_soonestOf_40 : decode cX0_soonestOf 40 = .ok (.iload_n 1, 1) := by decide +kernel
theorem dX0_soonestOf_41 : decode cX0_soonestOf 41 = .ok (.invokevirtual 185, 3) := by decide +kernel
theorem dX0_soonestOf_44 : decode cX0_soonestOf 44 = .ok (.invokestatic 157, 3) := by decide +kernel
theorem dX0_soonestOf_47 : decode cX0_soonestOf 47 = .ok (.istore 4, 2) := by decide +kernel
theorem dX0_soonestOf_49 : decode cX0_soonestOf 49 = .ok (.iload 4, 2) := by decide +kernel
theorem dX0_soonestOf_51 : decode cX0_soonestOf 51 = .ok (.aload_n 0, 1) := by decide +kernel
theorem dX0_soonestOf_52 : decode cX0_soonestOf 52 = .ok (.getfield 32, 3) := by decide +kernel
theorem dX0_soonestOf_55 : decode cX0_soonestOf 55 = .ok (.if_icmp .gt 8, 3) := by decide +kernel
theorem dX0_soonestOf_58 : decode cX0_soonestOf 58 = .ok (.iload 4, 2) := by decide +kernel
theorem dX0_soonestOf_60 : decode cX0_soonestOf 60 = .ok (.goto 4, 3) := by decide +kernel
theorem dX0_soonestOf_63 : decode cX0_soonestOf 63 = .ok (.iconst (-1), 1) := by decide +kernel
theorem dX0_soonestOf_64 : decode cX0_soonestOf 64 = .ok (.ireturn, 1) := by decide +kernel
theorem dX11_gain_0 : decode cX11_gain 0 = .ok (.aload_n 0, 1) := by decide +kernel
theorem dX11_gain_1 : decode cX11_gain 1 = .ok (.getfield 69, 3) := by decide +kernel
theorem dX11_gain_4 : decode cX11_gain 4 = .ok (.iload_n 2, 1) := by decide +kernel
theorem dX11_gain_5 : decode cX11_gain 5 = .ok (.invokevirtual 237, 3) := by decide +kernel
theorem dX11_gain_8 : decode cX11_gain 8 = .ok (.astore_n 3, 1) := by decide +kernel
theorem dX11_gain_9 : decode cX11_gain 9 = .ok (.aload_n 0, 1) := by decide +kernel
theorem dX11_gain_10 : decode cX11_gain 10 = .ok (.getfield 69, 3) := by decide +kernel
theorem dX11_gain_13 : decode cX11_gain 13 = .ok (.iload_n 1, 1) := by decide +kernel
theorem dX11_gain_14 : decode cX11_gain 14 = .ok (.invokevirtual 216, 3) := by decide +kernel
theorem dX11_gain_17 : decode cX11_gain 17 = .ok (.ifnull 7, 3) := by decide +kernel
theorem dX11_gain_20 : decode cX11_gain 20 = .ok (.aload_n 3, 1) := by decide +kernel
theorem dX11_gain_21 : decode cX11_gain 21 = .ok (.ifnonnull 9, 3) := by decide +kernel
theorem dX11_gain_24 : decode cX11_gain 24 = .ok (.aload_n 0, 1) := by decide +kernel
theorem dX11_gain_25 : decode cX11_gain 25 = .ok (.iconst 1, 1) := by decide +kernel
theorem dX11_gain_26 : decode cX11_gain 26 = .ok (.invokevirtual 100, 3) := by decide +kernel
theorem dX11_gain_29 : decode cX11_gain 29 = .ok (.ireturn, 1) := by decide +kernel
theorem dX11_gain_30 : decode cX11_gain 30 = .ok (.aload_n 0, 1) := by decide +kernel
theorem dX11_gain_31 : decode cX11_gain 31 = .ok (.getfield 69, 3) := by decide +kernel
theorem dX11_gain_34 : decode cX11_gain 34 = .ok (.iload_n 1, 1) := by decide +kernel
theorem dX11_gain_35 : decode cX11_gain 35 = .ok (.aload_n 3, 1) := by decide +kernel
theorem dX11_gain_36 : decode cX11_gain 36 = .ok (.invokevirtual 315, 3) := by decide +kernel
theorem dX11_gain_39 : decode cX11_gain 39 = .ok (.iconst (-1), 1) := by decide +kernel
theorem dX11_gain_40 : decode cX11_gain 40 = .ok (.if_icmp .ne 10, 3) := by decide +kernel
theorem dX11_gain_43 : decode cX11_gain 43 = .ok (.aload_n 0, 1) := by decide +kernel
theorem dX11_gain_44 : decode cX11_gain 44 = .ok (.bipush 7, 2) := by decide +kernel
theorem dX11_gain_46 : decode cX11_gain 46 = .ok (.invokevirtual 100, 3) := by decide +kernel
theorem dX11_gain_49 : decode cX11_gain 49 = .ok (.ireturn, 1) := by decide +kernel
theorem dX11_gain_50 : decode cX11_gain 50 = .ok (.aload_n 0, 1) := by decide +kernel
theorem dX11_gain_51 : decode cX11_gain 51 = .ok (.aload_n 3, 1) := by decide +kernel
theorem dX11_gain_52 : decode cX11_gain 52 = .ok (.getfield 244, 3) := by decide +kernel
theorem dX11_gain_55 : decode cX11_gain 55 = .ok (.aload_n 0, 1) := by decide +kernel
theorem dX11_gain_56 : decode cX11_gain 56 = .ok (.getfield 69, 3) := by decide +kernel
theorem dX11_gain_59 : decode cX11_gain 59 = .ok (.iload_n 1, 1) := by decide +kernel
theorem dX11_gain_60 : decode cX11_gain 60 = .ok (.aload_n 3, 1) := by decide +kernel
theorem dX11_gain_61 : decode cX11_gain 61 = .ok (.invokevirtual 368, 3) := by decide +kernel
theorem dX11_gain_64 : decode cX11_gain 64 = .ok (.isub, 1) := by decide +kernel
theorem dX11_gain_65 : decode cX11_gain 65 = .ok (.invokevirtual 96, 3) := by decide +kernel
theorem dX11_gain_68 : decode cX11_gain 68 = .ok (.ireturn, 1) := by decide +kernel
theorem dX0_spend_0 : decode cX0_spend 0 = .ok (.iload_n 2, 1) := by decide +kernel
theorem dX0_spend_1 : decode cX0_spend 1 = .ok (.aload_n 0, 1) := by decide +kernel
theorem dX0_spend_2 : decode cX0_spend 2 = .ok (.getfield 32, 3) := by decide +kernel
theorem dX0_spend_5 : decode cX0_spend 5 = .ok (.aload_n 1, 1) := by decide +kernel
theorem dX0_spend_6 : decode cX0_spend 6 = .ok (.getfield 73, 3) := by decide +kernel
theorem dX0_spend_9 : decode cX0_spend 9 = .ok (.isub, 1) := by decide +kernel
theorem dX0_spend_10 : decode cX0_spend 10 = .ok (.if_icmp .le 6, 3) := by decide +kernel
theorem dX0_spend_13 : decode cX0_spend 13 = .ok (.bipush 7, 2) := by decide +kernel
theorem dX0_spend_15 : decode cX0_spend 15 = .ok (.ireturn, 1) := by decide +kernel
theorem dX0_spend_16 : decode cX0_spend 16 = .ok (.aload_n 1, 1) := by decide +kernel
theorem dX0_spend_17 : decode cX0_spend 17 = .ok (.dup, 1) := by decide +kernel
theorem dX0_spend_18 : decode cX0_spend 18 = .ok (.getfield 73, 3) := by decide +kernel
theorem dX0_spend_21 : decode cX0_spend 21 = .ok (.iload_n 2, 1) := by decide +kernel
theorem dX0_spend_22 : decode cX0_spend 22 = .ok (.iadd, 1) := by decide +kernel
theorem dX0_spend_23 : decode cX0_spend 23 = .ok (.putfield 73, 3) := by decide +kernel
theorem dX0_spend_26 : decode cX0_spend 26 = .ok (.aload_n 0, 1) := by decide +kernel
theorem dX0_spend_27 : decode cX0_spend 27 = .ok (.aload_n 1, 1) := by decide +kernel
theorem dX0_spend_28 : decode cX0_spend 28 = .ok (.getfield 73, 3) := by decide +kernel
theorem dX0_spend_31 : decode cX0_spend 31 = .ok (.invokevirtual 91, 3) := by decide +kernel
theorem dX0_spend_34 : decode cX0_spend 34 = .ok (.ireturn, 1) := by decide +kernel
theorem dX0_walkTo_0 : decode cX0_walkTo 0 = .ok (.aload_n 0, 1) := by decide +kernel
theorem dX0_walkTo_1 : decode cX0_walkTo 1 = .ok (.iload_n 1, 1) := by decide +kernel
theorem dX0_walkTo_2 : decode cX0_walkTo 2 = .ok (.invokevirtual 95, 3) := by decide +kernel
theorem dX0_walkTo_5 : decode cX0_walkTo 5 = .ok (.astore_n 3, 1) := by decide +kernel
theorem dX0_walkTo_6 : decode cX0_walkTo 6 = .ok (.aload_n 3, 1) := by decide +kernel
theorem dX0_walkTo_7 : decode cX0_walkTo 7 = .ok (.ifnull 15, 3) := by decide +kernel
theorem dX0_walkTo_10 : decode cX0_walkTo 10 = .ok (.iload_n 2, 1) := by decide +kernel
theorem dX0_walkTo_11 : decode cX0_walkTo 11 = .ok (.ifCond .lt 11, 3) := by decide +kernel
theorem dX0_walkTo_14 : decode cX0_walkTo 14 = .ok (.iload_n 2, 1) := by decide +kernel
theorem dX0_walkTo_15 : decode cX0_walkTo 15 = .ok (.aload_n 0, 1) := by decide +kernel
theorem dX0_walkTo_16 : decode cX0_walkTo 16 = .ok (.getfield 28, 3) := by decide +kernel
theorem dX0_walkTo_19 : decode cX0_walkTo 19 = .ok (.if_icmp .lt 5, 3) := by decide +kernel
theorem dX0_walkTo_22 : decode cX0_walkTo 22 = .ok (.iconst 1, 1) := by decide +kernel
theorem dX0_walkTo_23 : decode cX0_walkTo 23 = .ok (.ireturn, 1) := by decide +kernel
theorem dX0_walkTo_24 : decode cX0_walkTo 24 = .ok (.aload_n 0, 1) := by decide +kernel
theorem dX0_walkTo_25 : decode cX0_walkTo 25 = .ok (.aload_n 3, 1) := by decide +kernel
theorem dX0_walkTo_26 : decode cX0_walkTo 26 = .ok (.aload_n 3, 1) := by decide +kernel
theorem dX0_walkTo_27 : decode cX0_walkTo 27 = .ok (.iload_n 2, 1) := by decide +kernel
theorem dX0_walkTo_28 : decode cX0_walkTo 28 = .ok (.invokevirtual 99, 3) := by decide +kernel
theorem dX0_walkTo_31 : decode cX0_walkTo 31 = .ok (.invokevirtual 102, 3) := by decide +kernel
theorem dX0_walkTo_34 : decode cX0_walkTo 34 = .ok (.istore 4, 2) := by decide +kernel
theorem dX0_walkTo_36 : decode cX0_walkTo 36 = .ok (.iload 4, 2) := by decide +kernel
theorem dX0_walkTo_38 : decode cX0_walkTo 38 = .ok (.ifCond .ne 8, 3) := by decide +kernel
theorem dX0_walkTo_41 : decode cX0_walkTo 41 = .ok (.aload_n 3, 1) := by decide +kernel
theorem dX0_walkTo_42 : decode cX0_walkTo 42 = .ok (.iload_n 2, 1) := by decide +kernel
theorem dX0_walkTo_43 : decode cX0_walkTo 43 = .ok (.putfield 64, 3) := by decide +kernel
theorem dX0_walkTo_46 : decode cX0_walkTo 46 = .ok (.iload 4, 2) := by decide +kernel
theorem dX0_walkTo_48 : decode cX0_walkTo 48 = .ok (.ireturn, 1) := by decide +kernel
theorem dX11_go_0 : decode cX11_go 0 = .ok (.aload_n 0, 1) := by decide +kernel
theorem dX11_go_1 : decode cX11_go 1 = .ok (.aload_n 0, 1) := by decide +kernel
theorem dX11_go_2 : decode cX11_go 2 = .ok (.getfield 69, 3) := by decide +kernel
theorem dX11_go_5 : decode cX11_go 5 = .ok (.iload_n 1, 1) := by decide +kernel
theorem dX11_go_6 : decode cX11_go 6 = .ok (.iload_n 2, 1) := by decide +kernel
theorem dX11_go_7 : decode cX11_go 7 = .ok (.invokevirtual 259, 3) := by decide +kernel
theorem dX11_go_10 : decode cX11_go 10 = .ok (.invokevirtual 263, 3) := by decide +kernel
theorem dX11_go_13 : decode cX11_go 13 = .ok (.ireturn, 1) := by decide +kernel
theorem dX4_has_0 : decode cX4_has 0 = .ok (.iload_n 1, 1) := by decide +kernel
theorem dX4_has_1 : decode cX4_has 1 = .ok (.ifCond .lt 15, 3) := by decide +kernel
theorem dX4_has_4 : decode cX4_has 4 = .ok (.iload_n 1, 1) := by decide +kernel
theorem dX4_has_5 : decode cX4_has 5 = .ok (.aload_n 0, 1) := by decide +kernel
theorem dX4_has_6 : decode cX4_has 6 = .ok (.getfield 35, 3) := by decide +kernel
theorem dX4_has_9 : decode cX4_has 9 = .ok (.if_icmp .ge 7, 3) := by decide +kernel
theorem dX4_has_12 : decode cX4_has 12 = .ok (.iconst 1, 1) := by decide +kernel
theorem dX4_has_13 : decode cX4_has 13 = .ok (.goto 4, 3) := by decide +kernel
theorem dX4_has_16 : decode cX4_has 16 = .ok (.iconst 0, 1) := by decide +kernel
theorem dX4_has_17 : decode cX4_has 17 = .ok (.ireturn, 1) := by decide +kernel
theorem dX4_removeAt_0 : decode cX4_removeAt 0 = .ok (.aload_n 0, 1) := by decide +kernel
theorem dX4_removeAt_1 : decode cX4_removeAt 1 = .ok (.iload_n 1, 1) := by decide +kernel
theorem dX4_removeAt_2 : decode cX4_removeAt 2 = .ok (.invokevirtual 44, 3) := by decide +kernel
theorem dX4_removeAt_5 : decode cX4_removeAt 5 = .ok (.ifCond .ne 4, 3) := by decide +kernel
theorem dX4_removeAt_8 : decode cX4_removeAt 8 = .ok (.return_, 1) := by decide +kernel
theorem dX4_removeAt_9 : decode cX4_removeAt 9 = .ok (.aload_n 0, 1) := by decide +kernel
theorem dX4_removeAt_10 : decode cX4_removeAt 10 = .ok (.dup, 1) := by decide +kernel
theorem dX4_removeAt_11 : decode cX4_removeAt 11 = .ok (.getfield 35, 3) := by decide +kernel
theorem dX4_removeAt_14 : decode cX4_removeAt 14 = .ok (.iconst 1, 1) := by decide +kernel
theorem dX4_removeAt_15 : decode cX4_removeAt 15 = .ok (.isub, 1) := by decide +kernel
theorem dX4_removeAt_16 : decode cX4_removeAt 16 = .ok (.putfield 35, 3) := by decide +kernel
theorem dX4_removeAt_19 : decode cX4_removeAt 19 = .ok (.iload_n 1, 1) := by decide +kernel
theorem dX4_removeAt_20 : decode cX4_removeAt 20 = .ok (.istore_n 2, 1) := by decide +kernel
theorem dX4_removeAt_21 : decode cX4_removeAt 21 = .ok (.iload_n 2, 1) := by decide +kernel
theorem dX4_removeAt_22 : decode cX4_removeAt 22 = .ok (.aload_n 0, 1) := by decide +kernel
theorem dX4_removeAt_23 : decode cX4_removeAt 23 = .ok (.getfield 35, 3) := by decide +kernel
theorem dX4_removeAt_26 : decode cX4_removeAt 26 = .ok (.if_icmp .ge 37, 3) := by decide +kernel
theorem dX4_removeAt_29 : decode cX4_removeAt 29 = .ok (.aload_n 0, 1) := by decide +kernel
theorem dX4_removeAt_30 : decode cX4_removeAt 30 = .ok (.getfield 17, 3) := by decide +kernel
theorem dX4_removeAt_33 : decode cX4_removeAt 33 = .ok (.iload_n 2, 1) := by decide +kernel
theorem dX4_removeAt_34 : decode cX4_removeAt 34 = .ok (.aload_n 0, 1) := by decide +kernel
theorem dX4_removeAt_35 : decode cX4_removeAt 35 = .ok (.getfield 17, 3) := by decide +kernel
theorem dX4_removeAt_38 : decode cX4_removeAt 38 = .ok (.iload_n 2, 1) := by decide +kernel
theorem dX4_removeAt_39 : decode cX4_removeAt 39 = .ok (.iconst 1, 1) := by decide +kernel
theorem dX4_removeAt_40 : decode cX4_removeAt 40 = .ok (.iadd, 1) := by decide +kernel
theorem dX4_removeAt_41 : decode cX4_removeAt 41 = .ok (.iaload, 1) := by decide +kernel
theorem dX4_removeAt_42 : decode cX4_removeAt 42 = .ok (.iastore, 1) := by decide +kernel
theorem dX4_removeAt_43 : decode cX4_removeAt 43 = .ok (.aload_n 0, 1) := by decide +kernel
theorem dX4_removeAt_44 : decode cX4_removeAt 44 = .ok (.getfield 11, 3) := by decide +kernel
theorem dX4_removeAt_47 : decode cX4_removeAt 47 = .ok (.iload_n 2, 1) := by decide +kernel
theorem dX4_removeAt_48 : decode cX4_removeAt 48 = .ok (.aload_n 0, 1) := by decide +kernel
theorem dX4_removeAt_49 : decode cX4_removeAt 49 = .ok (.getfield 11, 3) := by decide +kernel
theorem dX4_removeAt_52 : decode cX4_removeAt 52 = .ok (.iload_n 2, 1) := by decide +kernel
theorem dX4_removeAt_53 : decode cX4_removeAt 53 = .ok (.iconst 1, 1) := by decide +kernel
theorem dX4_removeAt_54 : decode cX4_removeAt 54 = .ok (.iadd, 1) := by decide +kernel
theorem dX4_removeAt_55 : decode cX4_removeAt 55 = .ok (.iaload, 1) := by decide +kernel
theorem dX4_removeAt_56 : decode cX4_removeAt 56 = .ok (.iastore, 1) := by decide +kernel
theorem dX4_removeAt_57 : decode cX4_removeAt 57 = .ok (.iinc 2 1, 3) := by decide +kernel
theorem dX4_removeAt_60 : decode cX4_removeAt 60 = .ok (.goto (-39), 3) := by decide +kernel
theorem dX4_removeAt_63 : decode cX4_removeAt 63 = .ok (.return_, 1) := by decide +kernel
theorem dX0_carry_0 : decode cX0_carry 0 = .ok (.aload_n 0, 1) := by decide +kernel
theorem dX0_carry_1 : decode cX0_carry 1 = .ok (.iload_n 1, 1) := by decide +kernel
theorem dX0_carry_2 : decode cX0_carry 2 = .ok (.invokevirtual 106, 3) := by decide +kernel
theorem dX0_carry_5 : decode cX0_carry 5 = .ok (.astore_n 3, 1) := by decide +kernel
theorem dX0_carry_6 : decode cX0_carry 6 = .ok (.aload_n 0, 1) := by decide +kernel
theorem dX0_carry_7 : decode cX0_carry 7 = .ok (.iload_n 2, 1) := by decide +kernel
theorem dX0_carry_8 : decode cX0_carry 8 = .ok (.invokevirtual 106, 3) := by decide +kernel
theorem dX0_carry_11 : decode cX0_carry 11 = .ok (.astore 4, 2) := by decide +kernel
theorem dX0_carry_13 : decode cX0_carry 13 = .ok (.aload_n 3, 1) := by decide +kernel
theorem dX0_carry_14 : decode cX0_carry 14 = .ok (.ifnull 13, 3) := by decide +kernel
theorem dX0_carry_17 : decode cX0_carry 17 = .ok (.aload 4, 2) := by decide +kernel
theorem dX0_carry_19 : decode cX0_carry 19 = .ok (.ifnull 8, 3) := by decide +kernel
theorem dX0_carry_22 : decode cX0_carry 22 = .ok (.iload_n 1, 1) := by decide +kernel
theorem dX0_carry_23 : decode cX0_carry 23 = .ok (.iload_n 2, 1) := by decide +kernel
theorem dX0_carry_24 : decode cX0_carry 24 = .ok (.if_icmp .ne 5, 3) := by decide +kernel
theorem dX0_carry_27 : decode cX0_carry 27 = .ok (.iconst 1, 1) := by decide +kernel
theorem dX0_carry_28 : decode cX0_carry 28 = .ok (.ireturn, 1) := by decide +kernel
theorem dX0_carry_29 : decode cX0_carry 29 = .ok (.aload_n 3, 1) := by decide +kernel
theorem dX0_carry_30 : decode cX0_carry 30 = .ok (.getfield 88, 3) := by decide +kernel
theorem dX0_carry_33 : decode cX0_carry 33 = .ok (.iconst 1, 1) := by decide +kernel
theorem dX0_carry_34 : decode cX0_carry 34 = .ok (.isub, 1) := by decide +kernel
theorem dX0_carry_35 : decode cX0_carry 35 = .ok (.istore 5, 2) := by decide +kernel
theorem dX0_carry_37 : decode cX0_carry 37 = .ok (.aload_n 3, 1) := by decide +kernel
theorem dX0_carry_38 : decode cX0_carry 38 = .ok (.iload 5, 2) := by decide +kernel
theorem dX0_carry_40 : decode cX0_carry 40 = .ok (.invokevirtual 121, 3) := by decide +kernel
theorem dX0_carry_43 : decode cX0_carry 43 = .ok (.ifCond .ne 6, 3) := by decide +kernel
theorem dX0_carry_46 : decode cX0_carry 46 = .ok (.bipush 6, 2) := by decide +kernel
theorem dX0_carry_48 : decode cX0_carry 48 = .ok (.ireturn, 1) := by decide +kernel
theorem dX0_carry_49 : decode cX0_carry 49 = .ok (.aload_n 3, 1) := by decide +kernel
theorem dX0_carry_50 : decode cX0_carry 50 = .ok (.getfield 84, 3) := by decide +kernel
theorem dX0_carry_53 : decode cX0_carry 53 = .ok (.ifCond .eq 11, 3) := by decide +kernel
theorem dX0_carry_56 : decode cX0_carry 56 = .ok (.aload 4, 2) := by decide +kernel
theorem dX0_carry_58 : decode cX0_carry 58 = .ok (.getfield 84, 3) := by decide +kernel
theorem dX0_carry_61 : decode cX0_carry 61 = .ok (.ifCond .ne 6, 3) := by decide +kernel
theorem dX0_carry_64 : decode cX0_carry 64 = .ok (.bipush 7, 2) := by decide +kernel
theorem dX0_carry_66 : decode cX0_carry 66 = .ok (.ireturn, 1) := by decide +kernel
theorem dX0_carry_67 : decode cX0_carry 67 = .ok (.aload_n 3, 1) := by decide +kernel
theorem dX0_carry_68 : decode cX0_carry 68 = .ok (.getfield 133, 3) := by decide +kernel
theorem dX0_carry_71 : decode cX0_carry 71 = .ok (.iload 5, 2) := by decide +kernel
theorem dX0_carry_73 : decode cX0_carry 73 = .ok (.iaload, 1) := by decide +kernel
theorem dX0_carry_74 : decode cX0_carry 74 = .ok (.istore 6, 2) := by decide +kernel
theorem dX0_carry_76 : decode cX0_carry 76 = .ok (.aload_n 3, 1) := by decide +kernel
theorem dX0_carry_77 : decode cX0_carry 77 = .ok (.getfield 125, 3) := by decide +kernel
theorem dX0_carry_80 : decode cX0_carry 80 = .ok (.iload 5, 2) := by decide +kernel
theorem dX0_carry_82 : decode cX0_carry 82 = .ok (.iaload, 1) := by decide +kernel
theorem dX0_carry_83 : decode cX0_carry 83 = .ok (.istore 7, 2) := by decide +kernel
theorem dX0_carry_85 : decode cX0_carry 85 = .ok (.aload_n 3, 1) := by decide +kernel
theorem dX0_carry_86 : decode cX0_carry 86 = .ok (.iload 5, 2) := by decide +kernel
theorem dX0_carry_88 : decode cX0_carry 88 = .ok (.invokevirtual 129, 3) := by decide +kernel
theorem dX0_carry_91 : decode cX0_carry 91 = .ok (.aload 4, 2) := by decide +kernel
theorem dX0_carry_93 : decode cX0_carry 93 = .ok (.iload 6, 2) := by decide +kernel
theorem dX0_carry_95 : decode cX0_carry 95 = .ok (.iload 7, 2) := by decide +kernel
theorem dX0_carry_97 : decode cX0_carry 97 = .ok (.invokevirtual 114, 3) := by decide +kernel
theorem dX0_carry_100 : decode cX0_carry 100 = .ok (.aload_n 0, 1) := by decide +kernel
theorem dX0_carry_101 : decode cX0_carry 101 = .ok (.iload 6, 2) := by decide +kernel
theorem dX0_carry_103 : decode cX0_carry 103 = .ok (.invokevirtual 91, 3) := by decide +kernel
theorem dX0_carry_106 : decode cX0_carry 106 = .ok (.ireturn, 1) := by decide +kernel
theorem dX11_gull_0 : decode cX11_gull 0 = .ok (.aload_n 0, 1) := by decide +kernel
theorem dX11_gull_1 : decode cX11_gull 1 = .ok (.aload_n 0, 1) := by decide +kernel
theorem dX11_gull_2 : decode cX11_gull 2 = .ok (.getfield 69, 3) := by decide +kernel
theorem dX11_gull_5 : decode cX11_gull 5 = .ok (.iload_n 1, 1) := by decide +kernel
theorem dX11_gull_6 : decode cX11_gull 6 = .ok (.iload_n 2, 1) := by decide +kernel
theorem dX11_gull_7 : decode cX11_gull 7 = .ok (.invokevirtual 275, 3) := by decide +kernel
theorem dX11_gull_10 : decode cX11_gull 10 = .ok (.invokevirtual 263, 3) := by decide +kernel
theorem dX11_gull_13 : decode cX11_gull 13 = .ok (.ireturn, 1) := by decide +kernel
theorem dX9_holds_0 : decode cX9_holds 0 = .ok (.iload_n 1, 1) := by decide +kernel
theorem dX9_holds_1 : decode cX9_holds 1 = .ok (.ifCond .lt 21, 3) := by decide +kernel
theorem dX9_holds_4 : decode cX9_holds 4 = .ok (.iload_n 2, 1) := by decide +kernel
theorem dX9_holds_5 : decode cX9_holds 5 = .ok (.ifCond .lt 17, 3) := by decide +kernel
theorem dX9_holds_8 : decode cX9_holds 8 = .ok (.iload_n 1, 1) := by decide +kernel
theorem dX9_holds_9 : decode cX9_holds 9 = .ok (.aload_n 0, 1) := by decide +kernel
theorem dX9_holds_10 : decode cX9_holds 10 = .ok (.getfield 21, 3) := by decide +kernel
theorem dX9_holds_13 : decode cX9_holds 13 = .ok (.iload_n 2, 1) := by decide +kernel
theorem dX9_holds_14 : decode cX9_holds 14 = .ok (.isub, 1) := by decide +kernel
theorem dX9_holds_15 : decode cX9_holds 15 = .ok (.if_icmp .gt 7, 3) := by decide +kernel
theorem dX9_holds_18 : decode cX9_holds 18 = .ok (.iconst 1, 1) := by decide +kernel
theorem dX9_holds_19 : decode cX9_holds 19 = .ok (.goto 4, 3) := by decide +kernel
theorem dX9_holds_22 : decode cX9_holds 22 = .ok (.iconst 0, 1) := by decide +kernel
theorem dX9_holds_23 : decode cX9_holds 23 = .ok (.ireturn, 1) := by decide +kernel
theorem dX9_numberAt_0 : decode cX9_numberAt 0 = .ok (.aload_n 0, 1) := by decide +kernel
theorem dX9_numberAt_1 : decode cX9_numberAt 1 = .ok (.iload_n 1, 1) := by decide +kernel
theorem dX9_numberAt_2 : decode cX9_numberAt 2 = .ok (.iconst 1, 1) := by decide +kernel
theorem dX9_numberAt_3 : decode cX9_numberAt 3 = .ok (.invokevirtual 24, 3) := by decide +kernel
theorem dX9_numberAt_6 : decode cX9_numberAt 6 = .ok (.ifCond .eq 12, 3) := by decide +kernel
theorem dX9_numberAt_9 : decode cX9_numberAt 9 = .ok (.aload_n 0, 1) := by decide +kernel
theorem dX9_numberAt_10 : decode cX9_numberAt 10 = .ok (.getfield 9, 3) := by decide +kernel
theorem dX9_numberAt_13 : decode cX9_numberAt 13 = .ok (.iload_n 1, 1) := by decide +kernel
theorem dX9_numberAt_14 : decode cX9_numberAt 14 = .ok (.laload, 1) := by decide +kernel
theorem dX9_numberAt_15 : decode cX9_numberAt 15 = .ok (.goto 4, 3) := by decide +kernel
theorem dX9_numberAt_18 : decode cX9_numberAt 18 = .ok (.lconst 0, 1) := by decide +kernel
theorem dX9_numberAt_19 : decode cX9_numberAt 19 = .ok (.lreturn, 1) := by decide +kernel
theorem dX11_fewestGulls_0 : decode cX11_fewestGulls 0 = .ok (.iconst 0, 1) := by decide +kernel
theorem dX11_fewestGulls_1 : decode cX11_fewestGulls 1 = .ok (.istore_n 2, 1) := by decide +kernel
theorem dX11_fewestGulls_2 : decode cX11_fewestGulls 2 = .ok (.iconst 0, 1) := by decide +kernel
theorem dX11_fewestGulls_3 : decode cX11_fewestGulls 3 = .ok (.istore_n 3, 1) := by decide +kernel
theorem dX11_fewestGulls_4 : decode cX11_fewestGulls 4 = .ok (.iconst 0, 1) := by decide +kernel
theorem dX11_fewestGulls_5 : decode cX11_fewestGulls 5 = .ok (.istore 4, 2) := by decide +kernel
theorem dX11_fewestGulls_7 : decode cX11_fewestGulls 7 = .ok (.iload 4, 2) := by decide +kernel
theorem dX11_fewestGulls_9 : decode cX11_fewestGulls 9 = .ok (.aload_n 0, 1) := by decide +kernel
theorem dX11_fewestGulls_10 : decode cX11_fewestGulls 10 = .ok (.getfield 69, 3) := by decide +kernel
theorem dX11_fewestGulls_13 : decode cX11_fewestGulls 13 = .ok (.getfield 175, 3) := by decide +kernel
theorem dX11_fewestGulls_16 : decode cX11_fewestGulls 16 = .ok (.if_icmp .ge 65, 3) := by decide +kernel
theorem dX11_fewestGulls_19 : decode cX11_fewestGulls 19 = .ok (.aload_n 0, 1) := by decide +kernel
theorem dX11_fewestGulls_20 : decode cX11_fewestGulls 20 = .ok (.getfield 69, 3) := by decide +kernel
theorem dX11_fewestGulls_23 : decode cX11_fewestGulls 23 = .ok (.getfield 303, 3) := by decide +kernel
theorem dX11_fewestGulls_26 : decode cX11_fewestGulls 26 = .ok (.iload 4, 2) := by decide +kernel
theorem dX11_fewestGulls_28 : decode cX11_fewestGulls 28 = .ok (.aaload, 1) := by decide +kernel
theorem dX11_fewestGulls_29 : decode cX11_fewestGulls 29 = .ok (.astore 5, 2) := by decide +kernel
theorem dX11_fewestGulls_31 : decode cX11_fewestGulls 31 = .ok (.aload_n 1, 1) := by decide +kernel
theorem dX11_fewestGulls_32 : decode cX11_fewestGulls 32 = .ok (.iload 4, 2) := by decide +kernel
theorem dX11_fewestGulls_34 : decode cX11_fewestGulls 34 = .ok (.invokevirtual 138, 3) := by decide +kernel
theorem dX11_fewestGulls_37 : decode cX11_fewestGulls 37 = .ok (.l2i, 1) := by decide +kernel
theorem dX11_fewestGulls_38 : decode cX11_fewestGulls 38 = .ok (.istore 6, 2) := by decide +kernel
theorem dX11_fewestGulls_40 : decode cX11_fewestGulls 40 = .ok (.iload 6, 2) := by decide +kernel
theorem dX11_fewestGulls_42 : decode cX11_fewestGulls 42 = .ok (.ifCond .le 13, 3) := by decide +kernel
theorem dX11_fewestGulls_45 : decode cX11_fewestGulls 45 = .ok (.aload 5, 2) := by decide +kernel
theorem dX11_fewestGulls_47 : decode cX11_fewestGulls 47 = .ok (.getfield 287, 3) := by decide +kernel
theorem dX11_fewestGulls_50 : decode cX11_fewestGulls 50 = .ok (.ifCond .ne 5, 3) := by decide +kernel
theorem dX11_fewestGulls_53 : decode cX11_fewestGulls 53 = .ok (.iconst (-1), 1) := by decide +kernel
theorem dX11_fewestGulls_54 : decode cX11_fewestGulls 54 = .ok (.ireturn, 1) := by decide +kernel
theorem dX11_fewestGulls_55 : decode cX11_fewestGulls 55 = .ok (.iload_n 2, 1) := by decide +kernel
theorem dX11_fewestGulls_56 : decode cX11_fewestGulls 56 = .ok (.iload 6, 2) := by decide +kernel
theorem dX11_fewestGulls_58 : decode cX11_fewestGulls 58 = .ok (.iadd, 1) := by decide +kernel
theorem dX11_fewestGulls_59 : decode cX11_fewestGulls 59 = .ok (.istore_n 2, 1) := by decide +kernel
theorem dX11_fewestGulls_60 : decode cX11_fewestGulls 60 = .ok (.iload_n 3, 1) := by decide +kernel
theorem dX11_fewestGulls_61 : decode cX11_fewestGulls 61 = .ok (.iconst 0, 1) := by decide +kernel
theorem dX11_fewestGulls_62 : decode cX11_fewestGulls 62 = .ok (.iload 6, 2) := by decide +kernel
theorem dX11_fewestGulls_64 : decode cX11_fewestGulls 64 = .ok (.aload 5, 2) := by decide +kernel
theorem dX11_fewestGulls_66 : decode cX11_fewestGulls 66 = .ok (.getfield 247, 3) := by decide +kernel
theorem dX11_fewestGulls_69 : decode cX11_fewestGulls 69 = .ok (.isub, 1) := by decide +kernel
theorem dX11_fewestGulls_70 : decode cX11_fewestGulls 70 = .ok (.invokestatic 360, 3) := by decide +kernel
theorem dX11_fewestGulls_73 : decode cX11_fewestGulls 73 = .ok (.iadd, 1) := by decide +kernel
theorem dX11_fewestGulls_74 : decode cX11_fewestGulls 74 = .ok (.istore_n 3, 1) := by decide +kernel
theorem dX11_fewestGulls_75 : decode cX11_fewestGulls 75 = .ok (.iinc 4 1, 3) := by decide +kernel
theorem dX11_fewestGulls_78 : decode cX11_fewestGulls 78 = .ok (.goto (-71), 3) := by decide +kernel
theorem dX11_fewestGulls_81 : decode cX11_fewestGulls 81 = .ok (.iload_n 2, 1) := by decide +kernel
theorem dX11_fewestGulls_82 : decode cX11_fewestGulls 82 = .ok (.aload_n 0, 1) := by decide +kernel
theorem dX11_fewestGulls_83 : decode cX11_fewestGulls 83 = .ok (.getfield 69, 3) := by decide +kernel
theorem dX11_fewestGulls_86 : decode cX11_fewestGulls 86 = .ok (.invokevirtual 213, 3) := by decide +kernel
theorem dX11_fewestGulls_89 : decode cX11_fewestGulls 89 = .ok (.if_icmp .ne 7, 3) := by decide +kernel
theorem dX11_fewestGulls_92 : decode cX11_fewestGulls 92 = .ok (.iload_n 3, 1) := by decide +kernel
theorem dX11_fewestGulls_93 : decode cX11_fewestGulls 93 = .ok (.goto 4, 3) := by decide +kernel
theorem dX11_fewestGulls_96 : decode cX11_fewestGulls 96 = .ok (.iconst (-1), 1) := by decide +kernel
theorem dX11_fewestGulls_97 : decode cX11_fewestGulls 97 = .ok (.ireturn, 1) := by decide +kernel
theorem dX11_trayAt_0 : decode cX11_trayAt 0 = .ok (.iload_n 1, 1) := by decide +kernel
theorem dX11_trayAt_1 : decode cX11_trayAt 1 = .ok (.ifCond .lt 21, 3) := by decide +kernel
theorem dX11_trayAt_4 : decode cX11_trayAt 4 = .ok (.iload_n 1, 1) := by decide +kernel
theorem dX11_trayAt_5 : decode cX11_trayAt 5 = .ok (.aload_n 0, 1) := by decide +kernel
theorem dX11_trayAt_6 : decode cX11_trayAt 6 = .ok (.getfield 11, 3) := by decide +kernel
theorem dX11_trayAt_9 : decode cX11_trayAt 9 = .ok (.arraylength, 1) := by decide +kernel
theorem dX11_trayAt_10 : decode cX11_trayAt 10 = .ok (.if_icmp .ge 12, 3) := by decide +kernel
theorem dX11_trayAt_13 : decode cX11_trayAt 13 = .ok (.aload_n 0, 1) := by decide +kernel
theorem dX11_trayAt_14 : decode cX11_trayAt 14 = .ok (.getfield 11, 3) := by decide +kernel
theorem dX11_trayAt_17 : decode cX11_trayAt 17 = .ok (.iload_n 1, 1) := by decide +kernel
theorem dX11_trayAt_18 : decode cX11_trayAt 18 = .ok (.aaload, 1) := by decide +kernel
theorem dX11_trayAt_19 : decode cX11_trayAt 19 = .ok (.goto 4, 3) := by decide +kernel
theorem dX11_trayAt_22 : decode cX11_trayAt 22 = .ok (.aconst_null, 1) := by decide +kernel
theorem dX11_trayAt_23 : decode cX11_trayAt 23 = .ok (.areturn, 1) := by decide +kernel
theorem dX11_gulls_0 : decode cX11_gulls 0 = .ok (.aload_n 0, 1) := by decide +kernel
theorem dX11_gulls_1 : decode cX11_gulls 1 = .ok (.iload_n 1, 1) := by decide +kernel
theorem dX11_gulls_2 : decode cX11_gulls 2 = .ok (.invokevirtual 110, 3) := by decide +kernel
theorem dX11_gulls_5 : decode cX11_gulls 5 = .ok (.astore_n 2, 1) := by decide +kernel
theorem dX11_gulls_6 : decode cX11_gulls 6 = .ok (.aload_n 2, 1) := by decide +kernel
theorem dX11_gulls_7 : decode cX11_gulls 7 = .ok (.ifnonnull 9, 3) := by decide +kernel
theorem dX11_gulls_10 : decode cX11_gulls 10 = .ok (.aload_n 0, 1) := by decide +kernel
theorem dX11_gulls_11 : decode cX11_gulls 11 = .ok (.iconst 1, 1) := by decide +kernel
theorem dX11_gulls_12 : decode cX11_gulls 12 = .ok (.invokevirtual 100, 3) := by decide +kernel
theorem dX11_gulls_15 : decode cX11_gulls 15 = .ok (.ireturn, 1) := by decide +kernel
theorem dX11_gulls_16 : decode cX11_gulls 16 = .ok (.aload_n 2, 1) := by decide +kernel
theorem dX11_gulls_17 : decode cX11_gulls 17 = .ok (.getfield 126, 3) := by decide +kernel
theorem dX11_gulls_20 : decode cX11_gulls 20 = .ok (.ifCond .eq 9, 3) := by decide +kernel
theorem dX11_gulls_23 : decode cX11_gulls 23 = .ok (.aload_n 0, 1) := by decide +kernel
theorem dX11_gulls_24 : decode cX11_gulls 24 = .ok (.iconst 2, 1) := by decide +kernel
theorem dX11_gulls_25 : decode cX11_gulls 25 = .ok (.invokevirtual 100, 3) := by decide +kernel
theorem dX11_gulls_28 : decode cX11_gulls 28 = .ok (.ireturn, 1) := by decide +kernel
theorem dX11_gulls_29 : decode cX11_gulls 29 = .ok (.aload_n 2, 1) := by decide +kernel
theorem dX11_gulls_30 : decode cX11_gulls 30 = .ok (.iconst 0, 1) := by decide +kernel
theorem dX11_gulls_31 : decode cX11_gulls 31 = .ok (.aload_n 0, 1) := by decide +kernel
theorem dX11_gulls_32 : decode cX11_gulls 32 = .ok (.getfield 69, 3) := by decide +kernel
theorem dX11_gulls_35 : decode cX11_gulls 35 = .ok (.getfield 175, 3) := by decide +kernel
theorem dX11_gulls_38 : decode cX11_gulls 38 = .ok (.invokevirtual 130, 3) := by decide +kernel
theorem dX11_gulls_41 : decode cX11_gulls 41 = .ok (.ifCond .ne 9, 3) := by decide +kernel
theorem dX11_gulls_44 : decode cX11_gulls 44 = .ok (.aload_n 0, 1) := by decide +kernel
theorem dX11_gulls_45 : decode cX11_gulls 45 = .ok (.iconst 3, 1) := by decide +kernel
theorem dX11_gulls_46 : decode cX11_gulls 46 = .ok (.invokevirtual 100, 3) := by decide +kernel
theorem dX11_gulls_49 : decode cX11_gulls 49 = .ok (.ireturn, 1) := by decide +kernel
theorem dX11_gulls_50 : decode cX11_gulls 50 = .ok (.iconst 0, 1) := by decide +kernel
theorem dX11_gulls_51 : decode cX11_gulls 51 = .ok (.istore_n 3, 1) := by decide +kernel
theorem dX11_gulls_52 : decode cX11_gulls 52 = .ok (.iload_n 3, 1) := by decide +kernel
theorem dX11_gulls_53 : decode cX11_gulls 53 = .ok (.aload_n 0, 1) := by decide +kernel
theorem dX11_gulls_54 : decode cX11_gulls 54 = .ok (.getfield 69, 3) := by decide +kernel
theorem dX11_gulls_57 : decode cX11_gulls 57 = .ok (.getfield 175, 3) := by decide +kernel
theorem dX11_gulls_60 : decode cX11_gulls 60 = .ok (.if_icmp .ge 37, 3) := by decide +kernel
theorem dX11_gulls_63 : decode cX11_gulls 63 = .ok (.aload_n 2, 1) := by decide +kernel
theorem dX11_gulls_64 : decode cX11_gulls 64 = .ok (.iload_n 3, 1) := by decide +kernel
theorem dX11_gulls_65 : decode cX11_gulls 65 = .ok (.invokevirtual 138, 3) := by decide +kernel
theorem dX11_gulls_68 : decode cX11_gulls 68 = .ok (.lconst 0, 1) := by decide +kernel
theorem dX11_gulls_69 : decode cX11_gulls 69 = .ok (.lcmp, 1) := by decide +kernel
theorem dX11_gulls_70 : decode cX11_gulls 70 = .ok (.ifCond .lt 15, 3) := by decide +kernel
theorem dX11_gulls_73 : decode cX11_gulls 73 = .ok (.aload_n 2, 1) := by decide +kernel
theorem dX11_gulls_74 : decode cX11_gulls 74 = .ok (.iload_n 3, 1) := by decide +kernel
theorem dX11_gulls_75 : decode cX11_gulls 75 = .ok (.invokevirtual 138, 3) := by decide +kernel
theorem dX11_gulls_78 : decode cX11_gulls 78 = .ok (.ldc2_w 354, 3) := by decide +kernel
theorem dX11_gulls_81 : decode cX11_gulls 81 = .ok (.lcmp, 1) := by decide +kernel
theorem dX11_gulls_82 : decode cX11_gulls 82 = .ok (.ifCond .le 9, 3) := by decide +kernel
theorem dX11_gulls_85 : decode cX11_gulls 85 = .ok (.aload_n 0, 1) := by decide +kernel
theorem dX11_gulls_86 : decode cX11_gulls 86 = .ok (.iconst 5, 1) := by decide +kernel
theorem dX11_gulls_87 : decode cX11_gulls 87 = .ok (.invokevirtual 100, 3) := by decide +kernel
theorem dX11_gulls_90 : decode cX11_gulls 90 = .ok (.ireturn, 1) := by decide +kernel
theorem dX11_gulls_91 : decode cX11_gulls 91 = .ok (.iinc 3 1, 3) := by decide +kernel
theorem dX11_gulls_94 : decode cX11_gulls 94 = .ok (.goto (-42), 3) := by decide +kernel
theorem dX11_gulls_97 : decode cX11_gulls 97 = .ok (.aload_n 0, 1) := by decide +kernel
theorem dX11_gulls_98 : decode cX11_gulls 98 = .ok (.aload_n 2, 1) := by decide +kernel
theorem dX11_gulls_99 : decode cX11_gulls 99 = .ok (.invokevirtual 356, 3) := by decide +kernel
theorem dX11_gulls_102 : decode cX11_gulls 102 = .ok (.istore_n 3, 1) := by decide +kernel
theorem dX11_gulls_103 : decode cX11_gulls 103 = .ok (.iload_n 3, 1) := by decide +kernel
theorem dX11_gulls_104 : decode cX11_gulls 104 = .ok (.iconst (-1), 1) := by decide +kernel
theorem dX11_gulls_105 : decode cX11_gulls 105 = .ok (.if_icmp .ne 12, 3) := by decide +kernel
theorem dX11_gulls_108 : decode cX11_gulls 108 = .ok (.aload_n 0, 1) := by decide +kernel
theorem dX11_gulls_109 : decode cX11_gulls 109 = .ok (.bipush 7, 2) := by decide +kernel
theorem dX11_gulls_111 : decode cX11_gulls 111 = .ok (.invokevirtual 100, 3) := by decide +kernel
theorem dX11_gulls_114 : decode cX11_gulls 114 = .ok (.goto 8, 3) := by decide +kernel
theorem dX11_gulls_117 : decode cX11_gulls 117 = .ok (.aload_n 0, 1) := by decide +kernel
theorem dX11_gulls_118 : decode cX11_gulls 118 = .ok (.iload_n 3, 1) := by decide +kernel
theorem dX11_gulls_119 : decode cX11_gulls 119 = .ok (.invokevirtual 96, 3) := by decide +kernel
theorem dX11_gulls_122 : decode cX11_gulls 122 = .ok (.ireturn, 1) := by decide +kernel
theorem dX4_init_0 : decode cX4_init 0 = .ok (.aload_n 0, 1) := by decide +kernel
theorem dX4_init_1 : decode cX4_init 1 = .ok (.invokespecial 3, 3) := by decide +kernel
theorem dX4_init_4 : decode cX4_init 4 = .ok (.aload_n 0, 1) := by decide +kernel
theorem dX4_init_5 : decode cX4_init 5 = .ok (.bipush 60, 2) := by decide +kernel
theorem dX4_init_7 : decode cX4_init 7 = .ok (.newarray .int, 2) := by decide +kernel
theorem dX4_init_9 : decode cX4_init 9 = .ok (.putfield 11, 3) := by decide +kernel
theorem dX4_init_12 : decode cX4_init 12 = .ok (.aload_n 0, 1) := by decide +kernel
theorem dX4_init_13 : decode cX4_init 13 = .ok (.bipush 60, 2) := by decide +kernel
theorem dX4_init_15 : decode cX4_init 15 = .ok (.newarray .int, 2) := by decide +kernel
theorem dX4_init_17 : decode cX4_init 17 = .ok (.putfield 17, 3) := by decide +kernel
theorem dX4_init_20 : decode cX4_init 20 = .ok (.return_, 1) := by decide +kernel
theorem dX5_init_0 : decode cX5_init 0 = .ok (.aload_n 0, 1) := by decide +kernel
theorem dX5_init_1 : decode cX5_init 1 = .ok (.invokespecial 1, 3) := by decide +kernel
theorem dX5_init_4 : decode cX5_init 4 = .ok (.return_, 1) := by decide +kernel
theorem dX0_init_0 : decode cX0_init 0 = .ok (.aload_n 0, 1) := by decide +kernel
theorem dX0_init_1 : decode cX0_init 1 = .ok (.invokespecial 3, 3) := by decide +kernel
theorem dX0_init_4 : decode cX0_init 4 = .ok (.aload_n 0, 1) := by decide +kernel
theorem dX0_init_5 : decode cX0_init 5 = .ok (.bipush 6, 2) := by decide +kernel
theorem dX0_init_7 : decode cX0_init 7 = .ok (.anewarray 11, 3) := by decide +kernel
theorem dX0_init_10 : decode cX0_init 10 = .ok (.putfield 13, 3) := by decide +kernel
theorem dX0_init_13 : decode cX0_init 13 = .ok (.aload_n 0, 1) := by decide +kernel
theorem dX0_init_14 : decode cX0_init 14 = .ok (.bipush 8, 2) := by decide +kernel
theorem dX0_init_16 : decode cX0_init 16 = .ok (.anewarray 17, 3) := by decide +kernel
theorem dX0_init_19 : decode cX0_init 19 = .ok (.putfield 19, 3) := by decide +kernel
theorem dX0_init_22 : decode cX0_init 22 = .ok (.iconst 0, 1) := by decide +kernel
theorem dX0_init_23 : decode cX0_init 23 = .ok (.istore_n 1, 1) := by decide +kernel
theorem dX0_init_24 : decode cX0_init 24 = .ok (.iload_n 1, 1) := by decide +kernel
theorem dX0_init_25 : decode cX0_init 25 = .ok (.bipush 6, 2) := by decide +kernel
theorem dX0_init_27 : decode cX0_init 27 = .ok (.if_icmp .ge 22, 3) := by decide +kernel
theorem dX0_init_30 : decode cX0_init 30 = .ok (.aload_n 0, 1) := by decide +kernel
theorem dX0_init_31 : decode cX0_init 31 = .ok (.getfield 13, 3) := by decide +kernel
theorem dX0_init_34 : decode cX0_init 34 = .ok (.iload_n 1, 1) := by decide +kernel
theorem dX0_init_35 : decode cX0_init 35 = .ok (.new 11, 3) := by decide +kernel
theorem dX0_init_38 : decode cX0_init 38 = .ok (.dup, 1) := by decide +kernel
theorem dX0_init_39 : decode cX0_init 39 = .ok (.invokespecial 23, 3) := by decide +kernel
theorem dX0_init_42 : decode cX0_init 42 = .ok (.aastore, 1) := by decide +kernel
theorem dX0_init_43 : decode cX0_init 43 = .ok (.iinc 1 1, 3) := by decide +kernel
theorem dX0_init_46 : decode cX0_init 46 = .ok (.goto (-22), 3) := by decide +kernel
theorem dX0_init_49 : decode cX0_init 49 = .ok (.iconst 0, 1) := by decide +kernel
theorem dX0_init_50 : decode cX0_init 50 = .ok (.istore_n 1, 1) := by decide +kernel
theorem dX0_init_51 : decode cX0_init 51 = .ok (.iload_n 1, 1) := by decide +kernel
theorem dX0_init_52 : decode cX0_init 52 = .ok (.bipush 8, 2) := by decide +kernel
theorem dX0_init_54 : decode cX0_init 54 = .ok (.if_icmp .ge 22, 3) := by decide +kernel
theorem dX0_init_57 : decode cX0_init 57 = .ok (.aload_n 0, 1) := by decide +kernel
theorem dX0_init_58 : decode cX0_init 58 = .ok (.getfield 19, 3) := by decide +kernel
theorem dX0_init_61 : decode cX0_init 61 = .ok (.iload_n 1, 1) := by decide +kernel
theorem dX0_init_62 : decode cX0_init 62 = .ok (.new 17, 3) := by decide +kernel
theorem dX0_init_65 : decode cX0_init 65 = .ok (.dup, 1) := by decide +kernel
theorem dX0_init_66 : decode cX0_init 66 = .ok (.invokespecial 24, 3) := by decide +kernel
theorem dX0_init_69 : decode cX0_init 69 = .ok (.aastore, 1) := by decide +kernel
theorem dX0_init_70 : decode cX0_init 70 = .ok (.iinc 1 1, 3) := by decide +kernel
theorem dX0_init_73 : decode cX0_init 73 = .ok (.goto (-22), 3) := by decide +kernel
theorem dX0_init_76 : decode cX0_init 76 = .ok (.aload_n 0, 1) := by decide +kernel
theorem dX0_init_77 : decode cX0_init 77 = .ok (.invokevirtual 25, 3) := by decide +kernel
theorem dX0_init_80 : decode cX0_init 80 = .ok (.return_, 1) := by decide +kernel
theorem dX1_init_0 : decode cX1_init 0 = .ok (.aload_n 0, 1) := by decide +kernel
theorem dX1_init_1 : decode cX1_init 1 = .ok (.invokespecial 3, 3) := by decide +kernel
theorem dX1_init_4 : decode cX1_init 4 = .ok (.aload_n 0, 1) := by decide +kernel
theorem dX1_init_5 : decode cX1_init 5 = .ok (.aload_n 1, 1) := by decide +kernel
theorem dX1_init_6 : decode cX1_init 6 = .ok (.putfield 9, 3) := by decide +kernel
theorem dX1_init_9 : decode cX1_init 9 = .ok (.return_, 1) := by decide +kernel
theorem dX2_init_0 : decode cX2_init 0 = .ok (.aload_n 0, 1) := by decide +kernel
theorem dX2_init_1 : decode cX2_init 1 = .ok (.invokespecial 5, 3) := by decide +kernel
theorem dX2_init_4 : decode cX2_init 4 = .ok (.aload_n 0, 1) := by decide +kernel
theorem dX2_init_5 : decode cX2_init 5 = .ok (.bipush 60, 2) := by decide +kernel
theorem dX2_init_7 : decode cX2_init 7 = .ok (.newarray .int, 2) := by decide +kernel
theorem dX2_init_9 : decode cX2_init 9 = .ok (.putfield 11, 3) := by decide +kernel
theorem dX2_init_12 : decode cX2_init 12 = .ok (.aload_n 0, 1) := by decide +kernel
theorem dX2_init_13 : decode cX2_init 13 = .ok (.bipush 60, 2) := by decide +kernel
theorem dX2_init_15 : decode cX2_init 15 = .ok (.newarray .int, 2) := by decide +kernel
theorem dX2_init_17 : decode cX2_init 17 = .ok (.putfield 15, 3) := by decide +kernel
theorem dX2_init_20 : decode cX2_init 20 = .ok (.aload_n 0, 1) := by decide +kernel
theorem dX2_init_21 : decode cX2_init 21 = .ok (.bipush 60, 2) := by decide +kernel
theorem dX2_init_23 : decode cX2_init 23 = .ok (.newarray .int, 2) := by decide +kernel
theorem dX2_init_25 : decode cX2_init 25 = .ok (.putfield 18, 3) := by decide +kernel
theorem dX2_init_28 : decode cX2_init 28 = .ok (.aload_n 0, 1) := by decide +kernel
theorem dX2_init_29 : decode cX2_init 29 = .ok (.bipush 60, 2) := by decide +kernel
theorem dX2_init_31 : decode cX2_init 31 = .ok (.newarray .int, 2) := by decide +kernel
theorem dX2_init_33 : decode cX2_init 33 = .ok (.putfield 21, 3) := by decide +kernel
theorem dX2_init_36 : decode cX2_init 36 = .ok (.aload_n 0, 1) := by decide +kernel
theorem dX2_init_37 : decode cX2_init 37 = .ok (.bipush 60, 2) := by decide +kernel
theorem dX2_init_39 : decode cX2_init 39 = .ok (.newarray .int, 2) := by decide +kernel
theorem dX2_init_41 : decode cX2_init 41 = .ok (.putfield 24, 3) := by decide +kernel
theorem dX2_init_44 : decode cX2_init 44 = .ok (.return_, 1) := by decide +kernel
theorem dX3_init_0 : decode cX3_init 0 = .ok (.aload_n 0, 1) := by decide +kernel
theorem dX3_init_1 : decode cX3_init 1 = .ok (.invokespecial 3, 3) := by decide +kernel
theorem dX3_init_4 : decode cX3_init 4 = .ok (.aload_n 0, 1) := by decide +kernel
theorem dX3_init_5 : decode cX3_init 5 = .ok (.iconst 3, 1) := by decide +kernel
theorem dX3_init_6 : decode cX3_init 6 = .ok (.newarray .int, 2) := by decide +kernel
theorem dX3_init_8 : decode cX3_init 8 = .ok (.putfield 11, 3) := by decide +kernel
theorem dX3_init_11 : decode cX3_init 11 = .ok (.aload_n 0, 1) := by decide +kernel
theorem dX3_init_12 : decode cX3_init 12 = .ok (.aload_n 1, 1) := by decide +kernel
theorem dX3_init_13 : decode cX3_init 13 = .ok (.putfield 15, 3) := by decide +kernel
theorem dX3_init_16 : decode cX3_init 16 = .ok (.return_, 1) := by decide +kernel
theorem dX6_init_0 : decode cX6_init 0 = .ok (.aload_n 0, 1) := by decide +kernel
theorem dX6_init_1 : decode cX6_init 1 = .ok (.invokespecial 3, 3) := by decide +kernel
theorem dX6_init_4 : decode cX6_init 4 = .ok (.aload_n 0, 1) := by decide +kernel
theorem dX6_init_5 : decode cX6_init 5 = .ok (.iconst 5, 1) := by decide +kernel
theorem dX6_init_6 : decode cX6_init 6 = .ok (.newarray .int, 2) := by decide +kernel
theorem dX6_init_8 : decode cX6_init 8 = .ok (.putfield 11, 3) := by decide +kernel
theorem dX6_init_11 : decode cX6_init 11 = .ok (.aload_n 0, 1) := by decide +kernel
theorem dX6_init_12 : decode cX6_init 12 = .ok (.bipush 60, 2) := by decide +kernel
theorem dX6_init_14 : decode cX6_init 14 = .ok (.newarray .int, 2) := by decide +kernel
theorem dX6_init_16 : decode cX6_init 16 = .ok (.putfield 17, 3) := by decide +kernel
theorem dX6_init_19 : decode cX6_init 19 = .ok (.return_, 1) := by decide +kernel
theorem dJ0_isLatin1_aae02_0 : decode cJ0_isLatin1_aae02 0 = .ok (.getstatic 38, 3) := by decide +kernel
theorem dJ0_isLatin1_aae02_3 : decode cJ0_isLatin1_aae02 3 = .ok (.ifCond .eq 14, 3) := by decide +kernel
theorem dJ0_isLatin1_aae02_6 : decode cJ0_isLatin1_aae02 6 = .ok (.aload_n 0, 1) := by decide +kernel
theorem dJ0_isLatin1_aae02_7 : decode cJ0_isLatin1_aae02 7 = .ok (.getfield 15, 3) := by decide +kernel
theorem dJ0_isLatin1_aae02_10 : decode cJ0_isLatin1_aae02 10 = .ok (.ifCond .ne 7, 3) := by decide +kernel
theorem dJ0_isLatin1_aae02_13 : decode cJ0_isLatin1_aae02 13 = .ok (.iconst 1, 1) := by decide +kernel
theorem dJ0_isLatin1_aae02_14 : decode cJ0_isLatin1_aae02 14 = .ok (.goto 4, 3) := by decide +kernel
theorem dJ0_isLatin1_aae02_17 : decode cJ0_isLatin1_aae02 17 = .ok (.iconst 0, 1) := by decide +kernel
theorem dJ0_isLatin1_aae02_18 : decode cJ0_isLatin1_aae02 18 = .ok (.ireturn, 1) := by decide +kernel
theorem dJ3_checkIndex_8e157_0 : decode cJ3_checkIndex_8e157 0 = .ok (.iload_n 0, 1) := by decide +kernel
theorem dJ3_checkIndex_8e157_1 : decode cJ3_checkIndex_8e157 1 = .ok (.ifCond .lt 8, 3) := by decide +kernel
theorem dJ3_checkIndex_8e157_4 : decode cJ3_checkIndex_8e157 4 = .ok (.iload_n 0, 1) := by decide +kernel
theorem dJ3_checkIndex_8e157_5 : decode cJ3_checkIndex_8e157 5 = .ok (.iload_n 1, 1) := by decide +kernel
theorem dJ3_checkIndex_8e157_6 : decode cJ3_checkIndex_8e157 6 = .ok (.if_icmp .lt 10, 3) := by decide +kernel
theorem dJ3_checkIndex_8e157_9 : decode cJ3_checkIndex_8e157 9 = .ok (.aload_n 2, 1) := by decide +kernel
theorem dJ3_checkIndex_8e157_10 : decode cJ3_checkIndex_8e157 10 = .ok (.iload_n 0, 1) := by decide +kernel
theorem dJ3_checkIndex_8e157_11 : decode cJ3_checkIndex_8e157 11 = .ok (.iload_n 1, 1) := by decide +kernel
theorem dJ3_checkIndex_8e157_12 : decode cJ3_checkIndex_8e157 12 = .ok (.invokestatic 95, 3) := by decide +kernel
theorem dJ3_checkIndex_8e157_15 : decode cJ3_checkIndex_8e157 15 = .ok (.athrow, 1) := by decide +kernel
theorem dJ3_checkIndex_8e157_16 : decode cJ3_checkIndex_8e157 16 = .ok (.iload_n 0, 1) := by decide +kernel
theorem dJ3_checkIndex_8e157_17 : decode cJ3_checkIndex_8e157 17 = .ok (.ireturn, 1) := by decide +kernel
theorem dJ0_checkIndex_df160_0 : decode cJ0_checkIndex_df160 0 = .ok (.iload_n 0, 1) := by decide +kernel
theorem dJ0_checkIndex_df160_1 : decode cJ0_checkIndex_df160 1 = .ok (.iload_n 1, 1) := by decide +kernel
theorem dJ0_checkIndex_df160_2 : decode cJ0_checkIndex_df160 2 = .ok (.getstatic 1053, 3) := by decide +kernel
theorem dJ0_checkIndex_df160_5 : decode cJ0_checkIndex_df160 5 = .ok (.invokestatic 1059, 3) := by decide +kernel
theorem dJ0_checkIndex_df160_8 : decode cJ0_checkIndex_df160 8 = .ok (.pop, 1) := by decide +kernel
theorem dJ0_checkIndex_df160_9 : decode cJ0_checkIndex_df160 9 = .ok (.return_, 1) := by decide +kernel
theorem dJ1_charAt_3b067_0 : decode cJ1_charAt_3b067 0 = .ok (.iload_n 1, 1) := by decide +kernel
theorem dJ1_charAt_3b067_1 : decode cJ1_charAt_3b067 1 = .ok (.aload_n 0, 1) := by decide +kernel
theorem dJ1_charAt_3b067_2 : decode cJ1_charAt_3b067 2 = .ok (.arraylength, 1) := by decide +kernel
theorem dJ1_charAt_3b067_3 : decode cJ1_charAt_3b067 3 = .ok (.invokestatic 9, 3) := by decide +kernel
theorem dJ1_charAt_3b067_6 : decode cJ1_charAt_3b067 6 = .ok (.aload_n 0, 1) := by decide +kernel
theorem dJ1_charAt_3b067_7 : decode cJ1_charAt_3b067 7 = .ok (.iload_n 1, 1) := by decide +kernel
theorem dJ1_charAt_3b067_8 : decode cJ1_charAt_3b067 8 = .ok (.baload, 1) := by decide +kernel
theorem dJ1_charAt_3b067_9 : decode cJ1_charAt_3b067 9 = .ok (.sipush 255, 3) := by decide +kernel
theorem dJ1_charAt_3b067_12 : decode cJ1_charAt_3b067 12 = .ok (.iand, 1) := by decide +kernel
theorem dJ1_charAt_3b067_13 : decode cJ1_charAt_3b067 13 = .ok (.i2c, 1) := by decide +kernel
theorem dJ1_charAt_3b067_14 : decode cJ1_charAt_3b067 14 = .ok (.ireturn, 1) := by decide +kernel
theorem dJ0_charAt_5068e_0 : decode cJ0_charAt_5068e 0 = .ok (.aload_n 0, 1) := by decide +kernel
theorem dJ0_charAt_5068e_1 : decode cJ0_charAt_5068e 1 = .ok (.invokevirtual 492, 3) := by decide +kernel
theorem dJ0_charAt_5068e_4 : decode cJ0_charAt_5068e 4 = .ok (.ifCond .eq 12, 3) := by decide +kernel
theorem dJ0_charAt_5068e_7 : decode cJ0_charAt_5068e 7 = .ok (.aload_n 0, 1) := by decide +kernel
theorem dJ0_charAt_5068e_8 : decode cJ0_charAt_5068e 8 = .ok (.getfield 9, 3) := by decide +kernel
theorem dJ0_charAt_5068e_11 : decode cJ0_charAt_5068e 11 = .ok (.iload_n 1, 1) := by decide +kernel
theorem dJ0_charAt_5068e_12 : decode cJ0_charAt_5068e 12 = .ok (.invokestatic 495, 3) := by decide +kernel
theorem dJ0_charAt_5068e_15 : decode cJ0_charAt_5068e 15 = .ok (.ireturn, 1) := by decide +kernel
theorem dJ0_charAt_5068e_16 : decode cJ0_charAt_5068e 16 = .ok (.aload_n 0, 1) := by decide +kernel
theorem dJ0_charAt_5068e_17 : decode cJ0_charAt_5068e 17 = .ok (.getfield 9, 3) := by decide +kernel
theorem dJ0_charAt_5068e_20 : decode cJ0_charAt_5068e 20 = .ok (.iload_n 1, 1) := by decide +kernel
theorem dJ0_charAt_5068e_21 : decode cJ0_charAt_5068e 21 = .ok (.invokestatic 498, 3) := by decide +kernel
theorem dJ0_charAt_5068e_24 : decode cJ0_charAt_5068e 24 = .ok (.ireturn, 1) := by decide +kernel
theorem dJ0_coder_7d493_0 : decode cJ0_coder_7d493 0 = .ok (.getstatic 38, 3) := by decide +kernel
theorem dJ0_coder_7d493_3 : decode cJ0_coder_7d493 3 = .ok (.ifCond .eq 10, 3) := by decide +kernel
theorem dJ0_coder_7d493_6 : decode cJ0_coder_7d493 6 = .ok (.aload_n 0, 1) := by decide +kernel
theorem dJ0_coder_7d493_7 : decode cJ0_coder_7d493 7 = .ok (.getfield 15, 3) := by decide +kernel
theorem dJ0_coder_7d493_10 : decode cJ0_coder_7d493 10 = .ok (.goto 4, 3) := by decide +kernel
theorem dJ0_coder_7d493_13 : decode cJ0_coder_7d493 13 = .ok (.iconst 1, 1) := by decide +kernel
theorem dJ0_coder_7d493_14 : decode cJ0_coder_7d493 14 = .ok (.ireturn, 1) := by decide +kernel
theorem dJ0_length_8abf5_0 : decode cJ0_length_8abf5 0 = .ok (.aload_n 0, 1) := by decide +kernel
theorem dJ0_length_8abf5_1 : decode cJ0_length_8abf5 1 = .ok (.getfield 9, 3) := by decide +kernel
theorem dJ0_length_8abf5_4 : decode cJ0_length_8abf5 4 = .ok (.arraylength, 1) := by decide +kernel
theorem dJ0_length_8abf5_5 : decode cJ0_length_8abf5 5 = .ok (.aload_n 0, 1) := by decide +kernel
theorem dJ0_length_8abf5_6 : decode cJ0_length_8abf5 6 = .ok (.invokevirtual 335, 3) := by decide +kernel
theorem dJ0_length_8abf5_9 : decode cJ0_length_8abf5 9 = .ok (.ishr, 1) := by decide +kernel
theorem dJ0_length_8abf5_10 : decode cJ0_length_8abf5 10 = .ok (.ireturn, 1) := by decide +kernel
theorem dX7_init_0 : decode cX7_init 0 = .ok (.aload_n 0, 1) := by decide +kernel
theorem dX7_init_1 : decode cX7_init 1 = .ok (.invokespecial 3, 3) := by decide +kernel
theorem dX7_init_4 : decode cX7_init 4 = .ok (.aload_n 0, 1) := by decide +kernel
theorem dX7_init_5 : decode cX7_init 5 = .ok (.sipush 900, 3) := by decide +kernel
theorem dX7_init_8 : decode cX7_init 8 = .ok (.newarray .byte, 2) := by decide +kernel
theorem dX7_init_10 : decode cX7_init 10 = .ok (.putfield 11, 3) := by decide +kernel
theorem dX7_init_13 : decode cX7_init 13 = .ok (.aload_n 0, 1) := by decide +kernel
theorem dX7_init_14 : decode cX7_init 14 = .ok (.sipush 901, 3) := by decide +kernel
theorem dX7_init_17 : decode cX7_init 17 = .ok (.newarray .int, 2) := by decide +kernel
theorem dX7_init_19 : decode cX7_init 19 = .ok (.putfield 15, 3) := by decide +kernel
theorem dX7_init_22 : decode cX7_init 22 = .ok (.aload_n 0, 1) := by decide +kernel
theorem dX7_init_23 : decode cX7_init 23 = .ok (.sipush 901, 3) := by decide +kernel
theorem dX7_init_26 : decode cX7_init 26 = .ok (.newarray .int, 2) := by decide +kernel
theorem dX7_init_28 : decode cX7_init 28 = .ok (.putfield 19, 3) := by decide +kernel
theorem dX7_init_31 : decode cX7_init 31 = .ok (.aload_n 0, 1) := by decide +kernel
theorem dX7_init_32 : decode cX7_init 32 = .ok (.sipush 901, 3) := by decide +kernel
theorem dX7_init_35 : decode cX7_init 35 = .ok (.newarray .long, 2) := by decide +kernel
theorem dX7_init_37 : decode cX7_init 37 = .ok (.putfield 22, 3) := by decide +kernel
theorem dX7_init_40 : decode cX7_init 40 = .ok (.aload_n 0, 1) := by decide +kernel
theorem dX7_init_41 : decode cX7_init 41 = .ok (.bipush 30, 2) := by decide +kernel
theorem dX7_init_43 : decode cX7_init 43 = .ok (.newarray .long, 2) := by decide +kernel
theorem dX7_init_45 : decode cX7_init 45 = .ok (.putfield 28, 3) := by decide +kernel
theorem dX7_init_48 : decode cX7_init 48 = .ok (.aload_n 0, 1) := by decide +kernel
theorem dX7_init_49 : decode cX7_init 49 = .ok (.iconst (-1), 1) := by decide +kernel
theorem dX7_init_50 : decode cX7_init 50 = .ok (.putfield 31, 3) := by decide +kernel
theorem dX7_init_53 : decode cX7_init 53 = .ok (.aload_n 0, 1) := by decide +kernel
theorem dX7_init_54 : decode cX7_init 54 = .ok (.iconst (-1), 1) := by decide +kernel
theorem dX7_init_55 : decode cX7_init 55 = .ok (.putfield 35, 3) := by decide +kernel
theorem dX7_init_58 : decode cX7_init 58 = .ok (.iconst 0, 1) := by decide +kernel
theorem dX7_init_59 : decode cX7_init 59 = .ok (.istore_n 1, 1) := by decide +kernel
theorem dX7_init_60 : decode cX7_init 60 = .ok (.lconst 0, 1) := by decide +kernel
theorem dX7_init_61 : decode cX7_init 61 = .ok (.lstore_n 2, 1) := by decide +kernel
theorem dX7_init_62 : decode cX7_init 62 = .ok (.iconst 0, 1) := by decide +kernel
theorem dX7_init_63 : decode cX7_init 63 = .ok (.istore 4, 2) := by decide +kernel
theorem dX7_init_65 : decode cX7_init 65 = .ok (.iload 4, 2) := by decide +kernel
theorem dX7_init_67 : decode cX7_init 67 = .ok (.ldc 38, 2) := by decide +kernel
theorem dX7_init_69 : decode cX7_init 69 = .ok (.invokevirtual 40, 3) := by decide +kernel
theorem dX7_init_72 : decode cX7_init 72 = .ok (.if_icmp .ge 53, 3) := by decide +kernel
theorem dX7_init_75 : decode cX7_init 75 = .ok (.iload_n 1, 1) := by decide +kernel
theorem dX7_init_76 : decode cX7_init 76 = .ok (.bipush 30, 2) := by decide +kernel
theorem dX7_init_78 : decode cX7_init 78 = .ok (.if_icmp .ge 47, 3) := by decide +kernel
theorem dX7_init_81 : decode cX7_init 81 = .ok (.ldc 38, 2) := by decide +kernel
theorem dX7_init_83 : decode cX7_init 83 = .ok (.iload 4, 2) := by decide +kernel
theorem dX7_init_85 : decode cX7_init 85 = .ok (.invokevirtual 46, 3) := by decide +kernel
theorem dX7_init_88 : decode cX7_init 88 = .ok (.istore 5, 2) := by decide +kernel
theorem dX7_init_90 : decode cX7_init 90 = .ok (.iload 5, 2) := by decide +kernel
theorem dX7_init_92 : decode cX7_init 92 = .ok (.bipush 32, 2) := by decide +kernel
theorem dX7_init_94 : decode cX7_init 94 = .ok (.if_icmp .ne 18, 3) := by decide +kernel
theorem dX7_init_97 : decode cX7_init 97 = .ok (.aload_n 0, 1) := by decide +kernel
theorem dX7_init_98 : decode cX7_init 98 = .ok (.getfield 28, 3) := by decide +kernel
theorem dX7_init_101 : decode cX7_init 101 = .ok (.iload_n 1, 1) := by decide +kernel
theorem dX7_init_102 : decode cX7_init 102 = .ok (.lload_n 2, 1) := by decide +kernel
theorem dX7_init_103 : decode cX7_init 103 = .ok (.lastore, 1) := by decide +kernel
theorem dX7_init_104 : decode cX7_init 104 = .ok (.lconst 0, 1) := by decide +kernel
theorem dX7_init_105 : decode cX7_init 105 = .ok (.lstore_n 2, 1) := by decide +kernel
theorem dX7_init_106 : decode cX7_init 106 = .ok (.iinc 1 1, 3) := by decide +kernel
theorem dX7_init_109 : decode cX7_init 109 = .ok (.goto 10, 3) := by decide +kernel
theorem dX7_init_112 : decode cX7_init 112 = .ok (.lload_n 2, 1) := by decide +kernel
theorem dX7_init_113 : decode cX7_init 113 = .ok (.iload 5, 2) := by decide +kernel
theorem dX7_init_115 : decode cX7_init 115 = .ok (.invokestatic 50, 3) := by decide +kernel
theorem dX7_init_118 : decode cX7_init 118 = .ok (.lstore_n 2, 1) := by decide +kernel
theorem dX7_init_119 : decode cX7_init 119 = .ok (.iinc 4 1, 3) := by decide +kernel
theorem dX7_init_122 : decode cX7_init 122 = .ok (.goto (-57), 3) := by decide +kernel
theorem dX7_init_125 : decode cX7_init 125 = .ok (.return_, 1) := by decide +kernel
theorem dX8_init_0 : decode cX8_init 0 = .ok (.aload_n 0, 1) := by decide +kernel
theorem dX8_init_1 : decode cX8_init 1 = .ok (.invokespecial 3, 3) := by decide +kernel
theorem dX8_init_4 : decode cX8_init 4 = .ok (.aload_n 0, 1) := by decide +kernel
theorem dX8_init_5 : decode cX8_init 5 = .ok (.sipush 2304, 3) := by decide +kernel
theorem dX8_init_8 : decode cX8_init 8 = .ok (.newarray .int, 2) := by decide +kernel
theorem dX8_init_10 : decode cX8_init 10 = .ok (.putfield 11, 3) := by decide +kernel
theorem dX8_init_13 : decode cX8_init 13 = .ok (.aload_n 0, 1) := by decide +kernel
theorem dX8_init_14 : decode cX8_init 14 = .ok (.bipush 9, 2) := by decide +kernel
theorem dX8_init_16 : decode cX8_init 16 = .ok (.newarray .int, 2) := by decide +kernel
theorem dX8_init_18 : decode cX8_init 18 = .ok (.putfield 15, 3) := by decide +kernel
theorem dX8_init_21 : decode cX8_init 21 = .ok (.aload_n 0, 1) := by decide +kernel
theorem dX8_init_22 : decode cX8_init 22 = .ok (.bipush 8, 2) := by decide +kernel
theorem dX8_init_24 : decode cX8_init 24 = .ok (.newarray .int, 2) := by decide +kernel
theorem dX8_init_26 : decode cX8_init 26 = .ok (.putfield 18, 3) := by decide +kernel
theorem dX8_init_29 : decode cX8_init 29 = .ok (.aload_n 0, 1) := by decide +kernel
theorem dX8_init_30 : decode cX8_init 30 = .ok (.bipush 8, 2) := by decide +kernel
theorem dX8_init_32 : decode cX8_init 32 = .ok (.newarray .int, 2) := by decide +kernel
theorem dX8_init_34 : decode cX8_init 34 = .ok (.putfield 21, 3) := by decide +kernel
theorem dX8_init_37 : decode cX8_init 37 = .ok (.aload_n 0, 1) := by decide +kernel
theorem dX8_init_38 : decode cX8_init 38 = .ok (.bipush 8, 2) := by decide +kernel
theorem dX8_init_40 : decode cX8_init 40 = .ok (.newarray .int, 2) := by decide +kernel
theorem dX8_init_42 : decode cX8_init 42 = .ok (.putfield 24, 3) := by decide +kernel
theorem dX8_init_45 : decode cX8_init 45 = .ok (.aload_n 0, 1) := by decide +kernel
theorem dX8_init_46 : decode cX8_init 46 = .ok (.bipush 8, 2) := by decide +kernel
theorem dX8_init_48 : decode cX8_init 48 = .ok (.newarray .int, 2) := by decide +kernel
theorem dX8_init_50 : decode cX8_init 50 = .ok (.putfield 27, 3) := by decide +kernel
theorem dX8_init_53 : decode cX8_init 53 = .ok (.return_, 1) := by decide +kernel
theorem dX9_init_0 : decode cX9_init 0 = .ok (.aload_n 0, 1) := by decide +kernel
theorem dX9_init_1 : decode cX9_init 1 = .ok (.invokespecial 1, 3) := by decide +kernel
theorem dX9_init_4 : decode cX9_init 4 = .ok (.aload_n 0, 1) := by decide +kernel
theorem dX9_init_5 : decode cX9_init 5 = .ok (.bipush 60, 2) := by decide +kernel
theorem dX9_init_7 : decode cX9_init 7 = .ok (.newarray .long, 2) := by decide +kernel
theorem dX9_init_9 : decode cX9_init 9 = .ok (.putfield 9, 3) := by decide +kernel
theorem dX9_init_12 : decode cX9_init 12 = .ok (.aload_n 0, 1) := by decide +kernel
theorem dX9_init_13 : decode cX9_init 13 = .ok (.iconst 1, 1) := by decide +kernel
theorem dX9_init_14 : decode cX9_init 14 = .ok (.putfield 13, 3) := by decide +kernel
theorem dX9_init_17 : decode cX9_init 17 = .ok (.return_, 1) := by decide +kernel
theorem dX11_init_0 : decode cX11_init 0 = .ok (.aload_n 0, 1) := by decide +kernel
theorem dX11_init_1 : decode cX11_init 1 = .ok (.invokespecial 1, 3) := by decide +kernel
theorem dX11_init_4 : decode cX11_init 4 = .ok (.aload_n 0, 1) := by decide +kernel
theorem dX11_init_5 : decode cX11_init 5 = .ok (.iconst 4, 1) := by decide +kernel
theorem dX11_init_6 : decode cX11_init 6 = .ok (.anewarray 9, 3) := by decide +kernel
theorem dX11_init_9 : decode cX11_init 9 = .ok (.putfield 11, 3) := by decide +kernel
theorem dX11_init_12 : decode cX11_init 12 = .ok (.aload_n 0, 1) := by decide +kernel
theorem dX11_init_13 : decode cX11_init 13 = .ok (.new 15, 3) := by decide +kernel
theorem dX11_init_16 : decode cX11_init 16 = .ok (.dup, 1) := by decide +kernel
theorem dX11_init_17 : decode cX11_init 17 = .ok (.invokespecial 17, 3) := by decide +kernel
theorem dX11_init_20 : decode cX11_init 20 = .ok (.putfield 18, 3) := by decide +kernel
theorem dX11_init_23 : decode cX11_init 23 = .ok (.aload_n 0, 1) := by decide +kernel
theorem dX11_init_24 : decode cX11_init 24 = .ok (.new 22, 3) := by decide +kernel
theorem dX11_init_27 : decode cX11_init 27 = .ok (.dup, 1) := by decide +kernel
theorem dX11_init_28 : decode cX11_init 28 = .ok (.aload_n 0, 1) := by decide +kernel
theorem dX11_init_29 : decode cX11_init 29 = .ok (.getfield 18, 3) := by decide +kernel
theorem dX11_init_32 : decode cX11_init 32 = .ok (.invokespecial 24, 3) := by decide +kernel
theorem dX11_init_35 : decode cX11_init 35 = .ok (.putfield 27, 3) := by decide +kernel
theorem dX11_init_38 : decode cX11_init 38 = .ok (.aload_n 0, 1) := by decide +kernel
theorem dX11_init_39 : decode cX11_init 39 = .ok (.new 31, 3) := by decide +kernel
theorem dX11_init_42 : decode cX11_init 42 = .ok (.dup, 1) := by decide +kernel
theorem dX11_init_43 : decode cX11_init 43 = .ok (.aload_n 0, 1) := by decide +kernel
theorem dX11_init_44 : decode cX11_init 44 = .ok (.getfield 18, 3) := by decide +kernel
theorem dX11_init_47 : decode cX11_init 47 = .ok (.invokespecial 33, 3) := by decide +kernel
theorem dX11_init_50 : decode cX11_init 50 = .ok (.putfield 34, 3) := by decide +kernel
theorem dX11_init_53 : decode cX11_init 53 = .ok (.aload_n 0, 1) := by decide +kernel
theorem dX11_init_54 : decode cX11_init 54 = .ok (.iconst 3, 1) := by decide +kernel
theorem dX11_init_55 : decode cX11_init 55 = .ok (.anewarray 38, 3) := by decide +kernel
theorem dX11_init_58 : decode cX11_init 58 = .ok (.putfield 40, 3) := by decide +kernel
theorem dX11_init_61 : decode cX11_init 61 = .ok (.aload_n 0, 1) := by decide +kernel
theorem dX11_init_62 : decode cX11_init 62 = .ok (.iconst 3, 1) := by decide +kernel
theorem dX11_init_63 : decode cX11_init 63 = .ok (.anewarray 44, 3) := by decide +kernel
theorem dX11_init_66 : decode cX11_init 66 = .ok (.putfield 46, 3) := by decide +kernel
theorem dX11_init_69 : decode cX11_init 69 = .ok (.aload_n 0, 1) := by decide +kernel
theorem dX11_init_70 : decode cX11_init 70 = .ok (.new 50, 3) := by decide +kernel
theorem dX11_init_73 : decode cX11_init 73 = .ok (.dup, 1) := by decide +kernel
theorem dX11_init_74 : decode cX11_init 74 = .ok (.invokespecial 52, 3) := by decide +kernel
theorem dX11_init_77 : decode cX11_init 77 = .ok (.putfield 53, 3) := by decide +kernel
theorem dX11_init_80 : decode cX11_init 80 = .ok (.aload_n 0, 1) := by decide +kernel
theorem dX11_init_81 : decode cX11_init 81 = .ok (.new 57, 3) := by decide +kernel
theorem dX11_init_84 : decode cX11_init 84 = .ok (.dup, 1) := by decide +kernel
theorem dX11_init_85 : decode cX11_init 85 = .ok (.invokespecial 59, 3) := by decide +kernel
theorem dX11_init_88 : decode cX11_init 88 = .ok (.putfield 60, 3) := by decide +kernel
theorem dX11_init_91 : decode cX11_init 91 = .ok (.aload_n 0, 1) := by decide +kernel
theorem dX11_init_92 : decode cX11_init 92 = .ok (.iconst 5, 1) := by decide +kernel
theorem dX11_init_93 : decode cX11_init 93 = .ok (.newarray .int, 2) := by decide +kernel
theorem dX11_init_95 : decode cX11_init 95 = .ok (.putfield 64, 3) := by decide +kernel
theorem dX11_init_98 : decode cX11_init 98 = .ok (.aload_n 0, 1) := by decide +kernel
theorem dX11_init_99 : decode cX11_init 99 = .ok (.new 44, 3) := by decide +kernel
theorem dX11_init_102 : decode cX11_init 102 = .ok (.dup, 1) := by decide +kernel
theorem dX11_init_103 : decode cX11_init 103 = .ok (.invokespecial 68, 3) := by decide +kernel
theorem dX11_init_106 : decode cX11_init 106 = .ok (.putfield 69, 3) := by decide +kernel
theorem dX11_init_109 : decode cX11_init 109 = .ok (.aload_n 0, 1) := by decide +kernel
theorem dX11_init_110 : decode cX11_init 110 = .ok (.new 44, 3) := by decide +kernel
theorem dX11_init_113 : decode cX11_init 113 = .ok (.dup, 1) := by decide +kernel
theorem dX11_init_114 : decode cX11_init 114 = .ok (.invokespecial 68, 3) := by decide +kernel
theorem dX11_init_117 : decode cX11_init 117 = .ok (.putfield 73, 3) := by decide +kernel
theorem dX11_init_120 : decode cX11_init 120 = .ok (.aload_n 0, 1) := by decide +kernel
theorem dX11_init_121 : decode cX11_init 121 = .ok (.new 38, 3) := by decide +kernel
theorem dX11_init_124 : decode cX11_init 124 = .ok (.dup, 1) := by decide +kernel
theorem dX11_init_125 : decode cX11_init 125 = .ok (.invokespecial 76, 3) := by decide +kernel
theorem dX11_init_128 : decode cX11_init 128 = .ok (.putfield 77, 3) := by decide +kernel
theorem dX11_init_131 : decode cX11_init 131 = .ok (.aload_n 0, 1) := by decide +kernel
theorem dX11_init_132 : decode cX11_init 132 = .ok (.new 38, 3) := by decide +kernel
theorem dX11_init_135 : decode cX11_init 135 = .ok (.dup, 1) := by decide +kernel
theorem dX11_init_136 : decode cX11_init 136 = .ok (.invokespecial 76, 3) := by decide +kernel
theorem dX11_init_139 : decode cX11_init 139 = .ok (.putfield 81, 3) := by decide +kernel
theorem dX11_init_142 : decode cX11_init 142 = .ok (.aload_n 0, 1) := by decide +kernel
theorem dX11_init_143 : decode cX11_init 143 = .ok (.lconst 1, 1) := by decide +kernel
theorem dX11_init_144 : decode cX11_init 144 = .ok (.putfield 84, 3) := by decide +kernel
theorem dX11_init_147 : decode cX11_init 147 = .ok (.iconst 0, 1) := by decide +kernel
theorem dX11_init_148 : decode cX11_init 148 = .ok (.istore_n 1, 1) := by decide +kernel
theorem dX11_init_149 : decode cX11_init 149 = .ok (.iload_n 1, 1) := by decide +kernel
theorem dX11_init_150 : decode cX11_init 150 = .ok (.iconst 4, 1) := by decide +kernel
theorem dX11_init_151 : decode cX11_init 151 = .ok (.if_icmp .ge 22, 3) := by decide +kernel
theorem dX11_init_154 : decode cX11_init 154 = .ok (.aload_n 0, 1) := by decide +kernel
theorem dX11_init_155 : decode cX11_init 155 = .ok (.getfield 11, 3) := by decide +kernel
theorem dX11_init_158 : decode cX11_init 158 = .ok (.iload_n 1, 1) := by decide +kernel
theorem dX11_init_159 : decode cX11_init 159 = .ok (.new 9, 3) := by decide +kernel
theorem dX11_init_162 : decode cX11_init 162 = .ok (.dup, 1) := by decide +kernel
theorem dX11_init_163 : decode cX11_init 163 = .ok (.invokespecial 88, 3) := by decide +kernel
theorem dX11_init_166 : decode cX11_init 166 = .ok (.aastore, 1) := by decide +kernel
theorem dX11_init_167 : decode cX11_init 167 = .ok (.iinc 1 1, 3) := by decide +kernel
theorem dX11_init_170 : decode cX11_init 170 = .ok (.goto (-21), 3) := by decide +kernel
theorem dX11_init_173 : decode cX11_init 173 = .ok (.iconst 0, 1) := by decide +kernel
theorem dX11_init_174 : decode cX11_init 174 = .ok (.istore_n 1, 1) := by decide +kernel
theorem dX11_init_175 : decode cX11_init 175 = .ok (.iload_n 1, 1) := by decide +kernel
theorem dX11_init_176 : decode cX11_init 176 = .ok (.iconst 3, 1) := by decide +kernel
theorem dX11_init_177 : decode cX11_init 177 = .ok (.if_icmp .ge 35, 3) := by decide +kernel
theorem dX11_init_180 : decode cX11_init 180 = .ok (.aload_n 0, 1) := by decide +kernel
theorem dX11_init_181 : decode cX11_init 181 = .ok (.getfield 40, 3) := by decide +kernel
theorem dX11_init_184 : decode cX11_init 184 = .ok (.iload_n 1, 1) := by decide +kernel
theorem dX11_init_185 : decode cX11_init 185 = .ok (.new 38, 3) := by decide +kernel
theorem dX11_init_188 : decode cX11_init 188 = .ok (.dup, 1) := by decide +kernel
theorem dX11_init_189 : decode cX11_init 189 = .ok (.invokespecial 76, 3) := by decide +kernel
theorem dX11_init_192 : decode cX11_init 192 = .ok (.aastore, 1) := by decide +kernel
theorem dX11_init_193 : decode cX11_init 193 = .ok (.aload_n 0, 1) := by decide +kernel
theorem dX11_init_194 : decode cX11_init 194 = .ok (.getfield 46, 3) := by decide +kernel
theorem dX11_init_197 : decode cX11_init 197 = .ok (.iload_n 1, 1) := by decide +kernel
theorem dX11_init_198 : decode cX11_init 198 = .ok (.new 44, 3) := by decide +kernel
theorem dX11_init_201 : decode cX11_init 201 = .ok (.dup, 1) := by decide +kernel
theorem dX11_init_202 : decode cX11_init 202 = .ok (.invokespecial 68, 3) := by decide +kernel
theorem dX11_init_205 : decode cX11_init 205 = .ok (.aastore, 1) := by decide +kernel
theorem dX11_init_206 : decode cX11_init 206 = .ok (.iinc 1 1, 3) := by decide +kernel
theorem dX11_init_209 : decode cX11_init 209 = .ok (.goto (-34), 3) := by decide +kernel
theorem dX11_init_212 : decode cX11_init 212 = .ok (.return_, 1) := by decide +kernel
theorem dX11_last_0 : decode cX11_last 0 = .ok (.aload_n 0, 1) := by decide +kernel
theorem dX11_last_1 : decode cX11_last 1 = .ok (.getfield 69, 3) := by decide +kernel
theorem dX11_last_4 : decode cX11_last 4 = .ok (.iload_n 1, 1) := by decide +kernel
theorem dX11_last_5 : decode cX11_last 5 = .ok (.invokevirtual 237, 3) := by decide +kernel
theorem dX11_last_8 : decode cX11_last 8 = .ok (.astore_n 2, 1) := by decide +kernel
theorem dX11_last_9 : decode cX11_last 9 = .ok (.aload_n 2, 1) := by decide +kernel
theorem dX11_last_10 : decode cX11_last 10 = .ok (.ifnonnull 9, 3) := by decide +kernel
theorem dX11_last_13 : decode cX11_last 13 = .ok (.aload_n 0, 1) := by decide +kernel
theorem dX11_last_14 : decode cX11_last 14 = .ok (.iconst 1, 1) := by decide +kernel
theorem dX11_last_15 : decode cX11_last 15 = .ok (.invokevirtual 100, 3) := by decide +kernel
theorem dX11_last_18 : decode cX11_last 18 = .ok (.ireturn, 1) := by decide +kernel
theorem dX11_last_19 : decode cX11_last 19 = .ok (.aload_n 2, 1) := by decide +kernel
theorem dX11_last_20 : decode cX11_last 20 = .ok (.getfield 287, 3) := by decide +kernel
theorem dX11_last_23 : decode cX11_last 23 = .ok (.ifCond .eq 14, 3) := by decide +kernel
theorem dX11_last_26 : decode cX11_last 26 = .ok (.aload_n 0, 1) := by decide +kernel
theorem dX11_last_27 : decode cX11_last 27 = .ok (.aload_n 2, 1) := by decide +kernel
theorem dX11_last_28 : decode cX11_last 28 = .ok (.invokevirtual 290, 3) := by decide +kernel
theorem dX11_last_31 : decode cX11_last 31 = .ok (.invokevirtual 96, 3) := by decide +kernel
theorem dX11_last_34 : decode cX11_last 34 = .ok (.goto 9, 3) := by decide +kernel
theorem dX11_last_37 : decode cX11_last 37 = .ok (.aload_n 0, 1) := by decide +kernel
theorem dX11_last_38 : decode cX11_last 38 = .ok (.bipush 7, 2) := by decide +kernel
theorem dX11_last_40 : decode cX11_last 40 = .ok (.invokevirtual 100, 3) := by decide +kernel
theorem dX11_last_43 : decode cX11_last 43 = .ok (.ireturn, 1) := by decide +kernel
theorem dX11_lateness_0 : decode cX11_lateness 0 = .ok (.aload_n 0, 1) := by decide +kernel
theorem dX11_lateness_1 : decode cX11_lateness 1 = .ok (.getfield 69, 3) := by decide +kernel
theorem dX11_lateness_4 : decode cX11_lateness 4 = .ok (.iload_n 1, 1) := by decide +kernel
theorem dX11_lateness_5 : decode cX11_lateness 5 = .ok (.invokevirtual 216, 3) := by decide +kernel
theorem dX11_lateness_8 : decode cX11_lateness 8 = .ok (.ifnull 14, 3) := by decide +kernel
theorem dX11_lateness_11 : decode cX11_lateness 11 = .ok (.iload_n 2, 1) := by decide +kernel
theorem dX11_lateness_12 : decode cX11_lateness 12 = .ok (.ifCond .lt 10, 3) := by decide +kernel
theorem dX11_lateness_15 : decode cX11_lateness 15 = .ok (.iload_n 2, 1) := by decide +kernel
theorem dX11_lateness_16 : decode cX11_lateness 16 = .ok (.sipush 240, 3) := by decide +kernel
theorem dX11_lateness_19 : decode cX11_lateness 19 = .ok (.if_icmp .le 9, 3) := by decide +kernel
theorem dX11_lateness_22 : decode cX11_lateness 22 = .ok (.aload_n 0, 1) := by decide +kernel
theorem dX11_lateness_23 : decode cX11_lateness 23 = .ok (.iconst 1, 1) := by decide +kernel
theorem dX11_lateness_24 : decode cX11_lateness 24 = .ok (.invokevirtual 100, 3) := by decide +kernel
theorem dX11_lateness_27 : decode cX11_lateness 27 = .ok (.ireturn, 1) := by decide +kernel
theorem dX11_lateness_28 : decode cX11_lateness 28 = .ok (.aload_n 0, 1) := by decide +kernel
theorem dX11_lateness_29 : decode cX11_lateness 29 = .ok (.getfield 53, 3) := by decide +kernel
theorem dX11_lateness_32 : decode cX11_lateness 32 = .ok (.aload_n 0, 1) := by decide +kernel
theorem dX11_lateness_33 : decode cX11_lateness 33 = .ok (.getfield 69, 3) := by decide +kernel
theorem dX11_lateness_36 : decode cX11_lateness 36 = .ok (.iload_n 1, 1) := by decide +kernel
theorem dX11_lateness_37 : decode cX11_lateness 37 = .ok (.iload_n 2, 1) := by decide +kernel
theorem dX11_lateness_38 : decode cX11_lateness 38 = .ok (.invokevirtual 322, 3) := by decide +kernel
theorem dX11_lateness_41 : decode cX11_lateness 41 = .ok (.aload_n 0, 1) := by decide +kernel
theorem dX11_lateness_42 : decode cX11_lateness 42 = .ok (.getfield 53, 3) := by decide +kernel
theorem dX11_lateness_45 : decode cX11_lateness 45 = .ok (.invokevirtual 329, 3) := by decide +kernel
theorem dX11_lateness_48 : decode cX11_lateness 48 = .ok (.istore_n 3, 1) := by decide +kernel
theorem dX11_lateness_49 : decode cX11_lateness 49 = .ok (.aload_n 0, 1) := by decide +kernel
theorem dX11_lateness_50 : decode cX11_lateness 50 = .ok (.getfield 53, 3) := by decide +kernel
theorem dX11_lateness_53 : decode cX11_lateness 53 = .ok (.aload_n 0, 1) := by decide +kernel
theorem dX11_lateness_54 : decode cX11_lateness 54 = .ok (.getfield 69, 3) := by decide +kernel
theorem dX11_lateness_57 : decode cX11_lateness 57 = .ok (.iload_n 1, 1) := by decide +kernel
theorem dX11_lateness_58 : decode cX11_lateness 58 = .ok (.iconst 0, 1) := by decide +kernel
theorem dX11_lateness_59 : decode cX11_lateness 59 = .ok (.invokevirtual 322, 3) := by decide +kernel
theorem dX11_lateness_62 : decode cX11_lateness 62 = .ok (.aload_n 0, 1) := by decide +kernel
theorem dX11_lateness_63 : decode cX11_lateness 63 = .ok (.iload_n 3, 1) := by decide +kernel
theorem dX11_lateness_64 : decode cX11_lateness 64 = .ok (.aload_n 0, 1) := by decide +kernel
theorem dX11_lateness_65 : decode cX11_lateness 65 = .ok (.getfield 53, 3) := by decide +kernel
theorem dX11_lateness_68 : decode cX11_lateness 68 = .ok (.invokevirtual 329, 3) := by decide +kernel
theorem dX11_lateness_71 : decode cX11_lateness 71 = .ok (.isub, 1) := by decide +kernel
theorem dX11_lateness_72 : decode cX11_lateness 72 = .ok (.invokevirtual 96, 3) := by decide +kernel
theorem dX11_lateness_75 : decode cX11_lateness 75 = .ok (.ireturn, 1) := by decide +kernel
theorem dX4_latestMinute_0 : decode cX4_latestMinute 0 = .ok (.aload_n 0, 1) := by decide +kernel
theorem dX4_latestMinute_1 : decode cX4_latestMinute 1 = .ok (.getfield 35, 3) := by decide +kernel
theorem dX4_latestMinute_4 : decode cX4_latestMinute 4 = .ok (.ifCond .le 17, 3) := by decide +kernel
theorem dX4_latestMinute_7 : decode cX4_latestMinute 7 = .ok (.aload_n 0, 1) := by decide +kernel
theorem dX4_latestMinute_8 : decode cX4_latestMinute 8 = .ok (.getfield 17, 3) := by decide +kernel
theorem dX4_latestMinute_11 : decode cX4_latestMinute 11 = .ok (.aload_n 0, 1) := by decide +kernel
theorem dX4_latestMinute_12 : decode cX4_latestMinute 12 = .ok (.getfield 35, 3) := by decide +kernel
theorem dX4_latestMinute_15 : decode cX4_latestMinute 15 = .ok (.iconst 1, 1) := by decide +kernel
theorem dX4_latestMinute_16 : decode cX4_latestMinute 16 = .ok (.isub, 1) := by decide +kernel
theorem dX4_latestMinute_17 : decode cX4_latestMinute 17 = .ok (.iaload, 1) := by decide +kernel
theorem dX4_latestMinute_18 : decode cX4_latestMinute 18 = .ok (.goto 4, 3) := by decide +kernel
theorem dX4_latestMinute_21 : decode cX4_latestMinute 21 = .ok (.iconst (-1), 1) := by decide +kernel
theorem dX4_latestMinute_22 : decode cX4_latestMinute 22 = .ok (.ireturn, 1) := by decide +kernel
theorem dX11_latest_0 : decode cX11_latest 0 = .ok (.iconst (-1), 1) := by decide +kernel
theorem dX11_latest_1 : decode cX11_latest 1 = .ok (.istore_n 1, 1) := by decide +kernel
theorem dX11_latest_2 : decode cX11_latest 2 = .ok (.iconst 0, 1) := by decide +kernel
theorem dX11_latest_3 : decode cX11_latest 3 = .ok (.istore_n 2, 1) := by decide +kernel
theorem dX11_latest_4 : decode cX11_latest 4 = .ok (.iload_n 2, 1) := by decide +kernel
theorem dX11_latest_5 : decode cX11_latest 5 = .ok (.aload_n 0, 1) := by decide +kernel
theorem dX11_latest_6 : decode cX11_latest 6 = .ok (.getfield 69, 3) := by decide +kernel
theorem dX11_latest_9 : decode cX11_latest 9 = .ok (.getfield 175, 3) := by decide +kernel
theorem dX11_latest_12 : decode cX11_latest 12 = .ok (.if_icmp .ge 26, 3) := by decide +kernel
theorem dX11_latest_15 : decode cX11_latest 15 = .ok (.iload_n 1, 1) := by decide +kernel
theorem dX11_latest_16 : decode cX11_latest 16 = .ok (.aload_n 0, 1) := by decide +kernel
theorem dX11_latest_17 : decode cX11_latest 17 = .ok (.getfield 69, 3) := by decide +kernel
theorem dX11_latest_20 : decode cX11_latest 20 = .ok (.getfield 303, 3) := by decide +kernel
theorem dX11_latest_23 : decode cX11_latest 23 = .ok (.iload_n 2, 1) := by decide +kernel
theorem dX11_latest_24 : decode cX11_latest 24 = .ok (.aaload, 1) := by decide +kernel
theorem dX11_latest_25 : decode cX11_latest 25 = .ok (.invokevirtual 345, 3) := by decide +kernel
theorem dX11_latest_28 : decode cX11_latest 28 = .ok (.invokestatic 360, 3) := by decide +kernel
theorem dX11_latest_31 : decode cX11_latest 31 = .ok (.istore_n 1, 1) := by decide +kernel
theorem dX11_latest_32 : decode cX11_latest 32 = .ok (.iinc 2 1, 3) := by decide +kernel
theorem dX11_latest_35 : decode cX11_latest 35 = .ok (.goto (-31), 3) := by decide +kernel
theorem dX11_latest_38 : decode cX11_latest 38 = .ok (.iload_n 1, 1) := by decide +kernel
theorem dX11_latest_39 : decode cX11_latest 39 = .ok (.iconst (-1), 1) := by decide +kernel
theorem dX11_latest_40 : decode cX11_latest 40 = .ok (.if_icmp .ne 12, 3) := by decide +kernel
theorem dX11_latest_43 : decode cX11_latest 43 = .ok (.aload_n 0, 1) := by decide +kernel
theorem dX11_latest_44 : decode cX11_latest 44 = .ok (.bipush 6, 2) := by decide +kernel
theorem dX11_latest_46 : decode cX11_latest 46 = .ok (.invokevirtual 100, 3) := by decide +kernel
theorem dX11_latest_49 : decode cX11_latest 49 = .ok (.goto 8, 3) := by decide +kernel
theorem dX11_latest_52 : decode cX11_latest 52 = .ok (.aload_n 0, 1) := by decide +kernel
theorem dX11_latest_53 : decode cX11_latest 53 = .ok (.iload_n 1, 1) := by decide +kernel
theorem dX11_latest_54 : decode cX11_latest 54 = .ok (.invokevirtual 96, 3) := by decide +kernel
theorem dX11_latest_57 : decode cX11_latest 57 = .ok (.ireturn, 1) := by decide +kernel
theorem dX11_leader_0 : decode cX11_leader 0 = .ok (.aload_n 0, 1) := by decide +kernel
theorem dX11_leader_1 : decode cX11_leader 1 = .ok (.getfield 69, 3) := by decide +kernel
theorem dX11_leader_4 : decode cX11_leader 4 = .ok (.iconst 0, 1) := by decide +kernel
theorem dX11_leader_5 : decode cX11_leader 5 = .ok (.invokevirtual 300, 3) := by decide +kernel
theorem dX11_leader_8 : decode cX11_leader 8 = .ok (.istore_n 1, 1) := by decide +kernel
theorem dX11_leader_9 : decode cX11_leader 9 = .ok (.iload_n 1, 1) := by decide +kernel
theorem dX11_leader_10 : decode cX11_leader 10 = .ok (.iconst (-1), 1) := by decide +kernel
theorem dX11_leader_11 : decode cX11_leader 11 = .ok (.if_icmp .ne 12, 3) := by decide +kernel
theorem dX11_leader_14 : decode cX11_leader 14 = .ok (.aload_n 0, 1) := by decide +kernel
theorem dX11_leader_15 : decode cX11_leader 15 = .ok (.bipush 6, 2) := by decide +kernel
theorem dX11_leader_17 : decode cX11_leader 17 = .ok (.invokevirtual 100, 3) := by decide +kernel
theorem dX11_leader_20 : decode cX11_leader 20 = .ok (.goto 8, 3) := by decide +kernel
theorem dX11_leader_23 : decode cX11_leader 23 = .ok (.aload_n 0, 1) := by decide +kernel
theorem dX11_leader_24 : decode cX11_leader 24 = .ok (.iload_n 1, 1) := by decide +kernel
theorem dX11_leader_25 : decode cX11_leader 25 = .ok (.invokevirtual 96, 3) := by decide +kernel
theorem dX11_leader_28 : decode cX11_leader 28 = .ok (.ireturn, 1) := by decide +kernel
theorem dX11_leads_0 : decode cX11_leads 0 = .ok (.aload_n 0, 1) := by decide +kernel
theorem dX11_leads_1 : decode cX11_leads 1 = .ok (.getfield 69, 3) := by decide +kernel
theorem dX11_leads_4 : decode cX11_leads 4 = .ok (.iload_n 1, 1) := by decide +kernel
theorem dX11_leads_5 : decode cX11_leads 5 = .ok (.invokevirtual 216, 3) := by decide +kernel
theorem dX11_leads_8 : decode cX11_leads 8 = .ok (.ifnonnull 11, 3) := by decide +kernel
theorem dX11_leads_11 : decode cX11_leads 11 = .ok (.aload_n 0, 1) := by decide +kernel
theorem dX11_leads_12 : decode cX11_leads 12 = .ok (.iconst 1, 1) := by decide +kernel
theorem dX11_leads_13 : decode cX11_leads 13 = .ok (.invokevirtual 100, 3) := by decide +kernel
theorem dX11_leads_16 : decode cX11_leads 16 = .ok (.goto 15, 3) := by decide +kernel
theorem dX11_leads_19 : decode cX11_leads 19 = .ok (.aload_n 0, 1) := by decide +kernel
theorem dX11_leads_20 : decode cX11_leads 20 = .ok (.aload_n 0, 1) := by decide +kernel
theorem dX11_leads_21 : decode cX11_leads 21 = .ok (.getfield 69, 3) := by decide +kernel
theorem dX11_leads_24 : decode cX11_leads 24 = .ok (.iload_n 1, 1) := by decide +kernel
theorem dX11_leads_25 : decode cX11_leads 25 = .ok (.invokevirtual 297, 3) := by decide +kernel
theorem dX11_leads_28 : decode cX11_leads 28 = .ok (.invokevirtual 96, 3) := by decide +kernel
theorem dX11_leads_31 : decode cX11_leads 31 = .ok (.ireturn, 1) := by decide +kernel
theorem dX11_left_0 : decode cX11_left 0 = .ok (.aload_n 0, 1) := by decide +kernel
theorem dX11_left_1 : decode cX11_left 1 = .ok (.getfield 69, 3) := by decide +kernel
theorem dX11_left_4 : decode cX11_left 4 = .ok (.iload_n 1, 1) := by decide +kernel
theorem dX11_left_5 : decode cX11_left 5 = .ok (.invokevirtual 237, 3) := by decide +kernel
theorem dX11_left_8 : decode cX11_left 8 = .ok (.astore_n 2, 1) := by decide +kernel
theorem dX11_left_9 : decode cX11_left 9 = .ok (.aload_n 2, 1) := by decide +kernel
theorem dX11_left_10 : decode cX11_left 10 = .ok (.ifnonnull 9, 3) := by decide +kernel
theorem dX11_left_13 : decode cX11_left 13 = .ok (.aload_n 0, 1) := by decide +kernel
theorem dX11_left_14 : decode cX11_left 14 = .ok (.iconst 1, 1) := by decide +kernel
theorem dX11_left_15 : decode cX11_left 15 = .ok (.invokevirtual 100, 3) := by decide +kernel
theorem dX11_left_18 : decode cX11_left 18 = .ok (.ireturn, 1) := by decide +kernel
theorem dX11_left_19 : decode cX11_left 19 = .ok (.aload_n 2, 1) := by decide +kernel
theorem dX11_left_20 : decode cX11_left 20 = .ok (.getfield 287, 3) := by decide +kernel
theorem dX11_left_23 : decode cX11_left 23 = .ok (.ifCond .ne 10, 3) := by decide +kernel
theorem dX11_left_26 : decode cX11_left 26 = .ok (.aload_n 0, 1) := by decide +kernel
theorem dX11_left_27 : decode cX11_left 27 = .ok (.bipush 7, 2) := by decide +kernel
theorem dX11_left_29 : decode cX11_left 29 = .ok (.invokevirtual 100, 3) := by decide +kernel
theorem dX11_left_32 : decode cX11_left 32 = .ok (.ireturn, 1) := by decide +kernel
theorem dX11_left_33 : decode cX11_left 33 = .ok (.aload_n 2, 1) := by decide +kernel
theorem dX11_left_34 : decode cX11_left 34 = .ok (.getfield 247, 3) := by decide +kernel
theorem dX11_left_37 : decode cX11_left 37 = .ok (.ifCond .ne 12, 3) := by decide +kernel
theorem dX11_left_40 : decode cX11_left 40 = .ok (.aload_n 0, 1) := by decide +kernel
theorem dX11_left_41 : decode cX11_left 41 = .ok (.bipush 6, 2) := by decide +kernel
theorem dX11_left_43 : decode cX11_left 43 = .ok (.invokevirtual 100, 3) := by decide +kernel
theorem dX11_left_46 : decode cX11_left 46 = .ok (.goto 19, 3) := by decide +kernel
theorem dX11_left_49 : decode cX11_left 49 = .ok (.aload_n 0, 1) := by decide +kernel
theorem dX11_left_50 : decode cX11_left 50 = .ok (.aload_n 0, 1) := by decide +kernel
theorem dX11_left_51 : decode cX11_left 51 = .ok (.getfield 69, 3) := by decide +kernel
theorem dX11_left_54 : decode cX11_left 54 = .ok (.getfield 197, 3) := by decide +kernel
theorem dX11_left_57 : decode cX11_left 57 = .ok (.aload_n 2, 1) := by decide +kernel
theorem dX11_left_58 : decode cX11_left 58 = .ok (.invokevirtual 345, 3) := by decide +kernel
theorem dX11_left_61 : decode cX11_left 61 = .ok (.isub, 1) := by decide +kernel
theorem dX11_left_62 : decode cX11_left 62 = .ok (.invokevirtual 96, 3) := by decide +kernel
theorem dX11_left_65 : decode cX11_left 65 = .ok (.ireturn, 1) := by decide +kernel
theorem dX11_lies_0 : decode cX11_lies 0 = .ok (.aload_n 0, 1) := by decide +kernel
theorem dX11_lies_1 : decode cX11_lies 1 = .ok (.getfield 69, 3) := by decide +kernel
theorem dX11_lies_4 : decode cX11_lies 4 = .ok (.iload_n 1, 1) := by decide +kernel
theorem dX11_lies_5 : decode cX11_lies 5 = .ok (.invokevirtual 216, 3) := by decide +kernel
theorem dX11_lies_8 : decode cX11_lies 8 = .ok (.ifnonnull 9, 3) := by decide +kernel
theorem dX11_lies_11 : decode cX11_lies 11 = .ok (.aload_n 0, 1) := by decide +kernel
theorem dX11_lies_12 : decode cX11_lies 12 = .ok (.iconst 1, 1) := by decide +kernel
theorem dX11_lies_13 : decode cX11_lies 13 = .ok (.invokevirtual 100, 3) := by decide +kernel
theorem dX11_lies_16 : decode cX11_lies 16 = .ok (.ireturn, 1) := by decide +kernel
theorem dX11_lies_17 : decode cX11_lies 17 = .ok (.iconst 0, 1) := by decide +kernel
theorem dX11_lies_18 : decode cX11_lies 18 = .ok (.istore_n 3, 1) := by decide +kernel
theorem dX11_lies_19 : decode cX11_lies 19 = .ok (.iconst 0, 1) := by decide +kernel
theorem dX11_lies_20 : decode cX11_lies 20 = .ok (.istore 4, 2) := by decide +kernel
theorem dX11_lies_22 : decode cX11_lies 22 = .ok (.iload 4, 2) := by decide +kernel
theorem dX11_lies_24 : decode cX11_lies 24 = .ok (.aload_n 0, 1) := by decide +kernel
theorem dX11_lies_25 : decode cX11_lies 25 = .ok (.getfield 69, 3) := by decide +kernel
theorem dX11_lies_28 : decode cX11_lies 28 = .ok (.getfield 175, 3) := by decide +kernel
theorem dX11_lies_31 : decode cX11_lies 31 = .ok (.if_icmp .ge 42, 3) := by decide +kernel
theorem dX11_lies_34 : decode cX11_lies 34 = .ok (.iload_n 3, 1) := by decide +kernel
theorem dX11_lies_35 : decode cX11_lies 35 = .ok (.aload_n 0, 1) := by decide +kernel
theorem dX11_lies_36 : decode cX11_lies 36 = .ok (.getfield 69, 3) := by decide +kernel
theorem dX11_lies_39 : decode cX11_lies 39 = .ok (.getfield 303, 3) := by decide +kernel
theorem dX11_lies_42 : decode cX11_lies 42 = .ok (.iload 4, 2) := by decide +kernel
theorem dX11_lies_44 : decode cX11_lies 44 = .ok (.aaload, 1) := by decide +kernel
theorem dX11_lies_45 : decode cX11_lies 45 = .ok (.iload_n 1, 1) := by decide +kernel
theorem dX11_lies_46 : decode cX11_lies 46 = .ok (.invokevirtual 377, 3) := by decide +kernel
theorem dX11_lies_49 : decode cX11_lies 49 = .ok (.iadd, 1) := by decide +kernel
theorem dX11_lies_50 : decode cX11_lies 50 = .ok (.istore_n 3, 1) := by decide +kernel
theorem dX11_lies_51 : decode cX11_lies 51 = .ok (.iload_n 2, 1) := by decide +kernel
theorem dX11_lies_52 : decode cX11_lies 52 = .ok (.ifCond .lt 15, 3) := by decide +kernel
theorem dX11_lies_55 : decode cX11_lies 55 = .ok (.iload_n 2, 1) := by decide +kernel
theorem dX11_lies_56 : decode cX11_lies 56 = .ok (.iload_n 3, 1) := by decide +kernel
theorem dX11_lies_57 : decode cX11_lies 57 = .ok (.if_icmp .ge 10, 3) := by decide +kernel
theorem dX11_lies_60 : decode cX11_lies 60 = .ok (.aload_n 0, 1) := by decide +kernel
theorem dX11_lies_61 : decode cX11_lies 61 = .ok (.iload 4, 2) := by decide +kernel
theorem dX11_lies_63 : decode cX11_lies 63 = .ok (.invokevirtual 96, 3) := by decide +kernel
theorem dX11_lies_66 : decode cX11_lies 66 = .ok (.ireturn, 1) := by decide +kernel
theorem dX11_lies_67 : decode cX11_lies 67 = .ok (.iinc 4 1, 3) := by decide +kernel
theorem dX11_lies_70 : decode cX11_lies 70 = .ok (.goto (-48), 3) := by decide +kernel
theorem dX11_lies_73 : decode cX11_lies 73 = .ok (.aload_n 0, 1) := by decide +kernel
theorem dX11_lies_74 : decode cX11_lies 74 = .ok (.bipush 6, 2) := by decide +kernel
theorem dX11_lies_76 : decode cX11_lies 76 = .ok (.invokevirtual 100, 3) := by decide +kernel
theorem dX11_lies_79 : decode cX11_lies 79 = .ok (.ireturn, 1) := by decide +kernel
theorem dX4_newestOf_0 : decode cX4_newestOf 0 = .ok (.aload_n 0, 1) := by decide +kernel
theorem dX4_newestOf_1 : decode cX4_newestOf 1 = .ok (.getfield 35, 3) := by decide +kernel
theorem dX4_newestOf_4 : decode cX4_newestOf 4 = .ok (.iconst 1, 1) := by decide +kernel
theorem dX4_newestOf_5 : decode cX4_newestOf 5 = .ok (.isub, 1) := by decide +kernel
theorem dX4_newestOf_6 : decode cX4_newestOf 6 = .ok (.istore_n 2, 1) := by decide +kernel
theorem dX4_newestOf_7 : decode cX4_newestOf 7 = .ok (.iload_n 2, 1) := by decide +kernel
theorem dX4_newestOf_8 : decode cX4_newestOf 8 = .ok (.ifCond .lt 21, 3) := by decide +kernel
theorem dX4_newestOf_11 : decode cX4_newestOf 11 = .ok (.aload_n 0, 1) := by decide +kernel
theorem dX4_newestOf_12 : decode cX4_newestOf 12 = .ok (.getfield 11, 3) := by decide +kernel
theorem dX4_newestOf_15 : decode cX4_newestOf 15 = .ok (.iload_n 2, 1) := by decide +kernel
theorem dX4_newestOf_16 : decode cX4_newestOf 16 = .ok (.iaload, 1) := by decide +kernel
theorem dX4_newestOf_17 : decode cX4_newestOf 17 = .ok (.iload_n 1, 1) := by decide +kernel
theorem dX4_newestOf_18 : decode cX4_newestOf 18 = .ok (.if_icmp .ne 5, 3) := by decide +kernel
theorem dX4_newestOf_21 : decode cX4_newestOf 21 = .ok (.iload_n 2, 1) := by decide +kernel
theorem dX4_newestOf_22 : decode cX4_newestOf 22 = .ok (.ireturn, 1) := by decide +kernel
theorem dX4_newestOf_23 : decode cX4_newestOf 23 = .ok (.iinc 2 (-1), 3) := by decide +kernel
theorem dX4_newestOf_26 : decode cX4_newestOf 26 = .ok (.goto (-19), 3) := by decide +kernel
theorem dX4_newestOf_29 : decode cX4_newestOf 29 = .ok (.iconst (-1), 1) := by decide +kernel
theorem dX4_newestOf_30 : decode cX4_newestOf 30 = .ok (.ireturn, 1) := by decide +kernel
theorem dX0_takeUp_0 : decode cX0_takeUp 0 = .ok (.aload_n 0, 1) := by decide +kernel
theorem dX0_takeUp_1 : decode cX0_takeUp 1 = .ok (.iload_n 1, 1) := by decide +kernel
theorem dX0_takeUp_2 : decode cX0_takeUp 2 = .ok (.invokevirtual 95, 3) := by decide +kernel
theorem dX0_takeUp_5 : decode cX0_takeUp 5 = .ok (.astore_n 3, 1) := by decide +kernel
theorem dX0_takeUp_6 : decode cX0_takeUp 6 = .ok (.aload_n 0, 1) := by decide +kernel
theorem dX0_takeUp_7 : decode cX0_takeUp 7 = .ok (.iload_n 2, 1) := by decide +kernel
theorem dX0_takeUp_8 : decode cX0_takeUp 8 = .ok (.invokevirtual 106, 3) := by decide +kernel
theorem dX0_takeUp_11 : decode cX0_takeUp 11 = .ok (.astore 4, 2) := by decide +kernel
theorem dX0_takeUp_13 : decode cX0_takeUp 13 = .ok (.aload_n 3, 1) := by decide +kernel
theorem dX0_takeUp_14 : decode cX0_takeUp 14 = .ok (.ifnull 8, 3) := by decide +kernel
theorem dX0_takeUp_17 : decode cX0_takeUp 17 = .ok (.aload 4, 2) := by decide +kernel
theorem dX0_takeUp_19 : decode cX0_takeUp 19 = .ok (.ifnonnull 5, 3) := by decide +kernel
theorem dX0_takeUp_22 : decode cX0_takeUp 22 = .ok (.iconst 1, 1) := by decide +kernel
theorem dX0_takeUp_23 : decode cX0_takeUp 23 = .ok (.ireturn, 1) := by decide +kernel
theorem dX0_takeUp_24 : decode cX0_takeUp 24 = .ok (.aload 4, 2) := by decide +kernel
theorem dX0_takeUp_26 : decode cX0_takeUp 26 = .ok (.iload_n 1, 1) := by decide +kernel
theorem dX0_takeUp_27 : decode cX0_takeUp 27 = .ok (.invokevirtual 118, 3) := by decide +kernel
theorem dX0_takeUp_30 : decode cX0_takeUp 30 = .ok (.istore 5, 2) := by decide +kernel
theorem dX0_takeUp_32 : decode cX0_takeUp 32 = .ok (.aload 4, 2) := by decide +kernel
theorem dX0_takeUp_34 : decode cX0_takeUp 34 = .ok (.iload 5, 2) := by decide +kernel
theorem dX0_takeUp_36 : decode cX0_takeUp 36 = .ok (.invokevirtual 121, 3) := by decide +kernel
theorem dX0_takeUp_39 : decode cX0_takeUp 39 = .ok (.ifCond .ne 6, 3) := by decide +kernel
theorem dX0_takeUp_42 : decode cX0_takeUp 42 = .ok (.bipush 6, 2) := by decide +kernel
theorem dX0_takeUp_44 : decode cX0_takeUp 44 = .ok (.ireturn, 1) := by decide +kernel
theorem dX0_takeUp_45 : decode cX0_takeUp 45 = .ok (.aload_n 3, 1) := by decide +kernel
theorem dX0_takeUp_46 : decode cX0_takeUp 46 = .ok (.getfield 64, 3) := by decide +kernel
theorem dX0_takeUp_49 : decode cX0_takeUp 49 = .ok (.aload 4, 2) := by decide +kernel
theorem dX0_takeUp_51 : decode cX0_takeUp 51 = .ok (.getfield 80, 3) := by decide +kernel
theorem dX0_takeUp_54 : decode cX0_takeUp 54 = .ok (.if_icmp .eq 6, 3) := by decide +kernel
theorem dX0_takeUp_57 : decode cX0_takeUp 57 = .ok (.bipush 7, 2) := by decide +kernel
theorem dX0_takeUp_59 : decode cX0_takeUp 59 = .ok (.ireturn, 1) := by decide +kernel
theorem dX0_takeUp_60 : decode cX0_takeUp 60 = .ok (.aload 4, 2) := by decide +kernel
theorem dX0_takeUp_62 : decode cX0_takeUp 62 = .ok (.getfield 125, 3) := by decide +kernel
theorem dX0_takeUp_65 : decode cX0_takeUp 65 = .ok (.iload 5, 2) := by decide +kernel
theorem dX0_takeUp_67 : decode cX0_takeUp 67 = .ok (.iaload, 1) := by decide +kernel
theorem dX0_takeUp_68 : decode cX0_takeUp 68 = .ok (.istore 6, 2) := by decide +kernel
theorem dX0_takeUp_70 : decode cX0_takeUp 70 = .ok (.aload 4, 2) := by decide +kernel
theorem dX0_takeUp_72 : decode cX0_takeUp 72 = .ok (.iload 5, 2) := by decide +kernel
theorem dX0_takeUp_74 : decode cX0_takeUp 74 = .ok (.invokevirtual 129, 3) := by decide +kernel
theorem dX0_takeUp_77 : decode cX0_takeUp 77 = .ok (.aload_n 3, 1) := by decide +kernel
theorem dX0_takeUp_78 : decode cX0_takeUp 78 = .ok (.dup, 1) := by decide +kernel
theorem dX0_takeUp_79 : decode cX0_takeUp 79 = .ok (.getfield 70, 3) := by decide +kernel
theorem dX0_takeUp_82 : decode cX0_takeUp 82 = .ok (.iconst 1, 1) := by decide +kernel
theorem dX0_takeUp_83 : decode cX0_takeUp 83 = .ok (.iadd, 1) := by decide +kernel
theorem dX0_takeUp_84 : decode cX0_takeUp 84 = .ok (.putfield 70, 3) := by decide +kernel
theorem dX0_takeUp_87 : decode cX0_takeUp 87 = .ok (.aload_n 0, 1) := by decide +kernel
theorem dX0_takeUp_88 : decode cX0_takeUp 88 = .ok (.iload 6, 2) := by decide +kernel
theorem dX0_takeUp_90 : decode cX0_takeUp 90 = .ok (.invokevirtual 91, 3) := by decide +kernel
theorem dX0_takeUp_93 : decode cX0_takeUp 93 = .ok (.ireturn, 1) := by decide +kernel
theorem dX11_lift_0 : decode cX11_lift 0 = .ok (.aload_n 0, 1) := by decide +kernel
theorem dX11_lift_1 : decode cX11_lift 1 = .ok (.aload_n 0, 1) := by decide +kernel
theorem dX11_lift_2 : decode cX11_lift 2 = .ok (.getfield 69, 3) := by decide +kernel
theorem dX11_lift_5 : decode cX11_lift 5 = .ok (.iload_n 1, 1) := by decide +kernel
theorem dX11_lift_6 : decode cX11_lift 6 = .ok (.iload_n 2, 1) := by decide +kernel
theorem dX11_lift_7 : decode cX11_lift 7 = .ok (.invokevirtual 272, 3) := by decide +kernel
theorem dX11_lift_10 : decode cX11_lift 10 = .ok (.invokevirtual 263, 3) := by decide +kernel
theorem dX11_lift_13 : decode cX11_lift 13 = .ok (.ireturn, 1) := by decide +kernel
theorem dX6_behindEnd_0 : decode cX6_behindEnd 0 = .ok (.aload_n 0, 1) := by decide +kernel
theorem dX6_behindEnd_1 : decode cX6_behindEnd 1 = .ok (.getfield 24, 3) := by decide +kernel
theorem dX6_behindEnd_4 : decode cX6_behindEnd 4 = .ok (.getfield 48, 3) := by decide +kernel
theorem dX6_behindEnd_7 : decode cX6_behindEnd 7 = .ok (.iload_n 1, 1) := by decide +kernel
theorem dX6_behindEnd_8 : decode cX6_behindEnd 8 = .ok (.iaload, 1) := by decide +kernel
theorem dX6_behindEnd_9 : decode cX6_behindEnd 9 = .ok (.istore_n 2, 1) := by decide +kernel
theorem dX6_behindEnd_10 : decode cX6_behindEnd 10 = .ok (.iload_n 2, 1) := by decide +kernel
theorem dX6_behindEnd_11 : decode cX6_behindEnd 11 = .ok (.ifCond .lt 22, 3) := by decide +kernel
theorem dX6_behindEnd_14 : decode cX6_behindEnd 14 = .ok (.iload_n 2, 1) := by decide +kernel
theorem dX6_behindEnd_15 : decode cX6_behindEnd 15 = .ok (.iload_n 1, 1) := by decide +kernel
theorem dX6_behindEnd_16 : decode cX6_behindEnd 16 = .ok (.if_icmp .ge 17, 3) := by decide +kernel
theorem dX6_behindEnd_19 : decode cX6_behindEnd 19 = .ok (.aload_n 0, 1) := by decide +kernel
theorem dX6_behindEnd_20 : decode cX6_behindEnd 20 = .ok (.getfield 24, 3) := by decide +kernel
theorem dX6_behindEnd_23 : decode cX6_behindEnd 23 = .ok (.getfield 36, 3) := by decide +kernel
theorem dX6_behindEnd_26 : decode cX6_behindEnd 26 = .ok (.iload_n 2, 1) := by decide +kernel
theorem dX6_behindEnd_27 : decode cX6_behindEnd 27 = .ok (.iaload, 1) := by decide +kernel
theorem dX6_behindEnd_28 : decode cX6_behindEnd 28 = .ok (.bipush 27, 2) := by decide +kernel
theorem dX6_behindEnd_30 : decode cX6_behindEnd 30 = .ok (.if_icmp .eq 7, 3) := by decide +kernel
theorem dX6_behindEnd_33 : decode cX6_behindEnd 33 = .ok (.iload_n 1, 1) := by decide +kernel
theorem dX6_behindEnd_34 : decode cX6_behindEnd 34 = .ok (.iconst 1, 1) := by decide +kernel
theorem dX6_behindEnd_35 : decode cX6_behindEnd 35 = .ok (.iadd, 1) := by decide +kernel
theorem dX6_behindEnd_36 : decode cX6_behindEnd 36 = .ok (.ireturn, 1) := by decide +kernel
theorem dX6_behindEnd_37 : decode cX6_behindEnd 37 = .ok (.aload_n 0, 1) := by decide +kernel
theorem dX6_behindEnd_38 : decode cX6_behindEnd 38 = .ok (.getfield 17, 3) := by decide +kernel
theorem dX6_behindEnd_41 : decode cX6_behindEnd 41 = .ok (.iload_n 2, 1) := by decide +kernel
theorem dX6_behindEnd_42 : decode cX6_behindEnd 42 = .ok (.dup2, 1) := by decide +kernel
theorem dX6_behindEnd_43 : decode cX6_behindEnd 43 = .ok (.iaload, 1) := by decide +kernel
theorem dX6_behindEnd_44 : decode cX6_behindEnd 44 = .ok (.iconst 1, 1) := by decide +kernel
theorem dX6_behindEnd_45 : decode cX6_behindEnd 45 = .ok (.isub, 1) := by decide +kernel
theorem dX6_behindEnd_46 : decode cX6_behindEnd 46 = .ok (.iastore, 1) := by decide +kernel
theorem dX6_behindEnd_47 : decode cX6_behindEnd 47 = .ok (.aload_n 0, 1) := by decide +kernel
theorem dX6_behindEnd_48 : decode cX6_behindEnd 48 = .ok (.getfield 17, 3) := by decide +kernel
theorem dX6_behindEnd_51 : decode cX6_behindEnd 51 = .ok (.iload_n 2, 1) := by decide +kernel
theorem dX6_behindEnd_52 : decode cX6_behindEnd 52 = .ok (.iaload, 1) := by decide +kernel
theorem dX6_behindEnd_53 : decode cX6_behindEnd 53 = .ok (.ifCond .le 9, 3) := by decide +kernel
theorem dX6_behindEnd_56 : decode cX6_behindEnd 56 = .ok (.iload_n 2, 1) := by decide +kernel
theorem dX6_behindEnd_57 : decode cX6_behindEnd 57 = .ok (.iconst 1, 1) := by decide +kernel
theorem dX6_behindEnd_58 : decode cX6_behindEnd 58 = .ok (.iadd, 1) := by decide +kernel
theorem dX6_behindEnd_59 : decode cX6_behindEnd 59 = .ok (.goto 6, 3) := by decide +kernel
theorem dX6_behindEnd_62 : decode cX6_behindEnd 62 = .ok (.iload_n 1, 1) := by decide +kernel
theorem dX6_behindEnd_63 : decode cX6_behindEnd 63 = .ok (.iconst 1, 1) := by decide +kernel
theorem dX6_behindEnd_64 : decode cX6_behindEnd 64 = .ok (.iadd, 1) := by decide +kernel
theorem dX6_behindEnd_65 : decode cX6_behindEnd 65 = .ok (.ireturn, 1) := by decide +kernel
theorem dX0_layOn_0 : decode cX0_layOn 0 = .ok (.aload_n 0, 1) := by decide +kernel
theorem dX0_layOn_1 : decode cX0_layOn 1 = .ok (.iload_n 1, 1) := by decide +kernel
theorem dX0_layOn_2 : decode cX0_layOn 2 = .ok (.invokevirtual 95, 3) := by decide +kernel
theorem dX0_layOn_5 : decode cX0_layOn 5 = .ok (.astore_n 3, 1) := by decide +kernel
theorem dX0_layOn_6 : decode cX0_layOn 6 = .ok (.aload_n 0, 1) := by decide +kernel
theorem dX0_layOn_7 : decode cX0_layOn 7 = .ok (.iload_n 2, 1) := by decide +kernel
theorem dX0_layOn_8 : decode cX0_layOn 8 = .ok (.invokevirtual 106, 3) := by decide +kernel
theorem dX0_layOn_11 : decode cX0_layOn 11 = .ok (.astore 4, 2) := by decide +kernel
theorem dX0_layOn_13 : decode cX0_layOn 13 = .ok (.aload_n 3, 1) := by decide +kernel
theorem dX0_layOn_14 : decode cX0_layOn 14 = .ok (.ifnull 8, 3) := by decide +kernel
theorem dX0_layOn_17 : decode cX0_layOn 17 = .ok (.aload 4, 2) := by decide +kernel
theorem dX0_layOn_19 : decode cX0_layOn 19 = .ok (.ifnonnull 5, 3) := by decide +kernel
theorem dX0_layOn_22 : decode cX0_layOn 22 = .ok (.iconst 1, 1) := by decide +kernel
theorem dX0_layOn_23 : decode cX0_layOn 23 = .ok (.ireturn, 1) := by decide +kernel
theorem dX0_layOn_24 : decode cX0_layOn 24 = .ok (.aload_n 0, 1) := by decide +kernel
theorem dX0_layOn_25 : decode cX0_layOn 25 = .ok (.invokevirtual 110, 3) := by decide +kernel
theorem dX0_layOn_28 : decode cX0_layOn 28 = .ok (.bipush 60, 2) := by decide +kernel
theorem dX0_layOn_30 : decode cX0_layOn 30 = .ok (.if_icmp .lt 5, 3) := by decide +kernel
theorem dX0_layOn_33 : decode cX0_layOn 33 = .ok (.iconst 4, 1) := by decide +kernel
theorem dX0_layOn_34 : decode cX0_layOn 34 = .ok (.ireturn, 1) := by decide +kernel
theorem dX0_layOn_35 : decode cX0_layOn 35 = .ok (.aload_n 3, 1) := by decide +kernel
theorem dX0_layOn_36 : decode cX0_layOn 36 = .ok (.getfield 70, 3) := by decide +kernel
theorem dX0_layOn_39 : decode cX0_layOn 39 = .ok (.ifCond .ne 6, 3) := by decide +kernel
theorem dX0_layOn_42 : decode cX0_layOn 42 = .ok (.bipush 6, 2) := by decide +kernel
theorem dX0_layOn_44 : decode cX0_layOn 44 = .ok (.ireturn, 1) := by decide +kernel
theorem dX0_layOn_45 : decode cX0_layOn 45 = .ok (.aload_n 3, 1) := by decide +kernel
theorem dX0_layOn_46 : decode cX0_layOn 46 = .ok (.getfield 64, 3) := by decide +kernel
theorem dX0_layOn_49 : decode cX0_layOn 49 = .ok (.aload 4, 2) := by decide +kernel
theorem dX0_layOn_51 : decode cX0_layOn 51 = .ok (.getfield 80, 3) := by decide +kernel
theorem dX0_layOn_54 : decode cX0_layOn 54 = .ok (.if_icmp .ne 11, 3) := by decide +kernel
theorem dX0_layOn_57 : decode cX0_layOn 57 = .ok (.aload 4, 2) := by decide +kernel
theorem dX0_layOn_59 : decode cX0_layOn 59 = .ok (.getfield 84, 3) := by decide +kernel
theorem dX0_layOn_62 : decode cX0_layOn 62 = .ok (.ifCond .ne 6, 3) := by decide +kernel
theorem dX0_layOn_65 : decode cX0_layOn 65 = .ok (.bipush 7, 2) := by decide +kernel
theorem dX0_layOn_67 : decode cX0_layOn 67 = .ok (.ireturn, 1) := by decide +kernel
theorem dX0_layOn_68 : decode cX0_layOn 68 = .ok (.aload_n 3, 1) := by decide +kernel
theorem dX0_layOn_69 : decode cX0_layOn 69 = .ok (.dup, 1) := by decide +kernel
theorem dX0_layOn_70 : decode cX0_layOn 70 = .ok (.getfield 70, 3) := by decide +kernel
theorem dX0_layOn_73 : decode cX0_layOn 73 = .ok (.iconst 1, 1) := by decide +kernel
theorem dX0_layOn_74 : decode cX0_layOn 74 = .ok (.isub, 1) := by decide +kernel
theorem dX0_layOn_75 : decode cX0_layOn 75 = .ok (.putfield 70, 3) := by decide +kernel
theorem dX0_layOn_78 : decode cX0_layOn 78 = .ok (.aload 4, 2) := by decide +kernel
theorem dX0_layOn_80 : decode cX0_layOn 80 = .ok (.iload_n 1, 1) := by decide +kernel
theorem dX0_layOn_81 : decode cX0_layOn 81 = .ok (.aload_n 3, 1) := by decide +kernel
theorem dX0_layOn_82 : decode cX0_layOn 82 = .ok (.getfield 73, 3) := by decide +kernel
theorem dX0_layOn_85 : decode cX0_layOn 85 = .ok (.invokevirtual 114, 3) := by decide +kernel
theorem dX0_layOn_88 : decode cX0_layOn 88 = .ok (.aload_n 0, 1) := by decide +kernel
theorem dX0_layOn_89 : decode cX0_layOn 89 = .ok (.aload 4, 2) := by decide +kernel
theorem dX0_layOn_91 : decode cX0_layOn 91 = .ok (.getfield 88, 3) := by decide +kernel
theorem dX0_layOn_94 : decode cX0_layOn 94 = .ok (.invokevirtual 91, 3) := by decide +kernel
theorem dX0_layOn_97 : decode cX0_layOn 97 = .ok (.ireturn, 1) := by decide +kernel
theorem dX0_waitFor_0 : decode cX0_waitFor 0 = .ok (.aload_n 0, 1) := by decide +kernel
theorem dX0_waitFor_1 : decode cX0_waitFor 1 = .ok (.iload_n 1, 1) := by decide +kernel
theorem dX0_waitFor_2 : decode cX0_waitFor 2 = .ok (.invokevirtual 95, 3) := by decide +kernel
theorem dX0_waitFor_5 : decode cX0_waitFor 5 = .ok (.astore_n 3, 1) := by decide +kernel
theorem dX0_waitFor_6 : decode cX0_waitFor 6 = .ok (.aload_n 3, 1) := by decide +kernel
theorem dX0_waitFor_7 : decode cX0_waitFor 7 = .ok (.ifnull 15, 3) := by decide +kernel
theorem dX0_waitFor_10 : decode cX0_waitFor 10 = .ok (.iload_n 2, 1) := by decide +kernel
theorem dX0_waitFor_11 : decode cX0_waitFor 11 = .ok (.iconst 1, 1) := by decide +kernel
theorem dX0_waitFor_12 : decode cX0_waitFor 12 = .ok (.if_icmp .lt 10, 3) := by decide +kernel
theorem dX0_waitFor_15 : decode cX0_waitFor 15 = .ok (.iload_n 2, 1) := by decide +kernel
theorem dX0_waitFor_16 : decode cX0_waitFor 16 = .ok (.sipush 240, 3) := by decide +kernel
theorem dX0_waitFor_19 : decode cX0_waitFor 19 = .ok (.if_icmp .le 5, 3) := by decide +kernel
theorem dX0_waitFor_22 : decode cX0_waitFor 22 = .ok (.iconst 1, 1) := by decide +kernel
theorem dX0_waitFor_23 : decode cX0_waitFor 23 = .ok (.ireturn, 1) := by decide +kernel
theorem dX0_waitFor_24 : decode cX0_waitFor 24 = .ok (.aload_n 0, 1) := by decide +kernel
theorem dX0_waitFor_25 : decode cX0_waitFor 25 = .ok (.aload_n 3, 1) := by decide +kernel
theorem dX0_waitFor_26 : decode cX0_waitFor 26 = .ok (.iload_n 2, 1) := by decide +kernel
theorem dX0_waitFor_27 : decode cX0_waitFor 27 = .ok (.invokevirtual 102, 3) := by decide +kernel
theorem dX0_waitFor_30 : decode cX0_waitFor 30 = .ok (.ireturn, 1) := by decide +kernel
theorem dX6_beginLoop_0 : decode cX6_beginLoop 0 = .ok (.aload_n 0, 1) := by decide +kernel
theorem dX6_beginLoop_1 : decode cX6_beginLoop 1 = .ok (.getfield 17, 3) := by decide +kernel
theorem dX6_beginLoop_4 : decode cX6_beginLoop 4 = .ok (.iload_n 1, 1) := by decide +kernel
theorem dX6_beginLoop_5 : decode cX6_beginLoop 5 = .ok (.iload_n 2, 1) := by decide +kernel
theorem dX6_beginLoop_6 : decode cX6_beginLoop 6 = .ok (.iastore, 1) := by decide +kernel
theorem dX6_beginLoop_7 : decode cX6_beginLoop 7 = .ok (.iload_n 1, 1) := by decide +kernel
theorem dX6_beginLoop_8 : decode cX6_beginLoop 8 = .ok (.iconst 1, 1) := by decide +kernel
theorem dX6_beginLoop_9 : decode cX6_beginLoop 9 = .ok (.iadd, 1) := by decide +kernel
theorem dX6_beginLoop_10 : decode cX6_beginLoop 10 = .ok (.ireturn, 1) := by decide +kernel
theorem dX6_behindTest_0 : decode cX6_behindTest 0 = .ok (.iload_n 2, 1) := by decide +kernel
theorem dX6_behindTest_1 : decode cX6_behindTest 1 = .ok (.ifCond .eq 9, 3) := by decide +kernel
theorem dX6_behindTest_4 : decode cX6_behindTest 4 = .ok (.iload_n 1, 1) := by decide +kernel
theorem dX6_behindTest_5 : decode cX6_behindTest 5 = .ok (.iconst 1, 1) := by decide +kernel
theorem dX6_behindTest_6 : decode cX6_behindTest 6 = .ok (.iadd, 1) := by decide +kernel
theorem dX6_behindTest_7 : decode cX6_behindTest 7 = .ok (.goto 14, 3) := by decide +kernel
theorem dX6_behindTest_10 : decode cX6_behindTest 10 = .ok (.aload_n 0, 1) := by decide +kernel
theorem dX6_behindTest_11 : decode cX6_behindTest 11 = .ok (.getfield 24, 3) := by decide +kernel
theorem dX6_behindTest_14 : decode cX6_behindTest 14 = .ok (.getfield 48, 3) := by decide +kernel
theorem dX6_behindTest_17 : decode cX6_behindTest 17 = .ok (.iload_n 1, 1) := by decide +kernel
theorem dX6_behindTest_18 : decode cX6_behindTest 18 = .ok (.iaload, 1) := by decide +kernel
theorem dX6_behindTest_19 : decode cX6_behindTest 19 = .ok (.iconst 1, 1) := by decide +kernel
theorem dX6_behindTest_20 : decode cX6_behindTest 20 = .ok (.iadd, 1) := by decide +kernel
theorem dX6_behindTest_21 : decode cX6_behindTest 21 = .ok (.ireturn, 1) := by decide +kernel
theorem dX0_give_0 : decode cX0_give 0 = .ok (.iload_n 2, 1) := by decide +kernel
theorem dX0_give_1 : decode cX0_give 1 = .ok (.invokestatic 152, 3) := by decide +kernel
theorem dX0_give_4 : decode cX0_give 4 = .ok (.istore_n 3, 1) := by decide +kernel
theorem dX0_give_5 : decode cX0_give 5 = .ok (.iconst 0, 1) := by decide +kernel
theorem dX0_give_6 : decode cX0_give 6 = .ok (.istore 4, 2) := by decide +kernel
theorem dX0_give_8 : decode cX0_give 8 = .ok (.iload 4, 2) := by decide +kernel
theorem dX0_give_10 : decode cX0_give 10 = .ok (.aload_n 0, 1) := by decide +kernel
theorem dX0_give_11 : decode cX0_give 11 = .ok (.getfield 44, 3) := by decide +kernel
theorem dX0_give_14 : decode cX0_give 14 = .ok (.if_icmp .ge 41, 3) := by decide +kernel
theorem dX0_give_17 : decode cX0_give 17 = .ok (.iload_n 3, 1) := by decide +kernel
theorem dX0_give_18 : decode cX0_give 18 = .ok (.ifCond .le 37, 3) := by decide +kernel
theorem dX0_give_21 : decode cX0_give 21 = .ok (.iload_n 2, 1) := by decide +kernel
theorem dX0_give_22 : decode cX0_give 22 = .ok (.iload 4, 2) := by decide +kernel
theorem dX0_give_24 : decode cX0_give 24 = .ok (.ishr, 1) := by decide +kernel
theorem dX0_give_25 : decode cX0_give 25 = .ok (.iconst 1, 1) := by decide +kernel
theorem dX0_give_26 : decode cX0_give 26 = .ok (.iand, 1) := by decide +kernel
theorem dX0_give_27 : decode cX0_give 27 = .ok (.iconst 1, 1) := by decide +kernel
theorem dX0_give_28 : decode cX0_give 28 = .ok (.if_icmp .ne 21, 3) := by decide +kernel
theorem dX0_give_31 : decode cX0_give 31 = .ok (.aload_n 0, 1) := by decide +kernel
theorem dX0_give_32 : decode cX0_give 32 = .ok (.getfield 13, 3) := by decide +kernel
theorem dX0_give_35 : decode cX0_give 35 = .ok (.iload 4, 2) := by decide +kernel
theorem dX0_give_37 : decode cX0_give 37 = .ok (.aaload, 1) := by decide +kernel
theorem dX0_give_38 : decode cX0_give 38 = .ok (.dup, 1) := by decide +kernel
theorem dX0_give_39 : decode cX0_give 39 = .ok (.getfield 76, 3) := by decide +kernel
theorem dX0_give_42 : decode cX0_give 42 = .ok (.iload_n 1, 1) := by decide +kernel
theorem dX0_give_43 : decode cX0_give 43 = .ok (.iload_n 3, 1) := by decide +kernel
theorem dX0_give_44 : decode cX0_give 44 = .ok (.idiv, 1) := by decide +kernel
theorem dX0_give_45 : decode cX0_give 45 = .ok (.iadd, 1) := by decide +kernel
theorem dX0_give_46 : decode cX0_give 46 = .ok (.putfield 76, 3) := by decide +kernel
theorem dX0_give_49 : decode cX0_give 49 = .ok (.iinc 4 1, 3) := by decide +kernel
theorem dX0_give_52 : decode cX0_give 52 = .ok (.goto (-44), 3) := by decide +kernel
theorem dX0_give_55 : decode cX0_give 55 = .ok (.return_, 1) := by decide +kernel
theorem dX0_tideAfter_0 : decode cX0_tideAfter 0 = .ok (.iconst 1, 1) := by decide +kernel
theorem dX0_tideAfter_1 : decode cX0_tideAfter 1 = .ok (.aload_n 0, 1) := by decide +kernel
theorem dX0_tideAfter_2 : decode cX0_tideAfter 2 = .ok (.getfield 32, 3) := by decide +kernel
theorem dX0_tideAfter_5 : decode cX0_tideAfter 5 = .ok (.aload_n 0, 1) := by decide +kernel
theorem dX0_tideAfter_6 : decode cX0_tideAfter 6 = .ok (.getfield 35, 3) := by decide +kernel
theorem dX0_tideAfter_9 : decode cX0_tideAfter 9 = .ok (.iload_n 1, 1) := by decide +kernel
theorem dX0_tideAfter_10 : decode cX0_tideAfter 10 = .ok (.imul, 1) := by decide +kernel
theorem dX0_tideAfter_11 : decode cX0_tideAfter 11 = .ok (.isub, 1) := by decide +kernel
theorem dX0_tideAfter_12 : decode cX0_tideAfter 12 = .ok (.invokestatic 157, 3) := by decide +kernel
theorem dX0_tideAfter_15 : decode cX0_tideAfter 15 = .ok (.ireturn, 1) := by decide +kernel
theorem dX0_comeTide_0 : decode cX0_comeTide 0 = .ok (.aload_n 0, 1) := by decide +kernel
theorem dX0_comeTide_1 : decode cX0_comeTide 1 = .ok (.getfield 41, 3) := by decide +kernel
theorem dX0_comeTide_4 : decode cX0_comeTide 4 = .ok (.bipush 99, 2) := by decide +kernel
theorem dX0_comeTide_6 : decode cX0_comeTide 6 = .ok (.if_icmp .lt 5, 3) := by decide +kernel
theorem dX0_comeTide_9 : decode cX0_comeTide 9 = .ok (.iconst 4, 1) := by decide +kernel
theorem dX0_comeTide_10 : decode cX0_comeTide 10 = .ok (.ireturn, 1) := by decide +kernel
theorem dX0_comeTide_11 : decode cX0_comeTide 11 = .ok (.aload_n 0, 1) := by decide +kernel
theorem dX0_comeTide_12 : decode cX0_comeTide 12 = .ok (.invokevirtual 136, 3) := by decide +kernel
theorem dX0_comeTide_15 : decode cX0_comeTide 15 = .ok (.ifCond .ne 6, 3) := by decide +kernel
theorem dX0_comeTide_18 : decode cX0_comeTide 18 = .ok (.bipush 7, 2) := by decide +kernel
theorem dX0_comeTide_20 : decode cX0_comeTide 20 = .ok (.ireturn, 1) := by decide +kernel
theorem dX0_comeTide_21 : decode cX0_comeTide 21 = .ok (.iconst 0, 1) := by decide +kernel
theorem dX0_comeTide_22 : decode cX0_comeTide 22 = .ok (.istore_n 1, 1) := by decide +kernel
theorem dX0_comeTide_23 : decode cX0_comeTide 23 = .ok (.iload_n 1, 1) := by decide +kernel
theorem dX0_comeTide_24 : decode cX0_comeTide 24 = .ok (.aload_n 0, 1) := by decide +kernel
theorem dX0_comeTide_25 : decode cX0_comeTide 25 = .ok (.getfield 47, 3) := by decide +kernel
theorem dX0_comeTide_28 : decode cX0_comeTide 28 = .ok (.if_icmp .ge 32, 3) := by decide +kernel
theorem dX0_comeTide_31 : decode cX0_comeTide 31 = .ok (.aload_n 0, 1) := by decide +kernel
theorem dX0_comeTide_32 : decode cX0_comeTide 32 = .ok (.aload_n 0, 1) := by decide +kernel
theorem dX0_comeTide_33 : decode cX0_comeTide 33 = .ok (.getfield 19, 3) := by decide +kernel
theorem dX0_comeTide_36 : decode cX0_comeTide 36 = .ok (.iload_n 1, 1) := by decide +kernel
theorem dX0_comeTide_37 : decode cX0_comeTide 37 = .ok (.aaload, 1) := by decide +kernel
theorem dX0_comeTide_38 : decode cX0_comeTide 38 = .ok (.getfield 81, 3) := by decide +kernel
theorem dX0_comeTide_41 : decode cX0_comeTide 41 = .ok (.aload_n 0, 1) := by decide +kernel
theorem dX0_comeTide_42 : decode cX0_comeTide 42 = .ok (.aload_n 0, 1) := by decide +kernel
theorem dX0_comeTide_43 : decode cX0_comeTide 43 = .ok (.getfield 19, 3) := by decide +kernel
theorem dX0_comeTide_46 : decode cX0_comeTide 46 = .ok (.iload_n 1, 1) := by decide +kernel
theorem dX0_comeTide_47 : decode cX0_comeTide 47 = .ok (.aaload, 1) := by decide +kernel
theorem dX0_comeTide_48 : decode cX0_comeTide 48 = .ok (.invokevirtual 139, 3) := by decide +kernel
theorem dX0_comeTide_51 : decode cX0_comeTide 51 = .ok (.invokevirtual 143, 3) := by decide +kernel
theorem dX0_comeTide_54 : decode cX0_comeTide 54 = .ok (.iinc 1 1, 3) := by decide +kernel
theorem dX0_comeTide_57 : decode cX0_comeTide 57 = .ok (.goto (-34), 3) := by decide +kernel
theorem dX0_comeTide_60 : decode cX0_comeTide 60 = .ok (.iconst 0, 1) := by decide +kernel
theorem dX0_comeTide_61 : decode cX0_comeTide 61 = .ok (.istore_n 1, 1) := by decide +kernel
theorem dX0_comeTide_62 : decode cX0_comeTide 62 = .ok (.iload_n 1, 1) := by decide +kernel
theorem dX0_comeTide_63 : decode cX0_comeTide 63 = .ok (.aload_n 0, 1) := by decide +kernel
theorem dX0_comeTide_64 : decode cX0_comeTide 64 = .ok (.getfield 44, 3) := by decide +kernel
theorem dX0_comeTide_67 : decode cX0_comeTide 67 = .ok (.if_icmp .ge 38, 3) := by decide +kernel
theorem dX0_comeTide_70 : decode cX0_comeTide 70 = .ok (.aload_n 0, 1) := by decide +kernel
theorem dX0_comeTide_71 : decode cX0_comeTide 71 = .ok (.getfield 13, 3) := by decide +kernel
theorem dX0_comeTide_74 : decode cX0_comeTide 74 = .ok (.iload_n 1, 1) := by decide +kernel
theorem dX0_comeTide_75 : decode cX0_comeTide 75 = .ok (.aaload, 1) := by decide +kernel
theorem dX0_comeTide_76 : decode cX0_comeTide 76 = .ok (.dup, 1) := by decide +kernel
theorem dX0_comeTide_77 : decode cX0_comeTide 77 = .ok (.getfield 70, 3) := by decide +kernel
theorem dX0_comeTide_80 : decode cX0_comeTide 80 = .ok (.aload_n 0, 1) := by decide +kernel
theorem dX0_comeTide_81 : decode cX0_comeTide 81 = .ok (.iload_n 1, 1) := by decide +kernel
theorem dX0_comeTide_82 : decode cX0_comeTide 82 = .ok (.invokevirtual 146, 3) := by decide +kernel
theorem dX0_comeTide_85 : decode cX0_comeTide 85 = .ok (.iadd, 1) := by decide +kernel
theorem dX0_comeTide_86 : decode cX0_comeTide 86 = .ok (.putfield 70, 3) := by decide +kernel
theorem dX0_comeTide_89 : decode cX0_comeTide 89 = .ok (.aload_n 0, 1) := by decide +kernel
theorem dX0_comeTide_90 : decode cX0_comeTide 90 = .ok (.getfield 13, 3) := by decide +kernel
theorem dX0_comeTide_93 : decode cX0_comeTide 93 = .ok (.iload_n 1, 1) := by decide +kernel
theorem dX0_comeTide_94 : decode cX0_comeTide 94 = .ok (.aaload, 1) := by decide +kernel
theorem dX0_comeTide_95 : decode cX0_comeTide 95 = .ok (.iconst 0, 1) := by decide +kernel
theorem dX0_comeTide_96 : decode cX0_comeTide 96 = .ok (.putfield 73, 3) := by decide +kernel
theorem dX0_comeTide_99 : decode cX0_comeTide 99 = .ok (.iinc 1 1, 3) := by decide +kernel
theorem dX0_comeTide_102 : decode cX0_comeTide 102 = .ok (.goto (-40), 3) := by decide +kernel
theorem dX0_comeTide_105 : decode cX0_comeTide 105 = .ok (.iconst 0, 1) := by decide +kernel
theorem dX0_comeTide_106 : decode cX0_comeTide 106 = .ok (.istore_n 1, 1) := by decide +kernel
theorem dX0_comeTide_107 : decode cX0_comeTide 107 = .ok (.iload_n 1, 1) := by decide +kernel
theorem dX0_comeTide_108 : decode cX0_comeTide 108 = .ok (.aload_n 0, 1) := by decide +kernel
theorem dX0_comeTide_109 : decode cX0_comeTide 109 = .ok (.getfield 47, 3) := by decide +kernel
theorem dX0_comeTide_112 : decode cX0_comeTide 112 = .ok (.if_icmp .ge 29, 3) := by decide +kernel
theorem dX0_comeTide_115 : decode cX0_comeTide 115 = .ok (.aload_n 0, 1) := by decide +kernel
theorem dX0_comeTide_116 : decode cX0_comeTide 116 = .ok (.getfield 19, 3) := by decide +kernel
theorem dX0_comeTide_119 : decode cX0_comeTide 119 = .ok (.iload_n 1, 1) := by decide +kernel
theorem dX0_comeTide_120 : decode cX0_comeTide 120 = .ok (.aaload, 1) := by decide +kernel
theorem dX0_comeTide_121 : decode cX0_comeTide 121 = .ok (.iconst 0, 1) := by decide +kernel
theorem dX0_comeTide_122 : decode cX0_comeTide 122 = .ok (.putfield 84, 3) := by decide +kernel
theorem dX0_comeTide_125 : decode cX0_comeTide 125 = .ok (.aload_n 0, 1) := by decide +kernel
theorem dX0_comeTide_126 : decode cX0_comeTide 126 = .ok (.getfield 19, 3) := by decide +kernel
theorem dX0_comeTide_129 : decode cX0_comeTide 129 = .ok (.iload_n 1, 1) := by decide +kernel
theorem dX0_comeTide_130 : decode cX0_comeTide 130 = .ok (.aaload, 1) := by decide +kernel
theorem dX0_comeTide_131 : decode cX0_comeTide 131 = .ok (.iconst 0, 1) := by decide +kernel
theorem dX0_comeTide_132 : decode cX0_comeTide 132 = .ok (.putfield 88, 3) := by decide +kernel
theorem dX0_comeTide_135 : decode cX0_comeTide 135 = .ok (.iinc 1 1, 3) := by decide +kernel
theorem dX0_comeTide_138 : decode cX0_comeTide 138 = .ok (.goto (-31), 3) := by decide +kernel
theorem dX0_comeTide_141 : decode cX0_comeTide 141 = .ok (.aload_n 0, 1) := by decide +kernel
theorem dX0_comeTide_142 : decode cX0_comeTide 142 = .ok (.aload_n 0, 1) := by decide +kernel
theorem dX0_comeTide_143 : decode cX0_comeTide 143 = .ok (.iconst 1, 1) := by decide +kernel
theorem dX0_comeTide_144 : decode cX0_comeTide 144 = .ok (.invokevirtual 149, 3) := by decide +kernel
theorem dX0_comeTide_147 : decode cX0_comeTide 147 = .ok (.putfield 32, 3) := by decide +kernel
theorem dX0_comeTide_150 : decode cX0_comeTide 150 = .ok (.aload_n 0, 1) := by decide +kernel
theorem dX0_comeTide_151 : decode cX0_comeTide 151 = .ok (.dup, 1) := by decide +kernel
theorem dX0_comeTide_152 : decode cX0_comeTide 152 = .ok (.getfield 41, 3) := by decide +kernel
theorem dX0_comeTide_155 : decode cX0_comeTide 155 = .ok (.iconst 1, 1) := by decide +kernel
theorem dX0_comeTide_156 : decode cX0_comeTide 156 = .ok (.iadd, 1) := by decide +kernel
theorem dX0_comeTide_157 : decode cX0_comeTide 157 = .ok (.putfield 41, 3) := by decide +kernel
theorem dX0_comeTide_160 : decode cX0_comeTide 160 = .ok (.aload_n 0, 1) := by decide +kernel
theorem dX0_comeTide_161 : decode cX0_comeTide 161 = .ok (.aload_n 0, 1) := by decide +kernel
theorem dX0_comeTide_162 : decode cX0_comeTide 162 = .ok (.getfield 41, 3) := by decide +kernel
theorem dX0_comeTide_165 : decode cX0_comeTide 165 = .ok (.invokevirtual 91, 3) := by decide +kernel
theorem dX0_comeTide_168 : decode cX0_comeTide 168 = .ok (.ireturn, 1) := by decide +kernel
theorem dX6_tried_0 : decode cX6_tried 0 = .ok (.iload_n 2, 1) := by decide +kernel
theorem dX6_tried_1 : decode cX6_tried 1 = .ok (.ifCond .eq 13, 3) := by decide +kernel
theorem dX6_tried_4 : decode cX6_tried 4 = .ok (.aload_n 0, 1) := by decide +kernel
theorem dX6_tried_5 : decode cX6_tried 5 = .ok (.getfield 11, 3) := by decide +kernel
theorem dX6_tried_8 : decode cX6_tried 8 = .ok (.iconst 0, 1) := by decide +kernel
theorem dX6_tried_9 : decode cX6_tried 9 = .ok (.dup2, 1) := by decide +kernel
theorem dX6_tried_10 : decode cX6_tried 10 = .ok (.iaload, 1) := by decide +kernel
theorem dX6_tried_11 : decode cX6_tried 11 = .ok (.iconst 1, 1) := by decide +kernel
theorem dX6_tried_12 : decode cX6_tried 12 = .ok (.iadd, 1) := by decide +kernel
theorem dX6_tried_13 : decode cX6_tried 13 = .ok (.iastore, 1) := by decide +kernel
theorem dX6_tried_14 : decode cX6_tried 14 = .ok (.iload_n 1, 1) := by decide +kernel
theorem dX6_tried_15 : decode cX6_tried 15 = .ok (.iconst 1, 1) := by decide +kernel
theorem dX6_tried_16 : decode cX6_tried 16 = .ok (.iadd, 1) := by decide +kernel
theorem dX6_tried_17 : decode cX6_tried 17 = .ok (.ireturn, 1) := by decide +kernel
theorem dX6_comeTideAndDawn_0 : decode cX6_comeTideAndDawn 0 = .ok (.aload_n 0, 1) := by decide +kernel
theorem dX6_comeTideAndDawn_1 : decode cX6_comeTideAndDawn 1 = .ok (.getfield 20, 3) := by decide +kernel
theorem dX6_comeTideAndDawn_4 : decode cX6_comeTideAndDawn 4 = .ok (.invokevirtual 129, 3) := by decide +kernel
theorem dX6_comeTideAndDawn_7 : decode cX6_comeTideAndDawn 7 = .ok (.istore_n 2, 1) := by decide +kernel
theorem dX6_comeTideAndDawn_8 : decode cX6_comeTideAndDawn 8 = .ok (.iload_n 2, 1) := by decide +kernel
theorem dX6_comeTideAndDawn_9 : decode cX6_comeTideAndDawn 9 = .ok (.ifCond .ne 21, 3) := by decide +kernel
theorem dX6_comeTideAndDawn_12 : decode cX6_comeTideAndDawn 12 = .ok (.aload_n 0, 1) := by decide +kernel
theorem dX6_comeTideAndDawn_13 : decode cX6_comeTideAndDawn 13 = .ok (.getfield 20, 3) := by decide +kernel
theorem dX6_comeTideAndDawn_16 : decode cX6_comeTideAndDawn 16 = .ok (.invokevirtual 133, 3) := by decide +kernel
theorem dX6_comeTideAndDawn_19 : decode cX6_comeTideAndDawn 19 = .ok (.pop, 1) := by decide +kernel
theorem dX6_comeTideAndDawn_20 : decode cX6_comeTideAndDawn 20 = .ok (.aload_n 0, 1) := by decide +kernel
theorem dX6_comeTideAndDawn_21 : decode cX6_comeTideAndDawn 21 = .ok (.getfield 11, 3) := by decide +kernel
theorem dX6_comeTideAndDawn_24 : decode cX6_comeTideAndDawn 24 = .ok (.iconst 3, 1) := by decide +kernel
theorem dX6_comeTideAndDawn_25 : decode cX6_comeTideAndDawn 25 = .ok (.dup2, 1) := by decide +kernel
theorem dX6_comeTideAndDawn_26 : decode cX6_comeTideAndDawn 26 = .ok (.iaload, 1) := by decide +kernel
theorem dX6_comeTideAndDawn_27 : decode cX6_comeTideAndDawn 27 = .ok (.iconst 1, 1) := by decide +kernel
theorem dX6_comeTideAndDawn_28 : decode cX6_comeTideAndDawn 28 = .ok (.iadd, 1) := by decide +kernel
theorem dX6_comeTideAndDawn_29 : decode cX6_comeTideAndDawn 29 = .ok (.iastore, 1) := by decide +kernel
theorem dX6_comeTideAndDawn_30 : decode cX6_comeTideAndDawn 30 = .ok (.aload_n 0, 1) := by decide +kernel
theorem dX6_comeTideAndDawn_31 : decode cX6_comeTideAndDawn 31 = .ok (.iload_n 1, 1) := by decide +kernel
theorem dX6_comeTideAndDawn_32 : decode cX6_comeTideAndDawn 32 = .ok (.iload_n 2, 1) := by decide +kernel
theorem dX6_comeTideAndDawn_33 : decode cX6_comeTideAndDawn 33 = .ok (.invokevirtual 63, 3) := by decide +kernel
theorem dX6_comeTideAndDawn_36 : decode cX6_comeTideAndDawn 36 = .ok (.ireturn, 1) := by decide +kernel
theorem dX0_washBelow_0 : decode cX0_washBelow 0 = .ok (.iload_n 1, 1) := by decide +kernel
theorem dX0_washBelow_1 : decode cX0_washBelow 1 = .ok (.ifCond .lt 9, 3) := by decide +kernel
theorem dX0_washBelow_4 : decode cX0_washBelow 4 = .ok (.iload_n 1, 1) := by decide +kernel
theorem dX0_washBelow_5 : decode cX0_washBelow 5 = .ok (.bipush 40, 2) := by decide +kernel
theorem dX0_washBelow_7 : decode cX0_washBelow 7 = .ok (.if_icmp .le 5, 3) := by decide +kernel
theorem dX0_washBelow_10 : decode cX0_washBelow 10 = .ok (.iconst 1, 1) := by decide +kernel
theorem dX0_washBelow_11 : decode cX0_washBelow 11 = .ok (.ireturn, 1) := by decide +kernel
theorem dX0_washBelow_12 : decode cX0_washBelow 12 = .ok (.iconst 0, 1) := by decide +kernel
theorem dX0_washBelow_13 : decode cX0_washBelow 13 = .ok (.istore_n 2, 1) := by decide +kernel
theorem dX0_washBelow_14 : decode cX0_washBelow 14 = .ok (.iconst 0, 1) := by decide +kernel
theorem dX0_washBelow_15 : decode cX0_washBelow 15 = .ok (.istore_n 3, 1) := by decide +kernel
theorem dX0_washBelow_16 : decode cX0_washBelow 16 = .ok (.iload_n 3, 1) := by decide +kernel
theorem dX0_washBelow_17 : decode cX0_washBelow 17 = .ok (.aload_n 0, 1) := by decide +kernel
theorem dX0_washBelow_18 : decode cX0_washBelow 18 = .ok (.getfield 47, 3) := by decide +kernel
theorem dX0_washBelow_21 : decode cX0_washBelow 21 = .ok (.if_icmp .ge 44, 3) := by decide +kernel
theorem dX0_washBelow_24 : decode cX0_washBelow 24 = .ok (.aload_n 0, 1) := by decide +kernel
theorem dX0_washBelow_25 : decode cX0_washBelow 25 = .ok (.getfield 19, 3) := by decide +kernel
theorem dX0_washBelow_28 : decode cX0_washBelow 28 = .ok (.iload_n 3, 1) := by decide +kernel
theorem dX0_washBelow_29 : decode cX0_washBelow 29 = .ok (.aaload, 1) := by decide +kernel
theorem dX0_washBelow_30 : decode cX0_washBelow 30 = .ok (.getfield 80, 3) := by decide +kernel
theorem dX0_washBelow_33 : decode cX0_washBelow 33 = .ok (.iload_n 1, 1) := by decide +kernel
theorem dX0_washBelow_34 : decode cX0_washBelow 34 = .ok (.if_icmp .ge 25, 3) := by decide +kernel
theorem dX0_washBelow_37 : decode cX0_washBelow 37 = .ok (.iload_n 2, 1) := by decide +kernel
theorem dX0_washBelow_38 : decode cX0_washBelow 38 = .ok (.aload_n 0, 1) := by decide +kernel
theorem dX0_washBelow_39 : decode cX0_washBelow 39 = .ok (.getfield 19, 3) := by decide +kernel
theorem dX0_washBelow_42 : decode cX0_washBelow 42 = .ok (.iload_n 3, 1) := by decide +kernel
theorem dX0_washBelow_43 : decode cX0_washBelow 43 = .ok (.aaload, 1) := by decide +kernel
theorem dX0_washBelow_44 : decode cX0_washBelow 44 = .ok (.getfield 88, 3) := by decide +kernel
theorem dX0_washBelow_47 : decode cX0_washBelow 47 = .ok (.iadd, 1) := by decide +kernel
theorem dX0_washBelow_48 : decode cX0_washBelow 48 = .ok (.istore_n 2, 1) := by decide +kernel
theorem dX0_washBelow_49 : decode cX0_washBelow 49 = .ok (.aload_n 0, 1) := by decide +kernel
theorem dX0_washBelow_50 : decode cX0_washBelow 50 = .ok (.getfield 19, 3) := by decide +kernel
theorem dX0_washBelow_53 : decode cX0_washBelow 53 = .ok (.iload_n 3, 1) := by decide +kernel
theorem dX0_washBelow_54 : decode cX0_washBelow 54 = .ok (.aaload, 1) := by decide +kernel
theorem dX0_washBelow_55 : decode cX0_washBelow 55 = .ok (.iconst 0, 1) := by decide +kernel
theorem dX0_washBelow_56 : decode cX0_washBelow 56 = .ok (.putfield 88, 3) := by decide +kernel
theorem dX0_washBelow_59 : decode cX0_washBelow 59 = .ok (.iinc 3 1, 3) := by decide +kernel
theorem dX0_washBelow_62 : decode cX0_washBelow 62 = .ok (.goto (-46), 3) := by decide +kernel
theorem dX0_washBelow_65 : decode cX0_washBelow 65 = .ok (.aload_n 0, 1) := by decide +kernel
theorem dX0_washBelow_66 : decode cX0_washBelow 66 = .ok (.iload_n 2, 1) := by decide +kernel
theorem dX0_washBelow_67 : decode cX0_washBelow 67 = .ok (.invokevirtual 91, 3) := by decide +kernel
theorem dX0_washBelow_70 : decode cX0_washBelow 70 = .ok (.ireturn, 1) := by decide +kernel
theorem dX6_comeWave_0 : decode cX6_comeWave 0 = .ok (.aload_n 0, 1) := by decide +kernel
theorem dX6_comeWave_1 : decode cX6_comeWave 1 = .ok (.getfield 20, 3) := by decide +kernel
theorem dX6_comeWave_4 : decode cX6_comeWave 4 = .ok (.iload_n 2, 1) := by decide +kernel
theorem dX6_comeWave_5 : decode cX6_comeWave 5 = .ok (.invokevirtual 123, 3) := by decide +kernel
theorem dX6_comeWave_8 : decode cX6_comeWave 8 = .ok (.istore_n 3, 1) := by decide +kernel
theorem dX6_comeWave_9 : decode cX6_comeWave 9 = .ok (.iload_n 3, 1) := by decide +kernel
theorem dX6_comeWave_10 : decode cX6_comeWave 10 = .ok (.ifCond .ne 19, 3) := by decide +kernel
theorem dX6_comeWave_13 : decode cX6_comeWave 13 = .ok (.aload_n 0, 1) := by decide +kernel
theorem dX6_comeWave_14 : decode cX6_comeWave 14 = .ok (.getfield 11, 3) := by decide +kernel
theorem dX6_comeWave_17 : decode cX6_comeWave 17 = .ok (.iconst 2, 1) := by decide +kernel
theorem dX6_comeWave_18 : decode cX6_comeWave 18 = .ok (.dup2, 1) := by decide +kernel
theorem dX6_comeWave_19 : decode cX6_comeWave 19 = .ok (.iaload, 1) := by decide +kernel
theorem dX6_comeWave_20 : decode cX6_comeWave 20 = .ok (.aload_n 0, 1) := by decide +kernel
theorem dX6_comeWave_21 : decode cX6_comeWave 21 = .ok (.getfield 20, 3) := by decide +kernel
theorem dX6_comeWave_24 : decode cX6_comeWave 24 = .ok (.getfield 126, 3) := by decide +kernel
theorem dX6_comeWave_27 : decode cX6_comeWave 27 = .ok (.iadd, 1) := by decide +kernel
theorem dX6_comeWave_28 : decode cX6_comeWave 28 = .ok (.iastore, 1) := by decide +kernel
theorem dX6_comeWave_29 : decode cX6_comeWave 29 = .ok (.aload_n 0, 1) := by decide +kernel
theorem dX6_comeWave_30 : decode cX6_comeWave 30 = .ok (.iload_n 1, 1) := by decide +kernel
theorem dX6_comeWave_31 : decode cX6_comeWave 31 = .ok (.iload_n 3, 1) := by decide +kernel
theorem dX6_comeWave_32 : decode cX6_comeWave 32 = .ok (.invokevirtual 63, 3) := by decide +kernel
theorem dX6_comeWave_35 : decode cX6_comeWave 35 = .ok (.ireturn, 1) := by decide +kernel
theorem dX6_compares_0 : decode cX6_compares 0 = .ok (.iload_n 1, 1) := by decide +kernel
theorem dX6_compares_1 : decode cX6_compares 1 = .ok (.lookupswitch 49 #[(60, 27), (62, 38)], 27) := by decide +kernel
theorem dX6_compares_28 : decode cX6_compares 28 = .ok (.iload_n 0, 1) := by decide +kernel
theorem dX6_compares_29 : decode cX6_compares 29 = .ok (.iload_n 2, 1) := by decide +kernel
theorem dX6_compares_30 : decode cX6_compares 30 = .ok (.if_icmp .ge 7, 3) := by decide +kernel
theorem dX6_compares_33 : decode cX6_compares 33 = .ok (.iconst 1, 1) := by decide +kernel
theorem dX6_compares_34 : decode cX6_compares 34 = .ok (.goto 4, 3) := by decide +kernel
theorem dX6_compares_37 : decode cX6_compares 37 = .ok (.iconst 0, 1) := by decide +kernel
theorem dX6_compares_38 : decode cX6_compares 38 = .ok (.ireturn, 1) := by decide +kernel
theorem dX6_compares_39 : decode cX6_compares 39 = .ok (.iload_n 0, 1) := by decide +kernel
theorem dX6_compares_40 : decode cX6_compares 40 = .ok (.iload_n 2, 1) := by decide +kernel
theorem dX6_compares_41 : decode cX6_compares 41 = .ok (.if_icmp .le 7, 3) := by decide +kernel
theorem dX6_compares_44 : decode cX6_compares 44 = .ok (.iconst 1, 1) := by decide +kernel
theorem dX6_compares_45 : decode cX6_compares 45 = .ok (.goto 4, 3) := by decide +kernel
theorem dX6_compares_48 : decode cX6_compares 48 = .ok (.iconst 0, 1) := by decide +kernel
theorem dX6_compares_49 : decode cX6_compares 49 = .ok (.ireturn, 1) := by decide +kernel
theorem dX6_compares_50 : decode cX6_compares 50 = .ok (.iload_n 0, 1) := by decide +kernel
theorem dX6_compares_51 : decode cX6_compares 51 = .ok (.iload_n 2, 1) := by decide +kernel
theorem dX6_compares_52 : decode cX6_compares 52 = .ok (.if_icmp .ne 7, 3) := by decide +kernel
theorem dX6_compares_55 : decode cX6_compares 55 = .ok (.iconst 1, 1) := by decide +kernel
theorem dX6_compares_56 : decode cX6_compares 56 = .ok (.goto 4, 3) := by decide +kernel
theorem dX6_compares_59 : decode cX6_compares 59 = .ok (.iconst 0, 1) := by decide +kernel
theorem dX6_compares_60 : decode cX6_compares 60 = .ok (.ireturn, 1) := by decide +kernel
theorem dX6_draw_0 : decode cX6_draw 0 = .ok (.aload_n 0, 1) := by decide +kernel
theorem dX6_draw_1 : decode cX6_draw 1 = .ok (.aload_n 0, 1) := by decide +kernel
theorem dX6_draw_2 : decode cX6_draw 2 = .ok (.getfield 28, 3) := by decide +kernel
theorem dX6_draw_5 : decode cX6_draw 5 = .ok (.sipush 2843, 3) := by decide +kernel
theorem dX6_draw_8 : decode cX6_draw 8 = .ok (.imul, 1) := by decide +kernel
theorem dX6_draw_9 : decode cX6_draw 9 = .ok (.sipush 10709, 3) := by decide +kernel
theorem dX6_draw_12 : decode cX6_draw 12 = .ok (.iadd, 1) := by decide +kernel
theorem dX6_draw_13 : decode cX6_draw 13 = .ok (.ldc 122, 2) := by decide +kernel
theorem dX6_draw_15 : decode cX6_draw 15 = .ok (.irem, 1) := by decide +kernel
theorem dX6_draw_16 : decode cX6_draw 16 = .ok (.putfield 28, 3) := by decide +kernel
theorem dX6_draw_19 : decode cX6_draw 19 = .ok (.iload_n 1, 1) := by decide +kernel
theorem dX6_draw_20 : decode cX6_draw 20 = .ok (.ifCond .le 15, 3) := by decide +kernel
theorem dX6_draw_23 : decode cX6_draw 23 = .ok (.aload_n 0, 1) := by decide +kernel
theorem dX6_draw_24 : decode cX6_draw 24 = .ok (.getfield 28, 3) := by decide +kernel
theorem dX6_draw_27 : decode cX6_draw 27 = .ok (.bipush 8, 2) := by decide +kernel
theorem dX6_draw_29 : decode cX6_draw 29 = .ok (.idiv, 1) := by decide +kernel
theorem dX6_draw_30 : decode cX6_draw 30 = .ok (.iload_n 1, 1) := by decide +kernel
theorem dX6_draw_31 : decode cX6_draw 31 = .ok (.irem, 1) := by decide +kernel
theorem dX6_draw_32 : decode cX6_draw 32 = .ok (.goto 4, 3) := by decide +kernel
theorem dX6_draw_35 : decode cX6_draw 35 = .ok (.iconst 0, 1) := by decide +kernel
theorem dX6_draw_36 : decode cX6_draw 36 = .ok (.ireturn, 1) := by decide +kernel
theorem dX6_gullMayCarry_0 : decode cX6_gullMayCarry 0 = .ok (.aload_n 0, 1) := by decide +kernel
theorem dX6_gullMayCarry_1 : decode cX6_gullMayCarry 1 = .ok (.bipush 16, 2) := by decide +kernel
theorem dX6_gullMayCarry_3 : decode cX6_gullMayCarry 3 = .ok (.invokevirtual 113, 3) := by decide +kernel
theorem dX6_gullMayCarry_6 : decode cX6_gullMayCarry 6 = .ok (.iload_n 2, 1) := by decide +kernel
theorem dX6_gullMayCarry_7 : decode cX6_gullMayCarry 7 = .ok (.if_icmp .ge 7, 3) := by decide +kernel
theorem dX6_gullMayCarry_10 : decode cX6_gullMayCarry 10 = .ok (.iconst 1, 1) := by decide +kernel
theorem dX6_gullMayCarry_11 : decode cX6_gullMayCarry 11 = .ok (.goto 4, 3) := by decide +kernel
theorem dX6_gullMayCarry_14 : decode cX6_gullMayCarry 14 = .ok (.iconst 0, 1) := by decide +kernel
theorem dX6_gullMayCarry_15 : decode cX6_gullMayCarry 15 = .ok (.istore_n 3, 1) := by decide +kernel
theorem dX6_gullMayCarry_16 : decode cX6_gullMayCarry 16 = .ok (.iload_n 3, 1) := by decide +kernel
theorem dX6_gullMayCarry_17 : decode cX6_gullMayCarry 17 = .ok (.ifCond .eq 76, 3) := by decide +kernel
theorem dX6_gullMayCarry_20 : decode cX6_gullMayCarry 20 = .ok (.aload_n 0, 1) := by decide +kernel
theorem dX6_gullMayCarry_21 : decode cX6_gullMayCarry 21 = .ok (.getfield 20, 3) := by decide +kernel
theorem dX6_gullMayCarry_24 : decode cX6_gullMayCarry 24 = .ok (.getfield 116, 3) := by decide +kernel
theorem dX6_gullMayCarry_27 : decode cX6_gullMayCarry 27 = .ok (.iconst 2, 1) := by decide +kernel
theorem dX6_gullMayCarry_28 : decode cX6_gullMayCarry 28 = .ok (.if_icmp .lt 65, 3) := by decide +kernel
theorem dX6_gullMayCarry_31 : decode cX6_gullMayCarry 31 = .ok (.aload_n 0, 1) := by decide +kernel
theorem dX6_gullMayCarry_32 : decode cX6_gullMayCarry 32 = .ok (.aload_n 0, 1) := by decide +kernel
theorem dX6_gullMayCarry_33 : decode cX6_gullMayCarry 33 = .ok (.getfield 20, 3) := by decide +kernel
theorem dX6_gullMayCarry_36 : decode cX6_gullMayCarry 36 = .ok (.getfield 116, 3) := by decide +kernel
theorem dX6_gullMayCarry_39 : decode cX6_gullMayCarry 39 = .ok (.invokevirtual 113, 3) := by decide +kernel
theorem dX6_gullMayCarry_42 : decode cX6_gullMayCarry 42 = .ok (.istore 4, 2) := by decide +kernel
theorem dX6_gullMayCarry_44 : decode cX6_gullMayCarry 44 = .ok (.aload_n 0, 1) := by decide +kernel
theorem dX6_gullMayCarry_45 : decode cX6_gullMayCarry 45 = .ok (.aload_n 0, 1) := by decide +kernel
theorem dX6_gullMayCarry_46 : decode cX6_gullMayCarry 46 = .ok (.getfield 20, 3) := by decide +kernel
theorem dX6_gullMayCarry_49 : decode cX6_gullMayCarry 49 = .ok (.getfield 116, 3) := by decide +kernel
theorem dX6_gullMayCarry_52 : decode cX6_gullMayCarry 52 = .ok (.iconst 1, 1) := by decide +kernel
theorem dX6_gullMayCarry_53 : decode cX6_gullMayCarry 53 = .ok (.isub, 1) := by decide +kernel
theorem dX6_gullMayCarry_54 : decode cX6_gullMayCarry 54 = .ok (.invokevirtual 113, 3) := by decide +kernel
theorem dX6_gullMayCarry_57 : decode cX6_gullMayCarry 57 = .ok (.istore 5, 2) := by decide +kernel
theorem dX6_gullMayCarry_59 : decode cX6_gullMayCarry 59 = .ok (.iload 5, 2) := by decide +kernel
theorem dX6_gullMayCarry_61 : decode cX6_gullMayCarry 61 = .ok (.iload 4, 2) := by decide +kernel
theorem dX6_gullMayCarry_63 : decode cX6_gullMayCarry 63 = .ok (.if_icmp .lt 6, 3) := by decide +kernel
theorem dX6_gullMayCarry_66 : decode cX6_gullMayCarry 66 = .ok (.iinc 5 1, 3) := by decide +kernel
theorem dX6_gullMayCarry_69 : decode cX6_gullMayCarry 69 = .ok (.aload_n 0, 1) := by decide +kernel
theorem dX6_gullMayCarry_70 : decode cX6_gullMayCarry 70 = .ok (.getfield 20, 3) := by decide +kernel
theorem dX6_gullMayCarry_73 : decode cX6_gullMayCarry 73 = .ok (.iload 4, 2) := by decide +kernel
theorem dX6_gullMayCarry_75 : decode cX6_gullMayCarry 75 = .ok (.iload 5, 2) := by decide +kernel
theorem dX6_gullMayCarry_77 : decode cX6_gullMayCarry 77 = .ok (.invokevirtual 119, 3) := by decide +kernel
theorem dX6_gullMayCarry_80 : decode cX6_gullMayCarry 80 = .ok (.ifCond .ne 13, 3) := by decide +kernel
theorem dX6_gullMayCarry_83 : decode cX6_gullMayCarry 83 = .ok (.aload_n 0, 1) := by decide +kernel
theorem dX6_gullMayCarry_84 : decode cX6_gullMayCarry 84 = .ok (.getfield 11, 3) := by decide +kernel
theorem dX6_gullMayCarry_87 : decode cX6_gullMayCarry 87 = .ok (.iconst 1, 1) := by decide +kernel
theorem dX6_gullMayCarry_88 : decode cX6_gullMayCarry 88 = .ok (.dup2, 1) := by decide +kernel
theorem dX6_gullMayCarry_89 : decode cX6_gullMayCarry 89 = .ok (.iaload, 1) := by decide +kernel
theorem dX6_gullMayCarry_90 : decode cX6_gullMayCarry 90 = .ok (.iconst 1, 1) := by decide +kernel
theorem dX6_gullMayCarry_91 : decode cX6_gullMayCarry 91 = .ok (.iadd, 1) := by decide +kernel
theorem dX6_gullMayCarry_92 : decode cX6_gullMayCarry 92 = .ok (.iastore, 1) := by decide +kernel
theorem dX6_gullMayCarry_93 : decode cX6_gullMayCarry 93 = .ok (.iload_n 1, 1) := by decide +kernel
theorem dX6_gullMayCarry_94 : decode cX6_gullMayCarry 94 = .ok (.iconst 1, 1) := by decide +kernel
theorem dX6_gullMayCarry_95 : decode cX6_gullMayCarry 95 = .ok (.iadd, 1) := by decide +kernel
theorem dX6_gullMayCarry_96 : decode cX6_gullMayCarry 96 = .ok (.ireturn, 1) := by decide +kernel
theorem dX6_isFree_0 : decode cX6_isFree 0 = .ok (.aload_n 0, 1) := by decide +kernel
theorem dX6_isFree_1 : decode cX6_isFree 1 = .ok (.ifnull 21, 3) := by decide +kernel
theorem dX6_isFree_4 : decode cX6_isFree 4 = .ok (.aload_n 0, 1) := by decide +kernel
theorem dX6_isFree_5 : decode cX6_isFree 5 = .ok (.getfield 141, 3) := by decide +kernel
theorem dX6_isFree_8 : decode cX6_isFree 8 = .ok (.ifCond .eq 14, 3) := by decide +kernel
theorem dX6_isFree_11 : decode cX6_isFree 11 = .ok (.aload_n 0, 1) := by decide +kernel
theorem dX6_isFree_12 : decode cX6_isFree 12 = .ok (.getfield 145, 3) := by decide +kernel
theorem dX6_isFree_15 : decode cX6_isFree 15 = .ok (.ifCond .ne 7, 3) := by decide +kernel
theorem dX6_isFree_18 : decode cX6_isFree 18 = .ok (.iconst 1, 1) := by decide +kernel
theorem dX6_isFree_19 : decode cX6_isFree 19 = .ok (.goto 4, 3) := by decide +kernel
theorem dX6_isFree_22 : decode cX6_isFree 22 = .ok (.iconst 0, 1) := by decide +kernel
theorem dX6_isFree_23 : decode cX6_isFree 23 = .ok (.ireturn, 1) := by decide +kernel
theorem dX6_isLast_0 : decode cX6_isLast 0 = .ok (.aload_n 1, 1) := by decide +kernel
theorem dX6_isLast_1 : decode cX6_isLast 1 = .ok (.ifnull 19, 3) := by decide +kernel
theorem dX6_isLast_4 : decode cX6_isLast 4 = .ok (.aload_n 1, 1) := by decide +kernel
theorem dX6_isLast_5 : decode cX6_isLast 5 = .ok (.invokevirtual 136, 3) := by decide +kernel
theorem dX6_isLast_8 : decode cX6_isLast 8 = .ok (.iload_n 0, 1) := by decide +kernel
theorem dX6_isLast_9 : decode cX6_isLast 9 = .ok (.ishr, 1) := by decide +kernel
theorem dX6_isLast_10 : decode cX6_isLast 10 = .ok (.iconst 1, 1) := by decide +kernel
theorem dX6_isLast_11 : decode cX6_isLast 11 = .ok (.iand, 1) := by decide +kernel
theorem dX6_isLast_12 : decode cX6_isLast 12 = .ok (.iconst 1, 1) := by decide +kernel
theorem dX6_isLast_13 : decode cX6_isLast 13 = .ok (.if_icmp .ne 7, 3) := by decide +kernel
theorem dX6_isLast_16 : decode cX6_isLast 16 = .ok (.iconst 1, 1) := by decide +kernel
theorem dX6_isLast_17 : decode cX6_isLast 17 = .ok (.goto 4, 3) := by decide +kernel
theorem dX6_isLast_20 : decode cX6_isLast 20 = .ok (.iconst 0, 1) := by decide +kernel
theorem dX6_isLast_21 : decode cX6_isLast 21 = .ok (.ireturn, 1) := by decide +kernel
theorem dX6_behindStep_0 : decode cX6_behindStep 0 = .ok (.aload_n 0, 1) := by decide +kernel
theorem dX6_behindStep_1 : decode cX6_behindStep 1 = .ok (.getfield 24, 3) := by decide +kernel
theorem dX6_behindStep_4 : decode cX6_behindStep 4 = .ok (.getfield 51, 3) := by decide +kernel
theorem dX6_behindStep_7 : decode cX6_behindStep 7 = .ok (.iload_n 1, 1) := by decide +kernel
theorem dX6_behindStep_8 : decode cX6_behindStep 8 = .ok (.iaload, 1) := by decide +kernel
theorem dX6_behindStep_9 : decode cX6_behindStep 9 = .ok (.istore_n 2, 1) := by decide +kernel
theorem dX6_behindStep_10 : decode cX6_behindStep 10 = .ok (.aload_n 0, 1) := by decide +kernel
theorem dX6_behindStep_11 : decode cX6_behindStep 11 = .ok (.getfield 24, 3) := by decide +kernel
theorem dX6_behindStep_14 : decode cX6_behindStep 14 = .ok (.getfield 54, 3) := by decide +kernel
theorem dX6_behindStep_17 : decode cX6_behindStep 17 = .ok (.iload_n 1, 1) := by decide +kernel
theorem dX6_behindStep_18 : decode cX6_behindStep 18 = .ok (.iaload, 1) := by decide +kernel
theorem dX6_behindStep_19 : decode cX6_behindStep 19 = .ok (.istore_n 3, 1) := by decide +kernel
theorem dX6_behindStep_20 : decode cX6_behindStep 20 = .ok (.aload_n 0, 1) := by decide +kernel
theorem dX6_behindStep_21 : decode cX6_behindStep 21 = .ok (.getfield 24, 3) := by decide +kernel
theorem dX6_behindStep_24 : decode cX6_behindStep 24 = .ok (.getfield 36, 3) := by decide +kernel
theorem dX6_behindStep_27 : decode cX6_behindStep 27 = .ok (.iload_n 1, 1) := by decide +kernel
theorem dX6_behindStep_28 : decode cX6_behindStep 28 = .ok (.iaload, 1) := by decide +kernel
theorem dX6_behindStep_29 : decode cX6_behindStep 29 = .ok (.tableswitch 272 1 27 #[197, 272, 272, 272, 272, 272, 272, 272, 272, 272, 272, 272, 272, 272, 237, 272, 272, 123, 138, 153, 168, 183, 190, 272, 210, 255, 203], 123) := by decide +kernel
theorem dX6_behindStep_152 : decode cX6_behindStep 152 = .ok (.aload_n 0, 1) := by decide +kernel
theorem dX6_behindStep_153 : decode cX6_behindStep 153 = .ok (.iload_n 1, 1) := by decide +kernel
theorem dX6_behindStep_154 : decode cX6_behindStep 154 = .ok (.aload_n 0, 1) := by decide +kernel
theorem dX6_behindStep_155 : decode cX6_behindStep 155 = .ok (.getfield 20, 3) := by decide +kernel
theorem dX6_behindStep_158 : decode cX6_behindStep 158 = .ok (.iload_n 2, 1) := by decide +kernel
theorem dX6_behindStep_159 : decode cX6_behindStep 159 = .ok (.iload_n 3, 1) := by decide +kernel
theorem dX6_behindStep_160 : decode cX6_behindStep 160 = .ok (.invokevirtual 57, 3) := by decide +kernel
theorem dX6_behindStep_163 : decode cX6_behindStep 163 = .ok (.invokevirtual 63, 3) := by decide +kernel
theorem dX6_behindStep_166 : decode cX6_behindStep 166 = .ok (.ireturn, 1) := by decide +kernel
theorem dX6_behindStep_167 : decode cX6_behindStep 167 = .ok (.aload_n 0, 1) := by decide +kernel
theorem dX6_behindStep_168 : decode cX6_behindStep 168 = .ok (.iload_n 1, 1) := by decide +kernel
theorem dX6_behindStep_169 : decode cX6_behindStep 169 = .ok (.aload_n 0, 1) := by decide +kernel
theorem dX6_behindStep_170 : decode cX6_behindStep 170 = .ok (.getfield 20, 3) := by decide +kernel
theorem dX6_behindStep_173 : decode cX6_behindStep 173 = .ok (.iload_n 2, 1) := by decide +kernel
theorem dX6_behindStep_174 : decode cX6_behindStep 174 = .ok (.iload_n 3, 1) := by decide +kernel
theorem dX6_behindStep_175 : decode cX6_behindStep 175 = .ok (.invokevirtual 66, 3) := by decide +kernel
theorem dX6_behindStep_178 : decode cX6_behindStep 178 = .ok (.invokevirtual 63, 3) := by decide +kernel
theorem dX6_behindStep_181 : decode cX6_behindStep 181 = .ok (.ireturn, 1) := by decide +kernel
theorem dX6_behindStep_182 : decode cX6_behindStep 182 = .ok (.aload_n 0, 1) := by decide +kernel
theorem dX6_behindStep_183 : decode cX6_behindStep 183 = .ok (.iload_n 1, 1) := by decide +kernel
theorem dX6_behindStep_184 : decode cX6_behindStep 184 = .ok (.aload_n 0, 1) := by decide +kernel
theorem dX6_behindStep_185 : decode cX6_behindStep 185 = .ok (.getfield 20, 3) := by decide +kernel
theorem dX6_behindStep_188 : decode cX6_behindStep 188 = .ok (.iload_n 2, 1) := by decide +kernel
theorem dX6_behindStep_189 : decode cX6_behindStep 189 = .ok (.iload_n 3, 1) := by decide +kernel
theorem dX6_behindStep_190 : decode cX6_behindStep 190 = .ok (.invokevirtual 69, 3) := by decide +kernel
theorem dX6_behindStep_193 : decode cX6_behindStep 193 = .ok (.invokevirtual 63, 3) := by decide +kernel
theorem dX6_behindStep_196 : decode cX6_behindStep 196 = .ok (.ireturn, 1) := by decide +kernel
theorem dX6_behindStep_197 : decode cX6_behindStep 197 = .ok (.aload_n 0, 1) := by decide +kernel
theorem dX6_behindStep_198 : decode cX6_behindStep 198 = .ok (.iload_n 1, 1) := by decide +kernel
theorem dX6_behindStep_199 : decode cX6_behindStep 199 = .ok (.aload_n 0, 1) := by decide +kernel
theorem dX6_behindStep_200 : decode cX6_behindStep 200 = .ok (.getfield 20, 3) := by decide +kernel
theorem dX6_behindStep_203 : decode cX6_behindStep 203 = .ok (.iload_n 2, 1) := by decide +kernel
theorem dX6_behindStep_204 : decode cX6_behindStep 204 = .ok (.iload_n 3, 1) := by decide +kernel
theorem dX6_behindStep_205 : decode cX6_behindStep 205 = .ok (.invokevirtual 72, 3) := by decide +kernel
theorem dX6_behindStep_208 : decode cX6_behindStep 208 = .ok (.invokevirtual 63, 3) := by decide +kernel
theorem dX6_behindStep_211 : decode cX6_behindStep 211 = .ok (.ireturn, 1) := by decide +kernel
theorem dX6_behindStep_212 : decode cX6_behindStep 212 = .ok (.aload_n 0, 1) := by decide +kernel
theorem dX6_behindStep_213 : decode cX6_behindStep 213 = .ok (.iload_n 1, 1) := by decide +kernel
theorem dX6_behindStep_214 : decode cX6_behindStep 214 = .ok (.iload_n 2, 1) := by decide +kernel
theorem dX6_behindStep_215 : decode cX6_behindStep 215 = .ok (.invokevirtual 75, 3) := by decide +kernel
theorem dX6_behindStep_218 : decode cX6_behindStep 218 = .ok (.ireturn, 1) := by decide +kernel
theorem dX6_behindStep_219 : decode cX6_behindStep 219 = .ok (.aload_n 0, 1) := by decide +kernel
theorem dX6_behindStep_220 : decode cX6_behindStep 220 = .ok (.iload_n 1, 1) := by decide +kernel
theorem dX6_behindStep_221 : decode cX6_behindStep 221 = .ok (.iload_n 2, 1) := by decide +kernel
theorem dX6_behindStep_222 : decode cX6_behindStep 222 = .ok (.invokevirtual 78, 3) := by decide +kernel
theorem dX6_behindStep_225 : decode cX6_behindStep 225 = .ok (.ireturn, 1) := by decide +kernel
theorem dX6_behindStep_226 : decode cX6_behindStep 226 = .ok (.aload_n 0, 1) := by decide +kernel
theorem dX6_behindStep_227 : decode cX6_behindStep 227 = .ok (.iload_n 1, 1) := by decide +kernel
theorem dX6_behindStep_228 : decode cX6_behindStep 228 = .ok (.invokevirtual 81, 3) := by decide +kernel
theorem dX6_behindStep_231 : decode cX6_behindStep 231 = .ok (.ireturn, 1) := by decide +kernel
theorem dX6_behindStep_232 : decode cX6_behindStep 232 = .ok (.aload_n 0, 1) := by decide +kernel
theorem dX6_behindStep_233 : decode cX6_behindStep 233 = .ok (.iload_n 1, 1) := by decide +kernel
theorem dX6_behindStep_234 : decode cX6_behindStep 234 = .ok (.iload_n 2, 1) := by decide +kernel
theorem dX6_behindStep_235 : decode cX6_behindStep 235 = .ok (.invokevirtual 84, 3) := by decide +kernel
theorem dX6_behindStep_238 : decode cX6_behindStep 238 = .ok (.ireturn, 1) := by decide +kernel
theorem dX6_behindStep_239 : decode cX6_behindStep 239 = .ok (.aload_n 0, 1) := by decide +kernel
theorem dX6_behindStep_240 : decode cX6_behindStep 240 = .ok (.iload_n 1, 1) := by decide +kernel
theorem dX6_behindStep_241 : decode cX6_behindStep 241 = .ok (.aload_n 0, 1) := by decide +kernel
theorem dX6_behindStep_242 : decode cX6_behindStep 242 = .ok (.getfield 20, 3) := by decide +kernel
theorem dX6_behindStep_245 : decode cX6_behindStep 245 = .ok (.iload_n 2, 1) := by decide +kernel
theorem dX6_behindStep_246 : decode cX6_behindStep 246 = .ok (.invokevirtual 87, 3) := by decide +kernel
theorem dX6_behindStep_249 : decode cX6_behindStep 249 = .ok (.aload_n 0, 1) := by decide +kernel
theorem dX6_behindStep_250 : decode cX6_behindStep 250 = .ok (.getfield 24, 3) := by decide +kernel
theorem dX6_behindStep_253 : decode cX6_behindStep 253 = .ok (.getfield 90, 3) := by decide +kernel
theorem dX6_behindStep_256 : decode cX6_behindStep 256 = .ok (.iload_n 1, 1) := by decide +kernel
theorem dX6_behindStep_257 : decode cX6_behindStep 257 = .ok (.iaload, 1) := by decide +kernel
theorem dX6_behindStep_258 : decode cX6_behindStep 258 = .ok (.iload_n 3, 1) := by decide +kernel
theorem dX6_behindStep_259 : decode cX6_behindStep 259 = .ok (.invokestatic 93, 3) := by decide +kernel
theorem dX6_behindStep_262 : decode cX6_behindStep 262 = .ok (.invokevirtual 97, 3) := by decide +kernel
theorem dX6_behindStep_265 : decode cX6_behindStep 265 = .ok (.ireturn, 1) := by decide +kernel
theorem dX6_behindStep_266 : decode cX6_behindStep 266 = .ok (.aload_n 0, 1) := by decide +kernel
theorem dX6_behindStep_267 : decode cX6_behindStep 267 = .ok (.iload_n 1, 1) := by decide +kernel
theorem dX6_behindStep_268 : decode cX6_behindStep 268 = .ok (.iload_n 2, 1) := by decide +kernel
theorem dX6_behindStep_269 : decode cX6_behindStep 269 = .ok (.aload_n 0, 1) := by decide +kernel
theorem dX6_behindStep_270 : decode cX6_behindStep 270 = .ok (.getfield 20, 3) := by decide +kernel
theorem dX6_behindStep_273 : decode cX6_behindStep 273 = .ok (.iload_n 3, 1) := by decide +kernel
theorem dX6_behindStep_274 : decode cX6_behindStep 274 = .ok (.invokevirtual 101, 3) := by decide +kernel
theorem dX6_behindStep_277 : decode cX6_behindStep 277 = .ok (.invokestatic 105, 3) := by decide +kernel
theorem dX6_behindStep_280 : decode cX6_behindStep 280 = .ok (.invokevirtual 97, 3) := by decide +kernel
theorem dX6_behindStep_283 : decode cX6_behindStep 283 = .ok (.ireturn, 1) := by decide +kernel
theorem dX6_behindStep_284 : decode cX6_behindStep 284 = .ok (.aload_n 0, 1) := by decide +kernel
theorem dX6_behindStep_285 : decode cX6_behindStep 285 = .ok (.iload_n 1, 1) := by decide +kernel
theorem dX6_behindStep_286 : decode cX6_behindStep 286 = .ok (.aload_n 0, 1) := by decide +kernel
theorem dX6_behindStep_287 : decode cX6_behindStep 287 = .ok (.getfield 20, 3) := by decide +kernel
theorem dX6_behindStep_290 : decode cX6_behindStep 290 = .ok (.iload_n 3, 1) := by decide +kernel
theorem dX6_behindStep_291 : decode cX6_behindStep 291 = .ok (.invokevirtual 101, 3) := by decide +kernel
theorem dX6_behindStep_294 : decode cX6_behindStep 294 = .ok (.invokestatic 109, 3) := by decide +kernel
theorem dX6_behindStep_297 : decode cX6_behindStep 297 = .ok (.invokevirtual 97, 3) := by decide +kernel
theorem dX6_behindStep_300 : decode cX6_behindStep 300 = .ok (.ireturn, 1) := by decide +kernel
theorem dX6_behindStep_301 : decode cX6_behindStep 301 = .ok (.aload_n 0, 1) := by decide +kernel
theorem dX6_behindStep_302 : decode cX6_behindStep 302 = .ok (.getfield 24, 3) := by decide +kernel
theorem dX6_behindStep_305 : decode cX6_behindStep 305 = .ok (.getfield 33, 3) := by decide +kernel
theorem dX6_behindStep_308 : decode cX6_behindStep 308 = .ok (.ireturn, 1) := by decide +kernel
theorem dX6_liveThrough_0 : decode cX6_liveThrough 0 = .ok (.aload_n 0, 1) := by decide +kernel
theorem dX6_liveThrough_1 : decode cX6_liveThrough 1 = .ok (.aload_n 1, 1) := by decide +kernel
theorem dX6_liveThrough_2 : decode cX6_liveThrough 2 = .ok (.putfield 20, 3) := by decide +kernel
theorem dX6_liveThrough_5 : decode cX6_liveThrough 5 = .ok (.aload_n 0, 1) := by decide +kernel
theorem dX6_liveThrough_6 : decode cX6_liveThrough 6 = .ok (.aload_n 2, 1) := by decide +kernel
theorem dX6_liveThrough_7 : decode cX6_liveThrough 7 = .ok (.putfield 24, 3) := by decide +kernel
theorem dX6_liveThrough_10 : decode cX6_liveThrough 10 = .ok (.aload_n 0, 1) := by decide +kernel
theorem dX6_liveThrough_11 : decode cX6_liveThrough 11 = .ok (.iload_n 3, 1) := by decide +kernel
theorem dX6_liveThrough_12 : decode cX6_liveThrough 12 = .ok (.putfield 28, 3) := by decide +kernel
theorem dX6_liveThrough_15 : decode cX6_liveThrough 15 = .ok (.iconst 0, 1) := by decide +kernel
theorem dX6_liveThrough_16 : decode cX6_liveThrough 16 = .ok (.istore 4, 2) := by decide +kernel
theorem dX6_liveThrough_18 : decode cX6_liveThrough 18 = .ok (.iload 4, 2) := by decide +kernel
theorem dX6_liveThrough_20 : decode cX6_liveThrough 20 = .ok (.iconst 5, 1) := by decide +kernel
theorem dX6_liveThrough_21 : decode cX6_liveThrough 21 = .ok (.if_icmp .ge 17, 3) := by decide +kernel
theorem dX6_liveThrough_24 : decode cX6_liveThrough 24 = .ok (.aload_n 0, 1) := by decide +kernel
theorem dX6_liveThrough_25 : decode cX6_liveThrough 25 = .ok (.getfield 11, 3) := by decide +kernel
theorem dX6_liveThrough_28 : decode cX6_liveThrough 28 = .ok (.iload 4, 2) := by decide +kernel
theorem dX6_liveThrough_30 : decode cX6_liveThrough 30 = .ok (.iconst 0, 1) := by decide +kernel
theorem dX6_liveThrough_31 : decode cX6_liveThrough 31 = .ok (.iastore, 1) := by decide +kernel
theorem dX6_liveThrough_32 : decode cX6_liveThrough 32 = .ok (.iinc 4 1, 3) := by decide +kernel
theorem dX6_liveThrough_35 : decode cX6_liveThrough 35 = .ok (.goto (-17), 3) := by decide +kernel
theorem dX6_liveThrough_38 : decode cX6_liveThrough 38 = .ok (.iconst 0, 1) := by decide +kernel
theorem dX6_liveThrough_39 : decode cX6_liveThrough 39 = .ok (.istore 4, 2) := by decide +kernel
theorem dX6_liveThrough_41 : decode cX6_liveThrough 41 = .ok (.iconst 0, 1) := by decide +kernel
theorem dX6_liveThrough_42 : decode cX6_liveThrough 42 = .ok (.istore 5, 2) := by decide +kernel
theorem dX6_liveThrough_44 : decode cX6_liveThrough 44 = .ok (.iconst 0, 1) := by decide +kernel
theorem dX6_liveThrough_45 : decode cX6_liveThrough 45 = .ok (.istore 6, 2) := by decide +kernel
theorem dX6_liveThrough_47 : decode cX6_liveThrough 47 = .ok (.iload 6, 2) := by decide +kernel
theorem dX6_liveThrough_49 : decode cX6_liveThrough 49 = .ok (.ldc 32, 2) := by decide +kernel
theorem dX6_liveThrough_51 : decode cX6_liveThrough 51 = .ok (.if_icmp .ge 90, 3) := by decide +kernel
theorem dX6_liveThrough_54 : decode cX6_liveThrough 54 = .ok (.iload 5, 2) := by decide +kernel
theorem dX6_liveThrough_56 : decode cX6_liveThrough 56 = .ok (.ifCond .lt 85, 3) := by decide +kernel
theorem dX6_liveThrough_59 : decode cX6_liveThrough 59 = .ok (.iload 5, 2) := by decide +kernel
theorem dX6_liveThrough_61 : decode cX6_liveThrough 61 = .ok (.aload_n 0, 1) := by decide +kernel
theorem dX6_liveThrough_62 : decode cX6_liveThrough 62 = .ok (.getfield 24, 3) := by decide +kernel
theorem dX6_liveThrough_65 : decode cX6_liveThrough 65 = .ok (.getfield 33, 3) := by decide +kernel
theorem dX6_liveThrough_68 : decode cX6_liveThrough 68 = .ok (.if_icmp .ge 73, 3) := by decide +kernel
theorem dX6_liveThrough_71 : decode cX6_liveThrough 71 = .ok (.aload_n 0, 1) := by decide +kernel
theorem dX6_liveThrough_72 : decode cX6_liveThrough 72 = .ok (.getfield 24, 3) := by decide +kernel
theorem dX6_liveThrough_75 : decode cX6_liveThrough 75 = .ok (.getfield 36, 3) := by decide +kernel
theorem dX6_liveThrough_78 : decode cX6_liveThrough 78 = .ok (.iload 5, 2) := by decide +kernel
theorem dX6_liveThrough_80 : decode cX6_liveThrough 80 = .ok (.iaload, 1) := by decide +kernel
theorem dX6_liveThrough_81 : decode cX6_liveThrough 81 = .ok (.bipush 28, 2) := by decide +kernel
theorem dX6_liveThrough_83 : decode cX6_liveThrough 83 = .ok (.if_icmp .ne 14, 3) := by decide +kernel
theorem dX6_liveThrough_86 : decode cX6_liveThrough 86 = .ok (.aload_n 0, 1) := by decide +kernel
theorem dX6_liveThrough_87 : decode cX6_liveThrough 87 = .ok (.iload 5, 2) := by decide +kernel
theorem dX6_liveThrough_89 : decode cX6_liveThrough 89 = .ok (.invokevirtual 41, 3) := by decide +kernel
theorem dX6_liveThrough_92 : decode cX6_liveThrough 92 = .ok (.istore 5, 2) := by decide +kernel
theorem dX6_liveThrough_94 : decode cX6_liveThrough 94 = .ok (.goto 41, 3) := by decide +kernel
theorem dX6_liveThrough_97 : decode cX6_liveThrough 97 = .ok (.iload 4, 2) := by decide +kernel
theorem dX6_liveThrough_99 : decode cX6_liveThrough 99 = .ok (.sipush 300, 3) := by decide +kernel
theorem dX6_liveThrough_102 : decode cX6_liveThrough 102 = .ok (.if_icmp .ne 22, 3) := by decide +kernel
theorem dX6_liveThrough_105 : decode cX6_liveThrough 105 = .ok (.aload_n 0, 1) := by decide +kernel
theorem dX6_liveThrough_106 : decode cX6_liveThrough 106 = .ok (.getfield 11, 3) := by decide +kernel
theorem dX6_liveThrough_109 : decode cX6_liveThrough 109 = .ok (.iconst 4, 1) := by decide +kernel
theorem dX6_liveThrough_110 : decode cX6_liveThrough 110 = .ok (.iconst 1, 1) := by decide +kernel
theorem dX6_liveThrough_111 : decode cX6_liveThrough 111 = .ok (.iastore, 1) := by decide +kernel
theorem dX6_liveThrough_112 : decode cX6_liveThrough 112 = .ok (.aload_n 0, 1) := by decide +kernel
theorem dX6_liveThrough_113 : decode cX6_liveThrough 113 = .ok (.getfield 24, 3) := by decide +kernel
theorem dX6_liveThrough_116 : decode cX6_liveThrough 116 = .ok (.getfield 33, 3) := by decide +kernel
theorem dX6_liveThrough_119 : decode cX6_liveThrough 119 = .ok (.istore 5, 2) := by decide +kernel
theorem dX6_liveThrough_121 : decode cX6_liveThrough 121 = .ok (.goto 14, 3) := by decide +kernel
theorem dX6_liveThrough_124 : decode cX6_liveThrough 124 = .ok (.iinc 4 1, 3) := by decide +kernel
theorem dX6_liveThrough_127 : decode cX6_liveThrough 127 = .ok (.aload_n 0, 1) := by decide +kernel
theorem dX6_liveThrough_128 : decode cX6_liveThrough 128 = .ok (.iload 5, 2) := by decide +kernel
theorem dX6_liveThrough_130 : decode cX6_liveThrough 130 = .ok (.invokevirtual 45, 3) := by decide +kernel
theorem dX6_liveThrough_133 : decode cX6_liveThrough 133 = .ok (.istore 5, 2) := by decide +kernel
theorem dX6_liveThrough_135 : decode cX6_liveThrough 135 = .ok (.iinc 6 1, 3) := by decide +kernel
theorem dX6_liveThrough_138 : decode cX6_liveThrough 138 = .ok (.goto (-91), 3) := by decide +kernel
theorem dX6_liveThrough_141 : decode cX6_liveThrough 141 = .ok (.iload 4, 2) := by decide +kernel
theorem dX6_liveThrough_143 : decode cX6_liveThrough 143 = .ok (.ireturn, 1) := by decide +kernel
theorem dX11_live_0 : decode cX11_live 0 = .ok (.iload_n 1, 1) := by decide +kernel
theorem dX11_live_1 : decode cX11_live 1 = .ok (.ifCond .lt 10, 3) := by decide +kernel
theorem dX11_live_4 : decode cX11_live 4 = .ok (.iload_n 1, 1) := by decide +kernel
theorem dX11_live_5 : decode cX11_live 5 = .ok (.sipush 9999, 3) := by decide +kernel
theorem dX11_live_8 : decode cX11_live 8 = .ok (.if_icmp .le 9, 3) := by decide +kernel
theorem dX11_live_11 : decode cX11_live 11 = .ok (.aload_n 0, 1) := by decide +kernel
theorem dX11_live_12 : decode cX11_live 12 = .ok (.iconst 1, 1) := by decide +kernel
theorem dX11_live_13 : decode cX11_live 13 = .ok (.invokevirtual 100, 3) := by decide +kernel
theorem dX11_live_16 : decode cX11_live 16 = .ok (.ireturn, 1) := by decide +kernel
theorem dX11_live_17 : decode cX11_live 17 = .ok (.aload_n 0, 1) := by decide +kernel
theorem dX11_live_18 : decode cX11_live 18 = .ok (.getfield 77, 3) := by decide +kernel
theorem dX11_live_21 : decode cX11_live 21 = .ok (.getfield 383, 3) := by decide +kernel
theorem dX11_live_24 : decode cX11_live 24 = .ok (.ifCond .ne 10, 3) := by decide +kernel
theorem dX11_live_27 : decode cX11_live 27 = .ok (.aload_n 0, 1) := by decide +kernel
theorem dX11_live_28 : decode cX11_live 28 = .ok (.bipush 6, 2) := by decide +kernel
theorem dX11_live_30 : decode cX11_live 30 = .ok (.invokevirtual 100, 3) := by decide +kernel
theorem dX11_live_33 : decode cX11_live 33 = .ok (.ireturn, 1) := by decide +kernel
theorem dX11_live_34 : decode cX11_live 34 = .ok (.aload_n 0, 1) := by decide +kernel
theorem dX11_live_35 : decode cX11_live 35 = .ok (.getfield 60, 3) := by decide +kernel
theorem dX11_live_38 : decode cX11_live 38 = .ok (.aload_n 0, 1) := by decide +kernel
theorem dX11_live_39 : decode cX11_live 39 = .ok (.getfield 69, 3) := by decide +kernel
theorem dX11_live_42 : decode cX11_live 42 = .ok (.aload_n 0, 1) := by decide +kernel
theorem dX11_live_43 : decode cX11_live 43 = .ok (.getfield 77, 3) := by decide +kernel
theorem dX11_live_46 : decode cX11_live 46 = .ok (.iload_n 1, 1) := by decide +kernel
theorem dX11_live_47 : decode cX11_live 47 = .ok (.invokevirtual 386, 3) := by decide +kernel
theorem dX11_live_50 : decode cX11_live 50 = .ok (.istore_n 2, 1) := by decide +kernel
theorem dX11_live_51 : decode cX11_live 51 = .ok (.aload_n 0, 1) := by decide +kernel
theorem dX11_live_52 : decode cX11_live 52 = .ok (.getfield 60, 3) := by decide +kernel
theorem dX11_live_55 : decode cX11_live 55 = .ok (.getfield 390, 3) := by decide +kernel
theorem dX11_live_58 : decode cX11_live 58 = .ok (.iconst 0, 1) := by decide +kernel
theorem dX11_live_59 : decode cX11_live 59 = .ok (.aload_n 0, 1) := by decide +kernel
theorem dX11_live_60 : decode cX11_live 60 = .ok (.getfield 64, 3) := by decide +kernel
theorem dX11_live_63 : decode cX11_live 63 = .ok (.iconst 0, 1) := by decide +kernel
theorem dX11_live_64 : decode cX11_live 64 = .ok (.iconst 5, 1) := by decide +kernel
theorem dX11_live_65 : decode cX11_live 65 = .ok (.invokestatic 149, 3) := by decide +kernel
theorem dX11_live_68 : decode cX11_live 68 = .ok (.aload_n 0, 1) := by decide +kernel
theorem dX11_live_69 : decode cX11_live 69 = .ok (.iconst 1, 1) := by decide +kernel
theorem dX11_live_70 : decode cX11_live 70 = .ok (.putfield 393, 3) := by decide +kernel
theorem dX11_live_73 : decode cX11_live 73 = .ok (.aload_n 0, 1) := by decide +kernel
theorem dX11_live_74 : decode cX11_live 74 = .ok (.iload_n 2, 1) := by decide +kernel
theorem dX11_live_75 : decode cX11_live 75 = .ok (.invokevirtual 96, 3) := by decide +kernel
theorem dX11_live_78 : decode cX11_live 78 = .ok (.ireturn, 1) := by decide +kernel
theorem dX11_lived_0 : decode cX11_lived 0 = .ok (.iload_n 1, 1) := by decide +kernel
theorem dX11_lived_1 : decode cX11_lived 1 = .ok (.ifCond .lt 12, 3) := by decide +kernel
theorem dX11_lived_4 : decode cX11_lived 4 = .ok (.iload_n 1, 1) := by decide +kernel
theorem dX11_lived_5 : decode cX11_lived 5 = .ok (.aload_n 0, 1) := by decide +kernel
theorem dX11_lived_6 : decode cX11_lived 6 = .ok (.getfield 64, 3) := by decide +kernel
theorem dX11_lived_9 : decode cX11_lived 9 = .ok (.arraylength, 1) := by decide +kernel
theorem dX11_lived_10 : decode cX11_lived 10 = .ok (.if_icmp .lt 9, 3) := by decide +kernel
theorem dX11_lived_13 : decode cX11_lived 13 = .ok (.aload_n 0, 1) := by decide +kernel
theorem dX11_lived_14 : decode cX11_lived 14 = .ok (.iconst 1, 1) := by decide +kernel
theorem dX11_lived_15 : decode cX11_lived 15 = .ok (.invokevirtual 100, 3) := by decide +kernel
theorem dX11_lived_18 : decode cX11_lived 18 = .ok (.ireturn, 1) := by decide +kernel
theorem dX11_lived_19 : decode cX11_lived 19 = .ok (.aload_n 0, 1) := by decide +kernel
theorem dX11_lived_20 : decode cX11_lived 20 = .ok (.getfield 393, 3) := by decide +kernel
theorem dX11_lived_23 : decode cX11_lived 23 = .ok (.ifCond .eq 16, 3) := by decide +kernel
theorem dX11_lived_26 : decode cX11_lived 26 = .ok (.aload_n 0, 1) := by decide +kernel
theorem dX11_lived_27 : decode cX11_lived 27 = .ok (.aload_n 0, 1) := by decide +kernel
theorem dX11_lived_28 : decode cX11_lived 28 = .ok (.getfield 64, 3) := by decide +kernel
theorem dX11_lived_31 : decode cX11_lived 31 = .ok (.iload_n 1, 1) := by decide +kernel
theorem dX11_lived_32 : decode cX11_lived 32 = .ok (.iaload, 1) := by decide +kernel
theorem dX11_lived_33 : decode cX11_lived 33 = .ok (.invokevirtual 96, 3) := by decide +kernel
theorem dX11_lived_36 : decode cX11_lived 36 = .ok (.goto 9, 3) := by decide +kernel
theorem dX11_lived_39 : decode cX11_lived 39 = .ok (.aload_n 0, 1) := by decide +kernel
theorem dX11_lived_40 : decode cX11_lived 40 = .ok (.bipush 6, 2) := by decide +kernel
theorem dX11_lived_42 : decode cX11_lived 42 = .ok (.invokevirtual 100, 3) := by decide +kernel
theorem dX11_lived_45 : decode cX11_lived 45 = .ok (.ireturn, 1) := by decide +kernel
theorem dX11_mark_0 : decode cX11_mark 0 = .ok (.aload_n 0, 1) := by decide +kernel
theorem dX11_mark_1 : decode cX11_mark 1 = .ok (.getfield 403, 3) := by decide +kernel
theorem dX11_mark_4 : decode cX11_mark 4 = .ok (.iconst 3, 1) := by decide +kernel
theorem dX11_mark_5 : decode cX11_mark 5 = .ok (.if_icmp .lt 9, 3) := by decide +kernel
theorem dX11_mark_8 : decode cX11_mark 8 = .ok (.aload_n 0, 1) := by decide +kernel
theorem dX11_mark_9 : decode cX11_mark 9 = .ok (.iconst 4, 1) := by decide +kernel
theorem dX11_mark_10 : decode cX11_mark 10 = .ok (.invokevirtual 100, 3) := by decide +kernel
theorem dX11_mark_13 : decode cX11_mark 13 = .ok (.ireturn, 1) := by decide +kernel
theorem dX11_mark_14 : decode cX11_mark 14 = .ok (.aload_n 0, 1) := by decide +kernel
theorem dX11_mark_15 : decode cX11_mark 15 = .ok (.getfield 46, 3) := by decide +kernel
theorem dX11_mark_18 : decode cX11_mark 18 = .ok (.aload_n 0, 1) := by decide +kernel
theorem dX11_mark_19 : decode cX11_mark 19 = .ok (.getfield 403, 3) := by decide +kernel
theorem dX11_mark_22 : decode cX11_mark 22 = .ok (.aaload, 1) := by decide +kernel
theorem dX11_mark_23 : decode cX11_mark 23 = .ok (.aload_n 0, 1) := by decide +kernel
theorem dX11_mark_24 : decode cX11_mark 24 = .ok (.getfield 69, 3) := by decide +kernel
theorem dX11_mark_27 : decode cX11_mark 27 = .ok (.invokevirtual 396, 3) := by decide +kernel
theorem dX11_mark_30 : decode cX11_mark 30 = .ok (.aload_n 0, 1) := by decide +kernel
theorem dX11_mark_31 : decode cX11_mark 31 = .ok (.getfield 40, 3) := by decide +kernel
theorem dX11_mark_34 : decode cX11_mark 34 = .ok (.aload_n 0, 1) := by decide +kernel
theorem dX11_mark_35 : decode cX11_mark 35 = .ok (.getfield 403, 3) := by decide +kernel
theorem dX11_mark_38 : decode cX11_mark 38 = .ok (.aaload, 1) := by decide +kernel
theorem dX11_mark_39 : decode cX11_mark 39 = .ok (.aload_n 0, 1) := by decide +kernel
theorem dX11_mark_40 : decode cX11_mark 40 = .ok (.getfield 77, 3) := by decide +kernel
theorem dX11_mark_43 : decode cX11_mark 43 = .ok (.invokevirtual 406, 3) := by decide +kernel
theorem dX11_mark_46 : decode cX11_mark 46 = .ok (.aload_n 0, 1) := by decide +kernel
theorem dX11_mark_47 : decode cX11_mark 47 = .ok (.dup, 1) := by decide +kernel
theorem dX11_mark_48 : decode cX11_mark 48 = .ok (.getfield 403, 3) := by decide +kernel
theorem dX11_mark_51 : decode cX11_mark 51 = .ok (.iconst 1, 1) := by decide +kernel
theorem dX11_mark_52 : decode cX11_mark 52 = .ok (.iadd, 1) := by decide +kernel
theorem dX11_mark_53 : decode cX11_mark 53 = .ok (.putfield 403, 3) := by decide +kernel
theorem dX11_mark_56 : decode cX11_mark 56 = .ok (.aload_n 0, 1) := by decide +kernel
theorem dX11_mark_57 : decode cX11_mark 57 = .ok (.aload_n 0, 1) := by decide +kernel
theorem dX11_mark_58 : decode cX11_mark 58 = .ok (.getfield 403, 3) := by decide +kernel
theorem dX11_mark_61 : decode cX11_mark 61 = .ok (.invokevirtual 96, 3) := by decide +kernel
theorem dX11_mark_64 : decode cX11_mark 64 = .ok (.ireturn, 1) := by decide +kernel
theorem dX0_keptBy_0 : decode cX0_keptBy 0 = .ok (.aload_n 0, 1) := by decide +kernel
theorem dX0_keptBy_1 : decode cX0_keptBy 1 = .ok (.iload_n 1, 1) := by decide +kernel
theorem dX0_keptBy_2 : decode cX0_keptBy 2 = .ok (.invokevirtual 95, 3) := by decide +kernel
theorem dX0_keptBy_5 : decode cX0_keptBy 5 = .ok (.astore_n 2, 1) := by decide +kernel
theorem dX0_keptBy_6 : decode cX0_keptBy 6 = .ok (.aload_n 2, 1) := by decide +kernel
theorem dX0_keptBy_7 : decode cX0_keptBy 7 = .ok (.ifnonnull 7, 3) := by decide +kernel
theorem dX0_keptBy_10 : decode cX0_keptBy 10 = .ok (.iconst 0, 1) := by decide +kernel
theorem dX0_keptBy_11 : decode cX0_keptBy 11 = .ok (.goto 7, 3) := by decide +kernel
theorem dX0_keptBy_14 : decode cX0_keptBy 14 = .ok (.aload_n 2, 1) := by decide +kernel
theorem dX0_keptBy_15 : decode cX0_keptBy 15 = .ok (.getfield 76, 3) := by decide +kernel
theorem dX0_keptBy_18 : decode cX0_keptBy 18 = .ok (.ireturn, 1) := by decide +kernel
theorem dX11_deny_0 : decode cX11_deny 0 = .ok (.aload_n 0, 1) := by decide +kernel
theorem dX11_deny_1 : decode cX11_deny 1 = .ok (.iload_n 1, 1) := by decide +kernel
theorem dX11_deny_2 : decode cX11_deny 2 = .ok (.putfield 89, 3) := by decide +kernel
theorem dX11_deny_5 : decode cX11_deny 5 = .ok (.iconst 0, 1) := by decide +kernel
theorem dX11_deny_6 : decode cX11_deny 6 = .ok (.ireturn, 1) := by decide +kernel
theorem dX11_grant_0 : decode cX11_grant 0 = .ok (.aload_n 0, 1) := by decide +kernel
theorem dX11_grant_1 : decode cX11_grant 1 = .ok (.iconst 0, 1) := by decide +kernel
theorem dX11_grant_2 : decode cX11_grant 2 = .ok (.putfield 89, 3) := by decide +kernel
theorem dX11_grant_5 : decode cX11_grant 5 = .ok (.iconst 1, 1) := by decide +kernel
theorem dX11_grant_6 : decode cX11_grant 6 = .ok (.ireturn, 1) := by decide +kernel
theorem dX11_commonDivisor_0 : decode cX11_commonDivisor 0 = .ok (.lload_n 0, 1) := by decide +kernel
theorem dX11_commonDivisor_1 : decode cX11_commonDivisor 1 = .ok (.lstore 4, 2) := by decide +kernel
theorem dX11_commonDivisor_3 : decode cX11_commonDivisor 3 = .ok (.lload_n 2, 1) := by decide +kernel
theorem dX11_commonDivisor_4 : decode cX11_commonDivisor 4 = .ok (.lstore 6, 2) := by decide +kernel
theorem dX11_commonDivisor_6 : decode cX11_commonDivisor 6 = .ok (.iconst 0, 1) := by decide +kernel
theorem dX11_commonDivisor_7 : decode cX11_commonDivisor 7 = .ok (.istore 8, 2) := by decide +kernel
theorem dX11_commonDivisor_9 : decode cX11_commonDivisor 9 = .ok (.iload 8, 2) := by decide +kernel
theorem dX11_commonDivisor_11 : decode cX11_commonDivisor 11 = .ok (.sipush 200, 3) := by decide +kernel
theorem dX11_commonDivisor_14 : decode cX11_commonDivisor 14 = .ok (.if_icmp .ge 31, 3) := by decide +kernel
theorem dX11_commonDivisor_17 : decode cX11_commonDivisor 17 = .ok (.lload 6, 2) := by decide +kernel
theorem dX11_commonDivisor_19 : decode cX11_commonDivisor 19 = .ok (.lconst 0, 1) := by decide +kernel
theorem dX11_commonDivisor_20 : decode cX11_commonDivisor 20 = .ok (.lcmp, 1) := by decide +kernel
theorem dX11_commonDivisor_21 : decode cX11_commonDivisor 21 = .ok (.ifCond .eq 24, 3) := by decide +kernel
theorem dX11_commonDivisor_24 : decode cX11_commonDivisor 24 = .ok (.lload 4, 2) := by decide +kernel
theorem dX11_commonDivisor_26 : decode cX11_commonDivisor 26 = .ok (.lload 6, 2) := by decide +kernel
theorem dX11_commonDivisor_28 : decode cX11_commonDivisor 28 = .ok (.lrem, 1) := by decide +kernel
theorem dX11_commonDivisor_29 : decode cX11_commonDivisor 29 = .ok (.lstore 9, 2) := by decide +kernel
theorem dX11_commonDivisor_31 : decode cX11_commonDivisor 31 = .ok (.lload 6, 2) := by decide +kernel
theorem dX11_commonDivisor_33 : decode cX11_commonDivisor 33 = .ok (.lstore 4, 2) := by decide +kernel
theorem dX11_commonDivisor_35 : decode cX11_commonDivisor 35 = .ok (.lload 9, 2) := by decide +kernel
theorem dX11_commonDivisor_37 : decode cX11_commonDivisor 37 = .ok (.lstore 6, 2) := by decide +kernel
theorem dX11_commonDivisor_39 : decode cX11_commonDivisor 39 = .ok (.iinc 8 1, 3) := by decide +kernel
theorem dX11_commonDivisor_42 : decode cX11_commonDivisor 42 = .ok (.goto (-33), 3) := by decide +kernel
theorem dX11_commonDivisor_45 : decode cX11_commonDivisor 45 = .ok (.lload 4, 2) := by decide +kernel
theorem dX11_commonDivisor_47 : decode cX11_commonDivisor 47 = .ok (.lreturn, 1) := by decide +kernel
theorem dX11_tellFraction_0 : decode cX11_tellFraction 0 = .ok (.lload_n 1, 1) := by decide +kernel
theorem dX11_tellFraction_1 : decode cX11_tellFraction 1 = .ok (.lload_n 3, 1) := by decide +kernel
theorem dX11_tellFraction_2 : decode cX11_tellFraction 2 = .ok (.invokestatic 106, 3) := by decide +kernel
theorem dX11_tellFraction_5 : decode cX11_tellFraction 5 = .ok (.lstore 5, 2) := by decide +kernel
theorem dX11_tellFraction_7 : decode cX11_tellFraction 7 = .ok (.lload 5, 2) := by decide +kernel
theorem dX11_tellFraction_9 : decode cX11_tellFraction 9 = .ok (.lconst 0, 1) := by decide +kernel
theorem dX11_tellFraction_10 : decode cX11_tellFraction 10 = .ok (.lcmp, 1) := by decide +kernel
theorem dX11_tellFraction_11 : decode cX11_tellFraction 11 = .ok (.ifCond .le 19, 3) := by decide +kernel
theorem dX11_tellFraction_14 : decode cX11_tellFraction 14 = .ok (.aload_n 0, 1) := by decide +kernel
theorem dX11_tellFraction_15 : decode cX11_tellFraction 15 = .ok (.lload_n 1, 1) := by decide +kernel
theorem dX11_tellFraction_16 : decode cX11_tellFraction 16 = .ok (.lload 5, 2) := by decide +kernel
theorem dX11_tellFraction_18 : decode cX11_tellFraction 18 = .ok (.ldiv, 1) := by decide +kernel
theorem dX11_tellFraction_19 : decode cX11_tellFraction 19 = .ok (.putfield 103, 3) := by decide +kernel
theorem dX11_tellFraction_22 : decode cX11_tellFraction 22 = .ok (.aload_n 0, 1) := by decide +kernel
theorem dX11_tellFraction_23 : decode cX11_tellFraction 23 = .ok (.lload_n 3, 1) := by decide +kernel
theorem dX11_tellFraction_24 : decode cX11_tellFraction 24 = .ok (.lload 5, 2) := by decide +kernel
theorem dX11_tellFraction_26 : decode cX11_tellFraction 26 = .ok (.ldiv, 1) := by decide +kernel
theorem dX11_tellFraction_27 : decode cX11_tellFraction 27 = .ok (.putfield 84, 3) := by decide +kernel
theorem dX11_tellFraction_30 : decode cX11_tellFraction 30 = .ok (.return_, 1) := by decide +kernel
theorem dX11_mean_0 : decode cX11_mean 0 = .ok (.aload_n 0, 1) := by decide +kernel
theorem dX11_mean_1 : decode cX11_mean 1 = .ok (.getfield 69, 3) := by decide +kernel
theorem dX11_mean_4 : decode cX11_mean 4 = .ok (.iload_n 1, 1) := by decide +kernel
theorem dX11_mean_5 : decode cX11_mean 5 = .ok (.invokevirtual 216, 3) := by decide +kernel
theorem dX11_mean_8 : decode cX11_mean 8 = .ok (.ifnull 29, 3) := by decide +kernel
theorem dX11_mean_11 : decode cX11_mean 11 = .ok (.iload_n 2, 1) := by decide +kernel
theorem dX11_mean_12 : decode cX11_mean 12 = .ok (.ifCond .lt 25, 3) := by decide +kernel
theorem dX11_mean_15 : decode cX11_mean 15 = .ok (.iload_n 3, 1) := by decide +kernel
theorem dX11_mean_16 : decode cX11_mean 16 = .ok (.iconst 1, 1) := by decide +kernel
theorem dX11_mean_17 : decode cX11_mean 17 = .ok (.if_icmp .lt 20, 3) := by decide +kernel
theorem dX11_mean_20 : decode cX11_mean 20 = .ok (.iload_n 3, 1) := by decide +kernel
theorem dX11_mean_21 : decode cX11_mean 21 = .ok (.bipush 20, 2) := by decide +kernel
theorem dX11_mean_23 : decode cX11_mean 23 = .ok (.if_icmp .gt 14, 3) := by decide +kernel
theorem dX11_mean_26 : decode cX11_mean 26 = .ok (.iload_n 2, 1) := by decide +kernel
theorem dX11_mean_27 : decode cX11_mean 27 = .ok (.sipush 9999, 3) := by decide +kernel
theorem dX11_mean_30 : decode cX11_mean 30 = .ok (.iload_n 3, 1) := by decide +kernel
theorem dX11_mean_31 : decode cX11_mean 31 = .ok (.isub, 1) := by decide +kernel
theorem dX11_mean_32 : decode cX11_mean 32 = .ok (.iconst 1, 1) := by decide +kernel
theorem dX11_mean_33 : decode cX11_mean 33 = .ok (.iadd, 1) := by decide +kernel
theorem dX11_mean_34 : decode cX11_mean 34 = .ok (.if_icmp .le 9, 3) := by decide +kernel
theorem dX11_mean_37 : decode cX11_mean 37 = .ok (.aload_n 0, 1) := by decide +kernel
theorem dX11_mean_38 : decode cX11_mean 38 = .ok (.iconst 1, 1) := by decide +kernel
theorem dX11_mean_39 : decode cX11_mean 39 = .ok (.invokevirtual 114, 3) := by decide +kernel
theorem dX11_mean_42 : decode cX11_mean 42 = .ok (.ireturn, 1) := by decide +kernel
theorem dX11_mean_43 : decode cX11_mean 43 = .ok (.aload_n 0, 1) := by decide +kernel
theorem dX11_mean_44 : decode cX11_mean 44 = .ok (.getfield 77, 3) := by decide +kernel
theorem dX11_mean_47 : decode cX11_mean 47 = .ok (.getfield 383, 3) := by decide +kernel
theorem dX11_mean_50 : decode cX11_mean 50 = .ok (.ifCond .ne 10, 3) := by decide +kernel
theorem dX11_mean_53 : decode cX11_mean 53 = .ok (.aload_n 0, 1) := by decide +kernel
theorem dX11_mean_54 : decode cX11_mean 54 = .ok (.bipush 6, 2) := by decide +kernel
theorem dX11_mean_56 : decode cX11_mean 56 = .ok (.invokevirtual 114, 3) := by decide +kernel
theorem dX11_mean_59 : decode cX11_mean 59 = .ok (.ireturn, 1) := by decide +kernel
theorem dX11_mean_60 : decode cX11_mean 60 = .ok (.lconst 0, 1) := by decide +kernel
theorem dX11_mean_61 : decode cX11_mean 61 = .ok (.lstore 4, 2) := by decide +kernel
theorem dX11_mean_63 : decode cX11_mean 63 = .ok (.iconst 0, 1) := by decide +kernel
theorem dX11_mean_64 : decode cX11_mean 64 = .ok (.istore 6, 2) := by decide +kernel
theorem dX11_mean_66 : decode cX11_mean 66 = .ok (.iload 6, 2) := by decide +kernel
theorem dX11_mean_68 : decode cX11_mean 68 = .ok (.iload_n 3, 1) := by decide +kernel
theorem dX11_mean_69 : decode cX11_mean 69 = .ok (.if_icmp .ge 54, 3) := by decide +kernel
theorem dX11_mean_72 : decode cX11_mean 72 = .ok (.aload_n 0, 1) := by decide +kernel
theorem dX11_mean_73 : decode cX11_mean 73 = .ok (.getfield 73, 3) := by decide +kernel
theorem dX11_mean_76 : decode cX11_mean 76 = .ok (.aload_n 0, 1) := by decide +kernel
theorem dX11_mean_77 : decode cX11_mean 77 = .ok (.getfield 69, 3) := by decide +kernel
theorem dX11_mean_80 : decode cX11_mean 80 = .ok (.invokevirtual 396, 3) := by decide +kernel
theorem dX11_mean_83 : decode cX11_mean 83 = .ok (.aload_n 0, 1) := by decide +kernel
theorem dX11_mean_84 : decode cX11_mean 84 = .ok (.getfield 60, 3) := by decide +kernel
theorem dX11_mean_87 : decode cX11_mean 87 = .ok (.aload_n 0, 1) := by decide +kernel
theorem dX11_mean_88 : decode cX11_mean 88 = .ok (.getfield 73, 3) := by decide +kernel
theorem dX11_mean_91 : decode cX11_mean 91 = .ok (.aload_n 0, 1) := by decide +kernel
theorem dX11_mean_92 : decode cX11_mean 92 = .ok (.getfield 77, 3) := by decide +kernel
theorem dX11_mean_95 : decode cX11_mean 95 = .ok (.iload_n 2, 1) := by decide +kernel
theorem dX11_mean_96 : decode cX11_mean 96 = .ok (.iload 6, 2) := by decide +kernel
theorem dX11_mean_98 : decode cX11_mean 98 = .ok (.iadd, 1) := by decide +kernel
theorem dX11_mean_99 : decode cX11_mean 99 = .ok (.invokevirtual 386, 3) := by decide +kernel
theorem dX11_mean_102 : decode cX11_mean 102 = .ok (.pop, 1) := by decide +kernel
theorem dX11_mean_103 : decode cX11_mean 103 = .ok (.lload 4, 2) := by decide +kernel
theorem dX11_mean_105 : decode cX11_mean 105 = .ok (.aload_n 0, 1) := by decide +kernel
theorem dX11_mean_106 : decode cX11_mean 106 = .ok (.getfield 73, 3) := by decide +kernel
theorem dX11_mean_109 : decode cX11_mean 109 = .ok (.iload_n 1, 1) := by decide +kernel
theorem dX11_mean_110 : decode cX11_mean 110 = .ok (.invokevirtual 400, 3) := by decide +kernel
theorem dX11_mean_113 : decode cX11_mean 113 = .ok (.i2l, 1) := by decide +kernel
theorem dX11_mean_114 : decode cX11_mean 114 = .ok (.ladd, 1) := by decide +kernel
theorem dX11_mean_115 : decode cX11_mean 115 = .ok (.lstore 4, 2) := by decide +kernel
theorem dX11_mean_117 : decode cX11_mean 117 = .ok (.iinc 6 1, 3) := by decide +kernel
theorem dX11_mean_120 : decode cX11_mean 120 = .ok (.goto (-54), 3) := by decide +kernel
theorem dX11_mean_123 : decode cX11_mean 123 = .ok (.aload_n 0, 1) := by decide +kernel
theorem dX11_mean_124 : decode cX11_mean 124 = .ok (.lload 4, 2) := by decide +kernel
theorem dX11_mean_126 : decode cX11_mean 126 = .ok (.iload_n 3, 1) := by decide +kernel
theorem dX11_mean_127 : decode cX11_mean 127 = .ok (.i2l, 1) := by decide +kernel
theorem dX11_mean_128 : decode cX11_mean 128 = .ok (.invokevirtual 350, 3) := by decide +kernel
theorem dX11_mean_131 : decode cX11_mean 131 = .ok (.aload_n 0, 1) := by decide +kernel
theorem dX11_mean_132 : decode cX11_mean 132 = .ok (.invokevirtual 122, 3) := by decide +kernel
theorem dX11_mean_135 : decode cX11_mean 135 = .ok (.ireturn, 1) := by decide +kernel
theorem dX11_needs_0 : decode cX11_needs 0 = .ok (.aload_n 0, 1) := by decide +kernel
theorem dX11_needs_1 : decode cX11_needs 1 = .ok (.getfield 69, 3) := by decide +kernel
theorem dX11_needs_4 : decode cX11_needs 4 = .ok (.iload_n 1, 1) := by decide +kernel
theorem dX11_needs_5 : decode cX11_needs 5 = .ok (.invokevirtual 216, 3) := by decide +kernel
theorem dX11_needs_8 : decode cX11_needs 8 = .ok (.ifnonnull 9, 3) := by decide +kernel
theorem dX11_needs_11 : decode cX11_needs 11 = .ok (.aload_n 0, 1) := by decide +kernel
theorem dX11_needs_12 : decode cX11_needs 12 = .ok (.iconst 1, 1) := by decide +kernel
theorem dX11_needs_13 : decode cX11_needs 13 = .ok (.invokevirtual 100, 3) := by decide +kernel
theorem dX11_needs_16 : decode cX11_needs 16 = .ok (.ireturn, 1) := by decide +kernel
theorem dX11_needs_17 : decode cX11_needs 17 = .ok (.iconst 0, 1) := by decide +kernel
theorem dX11_needs_18 : decode cX11_needs 18 = .ok (.istore_n 2, 1) := by decide +kernel
theorem dX11_needs_19 : decode cX11_needs 19 = .ok (.iconst 0, 1) := by decide +kernel
theorem dX11_needs_20 : decode cX11_needs 20 = .ok (.istore_n 3, 1) := by decide +kernel
theorem dX11_needs_21 : decode cX11_needs 21 = .ok (.iload_n 3, 1) := by decide +kernel
theorem dX11_needs_22 : decode cX11_needs 22 = .ok (.aload_n 0, 1) := by decide +kernel
theorem dX11_needs_23 : decode cX11_needs 23 = .ok (.getfield 69, 3) := by decide +kernel
theorem dX11_needs_26 : decode cX11_needs 26 = .ok (.getfield 175, 3) := by decide +kernel
theorem dX11_needs_29 : decode cX11_needs 29 = .ok (.if_icmp .ge 42, 3) := by decide +kernel
theorem dX11_needs_32 : decode cX11_needs 32 = .ok (.aload_n 0, 1) := by decide +kernel
theorem dX11_needs_33 : decode cX11_needs 33 = .ok (.getfield 69, 3) := by decide +kernel
theorem dX11_needs_36 : decode cX11_needs 36 = .ok (.getfield 303, 3) := by decide +kernel
theorem dX11_needs_39 : decode cX11_needs 39 = .ok (.iload_n 3, 1) := by decide +kernel
theorem dX11_needs_40 : decode cX11_needs 40 = .ok (.aaload, 1) := by decide +kernel
theorem dX11_needs_41 : decode cX11_needs 41 = .ok (.astore 4, 2) := by decide +kernel
theorem dX11_needs_43 : decode cX11_needs 43 = .ok (.aload 4, 2) := by decide +kernel
theorem dX11_needs_45 : decode cX11_needs 45 = .ok (.getfield 287, 3) := by decide +kernel
theorem dX11_needs_48 : decode cX11_needs 48 = .ok (.ifCond .eq 17, 3) := by decide +kernel
theorem dX11_needs_51 : decode cX11_needs 51 = .ok (.aload 4, 2) := by decide +kernel
theorem dX11_needs_53 : decode cX11_needs 53 = .ok (.invokevirtual 290, 3) := by decide +kernel
theorem dX11_needs_56 : decode cX11_needs 56 = .ok (.iconst 1, 1) := by decide +kernel
theorem dX11_needs_57 : decode cX11_needs 57 = .ok (.iload_n 1, 1) := by decide +kernel
theorem dX11_needs_58 : decode cX11_needs 58 = .ok (.ishl, 1) := by decide +kernel
theorem dX11_needs_59 : decode cX11_needs 59 = .ok (.if_icmp .eq 6, 3) := by decide +kernel
theorem dX11_needs_62 : decode cX11_needs 62 = .ok (.iinc 2 1, 3) := by decide +kernel
theorem dX11_needs_65 : decode cX11_needs 65 = .ok (.iinc 3 1, 3) := by decide +kernel
theorem dX11_needs_68 : decode cX11_needs 68 = .ok (.goto (-47), 3) := by decide +kernel
theorem dX11_needs_71 : decode cX11_needs 71 = .ok (.aload_n 0, 1) := by decide +kernel
theorem dX11_needs_72 : decode cX11_needs 72 = .ok (.iload_n 2, 1) := by decide +kernel
theorem dX11_needs_73 : decode cX11_needs 73 = .ok (.invokevirtual 96, 3) := by decide +kernel
theorem dX11_needs_76 : decode cX11_needs 76 = .ok (.ireturn, 1) := by decide +kernel
theorem dX11_odds_0 : decode cX11_odds 0 = .ok (.aload_n 0, 1) := by decide +kernel
theorem dX11_odds_1 : decode cX11_odds 1 = .ok (.getfield 69, 3) := by decide +kernel
theorem dX11_odds_4 : decode cX11_odds 4 = .ok (.iload_n 1, 1) := by decide +kernel
theorem dX11_odds_5 : decode cX11_odds 5 = .ok (.invokevirtual 237, 3) := by decide +kernel
theorem dX11_odds_8 : decode cX11_odds 8 = .ok (.astore 4, 2) := by decide +kernel
theorem dX11_odds_10 : decode cX11_odds 10 = .ok (.aload 4, 2) := by decide +kernel
theorem dX11_odds_12 : decode cX11_odds 12 = .ok (.ifnull 22, 3) := by decide +kernel
theorem dX11_odds_15 : decode cX11_odds 15 = .ok (.iload_n 2, 1) := by decide +kernel
theorem dX11_odds_16 : decode cX11_odds 16 = .ok (.ifCond .lt 18, 3) := by decide +kernel
theorem dX11_odds_19 : decode cX11_odds 19 = .ok (.iload_n 2, 1) := by decide +kernel
theorem dX11_odds_20 : decode cX11_odds 20 = .ok (.bipush 16, 2) := by decide +kernel
theorem dX11_odds_22 : decode cX11_odds 22 = .ok (.if_icmp .gt 12, 3) := by decide +kernel
theorem dX11_odds_25 : decode cX11_odds 25 = .ok (.iload_n 3, 1) := by decide +kernel
theorem dX11_odds_26 : decode cX11_odds 26 = .ok (.ifCond .lt 8, 3) := by decide +kernel
theorem dX11_odds_29 : decode cX11_odds 29 = .ok (.iload_n 3, 1) := by decide +kernel
theorem dX11_odds_30 : decode cX11_odds 30 = .ok (.iconst 1, 1) := by decide +kernel
theorem dX11_odds_31 : decode cX11_odds 31 = .ok (.if_icmp .le 9, 3) := by decide +kernel
theorem dX11_odds_34 : decode cX11_odds 34 = .ok (.aload_n 0, 1) := by decide +kernel
theorem dX11_odds_35 : decode cX11_odds 35 = .ok (.iconst 1, 1) := by decide +kernel
theorem dX11_odds_36 : decode cX11_odds 36 = .ok (.invokevirtual 114, 3) := by decide +kernel
theorem dX11_odds_39 : decode cX11_odds 39 = .ok (.ireturn, 1) := by decide +kernel
theorem dX11_odds_40 : decode cX11_odds 40 = .ok (.aload 4, 2) := by decide +kernel
theorem dX11_odds_42 : decode cX11_odds 42 = .ok (.getfield 287, 3) := by decide +kernel
theorem dX11_odds_45 : decode cX11_odds 45 = .ok (.ifCond .ne 10, 3) := by decide +kernel
theorem dX11_odds_48 : decode cX11_odds 48 = .ok (.aload_n 0, 1) := by decide +kernel
theorem dX11_odds_49 : decode cX11_odds 49 = .ok (.bipush 7, 2) := by decide +kernel
theorem dX11_odds_51 : decode cX11_odds 51 = .ok (.invokevirtual 114, 3) := by decide +kernel
theorem dX11_odds_54 : decode cX11_odds 54 = .ok (.ireturn, 1) := by decide +kernel
theorem dX11_odds_55 : decode cX11_odds 55 = .ok (.aload 4, 2) := by decide +kernel
theorem dX11_odds_57 : decode cX11_odds 57 = .ok (.getfield 247, 3) := by decide +kernel
theorem dX11_odds_60 : decode cX11_odds 60 = .ok (.ifCond .ne 10, 3) := by decide +kernel
theorem dX11_odds_63 : decode cX11_odds 63 = .ok (.aload_n 0, 1) := by decide +kernel
theorem dX11_odds_64 : decode cX11_odds 64 = .ok (.bipush 6, 2) := by decide +kernel
theorem dX11_odds_66 : decode cX11_odds 66 = .ok (.invokevirtual 114, 3) := by decide +kernel
theorem dX11_odds_69 : decode cX11_odds 69 = .ok (.ireturn, 1) := by decide +kernel
theorem dX11_odds_70 : decode cX11_odds 70 = .ok (.aload_n 0, 1) := by decide +kernel
theorem dX11_odds_71 : decode cX11_odds 71 = .ok (.getfield 69, 3) := by decide +kernel
theorem dX11_odds_74 : decode cX11_odds 74 = .ok (.getfield 197, 3) := by decide +kernel
theorem dX11_odds_77 : decode cX11_odds 77 = .ok (.aload 4, 2) := by decide +kernel
theorem dX11_odds_79 : decode cX11_odds 79 = .ok (.invokevirtual 345, 3) := by decide +kernel
theorem dX11_odds_82 : decode cX11_odds 82 = .ok (.isub, 1) := by decide +kernel
theorem dX11_odds_83 : decode cX11_odds 83 = .ok (.istore 5, 2) := by decide +kernel
theorem dX11_odds_85 : decode cX11_odds 85 = .ok (.iload 5, 2) := by decide +kernel
theorem dX11_odds_87 : decode cX11_odds 87 = .ok (.bipush 12, 2) := by decide +kernel
theorem dX11_odds_89 : decode cX11_odds 89 = .ok (.if_icmp .le 10, 3) := by decide +kernel
theorem dX11_odds_92 : decode cX11_odds 92 = .ok (.aload_n 0, 1) := by decide +kernel
theorem dX11_odds_93 : decode cX11_odds 93 = .ok (.bipush 7, 2) := by decide +kernel
theorem dX11_odds_95 : decode cX11_odds 95 = .ok (.invokevirtual 114, 3) := by decide +kernel
theorem dX11_odds_98 : decode cX11_odds 98 = .ok (.ireturn, 1) := by decide +kernel
theorem dX11_odds_99 : decode cX11_odds 99 = .ok (.iload_n 3, 1) := by decide +kernel
theorem dX11_odds_100 : decode cX11_odds 100 = .ok (.ifCond .ne 7, 3) := by decide +kernel
theorem dX11_odds_103 : decode cX11_odds 103 = .ok (.lconst 1, 1) := by decide +kernel
theorem dX11_odds_104 : decode cX11_odds 104 = .ok (.goto 9, 3) := by decide +kernel
theorem dX11_odds_107 : decode cX11_odds 107 = .ok (.aload 4, 2) := by decide +kernel
theorem dX11_odds_109 : decode cX11_odds 109 = .ok (.getfield 244, 3) := by decide +kernel
theorem dX11_odds_112 : decode cX11_odds 112 = .ok (.i2l, 1) := by decide +kernel
theorem dX11_odds_113 : decode cX11_odds 113 = .ok (.lstore 6, 2) := by decide +kernel
theorem dX11_odds_115 : decode cX11_odds 115 = .ok (.lconst 1, 1) := by decide +kernel
theorem dX11_odds_116 : decode cX11_odds 116 = .ok (.lstore 8, 2) := by decide +kernel
theorem dX11_odds_118 : decode cX11_odds 118 = .ok (.iconst 0, 1) := by decide +kernel
theorem dX11_odds_119 : decode cX11_odds 119 = .ok (.istore 10, 2) := by decide +kernel
theorem dX11_odds_121 : decode cX11_odds 121 = .ok (.iload 10, 2) := by decide +kernel
theorem dX11_odds_123 : decode cX11_odds 123 = .ok (.iload 5, 2) := by decide +kernel
theorem dX11_odds_125 : decode cX11_odds 125 = .ok (.if_icmp .ge 27, 3) := by decide +kernel
theorem dX11_odds_128 : decode cX11_odds 128 = .ok (.lload 6, 2) := by decide +kernel
theorem dX11_odds_130 : decode cX11_odds 130 = .ok (.bipush 16, 2) := by decide +kernel
theorem dX11_odds_132 : decode cX11_odds 132 = .ok (.iload_n 2, 1) := by decide +kernel
theorem dX11_odds_133 : decode cX11_odds 133 = .ok (.isub, 1) := by decide +kernel
theorem dX11_odds_134 : decode cX11_odds 134 = .ok (.i2l, 1) := by decide +kernel
theorem dX11_odds_135 : decode cX11_odds 135 = .ok (.lmul, 1) := by decide +kernel
theorem dX11_odds_136 : decode cX11_odds 136 = .ok (.lstore 6, 2) := by decide +kernel
theorem dX11_odds_138 : decode cX11_odds 138 = .ok (.lload 8, 2) := by decide +kernel
theorem dX11_odds_140 : decode cX11_odds 140 = .ok (.ldc2_w 348, 3) := by decide +kernel
theorem dX11_odds_143 : decode cX11_odds 143 = .ok (.lmul, 1) := by decide +kernel
theorem dX11_odds_144 : decode cX11_odds 144 = .ok (.lstore 8, 2) := by decide +kernel
theorem dX11_odds_146 : decode cX11_odds 146 = .ok (.iinc 10 1, 3) := by decide +kernel
theorem dX11_odds_149 : decode cX11_odds 149 = .ok (.goto (-28), 3) := by decide +kernel
theorem dX11_odds_152 : decode cX11_odds 152 = .ok (.aload_n 0, 1) := by decide +kernel
theorem dX11_odds_153 : decode cX11_odds 153 = .ok (.lload 6, 2) := by decide +kernel
theorem dX11_odds_155 : decode cX11_odds 155 = .ok (.lload 8, 2) := by decide +kernel
theorem dX11_odds_157 : decode cX11_odds 157 = .ok (.invokevirtual 350, 3) := by decide +kernel
theorem dX11_odds_160 : decode cX11_odds 160 = .ok (.aload_n 0, 1) := by decide +kernel
theorem dX11_odds_161 : decode cX11_odds 161 = .ok (.invokevirtual 122, 3) := by decide +kernel
theorem dX11_odds_164 : decode cX11_odds 164 = .ok (.ireturn, 1) := by decide +kernel
theorem dX11_open_0 : decode cX11_open 0 = .ok (.iconst 0, 1) := by decide +kernel
theorem dX11_open_1 : decode cX11_open 1 = .ok (.istore_n 1, 1) := by decide +kernel
theorem dX11_open_2 : decode cX11_open 2 = .ok (.iconst 0, 1) := by decide +kernel
theorem dX11_open_3 : decode cX11_open 3 = .ok (.istore_n 2, 1) := by decide +kernel
theorem dX11_open_4 : decode cX11_open 4 = .ok (.iload_n 2, 1) := by decide +kernel
theorem dX11_open_5 : decode cX11_open 5 = .ok (.aload_n 0, 1) := by decide +kernel
theorem dX11_open_6 : decode cX11_open 6 = .ok (.getfield 69, 3) := by decide +kernel
theorem dX11_open_9 : decode cX11_open 9 = .ok (.getfield 175, 3) := by decide +kernel
theorem dX11_open_12 : decode cX11_open 12 = .ok (.if_icmp .ge 44, 3) := by decide +kernel
theorem dX11_open_15 : decode cX11_open 15 = .ok (.aload_n 0, 1) := by decide +kernel
theorem dX11_open_16 : decode cX11_open 16 = .ok (.getfield 69, 3) := by decide +kernel
theorem dX11_open_19 : decode cX11_open 19 = .ok (.getfield 303, 3) := by decide +kernel
theorem dX11_open_22 : decode cX11_open 22 = .ok (.iload_n 2, 1) := by decide +kernel
theorem dX11_open_23 : decode cX11_open 23 = .ok (.aaload, 1) := by decide +kernel
theorem dX11_open_24 : decode cX11_open 24 = .ok (.astore_n 3, 1) := by decide +kernel
theorem dX11_open_25 : decode cX11_open 25 = .ok (.aload_n 3, 1) := by decide +kernel
theorem dX11_open_26 : decode cX11_open 26 = .ok (.getfield 287, 3) := by decide +kernel
theorem dX11_open_29 : decode cX11_open 29 = .ok (.ifCond .eq 21, 3) := by decide +kernel
theorem dX11_open_32 : decode cX11_open 32 = .ok (.aload_n 0, 1) := by decide +kernel
theorem dX11_open_33 : decode cX11_open 33 = .ok (.getfield 69, 3) := by decide +kernel
theorem dX11_open_36 : decode cX11_open 36 = .ok (.aload_n 3, 1) := by decide +kernel
theorem dX11_open_37 : decode cX11_open 37 = .ok (.invokevirtual 293, 3) := by decide +kernel
theorem dX11_open_40 : decode cX11_open 40 = .ok (.ifCond .ne 10, 3) := by decide +kernel
theorem dX11_open_43 : decode cX11_open 43 = .ok (.iload_n 1, 1) := by decide +kernel
theorem dX11_open_44 : decode cX11_open 44 = .ok (.aload_n 3, 1) := by decide +kernel
theorem dX11_open_45 : decode cX11_open 45 = .ok (.getfield 244, 3) := by decide +kernel
theorem dX11_open_48 : decode cX11_open 48 = .ok (.iadd, 1) := by decide +kernel
theorem dX11_open_49 : decode cX11_open 49 = .ok (.istore_n 1, 1) := by decide +kernel
theorem dX11_open_50 : decode cX11_open 50 = .ok (.iinc 2 1, 3) := by decide +kernel
theorem dX11_open_53 : decode cX11_open 53 = .ok (.goto (-49), 3) := by decide +kernel
theorem dX11_open_56 : decode cX11_open 56 = .ok (.aload_n 0, 1) := by decide +kernel
theorem dX11_open_57 : decode cX11_open 57 = .ok (.iload_n 1, 1) := by decide +kernel
theorem dX11_open_58 : decode cX11_open 58 = .ok (.invokevirtual 96, 3) := by decide +kernel
theorem dX11_open_61 : decode cX11_open 61 = .ok (.ireturn, 1) := by decide +kernel
theorem dX11_part_0 : decode cX11_part 0 = .ok (.aload_n 0, 1) := by decide +kernel
theorem dX11_part_1 : decode cX11_part 1 = .ok (.getfield 69, 3) := by decide +kernel
theorem dX11_part_4 : decode cX11_part 4 = .ok (.iload_n 1, 1) := by decide +kernel
theorem dX11_part_5 : decode cX11_part 5 = .ok (.invokevirtual 237, 3) := by decide +kernel
theorem dX11_part_8 : decode cX11_part 8 = .ok (.astore_n 3, 1) := by decide +kernel
theorem dX11_part_9 : decode cX11_part 9 = .ok (.aload_n 3, 1) := by decide +kernel
theorem dX11_part_10 : decode cX11_part 10 = .ok (.ifnonnull 9, 3) := by decide +kernel
theorem dX11_part_13 : decode cX11_part 13 = .ok (.aload_n 0, 1) := by decide +kernel
theorem dX11_part_14 : decode cX11_part 14 = .ok (.iconst 1, 1) := by decide +kernel
theorem dX11_part_15 : decode cX11_part 15 = .ok (.invokevirtual 100, 3) := by decide +kernel
theorem dX11_part_18 : decode cX11_part 18 = .ok (.ireturn, 1) := by decide +kernel
theorem dX11_part_19 : decode cX11_part 19 = .ok (.aload_n 3, 1) := by decide +kernel
theorem dX11_part_20 : decode cX11_part 20 = .ok (.getfield 287, 3) := by decide +kernel
theorem dX11_part_23 : decode cX11_part 23 = .ok (.ifCond .ne 10, 3) := by decide +kernel
theorem dX11_part_26 : decode cX11_part 26 = .ok (.aload_n 0, 1) := by decide +kernel
theorem dX11_part_27 : decode cX11_part 27 = .ok (.bipush 7, 2) := by decide +kernel
theorem dX11_part_29 : decode cX11_part 29 = .ok (.invokevirtual 100, 3) := by decide +kernel
theorem dX11_part_32 : decode cX11_part 32 = .ok (.ireturn, 1) := by decide +kernel
theorem dX11_part_33 : decode cX11_part 33 = .ok (.aload_n 3, 1) := by decide +kernel
theorem dX11_part_34 : decode cX11_part 34 = .ok (.invokevirtual 290, 3) := by decide +kernel
theorem dX11_part_37 : decode cX11_part 37 = .ok (.istore 4, 2) := by decide +kernel
theorem dX11_part_39 : decode cX11_part 39 = .ok (.iconst 0, 1) := by decide +kernel
theorem dX11_part_40 : decode cX11_part 40 = .ok (.istore 5, 2) := by decide +kernel
theorem dX11_part_42 : decode cX11_part 42 = .ok (.iconst 0, 1) := by decide +kernel
theorem dX11_part_43 : decode cX11_part 43 = .ok (.istore 6, 2) := by decide +kernel
theorem dX11_part_45 : decode cX11_part 45 = .ok (.iload 6, 2) := by decide +kernel
theorem dX11_part_47 : decode cX11_part 47 = .ok (.aload_n 0, 1) := by decide +kernel
theorem dX11_part_48 : decode cX11_part 48 = .ok (.getfield 69, 3) := by decide +kernel
theorem dX11_part_51 : decode cX11_part 51 = .ok (.getfield 194, 3) := by decide +kernel
theorem dX11_part_54 : decode cX11_part 54 = .ok (.if_icmp .ge 44, 3) := by decide +kernel
theorem dX11_part_57 : decode cX11_part 57 = .ok (.iload 4, 2) := by decide +kernel
theorem dX11_part_59 : decode cX11_part 59 = .ok (.iload 6, 2) := by decide +kernel
theorem dX11_part_61 : decode cX11_part 61 = .ok (.ishr, 1) := by decide +kernel
theorem dX11_part_62 : decode cX11_part 62 = .ok (.iconst 1, 1) := by decide +kernel
theorem dX11_part_63 : decode cX11_part 63 = .ok (.iand, 1) := by decide +kernel
theorem dX11_part_64 : decode cX11_part 64 = .ok (.iconst 1, 1) := by decide +kernel
theorem dX11_part_65 : decode cX11_part 65 = .ok (.if_icmp .ne 27, 3) := by decide +kernel
theorem dX11_part_68 : decode cX11_part 68 = .ok (.iload 5, 2) := by decide +kernel
theorem dX11_part_70 : decode cX11_part 70 = .ok (.iload_n 2, 1) := by decide +kernel
theorem dX11_part_71 : decode cX11_part 71 = .ok (.if_icmp .ne 18, 3) := by decide +kernel
theorem dX11_part_74 : decode cX11_part 74 = .ok (.aload_n 0, 1) := by decide +kernel
theorem dX11_part_75 : decode cX11_part 75 = .ok (.aload_n 0, 1) := by decide +kernel
theorem dX11_part_76 : decode cX11_part 76 = .ok (.getfield 69, 3) := by decide +kernel
theorem dX11_part_79 : decode cX11_part 79 = .ok (.iload 6, 2) := by decide +kernel
theorem dX11_part_81 : decode cX11_part 81 = .ok (.aload_n 3, 1) := by decide +kernel
theorem dX11_part_82 : decode cX11_part 82 = .ok (.invokevirtual 368, 3) := by decide +kernel
theorem dX11_part_85 : decode cX11_part 85 = .ok (.invokevirtual 96, 3) := by decide +kernel
theorem dX11_part_88 : decode cX11_part 88 = .ok (.ireturn, 1) := by decide +kernel
theorem dX11_part_89 : decode cX11_part 89 = .ok (.iinc 5 1, 3) := by decide +kernel
theorem dX11_part_92 : decode cX11_part 92 = .ok (.iinc 6 1, 3) := by decide +kernel
theorem dX11_part_95 : decode cX11_part 95 = .ok (.goto (-50), 3) := by decide +kernel
theorem dX11_part_98 : decode cX11_part 98 = .ok (.aload_n 0, 1) := by decide +kernel
theorem dX11_part_99 : decode cX11_part 99 = .ok (.bipush 6, 2) := by decide +kernel
theorem dX11_part_101 : decode cX11_part 101 = .ok (.invokevirtual 100, 3) := by decide +kernel
theorem dX11_part_104 : decode cX11_part 104 = .ok (.ireturn, 1) := by decide +kernel
theorem dX11_pass_0 : decode cX11_pass 0 = .ok (.aload_n 0, 1) := by decide +kernel
theorem dX11_pass_1 : decode cX11_pass 1 = .ok (.aload_n 0, 1) := by decide +kernel
theorem dX11_pass_2 : decode cX11_pass 2 = .ok (.getfield 69, 3) := by decide +kernel
theorem dX11_pass_5 : decode cX11_pass 5 = .ok (.iload_n 1, 1) := by decide +kernel
theorem dX11_pass_6 : decode cX11_pass 6 = .ok (.iload_n 2, 1) := by decide +kernel
theorem dX11_pass_7 : decode cX11_pass 7 = .ok (.invokevirtual 266, 3) := by decide +kernel
theorem dX11_pass_10 : decode cX11_pass 10 = .ok (.invokevirtual 263, 3) := by decide +kernel
theorem dX11_pass_13 : decode cX11_pass 13 = .ok (.ireturn, 1) := by decide +kernel
theorem dX11_pebble_0 : decode cX11_pebble 0 = .ok (.aload_n 0, 1) := by decide +kernel
theorem dX11_pebble_1 : decode cX11_pebble 1 = .ok (.getfield 69, 3) := by decide +kernel
theorem dX11_pebble_4 : decode cX11_pebble 4 = .ok (.iload_n 1, 1) := by decide +kernel
theorem dX11_pebble_5 : decode cX11_pebble 5 = .ok (.invokevirtual 237, 3) := by decide +kernel
theorem dX11_pebble_8 : decode cX11_pebble 8 = .ok (.astore 4, 2) := by decide +kernel
theorem dX11_pebble_10 : decode cX11_pebble 10 = .ok (.aload 4, 2) := by decide +kernel
theorem dX11_pebble_12 : decode cX11_pebble 12 = .ok (.ifnull 12, 3) := by decide +kernel
theorem dX11_pebble_15 : decode cX11_pebble 15 = .ok (.iload_n 3, 1) := by decide +kernel
theorem dX11_pebble_16 : decode cX11_pebble 16 = .ok (.ifCond .lt 8, 3) := by decide +kernel
theorem dX11_pebble_19 : decode cX11_pebble 19 = .ok (.iload_n 3, 1) := by decide +kernel
theorem dX11_pebble_20 : decode cX11_pebble 20 = .ok (.iconst 1, 1) := by decide +kernel
theorem dX11_pebble_21 : decode cX11_pebble 21 = .ok (.if_icmp .le 9, 3) := by decide +kernel
theorem dX11_pebble_24 : decode cX11_pebble 24 = .ok (.aload_n 0, 1) := by decide +kernel
theorem dX11_pebble_25 : decode cX11_pebble 25 = .ok (.iconst 1, 1) := by decide +kernel
theorem dX11_pebble_26 : decode cX11_pebble 26 = .ok (.invokevirtual 100, 3) := by decide +kernel
theorem dX11_pebble_29 : decode cX11_pebble 29 = .ok (.ireturn, 1) := by decide +kernel
theorem dX11_pebble_30 : decode cX11_pebble 30 = .ok (.aload 4, 2) := by decide +kernel
theorem dX11_pebble_32 : decode cX11_pebble 32 = .ok (.iload_n 2, 1) := by decide +kernel
theorem dX11_pebble_33 : decode cX11_pebble 33 = .ok (.invokevirtual 250, 3) := by decide +kernel
theorem dX11_pebble_36 : decode cX11_pebble 36 = .ok (.ifCond .ne 10, 3) := by decide +kernel
theorem dX11_pebble_39 : decode cX11_pebble 39 = .ok (.aload_n 0, 1) := by decide +kernel
theorem dX11_pebble_40 : decode cX11_pebble 40 = .ok (.bipush 6, 2) := by decide +kernel
theorem dX11_pebble_42 : decode cX11_pebble 42 = .ok (.invokevirtual 100, 3) := by decide +kernel
theorem dX11_pebble_45 : decode cX11_pebble 45 = .ok (.ireturn, 1) := by decide +kernel
theorem dX11_pebble_46 : decode cX11_pebble 46 = .ok (.aload_n 0, 1) := by decide +kernel
theorem dX11_pebble_47 : decode cX11_pebble 47 = .ok (.iload_n 3, 1) := by decide +kernel
theorem dX11_pebble_48 : decode cX11_pebble 48 = .ok (.ifCond .ne 13, 3) := by decide +kernel
theorem dX11_pebble_51 : decode cX11_pebble 51 = .ok (.aload 4, 2) := by decide +kernel
theorem dX11_pebble_53 : decode cX11_pebble 53 = .ok (.getfield 253, 3) := by decide +kernel
theorem dX11_pebble_56 : decode cX11_pebble 56 = .ok (.iload_n 2, 1) := by decide +kernel
theorem dX11_pebble_57 : decode cX11_pebble 57 = .ok (.iaload, 1) := by decide +kernel
theorem dX11_pebble_58 : decode cX11_pebble 58 = .ok (.goto 10, 3) := by decide +kernel
theorem dX11_pebble_61 : decode cX11_pebble 61 = .ok (.aload 4, 2) := by decide +kernel
theorem dX11_pebble_63 : decode cX11_pebble 63 = .ok (.getfield 256, 3) := by decide +kernel
theorem dX11_pebble_66 : decode cX11_pebble 66 = .ok (.iload_n 2, 1) := by decide +kernel
theorem dX11_pebble_67 : decode cX11_pebble 67 = .ok (.iaload, 1) := by decide +kernel
theorem dX11_pebble_68 : decode cX11_pebble 68 = .ok (.invokevirtual 96, 3) := by decide +kernel
theorem dX11_pebble_71 : decode cX11_pebble 71 = .ok (.ireturn, 1) := by decide +kernel
theorem dX11_pour_0 : decode cX11_pour 0 = .ok (.aload_n 0, 1) := by decide +kernel
theorem dX11_pour_1 : decode cX11_pour 1 = .ok (.iload_n 1, 1) := by decide +kernel
theorem dX11_pour_2 : decode cX11_pour 2 = .ok (.invokevirtual 110, 3) := by decide +kernel
theorem dX11_pour_5 : decode cX11_pour 5 = .ok (.astore 6, 2) := by decide +kernel
theorem dX11_pour_7 : decode cX11_pour 7 = .ok (.aload_n 0, 1) := by decide +kernel
theorem dX11_pour_8 : decode cX11_pour 8 = .ok (.iload_n 3, 1) := by decide +kernel
theorem dX11_pour_9 : decode cX11_pour 9 = .ok (.invokevirtual 110, 3) := by decide +kernel
theorem dX11_pour_12 : decode cX11_pour 12 = .ok (.astore 7, 2) := by decide +kernel
theorem dX11_pour_14 : decode cX11_pour 14 = .ok (.aload 6, 2) := by decide +kernel
theorem dX11_pour_16 : decode cX11_pour 16 = .ok (.ifnull 22, 3) := by decide +kernel
theorem dX11_pour_19 : decode cX11_pour 19 = .ok (.aload 7, 2) := by decide +kernel
theorem dX11_pour_21 : decode cX11_pour 21 = .ok (.ifnull 17, 3) := by decide +kernel
theorem dX11_pour_24 : decode cX11_pour 24 = .ok (.iload_n 2, 1) := by decide +kernel
theorem dX11_pour_25 : decode cX11_pour 25 = .ok (.ifCond .lt 13, 3) := by decide +kernel
theorem dX11_pour_28 : decode cX11_pour 28 = .ok (.iload 4, 2) := by decide +kernel
theorem dX11_pour_30 : decode cX11_pour 30 = .ok (.ifCond .lt 8, 3) := by decide +kernel
theorem dX11_pour_33 : decode cX11_pour 33 = .ok (.iload 5, 2) := by decide +kernel
theorem dX11_pour_35 : decode cX11_pour 35 = .ok (.ifCond .ge 9, 3) := by decide +kernel
theorem dX11_pour_38 : decode cX11_pour 38 = .ok (.aload_n 0, 1) := by decide +kernel
theorem dX11_pour_39 : decode cX11_pour 39 = .ok (.iconst 1, 1) := by decide +kernel
theorem dX11_pour_40 : decode cX11_pour 40 = .ok (.invokevirtual 114, 3) := by decide +kernel
theorem dX11_pour_43 : decode cX11_pour 43 = .ok (.ireturn, 1) := by decide +kernel
theorem dX11_pour_44 : decode cX11_pour 44 = .ok (.aload 6, 2) := by decide +kernel
theorem dX11_pour_46 : decode cX11_pour 46 = .ok (.getfield 126, 3) := by decide +kernel
theorem dX11_pour_49 : decode cX11_pour 49 = .ok (.ifCond .ne 11, 3) := by decide +kernel
theorem dX11_pour_52 : decode cX11_pour 52 = .ok (.aload 7, 2) := by decide +kernel
theorem dX11_pour_54 : decode cX11_pour 54 = .ok (.getfield 126, 3) := by decide +kernel
theorem dX11_pour_57 : decode cX11_pour 57 = .ok (.ifCond .eq 9, 3) := by decide +kernel
theorem dX11_pour_60 : decode cX11_pour 60 = .ok (.aload_n 0, 1) := by decide +kernel
theorem dX11_pour_61 : decode cX11_pour 61 = .ok (.iconst 2, 1) := by decide +kernel
theorem dX11_pour_62 : decode cX11_pour 62 = .ok (.invokevirtual 114, 3) := by decide +kernel
theorem dX11_pour_65 : decode cX11_pour 65 = .ok (.ireturn, 1) := by decide +kernel
theorem dX11_pour_66 : decode cX11_pour 66 = .ok (.aload 6, 2) := by decide +kernel
theorem dX11_pour_68 : decode cX11_pour 68 = .ok (.getfield 142, 3) := by decide +kernel
theorem dX11_pour_71 : decode cX11_pour 71 = .ok (.aload 7, 2) := by decide +kernel
theorem dX11_pour_73 : decode cX11_pour 73 = .ok (.getfield 142, 3) := by decide +kernel
theorem dX11_pour_76 : decode cX11_pour 76 = .ok (.if_icmp .eq 10, 3) := by decide +kernel
theorem dX11_pour_79 : decode cX11_pour 79 = .ok (.aload_n 0, 1) := by decide +kernel
theorem dX11_pour_80 : decode cX11_pour 80 = .ok (.bipush 8, 2) := by decide +kernel
theorem dX11_pour_82 : decode cX11_pour 82 = .ok (.invokevirtual 114, 3) := by decide +kernel
theorem dX11_pour_85 : decode cX11_pour 85 = .ok (.ireturn, 1) := by decide +kernel
theorem dX11_pour_86 : decode cX11_pour 86 = .ok (.aload 6, 2) := by decide +kernel
theorem dX11_pour_88 : decode cX11_pour 88 = .ok (.iload_n 2, 1) := by decide +kernel
theorem dX11_pour_89 : decode cX11_pour 89 = .ok (.iload 5, 2) := by decide +kernel
theorem dX11_pour_91 : decode cX11_pour 91 = .ok (.invokevirtual 130, 3) := by decide +kernel
theorem dX11_pour_94 : decode cX11_pour 94 = .ok (.ifCond .eq 15, 3) := by decide +kernel
theorem dX11_pour_97 : decode cX11_pour 97 = .ok (.aload 7, 2) := by decide +kernel
theorem dX11_pour_99 : decode cX11_pour 99 = .ok (.iload 4, 2) := by decide +kernel
theorem dX11_pour_101 : decode cX11_pour 101 = .ok (.iload 5, 2) := by decide +kernel
theorem dX11_pour_103 : decode cX11_pour 103 = .ok (.invokevirtual 130, 3) := by decide +kernel
theorem dX11_pour_106 : decode cX11_pour 106 = .ok (.ifCond .ne 9, 3) := by decide +kernel
theorem dX11_pour_109 : decode cX11_pour 109 = .ok (.aload_n 0, 1) := by decide +kernel
theorem dX11_pour_110 : decode cX11_pour 110 = .ok (.iconst 3, 1) := by decide +kernel
theorem dX11_pour_111 : decode cX11_pour 111 = .ok (.invokevirtual 114, 3) := by decide +kernel
theorem dX11_pour_114 : decode cX11_pour 114 = .ok (.ireturn, 1) := by decide +kernel
theorem dX11_pour_115 : decode cX11_pour 115 = .ok (.aload 6, 2) := by decide +kernel
theorem dX11_pour_117 : decode cX11_pour 117 = .ok (.getfield 145, 3) := by decide +kernel
theorem dX11_pour_120 : decode cX11_pour 120 = .ok (.iload_n 2, 1) := by decide +kernel
theorem dX11_pour_121 : decode cX11_pour 121 = .ok (.aload 7, 2) := by decide +kernel
theorem dX11_pour_123 : decode cX11_pour 123 = .ok (.getfield 145, 3) := by decide +kernel
theorem dX11_pour_126 : decode cX11_pour 126 = .ok (.iload 4, 2) := by decide +kernel
theorem dX11_pour_128 : decode cX11_pour 128 = .ok (.iload 5, 2) := by decide +kernel
theorem dX11_pour_130 : decode cX11_pour 130 = .ok (.invokestatic 149, 3) := by decide +kernel
theorem dX11_pour_133 : decode cX11_pour 133 = .ok (.aload_n 0, 1) := by decide +kernel
theorem dX11_pour_134 : decode cX11_pour 134 = .ok (.invokevirtual 122, 3) := by decide +kernel
theorem dX11_pour_137 : decode cX11_pour 137 = .ok (.ireturn, 1) := by decide +kernel
theorem dX11_ranked_0 : decode cX11_ranked 0 = .ok (.aload_n 0, 1) := by decide +kernel
theorem dX11_ranked_1 : decode cX11_ranked 1 = .ok (.getfield 69, 3) := by decide +kernel
theorem dX11_ranked_4 : decode cX11_ranked 4 = .ok (.iload_n 1, 1) := by decide +kernel
theorem dX11_ranked_5 : decode cX11_ranked 5 = .ok (.invokevirtual 300, 3) := by decide +kernel
theorem dX11_ranked_8 : decode cX11_ranked 8 = .ok (.istore_n 2, 1) := by decide +kernel
theorem dX11_ranked_9 : decode cX11_ranked 9 = .ok (.iload_n 2, 1) := by decide +kernel
theorem dX11_ranked_10 : decode cX11_ranked 10 = .ok (.iconst (-1), 1) := by decide +kernel
theorem dX11_ranked_11 : decode cX11_ranked 11 = .ok (.if_icmp .ne 12, 3) := by decide +kernel
theorem dX11_ranked_14 : decode cX11_ranked 14 = .ok (.aload_n 0, 1) := by decide +kernel
theorem dX11_ranked_15 : decode cX11_ranked 15 = .ok (.bipush 6, 2) := by decide +kernel
theorem dX11_ranked_17 : decode cX11_ranked 17 = .ok (.invokevirtual 100, 3) := by decide +kernel
theorem dX11_ranked_20 : decode cX11_ranked 20 = .ok (.goto 8, 3) := by decide +kernel
theorem dX11_ranked_23 : decode cX11_ranked 23 = .ok (.aload_n 0, 1) := by decide +kernel
theorem dX11_ranked_24 : decode cX11_ranked 24 = .ok (.iload_n 2, 1) := by decide +kernel
theorem dX11_ranked_25 : decode cX11_ranked 25 = .ok (.invokevirtual 96, 3) := by decide +kernel
theorem dX11_ranked_28 : decode cX11_ranked 28 = .ok (.ireturn, 1) := by decide +kernel
theorem dX11_read_0 : decode cX11_read 0 = .ok (.aload_n 0, 1) := by decide +kernel
theorem dX11_read_1 : decode cX11_read 1 = .ok (.iload_n 1, 1) := by decide +kernel
theorem dX11_read_2 : decode cX11_read 2 = .ok (.invokevirtual 110, 3) := by decide +kernel
theorem dX11_read_5 : decode cX11_read 5 = .ok (.astore_n 3, 1) := by decide +kernel
theorem dX11_read_6 : decode cX11_read 6 = .ok (.aload_n 3, 1) := by decide +kernel
theorem dX11_read_7 : decode cX11_read 7 = .ok (.ifnonnull 10, 3) := by decide +kernel
theorem dX11_read_10 : decode cX11_read 10 = .ok (.aload_n 0, 1) := by decide +kernel
theorem dX11_read_11 : decode cX11_read 11 = .ok (.iconst 1, 1) := by decide +kernel
theorem dX11_read_12 : decode cX11_read 12 = .ok (.invokevirtual 100, 3) := by decide +kernel
theorem dX11_read_15 : decode cX11_read 15 = .ok (.i2l, 1) := by decide +kernel
theorem dX11_read_16 : decode cX11_read 16 = .ok (.lreturn, 1) := by decide +kernel
theorem dX11_read_17 : decode cX11_read 17 = .ok (.aload_n 3, 1) := by decide +kernel
theorem dX11_read_18 : decode cX11_read 18 = .ok (.getfield 126, 3) := by decide +kernel
theorem dX11_read_21 : decode cX11_read 21 = .ok (.ifCond .eq 10, 3) := by decide +kernel
theorem dX11_read_24 : decode cX11_read 24 = .ok (.aload_n 0, 1) := by decide +kernel
theorem dX11_read_25 : decode cX11_read 25 = .ok (.iconst 2, 1) := by decide +kernel
theorem dX11_read_26 : decode cX11_read 26 = .ok (.invokevirtual 100, 3) := by decide +kernel
theorem dX11_read_29 : decode cX11_read 29 = .ok (.i2l, 1) := by decide +kernel
theorem dX11_read_30 : decode cX11_read 30 = .ok (.lreturn, 1) := by decide +kernel
theorem dX11_read_31 : decode cX11_read 31 = .ok (.aload_n 3, 1) := by decide +kernel
theorem dX11_read_32 : decode cX11_read 32 = .ok (.iload_n 2, 1) := by decide +kernel
theorem dX11_read_33 : decode cX11_read 33 = .ok (.iconst 1, 1) := by decide +kernel
theorem dX11_read_34 : decode cX11_read 34 = .ok (.invokevirtual 130, 3) := by decide +kernel
theorem dX11_read_37 : decode cX11_read 37 = .ok (.ifCond .ne 10, 3) := by decide +kernel
theorem dX11_read_40 : decode cX11_read 40 = .ok (.aload_n 0, 1) := by decide +kernel
theorem dX11_read_41 : decode cX11_read 41 = .ok (.iconst 3, 1) := by decide +kernel
theorem dX11_read_42 : decode cX11_read 42 = .ok (.invokevirtual 100, 3) := by decide +kernel
theorem dX11_read_45 : decode cX11_read 45 = .ok (.i2l, 1) := by decide +kernel
theorem dX11_read_46 : decode cX11_read 46 = .ok (.lreturn, 1) := by decide +kernel
theorem dX11_read_47 : decode cX11_read 47 = .ok (.aload_n 0, 1) := by decide +kernel
theorem dX11_read_48 : decode cX11_read 48 = .ok (.iconst 0, 1) := by decide +kernel
theorem dX11_read_49 : decode cX11_read 49 = .ok (.putfield 89, 3) := by decide +kernel
theorem dX11_read_52 : decode cX11_read 52 = .ok (.aload_n 3, 1) := by decide +kernel
theorem dX11_read_53 : decode cX11_read 53 = .ok (.iload_n 2, 1) := by decide +kernel
theorem dX11_read_54 : decode cX11_read 54 = .ok (.invokevirtual 138, 3) := by decide +kernel
theorem dX11_read_57 : decode cX11_read 57 = .ok (.lreturn, 1) := by decide +kernel
theorem dX11_richest_0 : decode cX11_richest 0 = .ok (.iconst (-1), 1) := by decide +kernel
theorem dX11_richest_1 : decode cX11_richest 1 = .ok (.istore_n 1, 1) := by decide +kernel
theorem dX11_richest_2 : decode cX11_richest 2 = .ok (.iconst (-1), 1) := by decide +kernel
theorem dX11_richest_3 : decode cX11_richest 3 = .ok (.istore_n 2, 1) := by decide +kernel
theorem dX11_richest_4 : decode cX11_richest 4 = .ok (.iconst 0, 1) := by decide +kernel
theorem dX11_richest_5 : decode cX11_richest 5 = .ok (.istore_n 3, 1) := by decide +kernel
theorem dX11_richest_6 : decode cX11_richest 6 = .ok (.iload_n 3, 1) := by decide +kernel
theorem dX11_richest_7 : decode cX11_richest 7 = .ok (.aload_n 0, 1) := by decide +kernel
theorem dX11_richest_8 : decode cX11_richest 8 = .ok (.getfield 69, 3) := by decide +kernel
theorem dX11_richest_11 : decode cX11_richest 11 = .ok (.getfield 175, 3) := by decide +kernel
theorem dX11_richest_14 : decode cX11_richest 14 = .ok (.if_icmp .ge 45, 3) := by decide +kernel
theorem dX11_richest_17 : decode cX11_richest 17 = .ok (.aload_n 0, 1) := by decide +kernel
theorem dX11_richest_18 : decode cX11_richest 18 = .ok (.getfield 69, 3) := by decide +kernel
theorem dX11_richest_21 : decode cX11_richest 21 = .ok (.getfield 303, 3) := by decide +kernel
theorem dX11_richest_24 : decode cX11_richest 24 = .ok (.iload_n 3, 1) := by decide +kernel
theorem dX11_richest_25 : decode cX11_richest 25 = .ok (.aaload, 1) := by decide +kernel
theorem dX11_richest_26 : decode cX11_richest 26 = .ok (.astore 4, 2) := by decide +kernel
theorem dX11_richest_28 : decode cX11_richest 28 = .ok (.aload 4, 2) := by decide +kernel
theorem dX11_richest_30 : decode cX11_richest 30 = .ok (.getfield 287, 3) := by decide +kernel
theorem dX11_richest_33 : decode cX11_richest 33 = .ok (.ifCond .eq 20, 3) := by decide +kernel
theorem dX11_richest_36 : decode cX11_richest 36 = .ok (.aload 4, 2) := by decide +kernel
theorem dX11_richest_38 : decode cX11_richest 38 = .ok (.getfield 244, 3) := by decide +kernel
theorem dX11_richest_41 : decode cX11_richest 41 = .ok (.iload_n 2, 1) := by decide +kernel
theorem dX11_richest_42 : decode cX11_richest 42 = .ok (.if_icmp .le 11, 3) := by decide +kernel
theorem dX11_richest_45 : decode cX11_richest 45 = .ok (.aload 4, 2) := by decide +kernel
theorem dX11_richest_47 : decode cX11_richest 47 = .ok (.getfield 244, 3) := by decide +kernel
theorem dX11_richest_50 : decode cX11_richest 50 = .ok (.istore_n 2, 1) := by decide +kernel
theorem dX11_richest_51 : decode cX11_richest 51 = .ok (.iload_n 3, 1) := by decide +kernel
theorem dX11_richest_52 : decode cX11_richest 52 = .ok (.istore_n 1, 1) := by decide +kernel
theorem dX11_richest_53 : decode cX11_richest 53 = .ok (.iinc 3 1, 3) := by decide +kernel
theorem dX11_richest_56 : decode cX11_richest 56 = .ok (.goto (-50), 3) := by decide +kernel
theorem dX11_richest_59 : decode cX11_richest 59 = .ok (.iload_n 1, 1) := by decide +kernel
theorem dX11_richest_60 : decode cX11_richest 60 = .ok (.iconst (-1), 1) := by decide +kernel
theorem dX11_richest_61 : decode cX11_richest 61 = .ok (.if_icmp .ne 12, 3) := by decide +kernel
theorem dX11_richest_64 : decode cX11_richest 64 = .ok (.aload_n 0, 1) := by decide +kernel
theorem dX11_richest_65 : decode cX11_richest 65 = .ok (.bipush 6, 2) := by decide +kernel
theorem dX11_richest_67 : decode cX11_richest 67 = .ok (.invokevirtual 100, 3) := by decide +kernel
theorem dX11_richest_70 : decode cX11_richest 70 = .ok (.goto 8, 3) := by decide +kernel
theorem dX11_richest_73 : decode cX11_richest 73 = .ok (.aload_n 0, 1) := by decide +kernel
theorem dX11_richest_74 : decode cX11_richest 74 = .ok (.iload_n 1, 1) := by decide +kernel
theorem dX11_richest_75 : decode cX11_richest 75 = .ok (.invokevirtual 96, 3) := by decide +kernel
theorem dX11_richest_78 : decode cX11_richest 78 = .ok (.ireturn, 1) := by decide +kernel
theorem dX11_rivals_0 : decode cX11_rivals 0 = .ok (.aload_n 0, 1) := by decide +kernel
theorem dX11_rivals_1 : decode cX11_rivals 1 = .ok (.getfield 69, 3) := by decide +kernel
theorem dX11_rivals_4 : decode cX11_rivals 4 = .ok (.iload_n 1, 1) := by decide +kernel
theorem dX11_rivals_5 : decode cX11_rivals 5 = .ok (.invokevirtual 216, 3) := by decide +kernel
theorem dX11_rivals_8 : decode cX11_rivals 8 = .ok (.ifnull 19, 3) := by decide +kernel
theorem dX11_rivals_11 : decode cX11_rivals 11 = .ok (.aload_n 0, 1) := by decide +kernel
theorem dX11_rivals_12 : decode cX11_rivals 12 = .ok (.getfield 69, 3) := by decide +kernel
theorem dX11_rivals_15 : decode cX11_rivals 15 = .ok (.iload_n 2, 1) := by decide +kernel
theorem dX11_rivals_16 : decode cX11_rivals 16 = .ok (.invokevirtual 216, 3) := by decide +kernel
theorem dX11_rivals_19 : decode cX11_rivals 19 = .ok (.ifnull 8, 3) := by decide +kernel
theorem dX11_rivals_22 : decode cX11_rivals 22 = .ok (.iload_n 1, 1) := by decide +kernel
theorem dX11_rivals_23 : decode cX11_rivals 23 = .ok (.iload_n 2, 1) := by decide +kernel
theorem dX11_rivals_24 : decode cX11_rivals 24 = .ok (.if_icmp .ne 9, 3) := by decide +kernel
theorem dX11_rivals_27 : decode cX11_rivals 27 = .ok (.aload_n 0, 1) := by decide +kernel
theorem dX11_rivals_28 : decode cX11_rivals 28 = .ok (.iconst 1, 1) := by decide +kernel
theorem dX11_rivals_29 : decode cX11_rivals 29 = .ok (.invokevirtual 100, 3) := by decide +kernel
theorem dX11_rivals_32 : decode cX11_rivals 32 = .ok (.ireturn, 1) := by decide +kernel
theorem dX11_rivals_33 : decode cX11_rivals 33 = .ok (.iconst 1, 1) := by decide +kernel
theorem dX11_rivals_34 : decode cX11_rivals 34 = .ok (.iload_n 1, 1) := by decide +kernel
theorem dX11_rivals_35 : decode cX11_rivals 35 = .ok (.ishl, 1) := by decide +kernel
theorem dX11_rivals_36 : decode cX11_rivals 36 = .ok (.iconst 1, 1) := by decide +kernel
theorem dX11_rivals_37 : decode cX11_rivals 37 = .ok (.iload_n 2, 1) := by decide +kernel
theorem dX11_rivals_38 : decode cX11_rivals 38 = .ok (.ishl, 1) := by decide +kernel
theorem dX11_rivals_39 : decode cX11_rivals 39 = .ok (.ior, 1) := by decide +kernel
theorem dX11_rivals_40 : decode cX11_rivals 40 = .ok (.istore_n 3, 1) := by decide +kernel
theorem dX11_rivals_41 : decode cX11_rivals 41 = .ok (.iconst 0, 1) := by decide +kernel
theorem dX11_rivals_42 : decode cX11_rivals 42 = .ok (.istore 4, 2) := by decide +kernel
theorem dX11_rivals_44 : decode cX11_rivals 44 = .ok (.iconst 0, 1) := by decide +kernel
theorem dX11_rivals_45 : decode cX11_rivals 45 = .ok (.istore 5, 2) := by decide +kernel
theorem dX11_rivals_47 : decode cX11_rivals 47 = .ok (.iload 5, 2) := by decide +kernel
theorem dX11_rivals_49 : decode cX11_rivals 49 = .ok (.aload_n 0, 1) := by decide +kernel
theorem dX11_rivals_50 : decode cX11_rivals 50 = .ok (.getfield 69, 3) := by decide +kernel
theorem dX11_rivals_53 : decode cX11_rivals 53 = .ok (.getfield 175, 3) := by decide +kernel
theorem dX11_rivals_56 : decode cX11_rivals 56 = .ok (.if_icmp .ge 37, 3) := by decide +kernel
theorem dX11_rivals_59 : decode cX11_rivals 59 = .ok (.aload_n 0, 1) := by decide +kernel
theorem dX11_rivals_60 : decode cX11_rivals 60 = .ok (.getfield 69, 3) := by decide +kernel
theorem dX11_rivals_63 : decode cX11_rivals 63 = .ok (.getfield 303, 3) := by decide +kernel
theorem dX11_rivals_66 : decode cX11_rivals 66 = .ok (.iload 5, 2) := by decide +kernel
theorem dX11_rivals_68 : decode cX11_rivals 68 = .ok (.aaload, 1) := by decide +kernel
theorem dX11_rivals_69 : decode cX11_rivals 69 = .ok (.invokevirtual 371, 3) := by decide +kernel
theorem dX11_rivals_72 : decode cX11_rivals 72 = .ok (.iload_n 3, 1) := by decide +kernel
theorem dX11_rivals_73 : decode cX11_rivals 73 = .ok (.iand, 1) := by decide +kernel
theorem dX11_rivals_74 : decode cX11_rivals 74 = .ok (.iload_n 3, 1) := by decide +kernel
theorem dX11_rivals_75 : decode cX11_rivals 75 = .ok (.if_icmp .ne 12, 3) := by decide +kernel
theorem dX11_rivals_78 : decode cX11_rivals 78 = .ok (.iload 4, 2) := by decide +kernel
theorem dX11_rivals_80 : decode cX11_rivals 80 = .ok (.iconst 1, 1) := by decide +kernel
theorem dX11_rivals_81 : decode cX11_rivals 81 = .ok (.iload 5, 2) := by decide +kernel
theorem dX11_rivals_83 : decode cX11_rivals 83 = .ok (.ishl, 1) := by decide +kernel
theorem dX11_rivals_84 : decode cX11_rivals 84 = .ok (.ior, 1) := by decide +kernel
theorem dX11_rivals_85 : decode cX11_rivals 85 = .ok (.istore 4, 2) := by decide +kernel
theorem dX11_rivals_87 : decode cX11_rivals 87 = .ok (.iinc 5 1, 3) := by decide +kernel
theorem dX11_rivals_90 : decode cX11_rivals 90 = .ok (.goto (-43), 3) := by decide +kernel
theorem dX11_rivals_93 : decode cX11_rivals 93 = .ok (.aload_n 0, 1) := by decide +kernel
theorem dX11_rivals_94 : decode cX11_rivals 94 = .ok (.iload 4, 2) := by decide +kernel
theorem dX11_rivals_96 : decode cX11_rivals 96 = .ok (.invokevirtual 96, 3) := by decide +kernel
theorem dX11_rivals_99 : decode cX11_rivals 99 = .ok (.ireturn, 1) := by decide +kernel
theorem dX0_threatTo_0 : decode cX0_threatTo 0 = .ok (.iconst 0, 1) := by decide +kernel
theorem dX0_threatTo_1 : decode cX0_threatTo 1 = .ok (.istore_n 2, 1) := by decide +kernel
theorem dX0_threatTo_2 : decode cX0_threatTo 2 = .ok (.iconst 0, 1) := by decide +kernel
theorem dX0_threatTo_3 : decode cX0_threatTo 3 = .ok (.istore_n 3, 1) := by decide +kernel
theorem dX0_threatTo_4 : decode cX0_threatTo 4 = .ok (.iload_n 3, 1) := by decide +kernel
theorem dX0_threatTo_5 : decode cX0_threatTo 5 = .ok (.aload_n 0, 1) := by decide +kernel
theorem dX0_threatTo_6 : decode cX0_threatTo 6 = .ok (.getfield 44, 3) := by decide +kernel
theorem dX0_threatTo_9 : decode cX0_threatTo 9 = .ok (.if_icmp .ge 25, 3) := by decide +kernel
theorem dX0_threatTo_12 : decode cX0_threatTo 12 = .ok (.aload_n 0, 1) := by decide +kernel
theorem dX0_threatTo_13 : decode cX0_threatTo 13 = .ok (.iload_n 3, 1) := by decide +kernel
theorem dX0_threatTo_14 : decode cX0_threatTo 14 = .ok (.aload_n 1, 1) := by decide +kernel
theorem dX0_threatTo_15 : decode cX0_threatTo 15 = .ok (.invokevirtual 188, 3) := by decide +kernel
theorem dX0_threatTo_18 : decode cX0_threatTo 18 = .ok (.iconst (-1), 1) := by decide +kernel
theorem dX0_threatTo_19 : decode cX0_threatTo 19 = .ok (.if_icmp .eq 9, 3) := by decide +kernel
theorem dX0_threatTo_22 : decode cX0_threatTo 22 = .ok (.iload_n 2, 1) := by decide +kernel
theorem dX0_threatTo_23 : decode cX0_threatTo 23 = .ok (.iconst 1, 1) := by decide +kernel
theorem dX0_threatTo_24 : decode cX0_threatTo 24 = .ok (.iload_n 3, 1) := by decide +kernel
theorem dX0_threatTo_25 : decode cX0_threatTo 25 = .ok (.ishl, 1) := by decide +kernel
theorem dX0_threatTo_26 : decode cX0_threatTo 26 = .ok (.ior, 1) := by decide +kernel
theorem dX0_threatTo_27 : decode cX0_threatTo 27 = .ok (.istore_n 2, 1) := by decide +kernel
theorem dX0_threatTo_28 : decode cX0_threatTo 28 = .ok (.iinc 3 1, 3) := by decide +kernel
theorem dX0_threatTo_31 : decode cX0_threatTo 31 = .ok (.goto (-27), 3) := by decide +kernel
theorem dX0_threatTo_34 : decode cX0_threatTo 34 = .ok (.iload_n 2, 1) := by decide +kernel
theorem dX0_threatTo_35 : decode cX0_threatTo 35 = .ok (.ireturn, 1) := by decide +kernel
theorem dX11_safe_0 : decode cX11_safe 0 = .ok (.aload_n 0, 1) := by decide +kernel
theorem dX11_safe_1 : decode cX11_safe 1 = .ok (.getfield 69, 3) := by decide +kernel
theorem dX11_safe_4 : decode cX11_safe 4 = .ok (.iload_n 1, 1) := by decide +kernel
theorem dX11_safe_5 : decode cX11_safe 5 = .ok (.invokevirtual 216, 3) := by decide +kernel
theorem dX11_safe_8 : decode cX11_safe 8 = .ok (.ifnonnull 9, 3) := by decide +kernel
theorem dX11_safe_11 : decode cX11_safe 11 = .ok (.aload_n 0, 1) := by decide +kernel
theorem dX11_safe_12 : decode cX11_safe 12 = .ok (.iconst 1, 1) := by decide +kernel
theorem dX11_safe_13 : decode cX11_safe 13 = .ok (.invokevirtual 100, 3) := by decide +kernel
theorem dX11_safe_16 : decode cX11_safe 16 = .ok (.ireturn, 1) := by decide +kernel
theorem dX11_safe_17 : decode cX11_safe 17 = .ok (.iconst 1, 1) := by decide +kernel
theorem dX11_safe_18 : decode cX11_safe 18 = .ok (.iload_n 1, 1) := by decide +kernel
theorem dX11_safe_19 : decode cX11_safe 19 = .ok (.ishl, 1) := by decide +kernel
theorem dX11_safe_20 : decode cX11_safe 20 = .ok (.istore_n 2, 1) := by decide +kernel
theorem dX11_safe_21 : decode cX11_safe 21 = .ok (.iconst 0, 1) := by decide +kernel
theorem dX11_safe_22 : decode cX11_safe 22 = .ok (.istore_n 3, 1) := by decide +kernel
theorem dX11_safe_23 : decode cX11_safe 23 = .ok (.iconst 0, 1) := by decide +kernel
theorem dX11_safe_24 : decode cX11_safe 24 = .ok (.istore 4, 2) := by decide +kernel
theorem dX11_safe_26 : decode cX11_safe 26 = .ok (.iload 4, 2) := by decide +kernel
theorem dX11_safe_28 : decode cX11_safe 28 = .ok (.aload_n 0, 1) := by decide +kernel
theorem dX11_safe_29 : decode cX11_safe 29 = .ok (.getfield 69, 3) := by decide +kernel
theorem dX11_safe_32 : decode cX11_safe 32 = .ok (.getfield 175, 3) := by decide +kernel
theorem dX11_safe_35 : decode cX11_safe 35 = .ok (.if_icmp .ge 53, 3) := by decide +kernel
theorem dX11_safe_38 : decode cX11_safe 38 = .ok (.aload_n 0, 1) := by decide +kernel
theorem dX11_safe_39 : decode cX11_safe 39 = .ok (.getfield 69, 3) := by decide +kernel
theorem dX11_safe_42 : decode cX11_safe 42 = .ok (.getfield 303, 3) := by decide +kernel
theorem dX11_safe_45 : decode cX11_safe 45 = .ok (.iload 4, 2) := by decide +kernel
theorem dX11_safe_47 : decode cX11_safe 47 = .ok (.aaload, 1) := by decide +kernel
theorem dX11_safe_48 : decode cX11_safe 48 = .ok (.astore 5, 2) := by decide +kernel
theorem dX11_safe_50 : decode cX11_safe 50 = .ok (.aload 5, 2) := by decide +kernel
theorem dX11_safe_52 : decode cX11_safe 52 = .ok (.invokevirtual 290, 3) := by decide +kernel
theorem dX11_safe_55 : decode cX11_safe 55 = .ok (.iload_n 2, 1) := by decide +kernel
theorem dX11_safe_56 : decode cX11_safe 56 = .ok (.if_icmp .ne 26, 3) := by decide +kernel
theorem dX11_safe_59 : decode cX11_safe 59 = .ok (.aload_n 0, 1) := by decide +kernel
theorem dX11_safe_60 : decode cX11_safe 60 = .ok (.getfield 69, 3) := by decide +kernel
theorem dX11_safe_63 : decode cX11_safe 63 = .ok (.aload 5, 2) := by decide +kernel
theorem dX11_safe_65 : decode cX11_safe 65 = .ok (.invokevirtual 319, 3) := by decide +kernel
theorem dX11_safe_68 : decode cX11_safe 68 = .ok (.iload_n 2, 1) := by decide +kernel
theorem dX11_safe_69 : decode cX11_safe 69 = .ok (.iconst (-1), 1) := by decide +kernel
theorem dX11_safe_70 : decode cX11_safe 70 = .ok (.ixor, 1) := by decide +kernel
theorem dX11_safe_71 : decode cX11_safe 71 = .ok (.iand, 1) := by decide +kernel
theorem dX11_safe_72 : decode cX11_safe 72 = .ok (.ifCond .ne 10, 3) := by decide +kernel
theorem dX11_safe_75 : decode cX11_safe 75 = .ok (.iload_n 3, 1) := by decide +kernel
theorem dX11_safe_76 : decode cX11_safe 76 = .ok (.iconst 1, 1) := by decide +kernel
theorem dX11_safe_77 : decode cX11_safe 77 = .ok (.iload 4, 2) := by decide +kernel
theorem dX11_safe_79 : decode cX11_safe 79 = .ok (.ishl, 1) := by decide +kernel
theorem dX11_safe_80 : decode cX11_safe 80 = .ok (.ior, 1) := by decide +kernel
theorem dX11_safe_81 : decode cX11_safe 81 = .ok (.istore_n 3, 1) := by decide +kernel
theorem dX11_safe_82 : decode cX11_safe 82 = .ok (.iinc 4 1, 3) := by decide +kernel
theorem dX11_safe_85 : decode cX11_safe 85 = .ok (.goto (-59), 3) := by decide +kernel
theorem dX11_safe_88 : decode cX11_safe 88 = .ok (.aload_n 0, 1) := by decide +kernel
theorem dX11_safe_89 : decode cX11_safe 89 = .ok (.iload_n 3, 1) := by decide +kernel
theorem dX11_safe_90 : decode cX11_safe 90 = .ok (.invokevirtual 96, 3) := by decide +kernel
