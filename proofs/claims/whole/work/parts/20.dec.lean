/-! what each instruction decodes to (printed by TURN) -/
theorem dJ6_bitCount_0f7a4_0 : decode cJ6_bitCount_0f7a4 0 = .ok (.iload_n 0, 1) := by decide +kernel
theorem dJ6_bitCount_0f7a4_1 : decode cJ6_bitCount_0f7a4 1 = .ok (.iload_n 0, 1) := by decide +kernel
theorem dJ6_bitCount_0f7a4_2 : decode cJ6_bitCount_0f7a4 2 = .ok (.iconst 1, 1) := by decide +kernel
theorem dJ6_bitCount_0f7a4_3 : decode cJ6_bitCount_0f7a4 3 = .ok (.iushr, 1) := by decide +kernel
theorem dJ6_bitCount_0f7a4_4 : decode cJ6_bitCount_0f7a4 4 = .ok (.ldc_w 265, 3) := by decide +kernel
theorem dJ6_bitCount_0f7a4_7 : decode cJ6_bitCount_0f7a4 7 = .ok (.iand, 1) := by decide +kernel
theorem dJ6_bitCount_0f7a4_8 : decode cJ6_bitCount_0f7a4 8 = .ok (.isub, 1) := by decide +kernel
theorem dJ6_bitCount_0f7a4_9 : decode cJ6_bitCount_0f7a4 9 = .ok (.istore_n 0, 1) := by decide +kernel
theorem dJ6_bitCount_0f7a4_10 : decode cJ6_bitCount_0f7a4 10 = .ok (.iload_n 0, 1) := by decide +kernel
theorem dJ6_bitCount_0f7a4_11 : decode cJ6_bitCount_0f7a4 11 = .ok (.ldc_w 266, 3) := by decide +kernel
theorem dJ6_bitCount_0f7a4_14 : decode cJ6_bitCount_0f7a4 14 = .ok (.iand, 1) := by decide +kernel
theorem dJ6_bitCount_0f7a4_15 : decode cJ6_bitCount_0f7a4 15 = .ok (.iload_n 0, 1) := by decide +kernel
theorem dJ6_bitCount_0f7a4_16 : decode cJ6_bitCount_0f7a4 16 = .ok (.iconst 2, 1) := by decide +kernel
theorem dJ6_bitCount_0f7a4_17 : decode cJ6_bitCount_0f7a4 17 = .ok (.iushr, 1) := by decide +kernel
theorem dJ6_bitCount_0f7a4_18 : decode cJ6_bitCount_0f7a4 18 = .ok (.ldc_w 266, 3) := by decide +kernel
theorem dJ6_bitCount_0f7a4_21 : decode cJ6_bitCount_0f7a4 21 = .ok (.iand, 1) := by decide +kernel
theorem dJ6_bitCount_0f7a4_22 : decode cJ6_bitCount_0f7a4 22 = .ok (.iadd, 1) := by decide +kernel
theorem dJ6_bitCount_0f7a4_23 : decode cJ6_bitCount_0f7a4 23 = .ok (.istore_n 0, 1) := by decide +kernel
theorem dJ6_bitCount_0f7a4_24 : decode cJ6_bitCount_0f7a4 24 = .ok (.iload_n 0, 1) := by decide +kernel
theorem dJ6_bitCount_0f7a4_25 : decode cJ6_bitCount_0f7a4 25 = .ok (.iload_n 0, 1) := by decide +kernel
theorem dJ6_bitCount_0f7a4_26 : decode cJ6_bitCount_0f7a4 26 = .ok (.iconst 4, 1) := by decide +kernel
theorem dJ6_bitCount_0f7a4_27 : decode cJ6_bitCount_0f7a4 27 = .ok (.iushr, 1) := by decide +kernel
theorem dJ6_bitCount_0f7a4_28 : decode cJ6_bitCount_0f7a4 28 = .ok (.iadd, 1) := by decide +kernel
theorem dJ6_bitCount_0f7a4_29 : decode cJ6_bitCount_0f7a4 29 = .ok (.ldc_w 267, 3) := by decide +kernel
theorem dJ6_bitCount_0f7a4_32 : decode cJ6_bitCount_0f7a4 32 = .ok (.iand, 1) := by decide +kernel
theorem dJ6_bitCount_0f7a4_33 : decode cJ6_bitCount_0f7a4 33 = .ok (.istore_n 0, 1) := by decide +kernel
theorem dJ6_bitCount_0f7a4_34 : decode cJ6_bitCount_0f7a4 34 = .ok (.iload_n 0, 1) := by decide +kernel
theorem dJ6_bitCount_0f7a4_35 : decode cJ6_bitCount_0f7a4 35 = .ok (.iload_n 0, 1) := by decide +kernel
theorem dJ6_bitCount_0f7a4_36 : decode cJ6_bitCount_0f7a4 36 = .ok (.bipush 8, 2) := by decide +kernel
theorem dJ6_bitCount_0f7a4_38 : decode cJ6_bitCount_0f7a4 38 = .ok (.iushr, 1) := by decide +kernel
theorem dJ6_bitCount_0f7a4_39 : decode cJ6_bitCount_0f7a4 39 = .ok (.iadd, 1) := by decide +kernel
theorem dJ6_bitCount_0f7a4_40 : decode cJ6_bitCount_0f7a4 40 = .ok (.istore_n 0, 1) := by decide +kernel
theorem dJ6_bitCount_0f7a4_41 : decode cJ6_bitCount_0f7a4 41 = .ok (.iload_n 0, 1) := by decide +kernel
theorem dJ6_bitCount_0f7a4_42 : decode cJ6_bitCount_0f7a4 42 = .ok (.iload_n 0, 1) := by decide +kernel
theorem dJ6_bitCount_0f7a4_43 : decode cJ6_bitCount_0f7a4 43 = .ok (.bipush 16, 2) := by decide +kernel
theorem dJ6_bitCount_0f7a4_45 : decode cJ6_bitCount_0f7a4 45 = .ok (.iushr, 1) := by decide +kernel
theorem dJ6_bitCount_0f7a4_46 : decode cJ6_bitCount_0f7a4 46 = .ok (.iadd, 1) := by decide +kernel
theorem dJ6_bitCount_0f7a4_47 : decode cJ6_bitCount_0f7a4 47 = .ok (.istore_n 0, 1) := by decide +kernel
theorem dJ6_bitCount_0f7a4_48 : decode cJ6_bitCount_0f7a4 48 = .ok (.iload_n 0, 1) := by decide +kernel
theorem dJ6_bitCount_0f7a4_49 : decode cJ6_bitCount_0f7a4 49 = .ok (.bipush 63, 2) := by decide +kernel
theorem dJ6_bitCount_0f7a4_51 : decode cJ6_bitCount_0f7a4 51 = .ok (.iand, 1) := by decide +kernel
theorem dJ6_bitCount_0f7a4_52 : decode cJ6_bitCount_0f7a4 52 = .ok (.ireturn, 1) := by decide +kernel
theorem dX11_answer_0 : decode cX11_answer 0 = .ok (.aload_n 0, 1) := by decide +kernel
theorem dX11_answer_1 : decode cX11_answer 1 = .ok (.iconst 0, 1) := by decide +kernel
theorem dX11_answer_2 : decode cX11_answer 2 = .ok (.putfield 89, 3) := by decide +kernel
theorem dX11_answer_5 : decode cX11_answer 5 = .ok (.iload_n 1, 1) := by decide +kernel
theorem dX11_answer_6 : decode cX11_answer 6 = .ok (.ireturn, 1) := by decide +kernel
theorem dX4_ownerSet_0 : decode cX4_ownerSet 0 = .ok (.iconst 0, 1) := by decide +kernel
theorem dX4_ownerSet_1 : decode cX4_ownerSet 1 = .ok (.istore_n 1, 1) := by decide +kernel
theorem dX4_ownerSet_2 : decode cX4_ownerSet 2 = .ok (.iconst 0, 1) := by decide +kernel
theorem dX4_ownerSet_3 : decode cX4_ownerSet 3 = .ok (.istore_n 2, 1) := by decide +kernel
theorem dX4_ownerSet_4 : decode cX4_ownerSet 4 = .ok (.iload_n 2, 1) := by decide +kernel
theorem dX4_ownerSet_5 : decode cX4_ownerSet 5 = .ok (.aload_n 0, 1) := by decide +kernel
theorem dX4_ownerSet_6 : decode cX4_ownerSet 6 = .ok (.getfield 35, 3) := by decide +kernel
theorem dX4_ownerSet_9 : decode cX4_ownerSet 9 = .ok (.if_icmp .ge 20, 3) := by decide +kernel
theorem dX4_ownerSet_12 : decode cX4_ownerSet 12 = .ok (.iload_n 1, 1) := by decide +kernel
theorem dX4_ownerSet_13 : decode cX4_ownerSet 13 = .ok (.iconst 1, 1) := by decide +kernel
theorem dX4_ownerSet_14 : decode cX4_ownerSet 14 = .ok (.aload_n 0, 1) := by decide +kernel
theorem dX4_ownerSet_15 : decode cX4_ownerSet 15 = .ok (.getfield 11, 3) := by decide +kernel
theorem dX4_ownerSet_18 : decode cX4_ownerSet 18 = .ok (.iload_n 2, 1) := by decide +kernel
theorem dX4_ownerSet_19 : decode cX4_ownerSet 19 = .ok (.iaload, 1) := by decide +kernel
theorem dX4_ownerSet_20 : decode cX4_ownerSet 20 = .ok (.ishl, 1) := by decide +kernel
theorem dX4_ownerSet_21 : decode cX4_ownerSet 21 = .ok (.ior, 1) := by decide +kernel
theorem dX4_ownerSet_22 : decode cX4_ownerSet 22 = .ok (.istore_n 1, 1) := by decide +kernel
theorem dX4_ownerSet_23 : decode cX4_ownerSet 23 = .ok (.iinc 2 1, 3) := by decide +kernel
theorem dX4_ownerSet_26 : decode cX4_ownerSet 26 = .ok (.goto (-22), 3) := by decide +kernel
theorem dX4_ownerSet_29 : decode cX4_ownerSet 29 = .ok (.iload_n 1, 1) := by decide +kernel
theorem dX4_ownerSet_30 : decode cX4_ownerSet 30 = .ok (.ireturn, 1) := by decide +kernel
theorem dX11_alone_0 : decode cX11_alone 0 = .ok (.iconst 0, 1) := by decide +kernel
theorem dX11_alone_1 : decode cX11_alone 1 = .ok (.istore_n 1, 1) := by decide +kernel
theorem dX11_alone_2 : decode cX11_alone 2 = .ok (.iconst 0, 1) := by decide +kernel
theorem dX11_alone_3 : decode cX11_alone 3 = .ok (.istore_n 2, 1) := by decide +kernel
theorem dX11_alone_4 : decode cX11_alone 4 = .ok (.iload_n 2, 1) := by decide +kernel
theorem dX11_alone_5 : decode cX11_alone 5 = .ok (.aload_n 0, 1) := by decide +kernel
theorem dX11_alone_6 : decode cX11_alone 6 = .ok (.getfield 69, 3) := by decide +kernel
theorem dX11_alone_9 : decode cX11_alone 9 = .ok (.getfield 175, 3) := by decide +kernel
theorem dX11_alone_12 : decode cX11_alone 12 = .ok (.if_icmp .ge 34, 3) := by decide +kernel
theorem dX11_alone_15 : decode cX11_alone 15 = .ok (.aload_n 0, 1) := by decide +kernel
theorem dX11_alone_16 : decode cX11_alone 16 = .ok (.getfield 69, 3) := by decide +kernel
theorem dX11_alone_19 : decode cX11_alone 19 = .ok (.getfield 303, 3) := by decide +kernel
theorem dX11_alone_22 : decode cX11_alone 22 = .ok (.iload_n 2, 1) := by decide +kernel
theorem dX11_alone_23 : decode cX11_alone 23 = .ok (.aaload, 1) := by decide +kernel
theorem dX11_alone_24 : decode cX11_alone 24 = .ok (.invokevirtual 371, 3) := by decide +kernel
theorem dX11_alone_27 : decode cX11_alone 27 = .ok (.invokestatic 307, 3) := by decide +kernel
theorem dX11_alone_30 : decode cX11_alone 30 = .ok (.iconst 1, 1) := by decide +kernel
theorem dX11_alone_31 : decode cX11_alone 31 = .ok (.if_icmp .ne 9, 3) := by decide +kernel
theorem dX11_alone_34 : decode cX11_alone 34 = .ok (.iload_n 1, 1) := by decide +kernel
theorem dX11_alone_35 : decode cX11_alone 35 = .ok (.iconst 1, 1) := by decide +kernel
theorem dX11_alone_36 : decode cX11_alone 36 = .ok (.iload_n 2, 1) := by decide +kernel
theorem dX11_alone_37 : decode cX11_alone 37 = .ok (.ishl, 1) := by decide +kernel
theorem dX11_alone_38 : decode cX11_alone 38 = .ok (.ior, 1) := by decide +kernel
theorem dX11_alone_39 : decode cX11_alone 39 = .ok (.istore_n 1, 1) := by decide +kernel
theorem dX11_alone_40 : decode cX11_alone 40 = .ok (.iinc 2 1, 3) := by decide +kernel
theorem dX11_alone_43 : decode cX11_alone 43 = .ok (.goto (-39), 3) := by decide +kernel
theorem dX11_alone_46 : decode cX11_alone 46 = .ok (.aload_n 0, 1) := by decide +kernel
theorem dX11_alone_47 : decode cX11_alone 47 = .ok (.iload_n 1, 1) := by decide +kernel
theorem dX11_alone_48 : decode cX11_alone 48 = .ok (.invokevirtual 96, 3) := by decide +kernel
theorem dX11_alone_51 : decode cX11_alone 51 = .ok (.ireturn, 1) := by decide +kernel
theorem dX4_becomeLike_0 : decode cX4_becomeLike 0 = .ok (.aload_n 0, 1) := by decide +kernel
theorem dX4_becomeLike_1 : decode cX4_becomeLike 1 = .ok (.aload_n 1, 1) := by decide +kernel
theorem dX4_becomeLike_2 : decode cX4_becomeLike 2 = .ok (.getfield 20, 3) := by decide +kernel
theorem dX4_becomeLike_5 : decode cX4_becomeLike 5 = .ok (.putfield 20, 3) := by decide +kernel
theorem dX4_becomeLike_8 : decode cX4_becomeLike 8 = .ok (.aload_n 0, 1) := by decide +kernel
theorem dX4_becomeLike_9 : decode cX4_becomeLike 9 = .ok (.aload_n 1, 1) := by decide +kernel
theorem dX4_becomeLike_10 : decode cX4_becomeLike 10 = .ok (.getfield 24, 3) := by decide +kernel
theorem dX4_becomeLike_13 : decode cX4_becomeLike 13 = .ok (.putfield 24, 3) := by decide +kernel
theorem dX4_becomeLike_16 : decode cX4_becomeLike 16 = .ok (.aload_n 0, 1) := by decide +kernel
theorem dX4_becomeLike_17 : decode cX4_becomeLike 17 = .ok (.aload_n 1, 1) := by decide +kernel
theorem dX4_becomeLike_18 : decode cX4_becomeLike 18 = .ok (.getfield 28, 3) := by decide +kernel
theorem dX4_becomeLike_21 : decode cX4_becomeLike 21 = .ok (.putfield 28, 3) := by decide +kernel
theorem dX4_becomeLike_24 : decode cX4_becomeLike 24 = .ok (.aload_n 0, 1) := by decide +kernel
theorem dX4_becomeLike_25 : decode cX4_becomeLike 25 = .ok (.aload_n 1, 1) := by decide +kernel
theorem dX4_becomeLike_26 : decode cX4_becomeLike 26 = .ok (.getfield 31, 3) := by decide +kernel
theorem dX4_becomeLike_29 : decode cX4_becomeLike 29 = .ok (.putfield 31, 3) := by decide +kernel
theorem dX4_becomeLike_32 : decode cX4_becomeLike 32 = .ok (.aload_n 0, 1) := by decide +kernel
theorem dX4_becomeLike_33 : decode cX4_becomeLike 33 = .ok (.aload_n 1, 1) := by decide +kernel
theorem dX4_becomeLike_34 : decode cX4_becomeLike 34 = .ok (.getfield 35, 3) := by decide +kernel
theorem dX4_becomeLike_37 : decode cX4_becomeLike 37 = .ok (.putfield 35, 3) := by decide +kernel
theorem dX4_becomeLike_40 : decode cX4_becomeLike 40 = .ok (.aload_n 1, 1) := by decide +kernel
theorem dX4_becomeLike_41 : decode cX4_becomeLike 41 = .ok (.getfield 11, 3) := by decide +kernel
theorem dX4_becomeLike_44 : decode cX4_becomeLike 44 = .ok (.iconst 0, 1) := by decide +kernel
theorem dX4_becomeLike_45 : decode cX4_becomeLike 45 = .ok (.aload_n 0, 1) := by decide +kernel
theorem dX4_becomeLike_46 : decode cX4_becomeLike 46 = .ok (.getfield 11, 3) := by decide +kernel
theorem dX4_becomeLike_49 : decode cX4_becomeLike 49 = .ok (.iconst 0, 1) := by decide +kernel
theorem dX4_becomeLike_50 : decode cX4_becomeLike 50 = .ok (.aload_n 0, 1) := by decide +kernel
theorem dX4_becomeLike_51 : decode cX4_becomeLike 51 = .ok (.getfield 35, 3) := by decide +kernel
theorem dX4_becomeLike_54 : decode cX4_becomeLike 54 = .ok (.invokestatic 38, 3) := by decide +kernel
theorem dX4_becomeLike_57 : decode cX4_becomeLike 57 = .ok (.aload_n 1, 1) := by decide +kernel
theorem dX4_becomeLike_58 : decode cX4_becomeLike 58 = .ok (.getfield 17, 3) := by decide +kernel
theorem dX4_becomeLike_61 : decode cX4_becomeLike 61 = .ok (.iconst 0, 1) := by decide +kernel
theorem dX4_becomeLike_62 : decode cX4_becomeLike 62 = .ok (.aload_n 0, 1) := by decide +kernel
theorem dX4_becomeLike_63 : decode cX4_becomeLike 63 = .ok (.getfield 17, 3) := by decide +kernel
theorem dX4_becomeLike_66 : decode cX4_becomeLike 66 = .ok (.iconst 0, 1) := by decide +kernel
theorem dX4_becomeLike_67 : decode cX4_becomeLike 67 = .ok (.aload_n 0, 1) := by decide +kernel
theorem dX4_becomeLike_68 : decode cX4_becomeLike 68 = .ok (.getfield 35, 3) := by decide +kernel
theorem dX4_becomeLike_71 : decode cX4_becomeLike 71 = .ok (.invokestatic 38, 3) := by decide +kernel
theorem dX4_becomeLike_74 : decode cX4_becomeLike 74 = .ok (.return_, 1) := by decide +kernel
theorem dX5_becomeLike_0 : decode cX5_becomeLike 0 = .ok (.aload_n 0, 1) := by decide +kernel
theorem dX5_becomeLike_1 : decode cX5_becomeLike 1 = .ok (.aload_n 1, 1) := by decide +kernel
theorem dX5_becomeLike_2 : decode cX5_becomeLike 2 = .ok (.getfield 7, 3) := by decide +kernel
theorem dX5_becomeLike_5 : decode cX5_becomeLike 5 = .ok (.putfield 7, 3) := by decide +kernel
theorem dX5_becomeLike_8 : decode cX5_becomeLike 8 = .ok (.aload_n 0, 1) := by decide +kernel
theorem dX5_becomeLike_9 : decode cX5_becomeLike 9 = .ok (.aload_n 1, 1) := by decide +kernel
theorem dX5_becomeLike_10 : decode cX5_becomeLike 10 = .ok (.getfield 13, 3) := by decide +kernel
theorem dX5_becomeLike_13 : decode cX5_becomeLike 13 = .ok (.putfield 13, 3) := by decide +kernel
theorem dX5_becomeLike_16 : decode cX5_becomeLike 16 = .ok (.aload_n 0, 1) := by decide +kernel
theorem dX5_becomeLike_17 : decode cX5_becomeLike 17 = .ok (.aload_n 1, 1) := by decide +kernel
theorem dX5_becomeLike_18 : decode cX5_becomeLike 18 = .ok (.getfield 17, 3) := by decide +kernel
theorem dX5_becomeLike_21 : decode cX5_becomeLike 21 = .ok (.putfield 17, 3) := by decide +kernel
theorem dX5_becomeLike_24 : decode cX5_becomeLike 24 = .ok (.aload_n 0, 1) := by decide +kernel
theorem dX5_becomeLike_25 : decode cX5_becomeLike 25 = .ok (.aload_n 1, 1) := by decide +kernel
theorem dX5_becomeLike_26 : decode cX5_becomeLike 26 = .ok (.getfield 20, 3) := by decide +kernel
theorem dX5_becomeLike_29 : decode cX5_becomeLike 29 = .ok (.putfield 20, 3) := by decide +kernel
theorem dX5_becomeLike_32 : decode cX5_becomeLike 32 = .ok (.aload_n 0, 1) := by decide +kernel
theorem dX5_becomeLike_33 : decode cX5_becomeLike 33 = .ok (.aload_n 1, 1) := by decide +kernel
theorem dX5_becomeLike_34 : decode cX5_becomeLike 34 = .ok (.getfield 23, 3) := by decide +kernel
theorem dX5_becomeLike_37 : decode cX5_becomeLike 37 = .ok (.putfield 23, 3) := by decide +kernel
theorem dX5_becomeLike_40 : decode cX5_becomeLike 40 = .ok (.aload_n 0, 1) := by decide +kernel
theorem dX5_becomeLike_41 : decode cX5_becomeLike 41 = .ok (.aload_n 1, 1) := by decide +kernel
theorem dX5_becomeLike_42 : decode cX5_becomeLike 42 = .ok (.getfield 26, 3) := by decide +kernel
theorem dX5_becomeLike_45 : decode cX5_becomeLike 45 = .ok (.putfield 26, 3) := by decide +kernel
theorem dX5_becomeLike_48 : decode cX5_becomeLike 48 = .ok (.return_, 1) := by decide +kernel
theorem dX0_copyFrom_0 : decode cX0_copyFrom 0 = .ok (.aload_n 0, 1) := by decide +kernel
theorem dX0_copyFrom_1 : decode cX0_copyFrom 1 = .ok (.aload_n 1, 1) := by decide +kernel
theorem dX0_copyFrom_2 : decode cX0_copyFrom 2 = .ok (.getfield 28, 3) := by decide +kernel
theorem dX0_copyFrom_5 : decode cX0_copyFrom 5 = .ok (.putfield 28, 3) := by decide +kernel
theorem dX0_copyFrom_8 : decode cX0_copyFrom 8 = .ok (.aload_n 0, 1) := by decide +kernel
theorem dX0_copyFrom_9 : decode cX0_copyFrom 9 = .ok (.aload_n 1, 1) := by decide +kernel
theorem dX0_copyFrom_10 : decode cX0_copyFrom 10 = .ok (.getfield 32, 3) := by decide +kernel
theorem dX0_copyFrom_13 : decode cX0_copyFrom 13 = .ok (.putfield 32, 3) := by decide +kernel
theorem dX0_copyFrom_16 : decode cX0_copyFrom 16 = .ok (.aload_n 0, 1) := by decide +kernel
theorem dX0_copyFrom_17 : decode cX0_copyFrom 17 = .ok (.aload_n 1, 1) := by decide +kernel
theorem dX0_copyFrom_18 : decode cX0_copyFrom 18 = .ok (.getfield 35, 3) := by decide +kernel
theorem dX0_copyFrom_21 : decode cX0_copyFrom 21 = .ok (.putfield 35, 3) := by decide +kernel
theorem dX0_copyFrom_24 : decode cX0_copyFrom 24 = .ok (.aload_n 0, 1) := by decide +kernel
theorem dX0_copyFrom_25 : decode cX0_copyFrom 25 = .ok (.aload_n 1, 1) := by decide +kernel
theorem dX0_copyFrom_26 : decode cX0_copyFrom 26 = .ok (.getfield 38, 3) := by decide +kernel
theorem dX0_copyFrom_29 : decode cX0_copyFrom 29 = .ok (.putfield 38, 3) := by decide +kernel
theorem dX0_copyFrom_32 : decode cX0_copyFrom 32 = .ok (.aload_n 0, 1) := by decide +kernel
theorem dX0_copyFrom_33 : decode cX0_copyFrom 33 = .ok (.aload_n 1, 1) := by decide +kernel
theorem dX0_copyFrom_34 : decode cX0_copyFrom 34 = .ok (.getfield 41, 3) := by decide +kernel
theorem dX0_copyFrom_37 : decode cX0_copyFrom 37 = .ok (.putfield 41, 3) := by decide +kernel
theorem dX0_copyFrom_40 : decode cX0_copyFrom 40 = .ok (.aload_n 0, 1) := by decide +kernel
theorem dX0_copyFrom_41 : decode cX0_copyFrom 41 = .ok (.aload_n 1, 1) := by decide +kernel
theorem dX0_copyFrom_42 : decode cX0_copyFrom 42 = .ok (.getfield 44, 3) := by decide +kernel
theorem dX0_copyFrom_45 : decode cX0_copyFrom 45 = .ok (.putfield 44, 3) := by decide +kernel
theorem dX0_copyFrom_48 : decode cX0_copyFrom 48 = .ok (.aload_n 0, 1) := by decide +kernel
theorem dX0_copyFrom_49 : decode cX0_copyFrom 49 = .ok (.aload_n 1, 1) := by decide +kernel
theorem dX0_copyFrom_50 : decode cX0_copyFrom 50 = .ok (.getfield 47, 3) := by decide +kernel
theorem dX0_copyFrom_53 : decode cX0_copyFrom 53 = .ok (.putfield 47, 3) := by decide +kernel
theorem dX0_copyFrom_56 : decode cX0_copyFrom 56 = .ok (.aload_n 0, 1) := by decide +kernel
theorem dX0_copyFrom_57 : decode cX0_copyFrom 57 = .ok (.aload_n 1, 1) := by decide +kernel
theorem dX0_copyFrom_58 : decode cX0_copyFrom 58 = .ok (.getfield 50, 3) := by decide +kernel
theorem dX0_copyFrom_61 : decode cX0_copyFrom 61 = .ok (.putfield 50, 3) := by decide +kernel
theorem dX0_copyFrom_64 : decode cX0_copyFrom 64 = .ok (.iconst 0, 1) := by decide +kernel
theorem dX0_copyFrom_65 : decode cX0_copyFrom 65 = .ok (.istore_n 2, 1) := by decide +kernel
theorem dX0_copyFrom_66 : decode cX0_copyFrom 66 = .ok (.iload_n 2, 1) := by decide +kernel
theorem dX0_copyFrom_67 : decode cX0_copyFrom 67 = .ok (.aload_n 0, 1) := by decide +kernel
theorem dX0_copyFrom_68 : decode cX0_copyFrom 68 = .ok (.getfield 44, 3) := by decide +kernel
theorem dX0_copyFrom_71 : decode cX0_copyFrom 71 = .ok (.if_icmp .ge 24, 3) := by decide +kernel
theorem dX0_copyFrom_74 : decode cX0_copyFrom 74 = .ok (.aload_n 0, 1) := by decide +kernel
theorem dX0_copyFrom_75 : decode cX0_copyFrom 75 = .ok (.getfield 13, 3) := by decide +kernel
theorem dX0_copyFrom_78 : decode cX0_copyFrom 78 = .ok (.iload_n 2, 1) := by decide +kernel
theorem dX0_copyFrom_79 : decode cX0_copyFrom 79 = .ok (.aaload, 1) := by decide +kernel
theorem dX0_copyFrom_80 : decode cX0_copyFrom 80 = .ok (.aload_n 1, 1) := by decide +kernel
theorem dX0_copyFrom_81 : decode cX0_copyFrom 81 = .ok (.getfield 13, 3) := by decide +kernel
theorem dX0_copyFrom_84 : decode cX0_copyFrom 84 = .ok (.iload_n 2, 1) := by decide +kernel
theorem dX0_copyFrom_85 : decode cX0_copyFrom 85 = .ok (.aaload, 1) := by decide +kernel
theorem dX0_copyFrom_86 : decode cX0_copyFrom 86 = .ok (.invokevirtual 53, 3) := by decide +kernel
theorem dX0_copyFrom_89 : decode cX0_copyFrom 89 = .ok (.iinc 2 1, 3) := by decide +kernel
theorem dX0_copyFrom_92 : decode cX0_copyFrom 92 = .ok (.goto (-26), 3) := by decide +kernel
theorem dX0_copyFrom_95 : decode cX0_copyFrom 95 = .ok (.iconst 0, 1) := by decide +kernel
theorem dX0_copyFrom_96 : decode cX0_copyFrom 96 = .ok (.istore_n 2, 1) := by decide +kernel
theorem dX0_copyFrom_97 : decode cX0_copyFrom 97 = .ok (.iload_n 2, 1) := by decide +kernel
theorem dX0_copyFrom_98 : decode cX0_copyFrom 98 = .ok (.aload_n 0, 1) := by decide +kernel
theorem dX0_copyFrom_99 : decode cX0_copyFrom 99 = .ok (.getfield 47, 3) := by decide +kernel
theorem dX0_copyFrom_102 : decode cX0_copyFrom 102 = .ok (.if_icmp .ge 24, 3) := by decide +kernel
theorem dX0_copyFrom_105 : decode cX0_copyFrom 105 = .ok (.aload_n 0, 1) := by decide +kernel
theorem dX0_copyFrom_106 : decode cX0_copyFrom 106 = .ok (.getfield 19, 3) := by decide +kernel
theorem dX0_copyFrom_109 : decode cX0_copyFrom 109 = .ok (.iload_n 2, 1) := by decide +kernel
theorem dX0_copyFrom_110 : decode cX0_copyFrom 110 = .ok (.aaload, 1) := by decide +kernel
theorem dX0_copyFrom_111 : decode cX0_copyFrom 111 = .ok (.aload_n 1, 1) := by decide +kernel
theorem dX0_copyFrom_112 : decode cX0_copyFrom 112 = .ok (.getfield 19, 3) := by decide +kernel
theorem dX0_copyFrom_115 : decode cX0_copyFrom 115 = .ok (.iload_n 2, 1) := by decide +kernel
theorem dX0_copyFrom_116 : decode cX0_copyFrom 116 = .ok (.aaload, 1) := by decide +kernel
theorem dX0_copyFrom_117 : decode cX0_copyFrom 117 = .ok (.invokevirtual 57, 3) := by decide +kernel
theorem dX0_copyFrom_120 : decode cX0_copyFrom 120 = .ok (.iinc 2 1, 3) := by decide +kernel
theorem dX0_copyFrom_123 : decode cX0_copyFrom 123 = .ok (.goto (-26), 3) := by decide +kernel
theorem dX0_copyFrom_126 : decode cX0_copyFrom 126 = .ok (.return_, 1) := by decide +kernel
theorem dX11_refuse_0 : decode cX11_refuse 0 = .ok (.aload_n 0, 1) := by decide +kernel
theorem dX11_refuse_1 : decode cX11_refuse 1 = .ok (.iload_n 1, 1) := by decide +kernel
theorem dX11_refuse_2 : decode cX11_refuse 2 = .ok (.putfield 89, 3) := by decide +kernel
theorem dX11_refuse_5 : decode cX11_refuse 5 = .ok (.iconst (-1), 1) := by decide +kernel
theorem dX11_refuse_6 : decode cX11_refuse 6 = .ok (.ireturn, 1) := by decide +kernel
theorem dX2_copyFrom_0 : decode cX2_copyFrom 0 = .ok (.aload_n 0, 1) := by decide +kernel
theorem dX2_copyFrom_1 : decode cX2_copyFrom 1 = .ok (.aload_n 1, 1) := by decide +kernel
theorem dX2_copyFrom_2 : decode cX2_copyFrom 2 = .ok (.getfield 27, 3) := by decide +kernel
theorem dX2_copyFrom_5 : decode cX2_copyFrom 5 = .ok (.putfield 27, 3) := by decide +kernel
theorem dX2_copyFrom_8 : decode cX2_copyFrom 8 = .ok (.aload_n 0, 1) := by decide +kernel
theorem dX2_copyFrom_9 : decode cX2_copyFrom 9 = .ok (.aload_n 1, 1) := by decide +kernel
theorem dX2_copyFrom_10 : decode cX2_copyFrom 10 = .ok (.getfield 31, 3) := by decide +kernel
theorem dX2_copyFrom_13 : decode cX2_copyFrom 13 = .ok (.putfield 31, 3) := by decide +kernel
theorem dX2_copyFrom_16 : decode cX2_copyFrom 16 = .ok (.aload_n 0, 1) := by decide +kernel
theorem dX2_copyFrom_17 : decode cX2_copyFrom 17 = .ok (.aload_n 1, 1) := by decide +kernel
theorem dX2_copyFrom_18 : decode cX2_copyFrom 18 = .ok (.getfield 35, 3) := by decide +kernel
theorem dX2_copyFrom_21 : decode cX2_copyFrom 21 = .ok (.putfield 35, 3) := by decide +kernel
theorem dX2_copyFrom_24 : decode cX2_copyFrom 24 = .ok (.aload_n 1, 1) := by decide +kernel
theorem dX2_copyFrom_25 : decode cX2_copyFrom 25 = .ok (.getfield 11, 3) := by decide +kernel
theorem dX2_copyFrom_28 : decode cX2_copyFrom 28 = .ok (.iconst 0, 1) := by decide +kernel
theorem dX2_copyFrom_29 : decode cX2_copyFrom 29 = .ok (.aload_n 0, 1) := by decide +kernel
theorem dX2_copyFrom_30 : decode cX2_copyFrom 30 = .ok (.getfield 11, 3) := by decide +kernel
theorem dX2_copyFrom_33 : decode cX2_copyFrom 33 = .ok (.iconst 0, 1) := by decide +kernel
theorem dX2_copyFrom_34 : decode cX2_copyFrom 34 = .ok (.aload_n 0, 1) := by decide +kernel
theorem dX2_copyFrom_35 : decode cX2_copyFrom 35 = .ok (.getfield 35, 3) := by decide +kernel
theorem dX2_copyFrom_38 : decode cX2_copyFrom 38 = .ok (.invokestatic 38, 3) := by decide +kernel
theorem dX2_copyFrom_41 : decode cX2_copyFrom 41 = .ok (.aload_n 1, 1) := by decide +kernel
theorem dX2_copyFrom_42 : decode cX2_copyFrom 42 = .ok (.getfield 15, 3) := by decide +kernel
theorem dX2_copyFrom_45 : decode cX2_copyFrom 45 = .ok (.iconst 0, 1) := by decide +kernel
theorem dX2_copyFrom_46 : decode cX2_copyFrom 46 = .ok (.aload_n 0, 1) := by decide +kernel
theorem dX2_copyFrom_47 : decode cX2_copyFrom 47 = .ok (.getfield 15, 3) := by decide +kernel
theorem dX2_copyFrom_50 : decode cX2_copyFrom 50 = .ok (.iconst 0, 1) := by decide +kernel
theorem dX2_copyFrom_51 : decode cX2_copyFrom 51 = .ok (.aload_n 0, 1) := by decide +kernel
theorem dX2_copyFrom_52 : decode cX2_copyFrom 52 = .ok (.getfield 35, 3) := by decide +kernel
theorem dX2_copyFrom_55 : decode cX2_copyFrom 55 = .ok (.invokestatic 38, 3) := by decide +kernel
theorem dX2_copyFrom_58 : decode cX2_copyFrom 58 = .ok (.aload_n 1, 1) := by decide +kernel
theorem dX2_copyFrom_59 : decode cX2_copyFrom 59 = .ok (.getfield 18, 3) := by decide +kernel
theorem dX2_copyFrom_62 : decode cX2_copyFrom 62 = .ok (.iconst 0, 1) := by decide +kernel
theorem dX2_copyFrom_63 : decode cX2_copyFrom 63 = .ok (.aload_n 0, 1) := by decide +kernel
theorem dX2_copyFrom_64 : decode cX2_copyFrom 64 = .ok (.getfield 18, 3) := by decide +kernel
theorem dX2_copyFrom_67 : decode cX2_copyFrom 67 = .ok (.iconst 0, 1) := by decide +kernel
theorem dX2_copyFrom_68 : decode cX2_copyFrom 68 = .ok (.aload_n 0, 1) := by decide +kernel
theorem dX2_copyFrom_69 : decode cX2_copyFrom 69 = .ok (.getfield 35, 3) := by decide +kernel
theorem dX2_copyFrom_72 : decode cX2_copyFrom 72 = .ok (.invokestatic 38, 3) := by decide +kernel
theorem dX2_copyFrom_75 : decode cX2_copyFrom 75 = .ok (.aload_n 1, 1) := by decide +kernel
theorem dX2_copyFrom_76 : decode cX2_copyFrom 76 = .ok (.getfield 21, 3) := by decide +kernel
theorem dX2_copyFrom_79 : decode cX2_copyFrom 79 = .ok (.iconst 0, 1) := by decide +kernel
theorem dX2_copyFrom_80 : decode cX2_copyFrom 80 = .ok (.aload_n 0, 1) := by decide +kernel
theorem dX2_copyFrom_81 : decode cX2_copyFrom 81 = .ok (.getfield 21, 3) := by decide +kernel
theorem dX2_copyFrom_84 : decode cX2_copyFrom 84 = .ok (.iconst 0, 1) := by decide +kernel
theorem dX2_copyFrom_85 : decode cX2_copyFrom 85 = .ok (.aload_n 0, 1) := by decide +kernel
theorem dX2_copyFrom_86 : decode cX2_copyFrom 86 = .ok (.getfield 35, 3) := by decide +kernel
theorem dX2_copyFrom_89 : decode cX2_copyFrom 89 = .ok (.invokestatic 38, 3) := by decide +kernel
theorem dX2_copyFrom_92 : decode cX2_copyFrom 92 = .ok (.aload_n 1, 1) := by decide +kernel
theorem dX2_copyFrom_93 : decode cX2_copyFrom 93 = .ok (.getfield 24, 3) := by decide +kernel
theorem dX2_copyFrom_96 : decode cX2_copyFrom 96 = .ok (.iconst 0, 1) := by decide +kernel
theorem dX2_copyFrom_97 : decode cX2_copyFrom 97 = .ok (.aload_n 0, 1) := by decide +kernel
theorem dX2_copyFrom_98 : decode cX2_copyFrom 98 = .ok (.getfield 24, 3) := by decide +kernel
theorem dX2_copyFrom_101 : decode cX2_copyFrom 101 = .ok (.iconst 0, 1) := by decide +kernel
theorem dX2_copyFrom_102 : decode cX2_copyFrom 102 = .ok (.aload_n 0, 1) := by decide +kernel
theorem dX2_copyFrom_103 : decode cX2_copyFrom 103 = .ok (.getfield 35, 3) := by decide +kernel
theorem dX2_copyFrom_106 : decode cX2_copyFrom 106 = .ok (.invokestatic 38, 3) := by decide +kernel
theorem dX2_copyFrom_109 : decode cX2_copyFrom 109 = .ok (.return_, 1) := by decide +kernel
theorem dX11_back_0 : decode cX11_back 0 = .ok (.aload_n 0, 1) := by decide +kernel
theorem dX11_back_1 : decode cX11_back 1 = .ok (.getfield 403, 3) := by decide +kernel
theorem dX11_back_4 : decode cX11_back 4 = .ok (.ifCond .gt 10, 3) := by decide +kernel
theorem dX11_back_7 : decode cX11_back 7 = .ok (.aload_n 0, 1) := by decide +kernel
theorem dX11_back_8 : decode cX11_back 8 = .ok (.bipush 6, 2) := by decide +kernel
theorem dX11_back_10 : decode cX11_back 10 = .ok (.invokevirtual 100, 3) := by decide +kernel
theorem dX11_back_13 : decode cX11_back 13 = .ok (.ireturn, 1) := by decide +kernel
theorem dX11_back_14 : decode cX11_back 14 = .ok (.aload_n 0, 1) := by decide +kernel
theorem dX11_back_15 : decode cX11_back 15 = .ok (.dup, 1) := by decide +kernel
theorem dX11_back_16 : decode cX11_back 16 = .ok (.getfield 403, 3) := by decide +kernel
theorem dX11_back_19 : decode cX11_back 19 = .ok (.iconst 1, 1) := by decide +kernel
theorem dX11_back_20 : decode cX11_back 20 = .ok (.isub, 1) := by decide +kernel
theorem dX11_back_21 : decode cX11_back 21 = .ok (.putfield 403, 3) := by decide +kernel
theorem dX11_back_24 : decode cX11_back 24 = .ok (.aload_n 0, 1) := by decide +kernel
theorem dX11_back_25 : decode cX11_back 25 = .ok (.getfield 69, 3) := by decide +kernel
theorem dX11_back_28 : decode cX11_back 28 = .ok (.aload_n 0, 1) := by decide +kernel
theorem dX11_back_29 : decode cX11_back 29 = .ok (.getfield 46, 3) := by decide +kernel
theorem dX11_back_32 : decode cX11_back 32 = .ok (.aload_n 0, 1) := by decide +kernel
theorem dX11_back_33 : decode cX11_back 33 = .ok (.getfield 403, 3) := by decide +kernel
theorem dX11_back_36 : decode cX11_back 36 = .ok (.aaload, 1) := by decide +kernel
theorem dX11_back_37 : decode cX11_back 37 = .ok (.invokevirtual 396, 3) := by decide +kernel
theorem dX11_back_40 : decode cX11_back 40 = .ok (.aload_n 0, 1) := by decide +kernel
theorem dX11_back_41 : decode cX11_back 41 = .ok (.getfield 77, 3) := by decide +kernel
theorem dX11_back_44 : decode cX11_back 44 = .ok (.aload_n 0, 1) := by decide +kernel
theorem dX11_back_45 : decode cX11_back 45 = .ok (.getfield 40, 3) := by decide +kernel
theorem dX11_back_48 : decode cX11_back 48 = .ok (.aload_n 0, 1) := by decide +kernel
theorem dX11_back_49 : decode cX11_back 49 = .ok (.getfield 403, 3) := by decide +kernel
theorem dX11_back_52 : decode cX11_back 52 = .ok (.aaload, 1) := by decide +kernel
theorem dX11_back_53 : decode cX11_back 53 = .ok (.invokevirtual 406, 3) := by decide +kernel
theorem dX11_back_56 : decode cX11_back 56 = .ok (.aload_n 0, 1) := by decide +kernel
theorem dX11_back_57 : decode cX11_back 57 = .ok (.aload_n 0, 1) := by decide +kernel
theorem dX11_back_58 : decode cX11_back 58 = .ok (.getfield 403, 3) := by decide +kernel
theorem dX11_back_61 : decode cX11_back 61 = .ok (.invokevirtual 96, 3) := by decide +kernel
theorem dX11_back_64 : decode cX11_back 64 = .ok (.ireturn, 1) := by decide +kernel
theorem dX0_clear_0 : decode cX0_clear 0 = .ok (.aload_n 0, 1) := by decide +kernel
theorem dX0_clear_1 : decode cX0_clear 1 = .ok (.iconst 2, 1) := by decide +kernel
theorem dX0_clear_2 : decode cX0_clear 2 = .ok (.putfield 28, 3) := by decide +kernel
theorem dX0_clear_5 : decode cX0_clear 5 = .ok (.aload_n 0, 1) := by decide +kernel
theorem dX0_clear_6 : decode cX0_clear 6 = .ok (.bipush 60, 2) := by decide +kernel
theorem dX0_clear_8 : decode cX0_clear 8 = .ok (.putfield 32, 3) := by decide +kernel
theorem dX0_clear_11 : decode cX0_clear 11 = .ok (.aload_n 0, 1) := by decide +kernel
theorem dX0_clear_12 : decode cX0_clear 12 = .ok (.iconst 0, 1) := by decide +kernel
theorem dX0_clear_13 : decode cX0_clear 13 = .ok (.putfield 35, 3) := by decide +kernel
theorem dX0_clear_16 : decode cX0_clear 16 = .ok (.aload_n 0, 1) := by decide +kernel
theorem dX0_clear_17 : decode cX0_clear 17 = .ok (.iconst 1, 1) := by decide +kernel
theorem dX0_clear_18 : decode cX0_clear 18 = .ok (.putfield 38, 3) := by decide +kernel
theorem dX0_clear_21 : decode cX0_clear 21 = .ok (.aload_n 0, 1) := by decide +kernel
theorem dX0_clear_22 : decode cX0_clear 22 = .ok (.iconst 0, 1) := by decide +kernel
theorem dX0_clear_23 : decode cX0_clear 23 = .ok (.putfield 41, 3) := by decide +kernel
theorem dX0_clear_26 : decode cX0_clear 26 = .ok (.aload_n 0, 1) := by decide +kernel
theorem dX0_clear_27 : decode cX0_clear 27 = .ok (.iconst 0, 1) := by decide +kernel
theorem dX0_clear_28 : decode cX0_clear 28 = .ok (.putfield 44, 3) := by decide +kernel
theorem dX0_clear_31 : decode cX0_clear 31 = .ok (.aload_n 0, 1) := by decide +kernel
theorem dX0_clear_32 : decode cX0_clear 32 = .ok (.iconst 0, 1) := by decide +kernel
theorem dX0_clear_33 : decode cX0_clear 33 = .ok (.putfield 47, 3) := by decide +kernel
theorem dX0_clear_36 : decode cX0_clear 36 = .ok (.aload_n 0, 1) := by decide +kernel
theorem dX0_clear_37 : decode cX0_clear 37 = .ok (.iconst 0, 1) := by decide +kernel
theorem dX0_clear_38 : decode cX0_clear 38 = .ok (.putfield 50, 3) := by decide +kernel
theorem dX0_clear_41 : decode cX0_clear 41 = .ok (.return_, 1) := by decide +kernel
theorem dX7_advance_0 : decode cX7_advance 0 = .ok (.aload_n 0, 1) := by decide +kernel
theorem dX7_advance_1 : decode cX7_advance 1 = .ok (.getfield 73, 3) := by decide +kernel
theorem dX7_advance_4 : decode cX7_advance 4 = .ok (.aload_n 0, 1) := by decide +kernel
theorem dX7_advance_5 : decode cX7_advance 5 = .ok (.getfield 67, 3) := by decide +kernel
theorem dX7_advance_8 : decode cX7_advance 8 = .ok (.iconst 1, 1) := by decide +kernel
theorem dX7_advance_9 : decode cX7_advance 9 = .ok (.isub, 1) := by decide +kernel
theorem dX7_advance_10 : decode cX7_advance 10 = .ok (.if_icmp .ge 13, 3) := by decide +kernel
theorem dX7_advance_13 : decode cX7_advance 13 = .ok (.aload_n 0, 1) := by decide +kernel
theorem dX7_advance_14 : decode cX7_advance 14 = .ok (.dup, 1) := by decide +kernel
theorem dX7_advance_15 : decode cX7_advance 15 = .ok (.getfield 73, 3) := by decide +kernel
theorem dX7_advance_18 : decode cX7_advance 18 = .ok (.iconst 1, 1) := by decide +kernel
theorem dX7_advance_19 : decode cX7_advance 19 = .ok (.iadd, 1) := by decide +kernel
theorem dX7_advance_20 : decode cX7_advance 20 = .ok (.putfield 73, 3) := by decide +kernel
theorem dX7_advance_23 : decode cX7_advance 23 = .ok (.return_, 1) := by decide +kernel
theorem dX7_fail_0 : decode cX7_fail 0 = .ok (.aload_n 0, 1) := by decide +kernel
theorem dX7_fail_1 : decode cX7_fail 1 = .ok (.getfield 31, 3) := by decide +kernel
theorem dX7_fail_4 : decode cX7_fail 4 = .ok (.ifCond .ne 38, 3) := by decide +kernel
theorem dX7_fail_7 : decode cX7_fail 7 = .ok (.aload_n 0, 1) := by decide +kernel
theorem dX7_fail_8 : decode cX7_fail 8 = .ok (.aload_n 0, 1) := by decide +kernel
theorem dX7_fail_9 : decode cX7_fail 9 = .ok (.getfield 15, 3) := by decide +kernel
theorem dX7_fail_12 : decode cX7_fail 12 = .ok (.aload_n 0, 1) := by decide +kernel
theorem dX7_fail_13 : decode cX7_fail 13 = .ok (.getfield 73, 3) := by decide +kernel
theorem dX7_fail_16 : decode cX7_fail 16 = .ok (.iaload, 1) := by decide +kernel
theorem dX7_fail_17 : decode cX7_fail 17 = .ok (.iconst 1, 1) := by decide +kernel
theorem dX7_fail_18 : decode cX7_fail 18 = .ok (.if_icmp .ne 7, 3) := by decide +kernel
theorem dX7_fail_21 : decode cX7_fail 21 = .ok (.iconst 1, 1) := by decide +kernel
theorem dX7_fail_22 : decode cX7_fail 22 = .ok (.goto 4, 3) := by decide +kernel
theorem dX7_fail_25 : decode cX7_fail 25 = .ok (.iload_n 1, 1) := by decide +kernel
theorem dX7_fail_26 : decode cX7_fail 26 = .ok (.putfield 31, 3) := by decide +kernel
theorem dX7_fail_29 : decode cX7_fail 29 = .ok (.aload_n 0, 1) := by decide +kernel
theorem dX7_fail_30 : decode cX7_fail 30 = .ok (.aload_n 0, 1) := by decide +kernel
theorem dX7_fail_31 : decode cX7_fail 31 = .ok (.getfield 19, 3) := by decide +kernel
theorem dX7_fail_34 : decode cX7_fail 34 = .ok (.aload_n 0, 1) := by decide +kernel
theorem dX7_fail_35 : decode cX7_fail 35 = .ok (.getfield 73, 3) := by decide +kernel
theorem dX7_fail_38 : decode cX7_fail 38 = .ok (.iaload, 1) := by decide +kernel
theorem dX7_fail_39 : decode cX7_fail 39 = .ok (.putfield 35, 3) := by decide +kernel
theorem dX7_fail_42 : decode cX7_fail 42 = .ok (.iconst 0, 1) := by decide +kernel
theorem dX7_fail_43 : decode cX7_fail 43 = .ok (.ireturn, 1) := by decide +kernel
theorem dX7_takeNumber_0 : decode cX7_takeNumber 0 = .ok (.aload_n 0, 1) := by decide +kernel
theorem dX7_takeNumber_1 : decode cX7_takeNumber 1 = .ok (.getfield 15, 3) := by decide +kernel
theorem dX7_takeNumber_4 : decode cX7_takeNumber 4 = .ok (.aload_n 0, 1) := by decide +kernel
theorem dX7_takeNumber_5 : decode cX7_takeNumber 5 = .ok (.getfield 73, 3) := by decide +kernel
theorem dX7_takeNumber_8 : decode cX7_takeNumber 8 = .ok (.iaload, 1) := by decide +kernel
theorem dX7_takeNumber_9 : decode cX7_takeNumber 9 = .ok (.iconst 3, 1) := by decide +kernel
theorem dX7_takeNumber_10 : decode cX7_takeNumber 10 = .ok (.if_icmp .eq 11, 3) := by decide +kernel
theorem dX7_takeNumber_13 : decode cX7_takeNumber 13 = .ok (.aload_n 0, 1) := by decide +kernel
theorem dX7_takeNumber_14 : decode cX7_takeNumber 14 = .ok (.iconst 2, 1) := by decide +kernel
theorem dX7_takeNumber_15 : decode cX7_takeNumber 15 = .ok (.invokevirtual 103, 3) := by decide +kernel
theorem dX7_takeNumber_18 : decode cX7_takeNumber 18 = .ok (.pop, 1) := by decide +kernel
theorem dX7_takeNumber_19 : decode cX7_takeNumber 19 = .ok (.iconst (-1), 1) := by decide +kernel
theorem dX7_takeNumber_20 : decode cX7_takeNumber 20 = .ok (.ireturn, 1) := by decide +kernel
theorem dX7_takeNumber_21 : decode cX7_takeNumber 21 = .ok (.aload_n 0, 1) := by decide +kernel
theorem dX7_takeNumber_22 : decode cX7_takeNumber 22 = .ok (.getfield 22, 3) := by decide +kernel
theorem dX7_takeNumber_25 : decode cX7_takeNumber 25 = .ok (.aload_n 0, 1) := by decide +kernel
theorem dX7_takeNumber_26 : decode cX7_takeNumber 26 = .ok (.getfield 73, 3) := by decide +kernel
theorem dX7_takeNumber_29 : decode cX7_takeNumber 29 = .ok (.laload, 1) := by decide +kernel
theorem dX7_takeNumber_30 : decode cX7_takeNumber 30 = .ok (.l2i, 1) := by decide +kernel
theorem dX7_takeNumber_31 : decode cX7_takeNumber 31 = .ok (.istore_n 3, 1) := by decide +kernel
theorem dX7_takeNumber_32 : decode cX7_takeNumber 32 = .ok (.iload_n 3, 1) := by decide +kernel
theorem dX7_takeNumber_33 : decode cX7_takeNumber 33 = .ok (.iload_n 1, 1) := by decide +kernel
theorem dX7_takeNumber_34 : decode cX7_takeNumber 34 = .ok (.if_icmp .lt 8, 3) := by decide +kernel
theorem dX7_takeNumber_37 : decode cX7_takeNumber 37 = .ok (.iload_n 3, 1) := by decide +kernel
theorem dX7_takeNumber_38 : decode cX7_takeNumber 38 = .ok (.iload_n 2, 1) := by decide +kernel
theorem dX7_takeNumber_39 : decode cX7_takeNumber 39 = .ok (.if_icmp .le 11, 3) := by decide +kernel
theorem dX7_takeNumber_42 : decode cX7_takeNumber 42 = .ok (.aload_n 0, 1) := by decide +kernel
theorem dX7_takeNumber_43 : decode cX7_takeNumber 43 = .ok (.iconst 4, 1) := by decide +kernel
theorem dX7_takeNumber_44 : decode cX7_takeNumber 44 = .ok (.invokevirtual 103, 3) := by decide +kernel
theorem dX7_takeNumber_47 : decode cX7_takeNumber 47 = .ok (.pop, 1) := by decide +kernel
theorem dX7_takeNumber_48 : decode cX7_takeNumber 48 = .ok (.iconst (-1), 1) := by decide +kernel
theorem dX7_takeNumber_49 : decode cX7_takeNumber 49 = .ok (.ireturn, 1) := by decide +kernel
theorem dX7_takeNumber_50 : decode cX7_takeNumber 50 = .ok (.aload_n 0, 1) := by decide +kernel
theorem dX7_takeNumber_51 : decode cX7_takeNumber 51 = .ok (.invokevirtual 106, 3) := by decide +kernel
theorem dX7_takeNumber_54 : decode cX7_takeNumber 54 = .ok (.iload_n 3, 1) := by decide +kernel
theorem dX7_takeNumber_55 : decode cX7_takeNumber 55 = .ok (.ireturn, 1) := by decide +kernel
theorem dX7_takeWord_0 : decode cX7_takeWord 0 = .ok (.aload_n 0, 1) := by decide +kernel
theorem dX7_takeWord_1 : decode cX7_takeWord 1 = .ok (.getfield 15, 3) := by decide +kernel
theorem dX7_takeWord_4 : decode cX7_takeWord 4 = .ok (.aload_n 0, 1) := by decide +kernel
theorem dX7_takeWord_5 : decode cX7_takeWord 5 = .ok (.getfield 73, 3) := by decide +kernel
theorem dX7_takeWord_8 : decode cX7_takeWord 8 = .ok (.iaload, 1) := by decide +kernel
theorem dX7_takeWord_9 : decode cX7_takeWord 9 = .ok (.iconst 5, 1) := by decide +kernel
theorem dX7_takeWord_10 : decode cX7_takeWord 10 = .ok (.if_icmp .ne 18, 3) := by decide +kernel
theorem dX7_takeWord_13 : decode cX7_takeWord 13 = .ok (.aload_n 0, 1) := by decide +kernel
theorem dX7_takeWord_14 : decode cX7_takeWord 14 = .ok (.getfield 22, 3) := by decide +kernel
theorem dX7_takeWord_17 : decode cX7_takeWord 17 = .ok (.aload_n 0, 1) := by decide +kernel
theorem dX7_takeWord_18 : decode cX7_takeWord 18 = .ok (.getfield 73, 3) := by decide +kernel
theorem dX7_takeWord_21 : decode cX7_takeWord 21 = .ok (.laload, 1) := by decide +kernel
theorem dX7_takeWord_22 : decode cX7_takeWord 22 = .ok (.iload_n 1, 1) := by decide +kernel
theorem dX7_takeWord_23 : decode cX7_takeWord 23 = .ok (.i2l, 1) := by decide +kernel
theorem dX7_takeWord_24 : decode cX7_takeWord 24 = .ok (.lcmp, 1) := by decide +kernel
theorem dX7_takeWord_25 : decode cX7_takeWord 25 = .ok (.ifCond .eq 9, 3) := by decide +kernel
theorem dX7_takeWord_28 : decode cX7_takeWord 28 = .ok (.aload_n 0, 1) := by decide +kernel
theorem dX7_takeWord_29 : decode cX7_takeWord 29 = .ok (.iconst 2, 1) := by decide +kernel
theorem dX7_takeWord_30 : decode cX7_takeWord 30 = .ok (.invokevirtual 103, 3) := by decide +kernel
theorem dX7_takeWord_33 : decode cX7_takeWord 33 = .ok (.ireturn, 1) := by decide +kernel
theorem dX7_takeWord_34 : decode cX7_takeWord 34 = .ok (.aload_n 0, 1) := by decide +kernel
theorem dX7_takeWord_35 : decode cX7_takeWord 35 = .ok (.invokevirtual 106, 3) := by decide +kernel
theorem dX7_takeWord_38 : decode cX7_takeWord 38 = .ok (.iconst 1, 1) := by decide +kernel
theorem dX7_takeWord_39 : decode cX7_takeWord 39 = .ok (.ireturn, 1) := by decide +kernel
theorem dX7_takeNumberBehind_0 : decode cX7_takeNumberBehind 0 = .ok (.aload_n 0, 1) := by decide +kernel
theorem dX7_takeNumberBehind_1 : decode cX7_takeNumberBehind 1 = .ok (.iload_n 1, 1) := by decide +kernel
theorem dX7_takeNumberBehind_2 : decode cX7_takeNumberBehind 2 = .ok (.invokevirtual 111, 3) := by decide +kernel
theorem dX7_takeNumberBehind_5 : decode cX7_takeNumberBehind 5 = .ok (.ifCond .eq 12, 3) := by decide +kernel
theorem dX7_takeNumberBehind_8 : decode cX7_takeNumberBehind 8 = .ok (.aload_n 0, 1) := by decide +kernel
theorem dX7_takeNumberBehind_9 : decode cX7_takeNumberBehind 9 = .ok (.iload_n 2, 1) := by decide +kernel
theorem dX7_takeNumberBehind_10 : decode cX7_takeNumberBehind 10 = .ok (.iload_n 3, 1) := by decide +kernel
theorem dX7_takeNumberBehind_11 : decode cX7_takeNumberBehind 11 = .ok (.invokevirtual 114, 3) := by decide +kernel
theorem dX7_takeNumberBehind_14 : decode cX7_takeNumberBehind 14 = .ok (.goto 4, 3) := by decide +kernel
theorem dX7_takeNumberBehind_17 : decode cX7_takeNumberBehind 17 = .ok (.iconst (-1), 1) := by decide +kernel
theorem dX7_takeNumberBehind_18 : decode cX7_takeNumberBehind 18 = .ok (.ireturn, 1) := by decide +kernel
theorem dX7_takeSign_0 : decode cX7_takeSign 0 = .ok (.aload_n 0, 1) := by decide +kernel
theorem dX7_takeSign_1 : decode cX7_takeSign 1 = .ok (.getfield 15, 3) := by decide +kernel
theorem dX7_takeSign_4 : decode cX7_takeSign 4 = .ok (.aload_n 0, 1) := by decide +kernel
theorem dX7_takeSign_5 : decode cX7_takeSign 5 = .ok (.getfield 73, 3) := by decide +kernel
theorem dX7_takeSign_8 : decode cX7_takeSign 8 = .ok (.iaload, 1) := by decide +kernel
theorem dX7_takeSign_9 : decode cX7_takeSign 9 = .ok (.iconst 2, 1) := by decide +kernel
theorem dX7_takeSign_10 : decode cX7_takeSign 10 = .ok (.if_icmp .ne 18, 3) := by decide +kernel
theorem dX7_takeSign_13 : decode cX7_takeSign 13 = .ok (.aload_n 0, 1) := by decide +kernel
theorem dX7_takeSign_14 : decode cX7_takeSign 14 = .ok (.getfield 22, 3) := by decide +kernel
theorem dX7_takeSign_17 : decode cX7_takeSign 17 = .ok (.aload_n 0, 1) := by decide +kernel
theorem dX7_takeSign_18 : decode cX7_takeSign 18 = .ok (.getfield 73, 3) := by decide +kernel
theorem dX7_takeSign_21 : decode cX7_takeSign 21 = .ok (.laload, 1) := by decide +kernel
theorem dX7_takeSign_22 : decode cX7_takeSign 22 = .ok (.iload_n 1, 1) := by decide +kernel
theorem dX7_takeSign_23 : decode cX7_takeSign 23 = .ok (.i2l, 1) := by decide +kernel
theorem dX7_takeSign_24 : decode cX7_takeSign 24 = .ok (.lcmp, 1) := by decide +kernel
theorem dX7_takeSign_25 : decode cX7_takeSign 25 = .ok (.ifCond .eq 9, 3) := by decide +kernel
theorem dX7_takeSign_28 : decode cX7_takeSign 28 = .ok (.aload_n 0, 1) := by decide +kernel
theorem dX7_takeSign_29 : decode cX7_takeSign 29 = .ok (.iconst 2, 1) := by decide +kernel
theorem dX7_takeSign_30 : decode cX7_takeSign 30 = .ok (.invokevirtual 103, 3) := by decide +kernel
theorem dX7_takeSign_33 : decode cX7_takeSign 33 = .ok (.ireturn, 1) := by decide +kernel
theorem dX7_takeSign_34 : decode cX7_takeSign 34 = .ok (.aload_n 0, 1) := by decide +kernel
theorem dX7_takeSign_35 : decode cX7_takeSign 35 = .ok (.invokevirtual 106, 3) := by decide +kernel
theorem dX7_takeSign_38 : decode cX7_takeSign 38 = .ok (.iconst 1, 1) := by decide +kernel
theorem dX7_takeSign_39 : decode cX7_takeSign 39 = .ok (.ireturn, 1) := by decide +kernel
theorem dX7_wordHere_0 : decode cX7_wordHere 0 = .ok (.aload_n 0, 1) := by decide +kernel
theorem dX7_wordHere_1 : decode cX7_wordHere 1 = .ok (.getfield 15, 3) := by decide +kernel
theorem dX7_wordHere_4 : decode cX7_wordHere 4 = .ok (.aload_n 0, 1) := by decide +kernel
theorem dX7_wordHere_5 : decode cX7_wordHere 5 = .ok (.getfield 73, 3) := by decide +kernel
theorem dX7_wordHere_8 : decode cX7_wordHere 8 = .ok (.iaload, 1) := by decide +kernel
theorem dX7_wordHere_9 : decode cX7_wordHere 9 = .ok (.iconst 5, 1) := by decide +kernel
theorem dX7_wordHere_10 : decode cX7_wordHere 10 = .ok (.if_icmp .ne 16, 3) := by decide +kernel
theorem dX7_wordHere_13 : decode cX7_wordHere 13 = .ok (.aload_n 0, 1) := by decide +kernel
theorem dX7_wordHere_14 : decode cX7_wordHere 14 = .ok (.getfield 22, 3) := by decide +kernel
theorem dX7_wordHere_17 : decode cX7_wordHere 17 = .ok (.aload_n 0, 1) := by decide +kernel
theorem dX7_wordHere_18 : decode cX7_wordHere 18 = .ok (.getfield 73, 3) := by decide +kernel
theorem dX7_wordHere_21 : decode cX7_wordHere 21 = .ok (.laload, 1) := by decide +kernel
theorem dX7_wordHere_22 : decode cX7_wordHere 22 = .ok (.l2i, 1) := by decide +kernel
theorem dX7_wordHere_23 : decode cX7_wordHere 23 = .ok (.goto 4, 3) := by decide +kernel
theorem dX7_wordHere_26 : decode cX7_wordHere 26 = .ok (.iconst (-1), 1) := by decide +kernel
theorem dX7_wordHere_27 : decode cX7_wordHere 27 = .ok (.ireturn, 1) := by decide +kernel
theorem dX1_takeHead_0 : decode cX1_takeHead 0 = .ok (.aload_n 0, 1) := by decide +kernel
theorem dX1_takeHead_1 : decode cX1_takeHead 1 = .ok (.getfield 9, 3) := by decide +kernel
theorem dX1_takeHead_4 : decode cX1_takeHead 4 = .ok (.iconst 0, 1) := by decide +kernel
theorem dX1_takeHead_5 : decode cX1_takeHead 5 = .ok (.iconst 2, 1) := by decide +kernel
theorem dX1_takeHead_6 : decode cX1_takeHead 6 = .ok (.bipush 40, 2) := by decide +kernel
theorem dX1_takeHead_8 : decode cX1_takeHead 8 = .ok (.invokevirtual 42, 3) := by decide +kernel
theorem dX1_takeHead_11 : decode cX1_takeHead 11 = .ok (.istore_n 1, 1) := by decide +kernel
theorem dX1_takeHead_12 : decode cX1_takeHead 12 = .ok (.iload_n 1, 1) := by decide +kernel
theorem dX1_takeHead_13 : decode cX1_takeHead 13 = .ok (.iconst (-1), 1) := by decide +kernel
theorem dX1_takeHead_14 : decode cX1_takeHead 14 = .ok (.if_icmp .ne 5, 3) := by decide +kernel
theorem dX1_takeHead_17 : decode cX1_takeHead 17 = .ok (.iconst 0, 1) := by decide +kernel
theorem dX1_takeHead_18 : decode cX1_takeHead 18 = .ok (.ireturn, 1) := by decide +kernel
theorem dX1_takeHead_19 : decode cX1_takeHead 19 = .ok (.aload_n 0, 1) := by decide +kernel
theorem dX1_takeHead_20 : decode cX1_takeHead 20 = .ok (.getfield 9, 3) := by decide +kernel
theorem dX1_takeHead_23 : decode cX1_takeHead 23 = .ok (.iconst 1, 1) := by decide +kernel
theorem dX1_takeHead_24 : decode cX1_takeHead 24 = .ok (.iconst 1, 1) := by decide +kernel
theorem dX1_takeHead_25 : decode cX1_takeHead 25 = .ok (.sipush 240, 3) := by decide +kernel
theorem dX1_takeHead_28 : decode cX1_takeHead 28 = .ok (.invokevirtual 42, 3) := by decide +kernel
theorem dX1_takeHead_31 : decode cX1_takeHead 31 = .ok (.istore_n 2, 1) := by decide +kernel
theorem dX1_takeHead_32 : decode cX1_takeHead 32 = .ok (.iload_n 2, 1) := by decide +kernel
theorem dX1_takeHead_33 : decode cX1_takeHead 33 = .ok (.iconst (-1), 1) := by decide +kernel
theorem dX1_takeHead_34 : decode cX1_takeHead 34 = .ok (.if_icmp .ne 5, 3) := by decide +kernel
theorem dX1_takeHead_37 : decode cX1_takeHead 37 = .ok (.iconst 0, 1) := by decide +kernel
theorem dX1_takeHead_38 : decode cX1_takeHead 38 = .ok (.ireturn, 1) := by decide +kernel
theorem dX1_takeHead_39 : decode cX1_takeHead 39 = .ok (.aload_n 0, 1) := by decide +kernel
theorem dX1_takeHead_40 : decode cX1_takeHead 40 = .ok (.getfield 15, 3) := by decide +kernel
theorem dX1_takeHead_43 : decode cX1_takeHead 43 = .ok (.iload_n 1, 1) := by decide +kernel
theorem dX1_takeHead_44 : decode cX1_takeHead 44 = .ok (.putfield 46, 3) := by decide +kernel
theorem dX1_takeHead_47 : decode cX1_takeHead 47 = .ok (.aload_n 0, 1) := by decide +kernel
theorem dX1_takeHead_48 : decode cX1_takeHead 48 = .ok (.getfield 15, 3) := by decide +kernel
theorem dX1_takeHead_51 : decode cX1_takeHead 51 = .ok (.iload_n 2, 1) := by decide +kernel
theorem dX1_takeHead_52 : decode cX1_takeHead 52 = .ok (.putfield 50, 3) := by decide +kernel
theorem dX1_takeHead_55 : decode cX1_takeHead 55 = .ok (.aload_n 0, 1) := by decide +kernel
theorem dX1_takeHead_56 : decode cX1_takeHead 56 = .ok (.getfield 9, 3) := by decide +kernel
theorem dX1_takeHead_59 : decode cX1_takeHead 59 = .ok (.invokevirtual 53, 3) := by decide +kernel
theorem dX1_takeHead_62 : decode cX1_takeHead 62 = .ok (.iconst 2, 1) := by decide +kernel
theorem dX1_takeHead_63 : decode cX1_takeHead 63 = .ok (.if_icmp .ne 30, 3) := by decide +kernel
theorem dX1_takeHead_66 : decode cX1_takeHead 66 = .ok (.aload_n 0, 1) := by decide +kernel
theorem dX1_takeHead_67 : decode cX1_takeHead 67 = .ok (.getfield 9, 3) := by decide +kernel
theorem dX1_takeHead_70 : decode cX1_takeHead 70 = .ok (.iconst 2, 1) := by decide +kernel
theorem dX1_takeHead_71 : decode cX1_takeHead 71 = .ok (.iconst 0, 1) := by decide +kernel
theorem dX1_takeHead_72 : decode cX1_takeHead 72 = .ok (.bipush 60, 2) := by decide +kernel
theorem dX1_takeHead_74 : decode cX1_takeHead 74 = .ok (.invokevirtual 42, 3) := by decide +kernel
theorem dX1_takeHead_77 : decode cX1_takeHead 77 = .ok (.istore_n 3, 1) := by decide +kernel
theorem dX1_takeHead_78 : decode cX1_takeHead 78 = .ok (.iload_n 3, 1) := by decide +kernel
theorem dX1_takeHead_79 : decode cX1_takeHead 79 = .ok (.iconst (-1), 1) := by decide +kernel
theorem dX1_takeHead_80 : decode cX1_takeHead 80 = .ok (.if_icmp .ne 5, 3) := by decide +kernel
theorem dX1_takeHead_83 : decode cX1_takeHead 83 = .ok (.iconst 0, 1) := by decide +kernel
theorem dX1_takeHead_84 : decode cX1_takeHead 84 = .ok (.ireturn, 1) := by decide +kernel
theorem dX1_takeHead_85 : decode cX1_takeHead 85 = .ok (.aload_n 0, 1) := by decide +kernel
theorem dX1_takeHead_86 : decode cX1_takeHead 86 = .ok (.getfield 15, 3) := by decide +kernel
theorem dX1_takeHead_89 : decode cX1_takeHead 89 = .ok (.iload_n 3, 1) := by decide +kernel
theorem dX1_takeHead_90 : decode cX1_takeHead 90 = .ok (.putfield 57, 3) := by decide +kernel
theorem dX1_takeHead_93 : decode cX1_takeHead 93 = .ok (.aload_n 0, 1) := by decide +kernel
theorem dX1_takeHead_94 : decode cX1_takeHead 94 = .ok (.getfield 9, 3) := by decide +kernel
theorem dX1_takeHead_97 : decode cX1_takeHead 97 = .ok (.bipush 59, 2) := by decide +kernel
theorem dX1_takeHead_99 : decode cX1_takeHead 99 = .ok (.invokevirtual 60, 3) := by decide +kernel
theorem dX1_takeHead_102 : decode cX1_takeHead 102 = .ok (.ireturn, 1) := by decide +kernel
theorem dX1_takeDuelPart_0 : decode cX1_takeDuelPart 0 = .ok (.aload_n 0, 1) := by decide +kernel
theorem dX1_takeDuelPart_1 : decode cX1_takeDuelPart 1 = .ok (.getfield 24, 3) := by decide +kernel
theorem dX1_takeDuelPart_4 : decode cX1_takeDuelPart 4 = .ok (.ifCond .eq 12, 3) := by decide +kernel
theorem dX1_takeDuelPart_7 : decode cX1_takeDuelPart 7 = .ok (.aload_n 0, 1) := by decide +kernel
theorem dX1_takeDuelPart_8 : decode cX1_takeDuelPart 8 = .ok (.getfield 9, 3) := by decide +kernel
theorem dX1_takeDuelPart_11 : decode cX1_takeDuelPart 11 = .ok (.iconst 5, 1) := by decide +kernel
theorem dX1_takeDuelPart_12 : decode cX1_takeDuelPart 12 = .ok (.invokevirtual 76, 3) := by decide +kernel
theorem dX1_takeDuelPart_15 : decode cX1_takeDuelPart 15 = .ok (.ireturn, 1) := by decide +kernel
theorem dX1_takeDuelPart_16 : decode cX1_takeDuelPart 16 = .ok (.aload_n 0, 1) := by decide +kernel
theorem dX1_takeDuelPart_17 : decode cX1_takeDuelPart 17 = .ok (.getfield 9, 3) := by decide +kernel
theorem dX1_takeDuelPart_20 : decode cX1_takeDuelPart 20 = .ok (.bipush 12, 2) := by decide +kernel
theorem dX1_takeDuelPart_22 : decode cX1_takeDuelPart 22 = .ok (.invokevirtual 83, 3) := by decide +kernel
theorem dX1_takeDuelPart_25 : decode cX1_takeDuelPart 25 = .ok (.pop, 1) := by decide +kernel
theorem dX1_takeDuelPart_26 : decode cX1_takeDuelPart 26 = .ok (.aload_n 0, 1) := by decide +kernel
theorem dX1_takeDuelPart_27 : decode cX1_takeDuelPart 27 = .ok (.getfield 9, 3) := by decide +kernel
theorem dX1_takeDuelPart_30 : decode cX1_takeDuelPart 30 = .ok (.invokevirtual 53, 3) := by decide +kernel
theorem dX1_takeDuelPart_33 : decode cX1_takeDuelPart 33 = .ok (.istore_n 1, 1) := by decide +kernel
theorem dX1_takeDuelPart_34 : decode cX1_takeDuelPart 34 = .ok (.iload_n 1, 1) := by decide +kernel
theorem dX1_takeDuelPart_35 : decode cX1_takeDuelPart 35 = .ok (.bipush 13, 2) := by decide +kernel
theorem dX1_takeDuelPart_37 : decode cX1_takeDuelPart 37 = .ok (.if_icmp .lt 9, 3) := by decide +kernel
theorem dX1_takeDuelPart_40 : decode cX1_takeDuelPart 40 = .ok (.iload_n 1, 1) := by decide +kernel
theorem dX1_takeDuelPart_41 : decode cX1_takeDuelPart 41 = .ok (.bipush 16, 2) := by decide +kernel
theorem dX1_takeDuelPart_43 : decode cX1_takeDuelPart 43 = .ok (.if_icmp .le 12, 3) := by decide +kernel
theorem dX1_takeDuelPart_46 : decode cX1_takeDuelPart 46 = .ok (.aload_n 0, 1) := by decide +kernel
theorem dX1_takeDuelPart_47 : decode cX1_takeDuelPart 47 = .ok (.getfield 9, 3) := by decide +kernel
theorem dX1_takeDuelPart_50 : decode cX1_takeDuelPart 50 = .ok (.iconst 2, 1) := by decide +kernel
theorem dX1_takeDuelPart_51 : decode cX1_takeDuelPart 51 = .ok (.invokevirtual 76, 3) := by decide +kernel
theorem dX1_takeDuelPart_54 : decode cX1_takeDuelPart 54 = .ok (.ireturn, 1) := by decide +kernel
theorem dX1_takeDuelPart_55 : decode cX1_takeDuelPart 55 = .ok (.aload_n 0, 1) := by decide +kernel
theorem dX1_takeDuelPart_56 : decode cX1_takeDuelPart 56 = .ok (.getfield 9, 3) := by decide +kernel
theorem dX1_takeDuelPart_59 : decode cX1_takeDuelPart 59 = .ok (.iload_n 1, 1) := by decide +kernel
theorem dX1_takeDuelPart_60 : decode cX1_takeDuelPart 60 = .ok (.invokevirtual 83, 3) := by decide +kernel
theorem dX1_takeDuelPart_63 : decode cX1_takeDuelPart 63 = .ok (.pop, 1) := by decide +kernel
theorem dX1_takeDuelPart_64 : decode cX1_takeDuelPart 64 = .ok (.aload_n 0, 1) := by decide +kernel
theorem dX1_takeDuelPart_65 : decode cX1_takeDuelPart 65 = .ok (.getfield 15, 3) := by decide +kernel
theorem dX1_takeDuelPart_68 : decode cX1_takeDuelPart 68 = .ok (.iload_n 1, 1) := by decide +kernel
theorem dX1_takeDuelPart_69 : decode cX1_takeDuelPart 69 = .ok (.bipush 13, 2) := by decide +kernel
theorem dX1_takeDuelPart_71 : decode cX1_takeDuelPart 71 = .ok (.isub, 1) := by decide +kernel
theorem dX1_takeDuelPart_72 : decode cX1_takeDuelPart 72 = .ok (.putfield 124, 3) := by decide +kernel
theorem dX1_takeDuelPart_75 : decode cX1_takeDuelPart 75 = .ok (.aload_n 0, 1) := by decide +kernel
theorem dX1_takeDuelPart_76 : decode cX1_takeDuelPart 76 = .ok (.iconst 1, 1) := by decide +kernel
theorem dX1_takeDuelPart_77 : decode cX1_takeDuelPart 77 = .ok (.putfield 24, 3) := by decide +kernel
theorem dX1_takeDuelPart_80 : decode cX1_takeDuelPart 80 = .ok (.aload_n 0, 1) := by decide +kernel
theorem dX1_takeDuelPart_81 : decode cX1_takeDuelPart 81 = .ok (.getfield 9, 3) := by decide +kernel
theorem dX1_takeDuelPart_84 : decode cX1_takeDuelPart 84 = .ok (.bipush 59, 2) := by decide +kernel
theorem dX1_takeDuelPart_86 : decode cX1_takeDuelPart 86 = .ok (.invokevirtual 60, 3) := by decide +kernel
theorem dX1_takeDuelPart_89 : decode cX1_takeDuelPart 89 = .ok (.ireturn, 1) := by decide +kernel
theorem dX0_addFind_0 : decode cX0_addFind 0 = .ok (.aload_n 0, 1) := by decide +kernel
theorem dX0_addFind_1 : decode cX0_addFind 1 = .ok (.getfield 47, 3) := by decide +kernel
theorem dX0_addFind_4 : decode cX0_addFind 4 = .ok (.bipush 8, 2) := by decide +kernel
theorem dX0_addFind_6 : decode cX0_addFind 6 = .ok (.if_icmp .lt 4, 3) := by decide +kernel
theorem dX0_addFind_9 : decode cX0_addFind 9 = .ok (.return_, 1) := by decide +kernel
theorem dX0_addFind_10 : decode cX0_addFind 10 = .ok (.aload_n 0, 1) := by decide +kernel
theorem dX0_addFind_11 : decode cX0_addFind 11 = .ok (.getfield 19, 3) := by decide +kernel
theorem dX0_addFind_14 : decode cX0_addFind 14 = .ok (.aload_n 0, 1) := by decide +kernel
theorem dX0_addFind_15 : decode cX0_addFind 15 = .ok (.getfield 47, 3) := by decide +kernel
theorem dX0_addFind_18 : decode cX0_addFind 18 = .ok (.aaload, 1) := by decide +kernel
theorem dX0_addFind_19 : decode cX0_addFind 19 = .ok (.astore 5, 2) := by decide +kernel
theorem dX0_addFind_21 : decode cX0_addFind 21 = .ok (.aload 5, 2) := by decide +kernel
theorem dX0_addFind_23 : decode cX0_addFind 23 = .ok (.lload_n 1, 1) := by decide +kernel
theorem dX0_addFind_24 : decode cX0_addFind 24 = .ok (.putfield 79, 3) := by decide +kernel
theorem dX0_addFind_27 : decode cX0_addFind 27 = .ok (.aload 5, 2) := by decide +kernel
theorem dX0_addFind_29 : decode cX0_addFind 29 = .ok (.iload_n 3, 1) := by decide +kernel
theorem dX0_addFind_30 : decode cX0_addFind 30 = .ok (.putfield 80, 3) := by decide +kernel
theorem dX0_addFind_33 : decode cX0_addFind 33 = .ok (.aload 5, 2) := by decide +kernel
theorem dX0_addFind_35 : decode cX0_addFind 35 = .ok (.iload 4, 2) := by decide +kernel
theorem dX0_addFind_37 : decode cX0_addFind 37 = .ok (.putfield 81, 3) := by decide +kernel
theorem dX0_addFind_40 : decode cX0_addFind 40 = .ok (.aload 5, 2) := by decide +kernel
theorem dX0_addFind_42 : decode cX0_addFind 42 = .ok (.iconst 1, 1) := by decide +kernel
theorem dX0_addFind_43 : decode cX0_addFind 43 = .ok (.putfield 84, 3) := by decide +kernel
theorem dX0_addFind_46 : decode cX0_addFind 46 = .ok (.aload 5, 2) := by decide +kernel
theorem dX0_addFind_48 : decode cX0_addFind 48 = .ok (.iconst 0, 1) := by decide +kernel
theorem dX0_addFind_49 : decode cX0_addFind 49 = .ok (.putfield 88, 3) := by decide +kernel
theorem dX0_addFind_52 : decode cX0_addFind 52 = .ok (.aload_n 0, 1) := by decide +kernel
theorem dX0_addFind_53 : decode cX0_addFind 53 = .ok (.dup, 1) := by decide +kernel
theorem dX0_addFind_54 : decode cX0_addFind 54 = .ok (.getfield 47, 3) := by decide +kernel
theorem dX0_addFind_57 : decode cX0_addFind 57 = .ok (.iconst 1, 1) := by decide +kernel
theorem dX0_addFind_58 : decode cX0_addFind 58 = .ok (.iadd, 1) := by decide +kernel
theorem dX0_addFind_59 : decode cX0_addFind 59 = .ok (.putfield 47, 3) := by decide +kernel
theorem dX0_addFind_62 : decode cX0_addFind 62 = .ok (.return_, 1) := by decide +kernel
theorem dX0_findNamed_0 : decode cX0_findNamed 0 = .ok (.iconst 0, 1) := by decide +kernel
theorem dX0_findNamed_1 : decode cX0_findNamed 1 = .ok (.istore_n 3, 1) := by decide +kernel
theorem dX0_findNamed_2 : decode cX0_findNamed 2 = .ok (.iload_n 3, 1) := by decide +kernel
theorem dX0_findNamed_3 : decode cX0_findNamed 3 = .ok (.aload_n 0, 1) := by decide +kernel
theorem dX0_findNamed_4 : decode cX0_findNamed 4 = .ok (.getfield 47, 3) := by decide +kernel
theorem dX0_findNamed_7 : decode cX0_findNamed 7 = .ok (.if_icmp .ge 25, 3) := by decide +kernel
theorem dX0_findNamed_10 : decode cX0_findNamed 10 = .ok (.aload_n 0, 1) := by decide +kernel
theorem dX0_findNamed_11 : decode cX0_findNamed 11 = .ok (.getfield 19, 3) := by decide +kernel
theorem dX0_findNamed_14 : decode cX0_findNamed 14 = .ok (.iload_n 3, 1) := by decide +kernel
theorem dX0_findNamed_15 : decode cX0_findNamed 15 = .ok (.aaload, 1) := by decide +kernel
theorem dX0_findNamed_16 : decode cX0_findNamed 16 = .ok (.getfield 79, 3) := by decide +kernel
theorem dX0_findNamed_19 : decode cX0_findNamed 19 = .ok (.lload_n 1, 1) := by decide +kernel
theorem dX0_findNamed_20 : decode cX0_findNamed 20 = .ok (.lcmp, 1) := by decide +kernel
theorem dX0_findNamed_21 : decode cX0_findNamed 21 = .ok (.ifCond .ne 5, 3) := by decide +kernel
theorem dX0_findNamed_24 : decode cX0_findNamed 24 = .ok (.iload_n 3, 1) := by decide +kernel
theorem dX0_findNamed_25 : decode cX0_findNamed 25 = .ok (.ireturn, 1) := by decide +kernel
theorem dX0_findNamed_26 : decode cX0_findNamed 26 = .ok (.iinc 3 1, 3) := by decide +kernel
theorem dX0_findNamed_29 : decode cX0_findNamed 29 = .ok (.goto (-27), 3) := by decide +kernel
theorem dX0_findNamed_32 : decode cX0_findNamed 32 = .ok (.iconst (-1), 1) := by decide +kernel
theorem dX0_findNamed_33 : decode cX0_findNamed 33 = .ok (.ireturn, 1) := by decide +kernel
theorem dX0_finderNamed_0 : decode cX0_finderNamed 0 = .ok (.iconst 0, 1) := by decide +kernel
theorem dX0_finderNamed_1 : decode cX0_finderNamed 1 = .ok (.istore_n 3, 1) := by decide +kernel
theorem dX0_finderNamed_2 : decode cX0_finderNamed 2 = .ok (.iload_n 3, 1) := by decide +kernel
theorem dX0_finderNamed_3 : decode cX0_finderNamed 3 = .ok (.aload_n 0, 1) := by decide +kernel
theorem dX0_finderNamed_4 : decode cX0_finderNamed 4 = .ok (.getfield 44, 3) := by decide +kernel
theorem dX0_finderNamed_7 : decode cX0_finderNamed 7 = .ok (.if_icmp .ge 25, 3) := by decide +kernel
theorem dX0_finderNamed_10 : decode cX0_finderNamed 10 = .ok (.aload_n 0, 1) := by decide +kernel
theorem dX0_finderNamed_11 : decode cX0_finderNamed 11 = .ok (.getfield 13, 3) := by decide +kernel
theorem dX0_finderNamed_14 : decode cX0_finderNamed 14 = .ok (.iload_n 3, 1) := by decide +kernel
theorem dX0_finderNamed_15 : decode cX0_finderNamed 15 = .ok (.aaload, 1) := by decide +kernel
theorem dX0_finderNamed_16 : decode cX0_finderNamed 16 = .ok (.getfield 60, 3) := by decide +kernel
theorem dX0_finderNamed_19 : decode cX0_finderNamed 19 = .ok (.lload_n 1, 1) := by decide +kernel
theorem dX0_finderNamed_20 : decode cX0_finderNamed 20 = .ok (.lcmp, 1) := by decide +kernel
theorem dX0_finderNamed_21 : decode cX0_finderNamed 21 = .ok (.ifCond .ne 5, 3) := by decide +kernel
theorem dX0_finderNamed_24 : decode cX0_finderNamed 24 = .ok (.iload_n 3, 1) := by decide +kernel
theorem dX0_finderNamed_25 : decode cX0_finderNamed 25 = .ok (.ireturn, 1) := by decide +kernel
theorem dX0_finderNamed_26 : decode cX0_finderNamed 26 = .ok (.iinc 3 1, 3) := by decide +kernel
theorem dX0_finderNamed_29 : decode cX0_finderNamed 29 = .ok (.goto (-27), 3) := by decide +kernel
theorem dX0_finderNamed_32 : decode cX0_finderNamed 32 = .ok (.iconst (-1), 1) := by decide +kernel
theorem dX0_finderNamed_33 : decode cX0_finderNamed 33 = .ok (.ireturn, 1) := by decide +kernel
theorem dX7_takeNewName_0 : decode cX7_takeNewName 0 = .ok (.aload_n 0, 1) := by decide +kernel
theorem dX7_takeNewName_1 : decode cX7_takeNewName 1 = .ok (.getfield 15, 3) := by decide +kernel
theorem dX7_takeNewName_4 : decode cX7_takeNewName 4 = .ok (.aload_n 0, 1) := by decide +kernel
theorem dX7_takeNewName_5 : decode cX7_takeNewName 5 = .ok (.getfield 73, 3) := by decide +kernel
theorem dX7_takeNewName_8 : decode cX7_takeNewName 8 = .ok (.iaload, 1) := by decide +kernel
theorem dX7_takeNewName_9 : decode cX7_takeNewName 9 = .ok (.iconst 4, 1) := by decide +kernel
theorem dX7_takeNewName_10 : decode cX7_takeNewName 10 = .ok (.if_icmp .eq 13, 3) := by decide +kernel
theorem dX7_takeNewName_13 : decode cX7_takeNewName 13 = .ok (.aload_n 0, 1) := by decide +kernel
theorem dX7_takeNewName_14 : decode cX7_takeNewName 14 = .ok (.iconst 2, 1) := by decide +kernel
theorem dX7_takeNewName_15 : decode cX7_takeNewName 15 = .ok (.invokevirtual 103, 3) := by decide +kernel
theorem dX7_takeNewName_18 : decode cX7_takeNewName 18 = .ok (.pop, 1) := by decide +kernel
theorem dX7_takeNewName_19 : decode cX7_takeNewName 19 = .ok (.ldc2_w 117, 3) := by decide +kernel
theorem dX7_takeNewName_22 : decode cX7_takeNewName 22 = .ok (.lreturn, 1) := by decide +kernel
theorem dX7_takeNewName_23 : decode cX7_takeNewName 23 = .ok (.aload_n 0, 1) := by decide +kernel
theorem dX7_takeNewName_24 : decode cX7_takeNewName 24 = .ok (.getfield 22, 3) := by decide +kernel
theorem dX7_takeNewName_27 : decode cX7_takeNewName 27 = .ok (.aload_n 0, 1) := by decide +kernel
theorem dX7_takeNewName_28 : decode cX7_takeNewName 28 = .ok (.getfield 73, 3) := by decide +kernel
theorem dX7_takeNewName_31 : decode cX7_takeNewName 31 = .ok (.laload, 1) := by decide +kernel
theorem dX7_takeNewName_32 : decode cX7_takeNewName 32 = .ok (.lstore_n 2, 1) := by decide +kernel
theorem dX7_takeNewName_33 : decode cX7_takeNewName 33 = .ok (.aload_n 1, 1) := by decide +kernel
theorem dX7_takeNewName_34 : decode cX7_takeNewName 34 = .ok (.lload_n 2, 1) := by decide +kernel
theorem dX7_takeNewName_35 : decode cX7_takeNewName 35 = .ok (.invokevirtual 119, 3) := by decide +kernel
theorem dX7_takeNewName_38 : decode cX7_takeNewName 38 = .ok (.iconst (-1), 1) := by decide +kernel
theorem dX7_takeNewName_39 : decode cX7_takeNewName 39 = .ok (.if_icmp .ne 12, 3) := by decide +kernel
theorem dX7_takeNewName_42 : decode cX7_takeNewName 42 = .ok (.aload_n 1, 1) := by decide +kernel
theorem dX7_takeNewName_43 : decode cX7_takeNewName 43 = .ok (.lload_n 2, 1) := by decide +kernel
theorem dX7_takeNewName_44 : decode cX7_takeNewName 44 = .ok (.invokevirtual 124, 3) := by decide +kernel
theorem dX7_takeNewName_47 : decode cX7_takeNewName 47 = .ok (.iconst (-1), 1) := by decide +kernel
theorem dX7_takeNewName_48 : decode cX7_takeNewName 48 = .ok (.if_icmp .eq 13, 3) := by decide +kernel
theorem dX7_takeNewName_51 : decode cX7_takeNewName 51 = .ok (.aload_n 0, 1) := by decide +kernel
theorem dX7_takeNewName_52 : decode cX7_takeNewName 52 = .ok (.iconst 3, 1) := by decide +kernel
theorem dX7_takeNewName_53 : decode cX7_takeNewName 53 = .ok (.invokevirtual 103, 3) := by decide +kernel
theorem dX7_takeNewName_56 : decode cX7_takeNewName 56 = .ok (.pop, 1) := by decide +kernel
theorem dX7_takeNewName_57 : decode cX7_takeNewName 57 = .ok (.ldc2_w 117, 3) := by decide +kernel
theorem dX7_takeNewName_60 : decode cX7_takeNewName 60 = .ok (.lreturn, 1) := by decide +kernel
theorem dX7_takeNewName_61 : decode cX7_takeNewName 61 = .ok (.aload_n 0, 1) := by decide +kernel
theorem dX7_takeNewName_62 : decode cX7_takeNewName 62 = .ok (.invokevirtual 106, 3) := by decide +kernel
theorem dX7_takeNewName_65 : decode cX7_takeNewName 65 = .ok (.lload_n 2, 1) := by decide +kernel
theorem dX7_takeNewName_66 : decode cX7_takeNewName 66 = .ok (.lreturn, 1) := by decide +kernel
theorem dX1_takeFindPart_0 : decode cX1_takeFindPart 0 = .ok (.aload_n 0, 1) := by decide +kernel
theorem dX1_takeFindPart_1 : decode cX1_takeFindPart 1 = .ok (.getfield 15, 3) := by decide +kernel
theorem dX1_takeFindPart_4 : decode cX1_takeFindPart 4 = .ok (.getfield 96, 3) := by decide +kernel
theorem dX1_takeFindPart_7 : decode cX1_takeFindPart 7 = .ok (.bipush 8, 2) := by decide +kernel
theorem dX1_takeFindPart_9 : decode cX1_takeFindPart 9 = .ok (.if_icmp .lt 13, 3) := by decide +kernel
theorem dX1_takeFindPart_12 : decode cX1_takeFindPart 12 = .ok (.aload_n 0, 1) := by decide +kernel
theorem dX1_takeFindPart_13 : decode cX1_takeFindPart 13 = .ok (.getfield 9, 3) := by decide +kernel
theorem dX1_takeFindPart_16 : decode cX1_takeFindPart 16 = .ok (.bipush 6, 2) := by decide +kernel
theorem dX1_takeFindPart_18 : decode cX1_takeFindPart 18 = .ok (.invokevirtual 76, 3) := by decide +kernel
theorem dX1_takeFindPart_21 : decode cX1_takeFindPart 21 = .ok (.ireturn, 1) := by decide +kernel
theorem dX1_takeFindPart_22 : decode cX1_takeFindPart 22 = .ok (.aload_n 0, 1) := by decide +kernel
theorem dX1_takeFindPart_23 : decode cX1_takeFindPart 23 = .ok (.getfield 9, 3) := by decide +kernel
theorem dX1_takeFindPart_26 : decode cX1_takeFindPart 26 = .ok (.bipush 7, 2) := by decide +kernel
theorem dX1_takeFindPart_28 : decode cX1_takeFindPart 28 = .ok (.invokevirtual 83, 3) := by decide +kernel
theorem dX1_takeFindPart_31 : decode cX1_takeFindPart 31 = .ok (.pop, 1) := by decide +kernel
theorem dX1_takeFindPart_32 : decode cX1_takeFindPart 32 = .ok (.aload_n 0, 1) := by decide +kernel
theorem dX1_takeFindPart_33 : decode cX1_takeFindPart 33 = .ok (.getfield 9, 3) := by decide +kernel
theorem dX1_takeFindPart_36 : decode cX1_takeFindPart 36 = .ok (.aload_n 0, 1) := by decide +kernel
theorem dX1_takeFindPart_37 : decode cX1_takeFindPart 37 = .ok (.getfield 15, 3) := by decide +kernel
theorem dX1_takeFindPart_40 : decode cX1_takeFindPart 40 = .ok (.invokevirtual 86, 3) := by decide +kernel
theorem dX1_takeFindPart_43 : decode cX1_takeFindPart 43 = .ok (.lstore_n 1, 1) := by decide +kernel
theorem dX1_takeFindPart_44 : decode cX1_takeFindPart 44 = .ok (.lload_n 1, 1) := by decide +kernel
theorem dX1_takeFindPart_45 : decode cX1_takeFindPart 45 = .ok (.ldc2_w 90, 3) := by decide +kernel
theorem dX1_takeFindPart_48 : decode cX1_takeFindPart 48 = .ok (.lcmp, 1) := by decide +kernel
theorem dX1_takeFindPart_49 : decode cX1_takeFindPart 49 = .ok (.ifCond .ne 5, 3) := by decide +kernel
theorem dX1_takeFindPart_52 : decode cX1_takeFindPart 52 = .ok (.iconst 0, 1) := by decide +kernel
theorem dX1_takeFindPart_53 : decode cX1_takeFindPart 53 = .ok (.ireturn, 1) := by decide +kernel
theorem dX1_takeFindPart_54 : decode cX1_takeFindPart 54 = .ok (.aload_n 0, 1) := by decide +kernel
theorem dX1_takeFindPart_55 : decode cX1_takeFindPart 55 = .ok (.getfield 9, 3) := by decide +kernel
theorem dX1_takeFindPart_58 : decode cX1_takeFindPart 58 = .ok (.iconst 4, 1) := by decide +kernel
theorem dX1_takeFindPart_59 : decode cX1_takeFindPart 59 = .ok (.iconst 0, 1) := by decide +kernel
theorem dX1_takeFindPart_60 : decode cX1_takeFindPart 60 = .ok (.aload_n 0, 1) := by decide +kernel
theorem dX1_takeFindPart_61 : decode cX1_takeFindPart 61 = .ok (.getfield 15, 3) := by decide +kernel
theorem dX1_takeFindPart_64 : decode cX1_takeFindPart 64 = .ok (.getfield 46, 3) := by decide +kernel
theorem dX1_takeFindPart_67 : decode cX1_takeFindPart 67 = .ok (.iconst 1, 1) := by decide +kernel
theorem dX1_takeFindPart_68 : decode cX1_takeFindPart 68 = .ok (.isub, 1) := by decide +kernel
theorem dX1_takeFindPart_69 : decode cX1_takeFindPart 69 = .ok (.invokevirtual 42, 3) := by decide +kernel
theorem dX1_takeFindPart_72 : decode cX1_takeFindPart 72 = .ok (.istore_n 3, 1) := by decide +kernel
theorem dX1_takeFindPart_73 : decode cX1_takeFindPart 73 = .ok (.iload_n 3, 1) := by decide +kernel
theorem dX1_takeFindPart_74 : decode cX1_takeFindPart 74 = .ok (.iconst (-1), 1) := by decide +kernel
theorem dX1_takeFindPart_75 : decode cX1_takeFindPart 75 = .ok (.if_icmp .ne 5, 3) := by decide +kernel
theorem dX1_takeFindPart_78 : decode cX1_takeFindPart 78 = .ok (.iconst 0, 1) := by decide +kernel
theorem dX1_takeFindPart_79 : decode cX1_takeFindPart 79 = .ok (.ireturn, 1) := by decide +kernel
theorem dX1_takeFindPart_80 : decode cX1_takeFindPart 80 = .ok (.aload_n 0, 1) := by decide +kernel
theorem dX1_takeFindPart_81 : decode cX1_takeFindPart 81 = .ok (.getfield 9, 3) := by decide +kernel
theorem dX1_takeFindPart_84 : decode cX1_takeFindPart 84 = .ok (.bipush 8, 2) := by decide +kernel
theorem dX1_takeFindPart_86 : decode cX1_takeFindPart 86 = .ok (.iconst 0, 1) := by decide +kernel
theorem dX1_takeFindPart_87 : decode cX1_takeFindPart 87 = .ok (.sipush 999, 3) := by decide +kernel
theorem dX1_takeFindPart_90 : decode cX1_takeFindPart 90 = .ok (.invokevirtual 42, 3) := by decide +kernel
theorem dX1_takeFindPart_93 : decode cX1_takeFindPart 93 = .ok (.istore 4, 2) := by decide +kernel
theorem dX1_takeFindPart_95 : decode cX1_takeFindPart 95 = .ok (.iload 4, 2) := by decide +kernel
theorem dX1_takeFindPart_97 : decode cX1_takeFindPart 97 = .ok (.iconst (-1), 1) := by decide +kernel
theorem dX1_takeFindPart_98 : decode cX1_takeFindPart 98 = .ok (.if_icmp .ne 5, 3) := by decide +kernel
theorem dX1_takeFindPart_101 : decode cX1_takeFindPart 101 = .ok (.iconst 0, 1) := by decide +kernel
theorem dX1_takeFindPart_102 : decode cX1_takeFindPart 102 = .ok (.ireturn, 1) := by decide +kernel
theorem dX1_takeFindPart_103 : decode cX1_takeFindPart 103 = .ok (.aload_n 0, 1) := by decide +kernel
theorem dX1_takeFindPart_104 : decode cX1_takeFindPart 104 = .ok (.getfield 15, 3) := by decide +kernel
theorem dX1_takeFindPart_107 : decode cX1_takeFindPart 107 = .ok (.lload_n 1, 1) := by decide +kernel
theorem dX1_takeFindPart_108 : decode cX1_takeFindPart 108 = .ok (.iload_n 3, 1) := by decide +kernel
theorem dX1_takeFindPart_109 : decode cX1_takeFindPart 109 = .ok (.iload 4, 2) := by decide +kernel
theorem dX1_takeFindPart_111 : decode cX1_takeFindPart 111 = .ok (.invokevirtual 99, 3) := by decide +kernel
theorem dX1_takeFindPart_114 : decode cX1_takeFindPart 114 = .ok (.aload_n 0, 1) := by decide +kernel
theorem dX1_takeFindPart_115 : decode cX1_takeFindPart 115 = .ok (.getfield 9, 3) := by decide +kernel
theorem dX1_takeFindPart_118 : decode cX1_takeFindPart 118 = .ok (.bipush 59, 2) := by decide +kernel
theorem dX1_takeFindPart_120 : decode cX1_takeFindPart 120 = .ok (.invokevirtual 60, 3) := by decide +kernel
theorem dX1_takeFindPart_123 : decode cX1_takeFindPart 123 = .ok (.ireturn, 1) := by decide +kernel
theorem dX0_addFinder_0 : decode cX0_addFinder 0 = .ok (.aload_n 0, 1) := by decide +kernel
theorem dX0_addFinder_1 : decode cX0_addFinder 1 = .ok (.getfield 44, 3) := by decide +kernel
theorem dX0_addFinder_4 : decode cX0_addFinder 4 = .ok (.bipush 6, 2) := by decide +kernel
theorem dX0_addFinder_6 : decode cX0_addFinder 6 = .ok (.if_icmp .lt 4, 3) := by decide +kernel
theorem dX0_addFinder_9 : decode cX0_addFinder 9 = .ok (.return_, 1) := by decide +kernel
theorem dX0_addFinder_10 : decode cX0_addFinder 10 = .ok (.aload_n 0, 1) := by decide +kernel
theorem dX0_addFinder_11 : decode cX0_addFinder 11 = .ok (.getfield 13, 3) := by decide +kernel
theorem dX0_addFinder_14 : decode cX0_addFinder 14 = .ok (.aload_n 0, 1) := by decide +kernel
theorem dX0_addFinder_15 : decode cX0_addFinder 15 = .ok (.getfield 44, 3) := by decide +kernel
theorem dX0_addFinder_18 : decode cX0_addFinder 18 = .ok (.aaload, 1) := by decide +kernel
theorem dX0_addFinder_19 : decode cX0_addFinder 19 = .ok (.astore 6, 2) := by decide +kernel
theorem dX0_addFinder_21 : decode cX0_addFinder 21 = .ok (.aload 6, 2) := by decide +kernel
theorem dX0_addFinder_23 : decode cX0_addFinder 23 = .ok (.lload_n 1, 1) := by decide +kernel
theorem dX0_addFinder_24 : decode cX0_addFinder 24 = .ok (.putfield 60, 3) := by decide +kernel
theorem dX0_addFinder_27 : decode cX0_addFinder 27 = .ok (.aload 6, 2) := by decide +kernel
theorem dX0_addFinder_29 : decode cX0_addFinder 29 = .ok (.iload_n 3, 1) := by decide +kernel
theorem dX0_addFinder_30 : decode cX0_addFinder 30 = .ok (.putfield 64, 3) := by decide +kernel
theorem dX0_addFinder_33 : decode cX0_addFinder 33 = .ok (.aload 6, 2) := by decide +kernel
theorem dX0_addFinder_35 : decode cX0_addFinder 35 = .ok (.iload 4, 2) := by decide +kernel
theorem dX0_addFinder_37 : decode cX0_addFinder 37 = .ok (.putfield 67, 3) := by decide +kernel
theorem dX0_addFinder_40 : decode cX0_addFinder 40 = .ok (.aload 6, 2) := by decide +kernel
theorem dX0_addFinder_42 : decode cX0_addFinder 42 = .ok (.iload 5, 2) := by decide +kernel
theorem dX0_addFinder_44 : decode cX0_addFinder 44 = .ok (.putfield 70, 3) := by decide +kernel
theorem dX0_addFinder_47 : decode cX0_addFinder 47 = .ok (.aload 6, 2) := by decide +kernel
theorem dX0_addFinder_49 : decode cX0_addFinder 49 = .ok (.iconst 0, 1) := by decide +kernel
theorem dX0_addFinder_50 : decode cX0_addFinder 50 = .ok (.putfield 73, 3) := by decide +kernel
theorem dX0_addFinder_53 : decode cX0_addFinder 53 = .ok (.aload 6, 2) := by decide +kernel
theorem dX0_addFinder_55 : decode cX0_addFinder 55 = .ok (.iconst 0, 1) := by decide +kernel
theorem dX0_addFinder_56 : decode cX0_addFinder 56 = .ok (.putfield 76, 3) := by decide +kernel
theorem dX0_addFinder_59 : decode cX0_addFinder 59 = .ok (.aload_n 0, 1) := by decide +kernel
theorem dX0_addFinder_60 : decode cX0_addFinder 60 = .ok (.dup, 1) := by decide +kernel
theorem dX0_addFinder_61 : decode cX0_addFinder 61 = .ok (.getfield 44, 3) := by decide +kernel
theorem dX0_addFinder_64 : decode cX0_addFinder 64 = .ok (.iconst 1, 1) := by decide +kernel
theorem dX0_addFinder_65 : decode cX0_addFinder 65 = .ok (.iadd, 1) := by decide +kernel
theorem dX0_addFinder_66 : decode cX0_addFinder 66 = .ok (.putfield 44, 3) := by decide +kernel
theorem dX0_addFinder_69 : decode cX0_addFinder 69 = .ok (.return_, 1) := by decide +kernel
theorem dX1_takeFinderPart_0 : decode cX1_takeFinderPart 0 = .ok (.aload_n 0, 1) := by decide +kernel
theorem dX1_takeFinderPart_1 : decode cX1_takeFinderPart 1 = .ok (.getfield 15, 3) := by decide +kernel
theorem dX1_takeFinderPart_4 : decode cX1_takeFinderPart 4 = .ok (.getfield 80, 3) := by decide +kernel
theorem dX1_takeFinderPart_7 : decode cX1_takeFinderPart 7 = .ok (.bipush 6, 2) := by decide +kernel
theorem dX1_takeFinderPart_9 : decode cX1_takeFinderPart 9 = .ok (.if_icmp .lt 13, 3) := by decide +kernel
theorem dX1_takeFinderPart_12 : decode cX1_takeFinderPart 12 = .ok (.aload_n 0, 1) := by decide +kernel
theorem dX1_takeFinderPart_13 : decode cX1_takeFinderPart 13 = .ok (.getfield 9, 3) := by decide +kernel
theorem dX1_takeFinderPart_16 : decode cX1_takeFinderPart 16 = .ok (.bipush 6, 2) := by decide +kernel
theorem dX1_takeFinderPart_18 : decode cX1_takeFinderPart 18 = .ok (.invokevirtual 76, 3) := by decide +kernel
theorem dX1_takeFinderPart_21 : decode cX1_takeFinderPart 21 = .ok (.ireturn, 1) := by decide +kernel
theorem dX1_takeFinderPart_22 : decode cX1_takeFinderPart 22 = .ok (.aload_n 0, 1) := by decide +kernel
theorem dX1_takeFinderPart_23 : decode cX1_takeFinderPart 23 = .ok (.getfield 9, 3) := by decide +kernel
theorem dX1_takeFinderPart_26 : decode cX1_takeFinderPart 26 = .ok (.iconst 3, 1) := by decide +kernel
theorem dX1_takeFinderPart_27 : decode cX1_takeFinderPart 27 = .ok (.invokevirtual 83, 3) := by decide +kernel
theorem dX1_takeFinderPart_30 : decode cX1_takeFinderPart 30 = .ok (.pop, 1) := by decide +kernel
theorem dX1_takeFinderPart_31 : decode cX1_takeFinderPart 31 = .ok (.aload_n 0, 1) := by decide +kernel
theorem dX1_takeFinderPart_32 : decode cX1_takeFinderPart 32 = .ok (.getfield 9, 3) := by decide +kernel
theorem dX1_takeFinderPart_35 : decode cX1_takeFinderPart 35 = .ok (.aload_n 0, 1) := by decide +kernel
theorem dX1_takeFinderPart_36 : decode cX1_takeFinderPart 36 = .ok (.getfield 15, 3) := by decide +kernel
theorem dX1_takeFinderPart_39 : decode cX1_takeFinderPart 39 = .ok (.invokevirtual 86, 3) := by decide +kernel
theorem dX1_takeFinderPart_42 : decode cX1_takeFinderPart 42 = .ok (.lstore_n 1, 1) := by decide +kernel
theorem dX1_takeFinderPart_43 : decode cX1_takeFinderPart 43 = .ok (.lload_n 1, 1) := by decide +kernel
theorem dX1_takeFinderPart_44 : decode cX1_takeFinderPart 44 = .ok (.ldc2_w 90, 3) := by decide +kernel
theorem dX1_takeFinderPart_47 : decode cX1_takeFinderPart 47 = .ok (.lcmp, 1) := by decide +kernel
theorem dX1_takeFinderPart_48 : decode cX1_takeFinderPart 48 = .ok (.ifCond .ne 5, 3) := by decide +kernel
theorem dX1_takeFinderPart_51 : decode cX1_takeFinderPart 51 = .ok (.iconst 0, 1) := by decide +kernel
theorem dX1_takeFinderPart_52 : decode cX1_takeFinderPart 52 = .ok (.ireturn, 1) := by decide +kernel
theorem dX1_takeFinderPart_53 : decode cX1_takeFinderPart 53 = .ok (.aload_n 0, 1) := by decide +kernel
theorem dX1_takeFinderPart_54 : decode cX1_takeFinderPart 54 = .ok (.getfield 9, 3) := by decide +kernel
theorem dX1_takeFinderPart_57 : decode cX1_takeFinderPart 57 = .ok (.iconst 4, 1) := by decide +kernel
theorem dX1_takeFinderPart_58 : decode cX1_takeFinderPart 58 = .ok (.iconst 0, 1) := by decide +kernel
theorem dX1_takeFinderPart_59 : decode cX1_takeFinderPart 59 = .ok (.aload_n 0, 1) := by decide +kernel
theorem dX1_takeFinderPart_60 : decode cX1_takeFinderPart 60 = .ok (.getfield 15, 3) := by decide +kernel
theorem dX1_takeFinderPart_63 : decode cX1_takeFinderPart 63 = .ok (.getfield 46, 3) := by decide +kernel
theorem dX1_takeFinderPart_66 : decode cX1_takeFinderPart 66 = .ok (.iconst 1, 1) := by decide +kernel
theorem dX1_takeFinderPart_67 : decode cX1_takeFinderPart 67 = .ok (.isub, 1) := by decide +kernel
theorem dX1_takeFinderPart_68 : decode cX1_takeFinderPart 68 = .ok (.invokevirtual 42, 3) := by decide +kernel
theorem dX1_takeFinderPart_71 : decode cX1_takeFinderPart 71 = .ok (.istore_n 3, 1) := by decide +kernel
theorem dX1_takeFinderPart_72 : decode cX1_takeFinderPart 72 = .ok (.iload_n 3, 1) := by decide +kernel
theorem dX1_takeFinderPart_73 : decode cX1_takeFinderPart 73 = .ok (.iconst (-1), 1) := by decide +kernel
theorem dX1_takeFinderPart_74 : decode cX1_takeFinderPart 74 = .ok (.if_icmp .ne 5, 3) := by decide +kernel
theorem dX1_takeFinderPart_77 : decode cX1_takeFinderPart 77 = .ok (.iconst 0, 1) := by decide +kernel
theorem dX1_takeFinderPart_78 : decode cX1_takeFinderPart 78 = .ok (.ireturn, 1) := by decide +kernel
theorem dX1_takeFinderPart_79 : decode cX1_takeFinderPart 79 = .ok (.aload_n 0, 1) := by decide +kernel
theorem dX1_takeFinderPart_80 : decode cX1_takeFinderPart 80 = .ok (.getfield 9, 3) := by decide +kernel
theorem dX1_takeFinderPart_83 : decode cX1_takeFinderPart 83 = .ok (.iconst 5, 1) := by decide +kernel
theorem dX1_takeFinderPart_84 : decode cX1_takeFinderPart 84 = .ok (.iconst 1, 1) := by decide +kernel
theorem dX1_takeFinderPart_85 : decode cX1_takeFinderPart 85 = .ok (.bipush 9, 2) := by decide +kernel
theorem dX1_takeFinderPart_87 : decode cX1_takeFinderPart 87 = .ok (.invokevirtual 42, 3) := by decide +kernel
theorem dX1_takeFinderPart_90 : decode cX1_takeFinderPart 90 = .ok (.istore 4, 2) := by decide +kernel
theorem dX1_takeFinderPart_92 : decode cX1_takeFinderPart 92 = .ok (.iload 4, 2) := by decide +kernel
theorem dX1_takeFinderPart_94 : decode cX1_takeFinderPart 94 = .ok (.iconst (-1), 1) := by decide +kernel
theorem dX1_takeFinderPart_95 : decode cX1_takeFinderPart 95 = .ok (.if_icmp .ne 5, 3) := by decide +kernel
theorem dX1_takeFinderPart_98 : decode cX1_takeFinderPart 98 = .ok (.iconst 0, 1) := by decide +kernel
theorem dX1_takeFinderPart_99 : decode cX1_takeFinderPart 99 = .ok (.ireturn, 1) := by decide +kernel
theorem dX1_takeFinderPart_100 : decode cX1_takeFinderPart 100 = .ok (.aload_n 0, 1) := by decide +kernel
theorem dX1_takeFinderPart_101 : decode cX1_takeFinderPart 101 = .ok (.getfield 9, 3) := by decide +kernel
theorem dX1_takeFinderPart_104 : decode cX1_takeFinderPart 104 = .ok (.bipush 6, 2) := by decide +kernel
theorem dX1_takeFinderPart_106 : decode cX1_takeFinderPart 106 = .ok (.iconst 0, 1) := by decide +kernel
theorem dX1_takeFinderPart_107 : decode cX1_takeFinderPart 107 = .ok (.bipush 20, 2) := by decide +kernel
theorem dX1_takeFinderPart_109 : decode cX1_takeFinderPart 109 = .ok (.invokevirtual 42, 3) := by decide +kernel
theorem dX1_takeFinderPart_112 : decode cX1_takeFinderPart 112 = .ok (.istore 5, 2) := by decide +kernel
theorem dX1_takeFinderPart_114 : decode cX1_takeFinderPart 114 = .ok (.iload 5, 2) := by decide +kernel
theorem dX1_takeFinderPart_116 : decode cX1_takeFinderPart 116 = .ok (.iconst (-1), 1) := by decide +kernel
theorem dX1_takeFinderPart_117 : decode cX1_takeFinderPart 117 = .ok (.if_icmp .ne 5, 3) := by decide +kernel
theorem dX1_takeFinderPart_120 : decode cX1_takeFinderPart 120 = .ok (.iconst 0, 1) := by decide +kernel
theorem dX1_takeFinderPart_121 : decode cX1_takeFinderPart 121 = .ok (.ireturn, 1) := by decide +kernel
theorem dX1_takeFinderPart_122 : decode cX1_takeFinderPart 122 = .ok (.aload_n 0, 1) := by decide +kernel
theorem dX1_takeFinderPart_123 : decode cX1_takeFinderPart 123 = .ok (.getfield 15, 3) := by decide +kernel
theorem dX1_takeFinderPart_126 : decode cX1_takeFinderPart 126 = .ok (.lload_n 1, 1) := by decide +kernel
theorem dX1_takeFinderPart_127 : decode cX1_takeFinderPart 127 = .ok (.iload_n 3, 1) := by decide +kernel
theorem dX1_takeFinderPart_128 : decode cX1_takeFinderPart 128 = .ok (.iload 4, 2) := by decide +kernel
theorem dX1_takeFinderPart_130 : decode cX1_takeFinderPart 130 = .ok (.iload 5, 2) := by decide +kernel
theorem dX1_takeFinderPart_132 : decode cX1_takeFinderPart 132 = .ok (.invokevirtual 92, 3) := by decide +kernel
theorem dX1_takeFinderPart_135 : decode cX1_takeFinderPart 135 = .ok (.aload_n 0, 1) := by decide +kernel
theorem dX1_takeFinderPart_136 : decode cX1_takeFinderPart 136 = .ok (.getfield 9, 3) := by decide +kernel
theorem dX1_takeFinderPart_139 : decode cX1_takeFinderPart 139 = .ok (.bipush 59, 2) := by decide +kernel
theorem dX1_takeFinderPart_141 : decode cX1_takeFinderPart 141 = .ok (.invokevirtual 60, 3) := by decide +kernel
theorem dX1_takeFinderPart_144 : decode cX1_takeFinderPart 144 = .ok (.ireturn, 1) := by decide +kernel
theorem dX0_findAt_0 : decode cX0_findAt 0 = .ok (.iload_n 1, 1) := by decide +kernel
theorem dX0_findAt_1 : decode cX0_findAt 1 = .ok (.ifCond .lt 20, 3) := by decide +kernel
theorem dX0_findAt_4 : decode cX0_findAt 4 = .ok (.iload_n 1, 1) := by decide +kernel
theorem dX0_findAt_5 : decode cX0_findAt 5 = .ok (.aload_n 0, 1) := by decide +kernel
theorem dX0_findAt_6 : decode cX0_findAt 6 = .ok (.getfield 47, 3) := by decide +kernel
theorem dX0_findAt_9 : decode cX0_findAt 9 = .ok (.if_icmp .ge 12, 3) := by decide +kernel
theorem dX0_findAt_12 : decode cX0_findAt 12 = .ok (.aload_n 0, 1) := by decide +kernel
theorem dX0_findAt_13 : decode cX0_findAt 13 = .ok (.getfield 19, 3) := by decide +kernel
theorem dX0_findAt_16 : decode cX0_findAt 16 = .ok (.iload_n 1, 1) := by decide +kernel
theorem dX0_findAt_17 : decode cX0_findAt 17 = .ok (.aaload, 1) := by decide +kernel
theorem dX0_findAt_18 : decode cX0_findAt 18 = .ok (.goto 4, 3) := by decide +kernel
theorem dX0_findAt_21 : decode cX0_findAt 21 = .ok (.aconst_null, 1) := by decide +kernel
theorem dX0_findAt_22 : decode cX0_findAt 22 = .ok (.areturn, 1) := by decide +kernel
theorem dX0_lying_0 : decode cX0_lying 0 = .ok (.iconst 0, 1) := by decide +kernel
theorem dX0_lying_1 : decode cX0_lying 1 = .ok (.istore_n 1, 1) := by decide +kernel
theorem dX0_lying_2 : decode cX0_lying 2 = .ok (.iconst 0, 1) := by decide +kernel
theorem dX0_lying_3 : decode cX0_lying 3 = .ok (.istore_n 2, 1) := by decide +kernel
theorem dX0_lying_4 : decode cX0_lying 4 = .ok (.iload_n 2, 1) := by decide +kernel
theorem dX0_lying_5 : decode cX0_lying 5 = .ok (.aload_n 0, 1) := by decide +kernel
theorem dX0_lying_6 : decode cX0_lying 6 = .ok (.getfield 47, 3) := by decide +kernel
theorem dX0_lying_9 : decode cX0_lying 9 = .ok (.if_icmp .ge 21, 3) := by decide +kernel
theorem dX0_lying_12 : decode cX0_lying 12 = .ok (.iload_n 1, 1) := by decide +kernel
theorem dX0_lying_13 : decode cX0_lying 13 = .ok (.aload_n 0, 1) := by decide +kernel
theorem dX0_lying_14 : decode cX0_lying 14 = .ok (.getfield 19, 3) := by decide +kernel
theorem dX0_lying_17 : decode cX0_lying 17 = .ok (.iload_n 2, 1) := by decide +kernel
theorem dX0_lying_18 : decode cX0_lying 18 = .ok (.aaload, 1) := by decide +kernel
theorem dX0_lying_19 : decode cX0_lying 19 = .ok (.getfield 88, 3) := by decide +kernel
theorem dX0_lying_22 : decode cX0_lying 22 = .ok (.iadd, 1) := by decide +kernel
theorem dX0_lying_23 : decode cX0_lying 23 = .ok (.istore_n 1, 1) := by decide +kernel
theorem dX0_lying_24 : decode cX0_lying 24 = .ok (.iinc 2 1, 3) := by decide +kernel
theorem dX0_lying_27 : decode cX0_lying 27 = .ok (.goto (-23), 3) := by decide +kernel
theorem dX0_lying_30 : decode cX0_lying 30 = .ok (.iload_n 1, 1) := by decide +kernel
theorem dX0_lying_31 : decode cX0_lying 31 = .ok (.ireturn, 1) := by decide +kernel
theorem dX4_insert_0 : decode cX4_insert 0 = .ok (.aload_n 0, 1) := by decide +kernel
theorem dX4_insert_1 : decode cX4_insert 1 = .ok (.getfield 35, 3) := by decide +kernel
theorem dX4_insert_4 : decode cX4_insert 4 = .ok (.bipush 60, 2) := by decide +kernel
theorem dX4_insert_6 : decode cX4_insert 6 = .ok (.if_icmp .lt 4, 3) := by decide +kernel
theorem dX4_insert_9 : decode cX4_insert 9 = .ok (.return_, 1) := by decide +kernel
theorem dX4_insert_10 : decode cX4_insert 10 = .ok (.aload_n 0, 1) := by decide +kernel
theorem dX4_insert_11 : decode cX4_insert 11 = .ok (.getfield 35, 3) := by decide +kernel
theorem dX4_insert_14 : decode cX4_insert 14 = .ok (.istore_n 3, 1) := by decide +kernel
theorem dX4_insert_15 : decode cX4_insert 15 = .ok (.iload_n 3, 1) := by decide +kernel
theorem dX4_insert_16 : decode cX4_insert 16 = .ok (.ifCond .le 49, 3) := by decide +kernel
theorem dX4_insert_19 : decode cX4_insert 19 = .ok (.aload_n 0, 1) := by decide +kernel
theorem dX4_insert_20 : decode cX4_insert 20 = .ok (.getfield 17, 3) := by decide +kernel
theorem dX4_insert_23 : decode cX4_insert 23 = .ok (.iload_n 3, 1) := by decide +kernel
theorem dX4_insert_24 : decode cX4_insert 24 = .ok (.iconst 1, 1) := by decide +kernel
theorem dX4_insert_25 : decode cX4_insert 25 = .ok (.isub, 1) := by decide +kernel
theorem dX4_insert_26 : decode cX4_insert 26 = .ok (.iaload, 1) := by decide +kernel
theorem dX4_insert_27 : decode cX4_insert 27 = .ok (.iload_n 2, 1) := by decide +kernel
theorem dX4_insert_28 : decode cX4_insert 28 = .ok (.if_icmp .le 37, 3) := by decide +kernel
theorem dX4_insert_31 : decode cX4_insert 31 = .ok (.aload_n 0, 1) := by decide +kernel
theorem dX4_insert_32 : decode cX4_insert 32 = .ok (.getfield 17, 3) := by decide +kernel
theorem dX4_insert_35 : decode cX4_insert 35 = .ok (.iload_n 3, 1) := by decide +kernel
theorem dX4_insert_36 : decode cX4_insert 36 = .ok (.aload_n 0, 1) := by decide +kernel
theorem dX4_insert_37 : decode cX4_insert 37 = .ok (.getfield 17, 3) := by decide +kernel
theorem dX4_insert_40 : decode cX4_insert 40 = .ok (.iload_n 3, 1) := by decide +kernel
theorem dX4_insert_41 : decode cX4_insert 41 = .ok (.iconst 1, 1) := by decide +kernel
theorem dX4_insert_42 : decode cX4_insert 42 = .ok (.isub, 1) := by decide +kernel
theorem dX4_insert_43 : decode cX4_insert 43 = .ok (.iaload, 1) := by decide +kernel
theorem dX4_insert_44 : decode cX4_insert 44 = .ok (.iastore, 1) := by decide +kernel
theorem dX4_insert_45 : decode cX4_insert 45 = .ok (.aload_n 0, 1) := by decide +kernel
theorem dX4_insert_46 : decode cX4_insert 46 = .ok (.getfield 11, 3) := by decide +kernel
theorem dX4_insert_49 : decode cX4_insert 49 = .ok (.iload_n 3, 1) := by decide +kernel
theorem dX4_insert_50 : decode cX4_insert 50 = .ok (.aload_n 0, 1) := by decide +kernel
theorem dX4_insert_51 : decode cX4_insert 51 = .ok (.getfield 11, 3) := by decide +kernel
theorem dX4_insert_54 : decode cX4_insert 54 = .ok (.iload_n 3, 1) := by decide +kernel
theorem dX4_insert_55 : decode cX4_insert 55 = .ok (.iconst 1, 1) := by decide +kernel
theorem dX4_insert_56 : decode cX4_insert 56 = .ok (.isub, 1) := by decide +kernel
theorem dX4_insert_57 : decode cX4_insert 57 = .ok (.iaload, 1) := by decide +kernel
theorem dX4_insert_58 : decode cX4_insert 58 = .ok (.iastore, 1) := by decide +kernel
theorem dX4_insert_59 : decode cX4_insert 59 = .ok (.iinc 3 (-1), 3) := by decide +kernel
theorem dX4_insert_62 : decode cX4_insert 62 = .ok (.goto (-47), 3) := by decide +kernel
theorem dX4_insert_65 : decode cX4_insert 65 = .ok (.aload_n 0, 1) := by decide +kernel
theorem dX4_insert_66 : decode cX4_insert 66 = .ok (.getfield 17, 3) := by decide +kernel
theorem dX4_insert_69 : decode cX4_insert 69 = .ok (.iload_n 3, 1) := by decide +kernel
theorem dX4_insert_70 : decode cX4_insert 70 = .ok (.iload_n 2, 1) := by decide +kernel
theorem dX4_insert_71 : decode cX4_insert 71 = .ok (.iastore, 1) := by decide +kernel
theorem dX4_insert_72 : decode cX4_insert 72 = .ok (.aload_n 0, 1) := by decide +kernel
theorem dX4_insert_73 : decode cX4_insert 73 = .ok (.getfield 11, 3) := by decide +kernel
theorem dX4_insert_76 : decode cX4_insert 76 = .ok (.iload_n 3, 1) := by decide +kernel
theorem dX4_insert_77 : decode cX4_insert 77 = .ok (.iload_n 1, 1) := by decide +kernel
theorem dX4_insert_78 : decode cX4_insert 78 = .ok (.iastore, 1) := by decide +kernel
theorem dX4_insert_79 : decode cX4_insert 79 = .ok (.aload_n 0, 1) := by decide +kernel
theorem dX4_insert_80 : decode cX4_insert 80 = .ok (.dup, 1) := by decide +kernel
theorem dX4_insert_81 : decode cX4_insert 81 = .ok (.getfield 35, 3) := by decide +kernel
theorem dX4_insert_84 : decode cX4_insert 84 = .ok (.iconst 1, 1) := by decide +kernel
theorem dX4_insert_85 : decode cX4_insert 85 = .ok (.iadd, 1) := by decide +kernel
theorem dX4_insert_86 : decode cX4_insert 86 = .ok (.putfield 35, 3) := by decide +kernel
theorem dX4_insert_89 : decode cX4_insert 89 = .ok (.return_, 1) := by decide +kernel
theorem dX7_takeKnown_0 : decode cX7_takeKnown 0 = .ok (.aload_n 0, 1) := by decide +kernel
theorem dX7_takeKnown_1 : decode cX7_takeKnown 1 = .ok (.getfield 15, 3) := by decide +kernel
theorem dX7_takeKnown_4 : decode cX7_takeKnown 4 = .ok (.aload_n 0, 1) := by decide +kernel
theorem dX7_takeKnown_5 : decode cX7_takeKnown 5 = .ok (.getfield 73, 3) := by decide +kernel
theorem dX7_takeKnown_8 : decode cX7_takeKnown 8 = .ok (.iaload, 1) := by decide +kernel
theorem dX7_takeKnown_9 : decode cX7_takeKnown 9 = .ok (.iconst 4, 1) := by decide +kernel
theorem dX7_takeKnown_10 : decode cX7_takeKnown 10 = .ok (.if_icmp .eq 11, 3) := by decide +kernel
theorem dX7_takeKnown_13 : decode cX7_takeKnown 13 = .ok (.aload_n 0, 1) := by decide +kernel
theorem dX7_takeKnown_14 : decode cX7_takeKnown 14 = .ok (.iconst 2, 1) := by decide +kernel
theorem dX7_takeKnown_15 : decode cX7_takeKnown 15 = .ok (.invokevirtual 103, 3) := by decide +kernel
theorem dX7_takeKnown_18 : decode cX7_takeKnown 18 = .ok (.pop, 1) := by decide +kernel
theorem dX7_takeKnown_19 : decode cX7_takeKnown 19 = .ok (.iconst (-1), 1) := by decide +kernel
theorem dX7_takeKnown_20 : decode cX7_takeKnown 20 = .ok (.ireturn, 1) := by decide +kernel
theorem dX7_takeKnown_21 : decode cX7_takeKnown 21 = .ok (.iload_n 1, 1) := by decide +kernel
theorem dX7_takeKnown_22 : decode cX7_takeKnown 22 = .ok (.iconst (-1), 1) := by decide +kernel
theorem dX7_takeKnown_23 : decode cX7_takeKnown 23 = .ok (.if_icmp .ne 11, 3) := by decide +kernel
theorem dX7_takeKnown_26 : decode cX7_takeKnown 26 = .ok (.aload_n 0, 1) := by decide +kernel
theorem dX7_takeKnown_27 : decode cX7_takeKnown 27 = .ok (.iconst 3, 1) := by decide +kernel
theorem dX7_takeKnown_28 : decode cX7_takeKnown 28 = .ok (.invokevirtual 103, 3) := by decide +kernel
theorem dX7_takeKnown_31 : decode cX7_takeKnown 31 = .ok (.pop, 1) := by decide +kernel
theorem dX7_takeKnown_32 : decode cX7_takeKnown 32 = .ok (.iconst (-1), 1) := by decide +kernel
theorem dX7_takeKnown_33 : decode cX7_takeKnown 33 = .ok (.ireturn, 1) := by decide +kernel
theorem dX7_takeKnown_34 : decode cX7_takeKnown 34 = .ok (.aload_n 0, 1) := by decide +kernel
theorem dX7_takeKnown_35 : decode cX7_takeKnown 35 = .ok (.invokevirtual 106, 3) := by decide +kernel
theorem dX7_takeKnown_38 : decode cX7_takeKnown 38 = .ok (.iload_n 1, 1) := by decide +kernel
theorem dX7_takeKnown_39 : decode cX7_takeKnown 39 = .ok (.ireturn, 1) := by decide +kernel
theorem dX7_takeFind_0 : decode cX7_takeFind 0 = .ok (.aload_n 0, 1) := by decide +kernel
theorem dX7_takeFind_1 : decode cX7_takeFind 1 = .ok (.aload_n 1, 1) := by decide +kernel
theorem dX7_takeFind_2 : decode cX7_takeFind 2 = .ok (.aload_n 0, 1) := by decide +kernel
theorem dX7_takeFind_3 : decode cX7_takeFind 3 = .ok (.getfield 22, 3) := by decide +kernel
theorem dX7_takeFind_6 : decode cX7_takeFind 6 = .ok (.aload_n 0, 1) := by decide +kernel
theorem dX7_takeFind_7 : decode cX7_takeFind 7 = .ok (.getfield 73, 3) := by decide +kernel
theorem dX7_takeFind_10 : decode cX7_takeFind 10 = .ok (.laload, 1) := by decide +kernel
theorem dX7_takeFind_11 : decode cX7_takeFind 11 = .ok (.invokevirtual 124, 3) := by decide +kernel
theorem dX7_takeFind_14 : decode cX7_takeFind 14 = .ok (.invokevirtual 127, 3) := by decide +kernel
theorem dX7_takeFind_17 : decode cX7_takeFind 17 = .ok (.ireturn, 1) := by decide +kernel
theorem dX7_takeFindBehind_0 : decode cX7_takeFindBehind 0 = .ok (.aload_n 0, 1) := by decide +kernel
theorem dX7_takeFindBehind_1 : decode cX7_takeFindBehind 1 = .ok (.iload_n 1, 1) := by decide +kernel
theorem dX7_takeFindBehind_2 : decode cX7_takeFindBehind 2 = .ok (.invokevirtual 111, 3) := by decide +kernel
theorem dX7_takeFindBehind_5 : decode cX7_takeFindBehind 5 = .ok (.ifCond .eq 11, 3) := by decide +kernel
theorem dX7_takeFindBehind_8 : decode cX7_takeFindBehind 8 = .ok (.aload_n 0, 1) := by decide +kernel
theorem dX7_takeFindBehind_9 : decode cX7_takeFindBehind 9 = .ok (.aload_n 2, 1) := by decide +kernel
theorem dX7_takeFindBehind_10 : decode cX7_takeFindBehind 10 = .ok (.invokevirtual 131, 3) := by decide +kernel
theorem dX7_takeFindBehind_13 : decode cX7_takeFindBehind 13 = .ok (.goto 4, 3) := by decide +kernel
theorem dX7_takeFindBehind_16 : decode cX7_takeFindBehind 16 = .ok (.iconst (-1), 1) := by decide +kernel
theorem dX7_takeFindBehind_17 : decode cX7_takeFindBehind 17 = .ok (.ireturn, 1) := by decide +kernel
theorem dX7_takeFinder_0 : decode cX7_takeFinder 0 = .ok (.aload_n 0, 1) := by decide +kernel
theorem dX7_takeFinder_1 : decode cX7_takeFinder 1 = .ok (.aload_n 1, 1) := by decide +kernel
theorem dX7_takeFinder_2 : decode cX7_takeFinder 2 = .ok (.aload_n 0, 1) := by decide +kernel
theorem dX7_takeFinder_3 : decode cX7_takeFinder 3 = .ok (.getfield 22, 3) := by decide +kernel
theorem dX7_takeFinder_6 : decode cX7_takeFinder 6 = .ok (.aload_n 0, 1) := by decide +kernel
theorem dX7_takeFinder_7 : decode cX7_takeFinder 7 = .ok (.getfield 73, 3) := by decide +kernel
theorem dX7_takeFinder_10 : decode cX7_takeFinder 10 = .ok (.laload, 1) := by decide +kernel
theorem dX7_takeFinder_11 : decode cX7_takeFinder 11 = .ok (.invokevirtual 119, 3) := by decide +kernel
theorem dX7_takeFinder_14 : decode cX7_takeFinder 14 = .ok (.invokevirtual 127, 3) := by decide +kernel
theorem dX7_takeFinder_17 : decode cX7_takeFinder 17 = .ok (.ireturn, 1) := by decide +kernel
theorem dX1_takePebblePart_0 : decode cX1_takePebblePart 0 = .ok (.aload_n 0, 1) := by decide +kernel
theorem dX1_takePebblePart_1 : decode cX1_takePebblePart 1 = .ok (.getfield 15, 3) := by decide +kernel
theorem dX1_takePebblePart_4 : decode cX1_takePebblePart 4 = .ok (.invokevirtual 103, 3) := by decide +kernel
theorem dX1_takePebblePart_7 : decode cX1_takePebblePart 7 = .ok (.bipush 30, 2) := by decide +kernel
theorem dX1_takePebblePart_9 : decode cX1_takePebblePart 9 = .ok (.if_icmp .lt 13, 3) := by decide +kernel
theorem dX1_takePebblePart_12 : decode cX1_takePebblePart 12 = .ok (.aload_n 0, 1) := by decide +kernel
theorem dX1_takePebblePart_13 : decode cX1_takePebblePart 13 = .ok (.getfield 9, 3) := by decide +kernel
theorem dX1_takePebblePart_16 : decode cX1_takePebblePart 16 = .ok (.bipush 6, 2) := by decide +kernel
theorem dX1_takePebblePart_18 : decode cX1_takePebblePart 18 = .ok (.invokevirtual 76, 3) := by decide +kernel
theorem dX1_takePebblePart_21 : decode cX1_takePebblePart 21 = .ok (.ireturn, 1) := by decide +kernel
theorem dX1_takePebblePart_22 : decode cX1_takePebblePart 22 = .ok (.aload_n 0, 1) := by decide +kernel
theorem dX1_takePebblePart_23 : decode cX1_takePebblePart 23 = .ok (.getfield 9, 3) := by decide +kernel
theorem dX1_takePebblePart_26 : decode cX1_takePebblePart 26 = .ok (.bipush 9, 2) := by decide +kernel
theorem dX1_takePebblePart_28 : decode cX1_takePebblePart 28 = .ok (.invokevirtual 83, 3) := by decide +kernel
theorem dX1_takePebblePart_31 : decode cX1_takePebblePart 31 = .ok (.pop, 1) := by decide +kernel
theorem dX1_takePebblePart_32 : decode cX1_takePebblePart 32 = .ok (.aload_n 0, 1) := by decide +kernel
theorem dX1_takePebblePart_33 : decode cX1_takePebblePart 33 = .ok (.getfield 9, 3) := by decide +kernel
theorem dX1_takePebblePart_36 : decode cX1_takePebblePart 36 = .ok (.bipush 10, 2) := by decide +kernel
theorem dX1_takePebblePart_38 : decode cX1_takePebblePart 38 = .ok (.invokevirtual 83, 3) := by decide +kernel
theorem dX1_takePebblePart_41 : decode cX1_takePebblePart 41 = .ok (.ifCond .eq 17, 3) := by decide +kernel
theorem dX1_takePebblePart_44 : decode cX1_takePebblePart 44 = .ok (.aload_n 0, 1) := by decide +kernel
theorem dX1_takePebblePart_45 : decode cX1_takePebblePart 45 = .ok (.getfield 9, 3) := by decide +kernel
theorem dX1_takePebblePart_48 : decode cX1_takePebblePart 48 = .ok (.aload_n 0, 1) := by decide +kernel
theorem dX1_takePebblePart_49 : decode cX1_takePebblePart 49 = .ok (.getfield 15, 3) := by decide +kernel
theorem dX1_takePebblePart_52 : decode cX1_takePebblePart 52 = .ok (.invokevirtual 106, 3) := by decide +kernel
theorem dX1_takePebblePart_55 : decode cX1_takePebblePart 55 = .ok (.goto 4, 3) := by decide +kernel
theorem dX1_takePebblePart_58 : decode cX1_takePebblePart 58 = .ok (.iconst (-1), 1) := by decide +kernel
theorem dX1_takePebblePart_59 : decode cX1_takePebblePart 59 = .ok (.istore_n 1, 1) := by decide +kernel
theorem dX1_takePebblePart_60 : decode cX1_takePebblePart 60 = .ok (.iload_n 1, 1) := by decide +kernel
theorem dX1_takePebblePart_61 : decode cX1_takePebblePart 61 = .ok (.iconst (-1), 1) := by decide +kernel
theorem dX1_takePebblePart_62 : decode cX1_takePebblePart 62 = .ok (.if_icmp .ne 5, 3) := by decide +kernel
theorem dX1_takePebblePart_65 : decode cX1_takePebblePart 65 = .ok (.iconst 0, 1) := by decide +kernel
theorem dX1_takePebblePart_66 : decode cX1_takePebblePart 66 = .ok (.ireturn, 1) := by decide +kernel
theorem dX1_takePebblePart_67 : decode cX1_takePebblePart 67 = .ok (.aload_n 0, 1) := by decide +kernel
theorem dX1_takePebblePart_68 : decode cX1_takePebblePart 68 = .ok (.getfield 15, 3) := by decide +kernel
theorem dX1_takePebblePart_71 : decode cX1_takePebblePart 71 = .ok (.aload_n 0, 1) := by decide +kernel
theorem dX1_takePebblePart_72 : decode cX1_takePebblePart 72 = .ok (.getfield 9, 3) := by decide +kernel
theorem dX1_takePebblePart_75 : decode cX1_takePebblePart 75 = .ok (.bipush 11, 2) := by decide +kernel
theorem dX1_takePebblePart_77 : decode cX1_takePebblePart 77 = .ok (.aload_n 0, 1) := by decide +kernel
theorem dX1_takePebblePart_78 : decode cX1_takePebblePart 78 = .ok (.getfield 15, 3) := by decide +kernel
theorem dX1_takePebblePart_81 : decode cX1_takePebblePart 81 = .ok (.invokevirtual 110, 3) := by decide +kernel
theorem dX1_takePebblePart_84 : decode cX1_takePebblePart 84 = .ok (.invokevirtual 114, 3) := by decide +kernel
theorem dX1_takePebblePart_87 : decode cX1_takePebblePart 87 = .ok (.astore_n 2, 1) := by decide +kernel
theorem dX1_takePebblePart_88 : decode cX1_takePebblePart 88 = .ok (.aload_n 2, 1) := by decide +kernel
theorem dX1_takePebblePart_89 : decode cX1_takePebblePart 89 = .ok (.ifnonnull 5, 3) := by decide +kernel
theorem dX1_takePebblePart_92 : decode cX1_takePebblePart 92 = .ok (.iconst 0, 1) := by decide +kernel
theorem dX1_takePebblePart_93 : decode cX1_takePebblePart 93 = .ok (.ireturn, 1) := by decide +kernel
theorem dX1_takePebblePart_94 : decode cX1_takePebblePart 94 = .ok (.aload_n 0, 1) := by decide +kernel
theorem dX1_takePebblePart_95 : decode cX1_takePebblePart 95 = .ok (.getfield 9, 3) := by decide +kernel
theorem dX1_takePebblePart_98 : decode cX1_takePebblePart 98 = .ok (.iconst 4, 1) := by decide +kernel
theorem dX1_takePebblePart_99 : decode cX1_takePebblePart 99 = .ok (.iconst 0, 1) := by decide +kernel
theorem dX1_takePebblePart_100 : decode cX1_takePebblePart 100 = .ok (.aload_n 0, 1) := by decide +kernel
theorem dX1_takePebblePart_101 : decode cX1_takePebblePart 101 = .ok (.getfield 15, 3) := by decide +kernel
theorem dX1_takePebblePart_104 : decode cX1_takePebblePart 104 = .ok (.getfield 50, 3) := by decide +kernel
theorem dX1_takePebblePart_107 : decode cX1_takePebblePart 107 = .ok (.invokevirtual 42, 3) := by decide +kernel
theorem dX1_takePebblePart_110 : decode cX1_takePebblePart 110 = .ok (.istore_n 3, 1) := by decide +kernel
theorem dX1_takePebblePart_111 : decode cX1_takePebblePart 111 = .ok (.iload_n 3, 1) := by decide +kernel
theorem dX1_takePebblePart_112 : decode cX1_takePebblePart 112 = .ok (.iconst (-1), 1) := by decide +kernel
theorem dX1_takePebblePart_113 : decode cX1_takePebblePart 113 = .ok (.if_icmp .ne 5, 3) := by decide +kernel
theorem dX1_takePebblePart_116 : decode cX1_takePebblePart 116 = .ok (.iconst 0, 1) := by decide +kernel
theorem dX1_takePebblePart_117 : decode cX1_takePebblePart 117 = .ok (.ireturn, 1) := by decide +kernel
theorem dX1_takePebblePart_118 : decode cX1_takePebblePart 118 = .ok (.aload_n 2, 1) := by decide +kernel
theorem dX1_takePebblePart_119 : decode cX1_takePebblePart 119 = .ok (.iload_n 1, 1) := by decide +kernel
theorem dX1_takePebblePart_120 : decode cX1_takePebblePart 120 = .ok (.iload_n 3, 1) := by decide +kernel
theorem dX1_takePebblePart_121 : decode cX1_takePebblePart 121 = .ok (.invokevirtual 118, 3) := by decide +kernel
theorem dX1_takePebblePart_124 : decode cX1_takePebblePart 124 = .ok (.aload_n 0, 1) := by decide +kernel
theorem dX1_takePebblePart_125 : decode cX1_takePebblePart 125 = .ok (.getfield 9, 3) := by decide +kernel
theorem dX1_takePebblePart_128 : decode cX1_takePebblePart 128 = .ok (.bipush 59, 2) := by decide +kernel
theorem dX1_takePebblePart_130 : decode cX1_takePebblePart 130 = .ok (.invokevirtual 60, 3) := by decide +kernel
theorem dX1_takePebblePart_133 : decode cX1_takePebblePart 133 = .ok (.ireturn, 1) := by decide +kernel
theorem dX1_takePart_0 : decode cX1_takePart 0 = .ok (.aload_n 0, 1) := by decide +kernel
theorem dX1_takePart_1 : decode cX1_takePart 1 = .ok (.getfield 9, 3) := by decide +kernel
theorem dX1_takePart_4 : decode cX1_takePart 4 = .ok (.invokevirtual 53, 3) := by decide +kernel
theorem dX1_takePart_7 : decode cX1_takePart 7 = .ok (.tableswitch 73 3 12 #[53, 73, 73, 73, 58, 73, 63, 73, 73, 68], 53) := by decide +kernel
theorem dX1_takePart_60 : decode cX1_takePart 60 = .ok (.aload_n 0, 1) := by decide +kernel
theorem dX1_takePart_61 : decode cX1_takePart 61 = .ok (.invokevirtual 64, 3) := by decide +kernel
theorem dX1_takePart_64 : decode cX1_takePart 64 = .ok (.ireturn, 1) := by decide +kernel
theorem dX1_takePart_65 : decode cX1_takePart 65 = .ok (.aload_n 0, 1) := by decide +kernel
theorem dX1_takePart_66 : decode cX1_takePart 66 = .ok (.invokevirtual 67, 3) := by decide +kernel
theorem dX1_takePart_69 : decode cX1_takePart 69 = .ok (.ireturn, 1) := by decide +kernel
theorem dX1_takePart_70 : decode cX1_takePart 70 = .ok (.aload_n 0, 1) := by decide +kernel
theorem dX1_takePart_71 : decode cX1_takePart 71 = .ok (.invokevirtual 70, 3) := by decide +kernel
theorem dX1_takePart_74 : decode cX1_takePart 74 = .ok (.ireturn, 1) := by decide +kernel
theorem dX1_takePart_75 : decode cX1_takePart 75 = .ok (.aload_n 0, 1) := by decide +kernel
theorem dX1_takePart_76 : decode cX1_takePart 76 = .ok (.invokevirtual 73, 3) := by decide +kernel
theorem dX1_takePart_79 : decode cX1_takePart 79 = .ok (.ireturn, 1) := by decide +kernel
theorem dX1_takePart_80 : decode cX1_takePart 80 = .ok (.aload_n 0, 1) := by decide +kernel
theorem dX1_takePart_81 : decode cX1_takePart 81 = .ok (.getfield 9, 3) := by decide +kernel
theorem dX1_takePart_84 : decode cX1_takePart 84 = .ok (.iconst 2, 1) := by decide +kernel
theorem dX1_takePart_85 : decode cX1_takePart 85 = .ok (.invokevirtual 76, 3) := by decide +kernel
theorem dX1_takePart_88 : decode cX1_takePart 88 = .ok (.ireturn, 1) := by decide +kernel
theorem dX7_isOver_0 : decode cX7_isOver 0 = .ok (.aload_n 0, 1) := by decide +kernel
theorem dX7_isOver_1 : decode cX7_isOver 1 = .ok (.getfield 15, 3) := by decide +kernel
theorem dX7_isOver_4 : decode cX7_isOver 4 = .ok (.aload_n 0, 1) := by decide +kernel
theorem dX7_isOver_5 : decode cX7_isOver 5 = .ok (.getfield 73, 3) := by decide +kernel
theorem dX7_isOver_8 : decode cX7_isOver 8 = .ok (.iaload, 1) := by decide +kernel
theorem dX7_isOver_9 : decode cX7_isOver 9 = .ok (.ifCond .ne 7, 3) := by decide +kernel
theorem dX7_isOver_12 : decode cX7_isOver 12 = .ok (.iconst 1, 1) := by decide +kernel
theorem dX7_isOver_13 : decode cX7_isOver 13 = .ok (.goto 4, 3) := by decide +kernel
theorem dX7_isOver_16 : decode cX7_isOver 16 = .ok (.iconst 0, 1) := by decide +kernel
theorem dX7_isOver_17 : decode cX7_isOver 17 = .ok (.ireturn, 1) := by decide +kernel
theorem dX1_takeBeach_0 : decode cX1_takeBeach 0 = .ok (.aload_n 0, 1) := by decide +kernel
theorem dX1_takeBeach_1 : decode cX1_takeBeach 1 = .ok (.aload_n 1, 1) := by decide +kernel
theorem dX1_takeBeach_2 : decode cX1_takeBeach 2 = .ok (.putfield 15, 3) := by decide +kernel
theorem dX1_takeBeach_5 : decode cX1_takeBeach 5 = .ok (.aload_n 0, 1) := by decide +kernel
theorem dX1_takeBeach_6 : decode cX1_takeBeach 6 = .ok (.getfield 15, 3) := by decide +kernel
theorem dX1_takeBeach_9 : decode cX1_takeBeach 9 = .ok (.invokevirtual 19, 3) := by decide +kernel
theorem dX1_takeBeach_12 : decode cX1_takeBeach 12 = .ok (.aload_n 0, 1) := by decide +kernel
theorem dX1_takeBeach_13 : decode cX1_takeBeach 13 = .ok (.iconst 0, 1) := by decide +kernel
theorem dX1_takeBeach_14 : decode cX1_takeBeach 14 = .ok (.putfield 24, 3) := by decide +kernel
theorem dX1_takeBeach_17 : decode cX1_takeBeach 17 = .ok (.aload_n 0, 1) := by decide +kernel
theorem dX1_takeBeach_18 : decode cX1_takeBeach 18 = .ok (.invokevirtual 28, 3) := by decide +kernel
theorem dX1_takeBeach_21 : decode cX1_takeBeach 21 = .ok (.istore_n 2, 1) := by decide +kernel
theorem dX1_takeBeach_22 : decode cX1_takeBeach 22 = .ok (.iconst 0, 1) := by decide +kernel
theorem dX1_takeBeach_23 : decode cX1_takeBeach 23 = .ok (.istore_n 3, 1) := by decide +kernel
theorem dX1_takeBeach_24 : decode cX1_takeBeach 24 = .ok (.iload_n 3, 1) := by decide +kernel
theorem dX1_takeBeach_25 : decode cX1_takeBeach 25 = .ok (.sipush 900, 3) := by decide +kernel
theorem dX1_takeBeach_28 : decode cX1_takeBeach 28 = .ok (.if_icmp .ge 28, 3) := by decide +kernel
theorem dX1_takeBeach_31 : decode cX1_takeBeach 31 = .ok (.iload_n 2, 1) := by decide +kernel
theorem dX1_takeBeach_32 : decode cX1_takeBeach 32 = .ok (.ifCond .eq 24, 3) := by decide +kernel
theorem dX1_takeBeach_35 : decode cX1_takeBeach 35 = .ok (.aload_n 0, 1) := by decide +kernel
theorem dX1_takeBeach_36 : decode cX1_takeBeach 36 = .ok (.getfield 9, 3) := by decide +kernel
theorem dX1_takeBeach_39 : decode cX1_takeBeach 39 = .ok (.invokevirtual 34, 3) := by decide +kernel
theorem dX1_takeBeach_42 : decode cX1_takeBeach 42 = .ok (.ifCond .ne 14, 3) := by decide +kernel
theorem dX1_takeBeach_45 : decode cX1_takeBeach 45 = .ok (.aload_n 0, 1) := by decide +kernel
theorem dX1_takeBeach_46 : decode cX1_takeBeach 46 = .ok (.invokevirtual 37, 3) := by decide +kernel
theorem dX1_takeBeach_49 : decode cX1_takeBeach 49 = .ok (.istore_n 2, 1) := by decide +kernel
theorem dX1_takeBeach_50 : decode cX1_takeBeach 50 = .ok (.iinc 3 1, 3) := by decide +kernel
theorem dX1_takeBeach_53 : decode cX1_takeBeach 53 = .ok (.goto (-29), 3) := by decide +kernel
theorem dX1_takeBeach_56 : decode cX1_takeBeach 56 = .ok (.iload_n 2, 1) := by decide +kernel
theorem dX1_takeBeach_57 : decode cX1_takeBeach 57 = .ok (.ireturn, 1) := by decide +kernel
theorem dX2_clear_0 : decode cX2_clear 0 = .ok (.aload_n 0, 1) := by decide +kernel
theorem dX2_clear_1 : decode cX2_clear 1 = .ok (.iconst 0, 1) := by decide +kernel
theorem dX2_clear_2 : decode cX2_clear 2 = .ok (.putfield 27, 3) := by decide +kernel
theorem dX2_clear_5 : decode cX2_clear 5 = .ok (.aload_n 0, 1) := by decide +kernel
theorem dX2_clear_6 : decode cX2_clear 6 = .ok (.iconst 0, 1) := by decide +kernel
theorem dX2_clear_7 : decode cX2_clear 7 = .ok (.putfield 31, 3) := by decide +kernel
theorem dX2_clear_10 : decode cX2_clear 10 = .ok (.aload_n 0, 1) := by decide +kernel
theorem dX2_clear_11 : decode cX2_clear 11 = .ok (.iconst 0, 1) := by decide +kernel
theorem dX2_clear_12 : decode cX2_clear 12 = .ok (.putfield 35, 3) := by decide +kernel
theorem dX2_clear_15 : decode cX2_clear 15 = .ok (.return_, 1) := by decide +kernel
theorem dX7_addToken_0 : decode cX7_addToken 0 = .ok (.aload_n 0, 1) := by decide +kernel
theorem dX7_addToken_1 : decode cX7_addToken 1 = .ok (.getfield 67, 3) := by decide +kernel
theorem dX7_addToken_4 : decode cX7_addToken 4 = .ok (.sipush 900, 3) := by decide +kernel
theorem dX7_addToken_7 : decode cX7_addToken 7 = .ok (.if_icmp .gt 43, 3) := by decide +kernel
theorem dX7_addToken_10 : decode cX7_addToken 10 = .ok (.aload_n 0, 1) := by decide +kernel
theorem dX7_addToken_11 : decode cX7_addToken 11 = .ok (.getfield 15, 3) := by decide +kernel
theorem dX7_addToken_14 : decode cX7_addToken 14 = .ok (.aload_n 0, 1) := by decide +kernel
theorem dX7_addToken_15 : decode cX7_addToken 15 = .ok (.getfield 67, 3) := by decide +kernel
theorem dX7_addToken_18 : decode cX7_addToken 18 = .ok (.iload_n 1, 1) := by decide +kernel
theorem dX7_addToken_19 : decode cX7_addToken 19 = .ok (.iastore, 1) := by decide +kernel
theorem dX7_addToken_20 : decode cX7_addToken 20 = .ok (.aload_n 0, 1) := by decide +kernel
theorem dX7_addToken_21 : decode cX7_addToken 21 = .ok (.getfield 19, 3) := by decide +kernel
theorem dX7_addToken_24 : decode cX7_addToken 24 = .ok (.aload_n 0, 1) := by decide +kernel
theorem dX7_addToken_25 : decode cX7_addToken 25 = .ok (.getfield 67, 3) := by decide +kernel
theorem dX7_addToken_28 : decode cX7_addToken 28 = .ok (.iload_n 2, 1) := by decide +kernel
theorem dX7_addToken_29 : decode cX7_addToken 29 = .ok (.iastore, 1) := by decide +kernel
theorem dX7_addToken_30 : decode cX7_addToken 30 = .ok (.aload_n 0, 1) := by decide +kernel
theorem dX7_addToken_31 : decode cX7_addToken 31 = .ok (.getfield 22, 3) := by decide +kernel
theorem dX7_addToken_34 : decode cX7_addToken 34 = .ok (.aload_n 0, 1) := by decide +kernel
theorem dX7_addToken_35 : decode cX7_addToken 35 = .ok (.getfield 67, 3) := by decide +kernel
theorem dX7_addToken_38 : decode cX7_addToken 38 = .ok (.lload_n 3, 1) := by decide +kernel
theorem dX7_addToken_39 : decode cX7_addToken 39 = .ok (.lastore, 1) := by decide +kernel
theorem dX7_addToken_40 : decode cX7_addToken 40 = .ok (.aload_n 0, 1) := by decide +kernel
theorem dX7_addToken_41 : decode cX7_addToken 41 = .ok (.dup, 1) := by decide +kernel
theorem dX7_addToken_42 : decode cX7_addToken 42 = .ok (.getfield 67, 3) := by decide +kernel
theorem dX7_addToken_45 : decode cX7_addToken 45 = .ok (.iconst 1, 1) := by decide +kernel
theorem dX7_addToken_46 : decode cX7_addToken 46 = .ok (.iadd, 1) := by decide +kernel
theorem dX7_addToken_47 : decode cX7_addToken 47 = .ok (.putfield 67, 3) := by decide +kernel
theorem dX7_addToken_50 : decode cX7_addToken 50 = .ok (.return_, 1) := by decide +kernel
theorem dX7_isDigit_0 : decode cX7_isDigit 0 = .ok (.iload_n 0, 1) := by decide +kernel
theorem dX7_isDigit_1 : decode cX7_isDigit 1 = .ok (.bipush 48, 2) := by decide +kernel
theorem dX7_isDigit_3 : decode cX7_isDigit 3 = .ok (.if_icmp .lt 13, 3) := by decide +kernel
theorem dX7_isDigit_6 : decode cX7_isDigit 6 = .ok (.iload_n 0, 1) := by decide +kernel
theorem dX7_isDigit_7 : decode cX7_isDigit 7 = .ok (.bipush 57, 2) := by decide +kernel
theorem dX7_isDigit_9 : decode cX7_isDigit 9 = .ok (.if_icmp .gt 7, 3) := by decide +kernel
theorem dX7_isDigit_12 : decode cX7_isDigit 12 = .ok (.iconst 1, 1) := by decide +kernel
theorem dX7_isDigit_13 : decode cX7_isDigit 13 = .ok (.goto 4, 3) := by decide +kernel
theorem dX7_isDigit_16 : decode cX7_isDigit 16 = .ok (.iconst 0, 1) := by decide +kernel
theorem dX7_isDigit_17 : decode cX7_isDigit 17 = .ok (.ireturn, 1) := by decide +kernel
theorem dX7_isLetter_0 : decode cX7_isLetter 0 = .ok (.iload_n 0, 1) := by decide +kernel
theorem dX7_isLetter_1 : decode cX7_isLetter 1 = .ok (.bipush 97, 2) := by decide +kernel
theorem dX7_isLetter_3 : decode cX7_isLetter 3 = .ok (.if_icmp .lt 13, 3) := by decide +kernel
theorem dX7_isLetter_6 : decode cX7_isLetter 6 = .ok (.iload_n 0, 1) := by decide +kernel
theorem dX7_isLetter_7 : decode cX7_isLetter 7 = .ok (.bipush 122, 2) := by decide +kernel
theorem dX7_isLetter_9 : decode cX7_isLetter 9 = .ok (.if_icmp .gt 7, 3) := by decide +kernel
theorem dX7_isLetter_12 : decode cX7_isLetter 12 = .ok (.iconst 1, 1) := by decide +kernel
theorem dX7_isLetter_13 : decode cX7_isLetter 13 = .ok (.goto 4, 3) := by decide +kernel
theorem dX7_isLetter_16 : decode cX7_isLetter 16 = .ok (.iconst 0, 1) := by decide +kernel
theorem dX7_isLetter_17 : decode cX7_isLetter 17 = .ok (.ireturn, 1) := by decide +kernel
theorem dX7_scanNumber_0 : decode cX7_scanNumber 0 = .ok (.aload_n 0, 1) := by decide +kernel
theorem dX7_scanNumber_1 : decode cX7_scanNumber 1 = .ok (.getfield 70, 3) := by decide +kernel
theorem dX7_scanNumber_4 : decode cX7_scanNumber 4 = .ok (.istore_n 1, 1) := by decide +kernel
theorem dX7_scanNumber_5 : decode cX7_scanNumber 5 = .ok (.iconst 0, 1) := by decide +kernel
theorem dX7_scanNumber_6 : decode cX7_scanNumber 6 = .ok (.istore_n 2, 1) := by decide +kernel
theorem dX7_scanNumber_7 : decode cX7_scanNumber 7 = .ok (.aload_n 0, 1) := by decide +kernel
theorem dX7_scanNumber_8 : decode cX7_scanNumber 8 = .ok (.getfield 70, 3) := by decide +kernel
theorem dX7_scanNumber_11 : decode cX7_scanNumber 11 = .ok (.aload_n 0, 1) := by decide +kernel
theorem dX7_scanNumber_12 : decode cX7_scanNumber 12 = .ok (.getfield 65, 3) := by decide +kernel
theorem dX7_scanNumber_15 : decode cX7_scanNumber 15 = .ok (.if_icmp .ge 59, 3) := by decide +kernel
theorem dX7_scanNumber_18 : decode cX7_scanNumber 18 = .ok (.aload_n 0, 1) := by decide +kernel
theorem dX7_scanNumber_19 : decode cX7_scanNumber 19 = .ok (.getfield 11, 3) := by decide +kernel
theorem dX7_scanNumber_22 : decode cX7_scanNumber 22 = .ok (.aload_n 0, 1) := by decide +kernel
theorem dX7_scanNumber_23 : decode cX7_scanNumber 23 = .ok (.getfield 70, 3) := by decide +kernel
theorem dX7_scanNumber_26 : decode cX7_scanNumber 26 = .ok (.baload, 1) := by decide +kernel
theorem dX7_scanNumber_27 : decode cX7_scanNumber 27 = .ok (.invokestatic 93, 3) := by decide +kernel
theorem dX7_scanNumber_30 : decode cX7_scanNumber 30 = .ok (.ifCond .eq 44, 3) := by decide +kernel
theorem dX7_scanNumber_33 : decode cX7_scanNumber 33 = .ok (.aload_n 0, 1) := by decide +kernel
theorem dX7_scanNumber_34 : decode cX7_scanNumber 34 = .ok (.getfield 70, 3) := by decide +kernel
theorem dX7_scanNumber_37 : decode cX7_scanNumber 37 = .ok (.iload_n 1, 1) := by decide +kernel
theorem dX7_scanNumber_38 : decode cX7_scanNumber 38 = .ok (.isub, 1) := by decide +kernel
theorem dX7_scanNumber_39 : decode cX7_scanNumber 39 = .ok (.iconst 4, 1) := by decide +kernel
theorem dX7_scanNumber_40 : decode cX7_scanNumber 40 = .ok (.if_icmp .ge 21, 3) := by decide +kernel
theorem dX7_scanNumber_43 : decode cX7_scanNumber 43 = .ok (.iload_n 2, 1) := by decide +kernel
theorem dX7_scanNumber_44 : decode cX7_scanNumber 44 = .ok (.bipush 10, 2) := by decide +kernel
theorem dX7_scanNumber_46 : decode cX7_scanNumber 46 = .ok (.imul, 1) := by decide +kernel
theorem dX7_scanNumber_47 : decode cX7_scanNumber 47 = .ok (.aload_n 0, 1) := by decide +kernel
theorem dX7_scanNumber_48 : decode cX7_scanNumber 48 = .ok (.getfield 11, 3) := by decide +kernel
theorem dX7_scanNumber_51 : decode cX7_scanNumber 51 = .ok (.aload_n 0, 1) := by decide +kernel
theorem dX7_scanNumber_52 : decode cX7_scanNumber 52 = .ok (.getfield 70, 3) := by decide +kernel
theorem dX7_scanNumber_55 : decode cX7_scanNumber 55 = .ok (.baload, 1) := by decide +kernel
theorem dX7_scanNumber_56 : decode cX7_scanNumber 56 = .ok (.bipush 48, 2) := by decide +kernel
theorem dX7_scanNumber_58 : decode cX7_scanNumber 58 = .ok (.isub, 1) := by decide +kernel
theorem dX7_scanNumber_59 : decode cX7_scanNumber 59 = .ok (.iadd, 1) := by decide +kernel
theorem dX7_scanNumber_60 : decode cX7_scanNumber 60 = .ok (.istore_n 2, 1) := by decide +kernel
theorem dX7_scanNumber_61 : decode cX7_scanNumber 61 = .ok (.aload_n 0, 1) := by decide +kernel
theorem dX7_scanNumber_62 : decode cX7_scanNumber 62 = .ok (.dup, 1) := by decide +kernel
theorem dX7_scanNumber_63 : decode cX7_scanNumber 63 = .ok (.getfield 70, 3) := by decide +kernel
theorem dX7_scanNumber_66 : decode cX7_scanNumber 66 = .ok (.iconst 1, 1) := by decide +kernel
theorem dX7_scanNumber_67 : decode cX7_scanNumber 67 = .ok (.iadd, 1) := by decide +kernel
theorem dX7_scanNumber_68 : decode cX7_scanNumber 68 = .ok (.putfield 70, 3) := by decide +kernel
theorem dX7_scanNumber_71 : decode cX7_scanNumber 71 = .ok (.goto (-64), 3) := by decide +kernel
theorem dX7_scanNumber_74 : decode cX7_scanNumber 74 = .ok (.aload_n 0, 1) := by decide +kernel
theorem dX7_scanNumber_75 : decode cX7_scanNumber 75 = .ok (.aload_n 0, 1) := by decide +kernel
theorem dX7_scanNumber_76 : decode cX7_scanNumber 76 = .ok (.getfield 70, 3) := by decide +kernel
theorem dX7_scanNumber_79 : decode cX7_scanNumber 79 = .ok (.iload_n 1, 1) := by decide +kernel
theorem dX7_scanNumber_80 : decode cX7_scanNumber 80 = .ok (.isub, 1) := by decide +kernel
theorem dX7_scanNumber_81 : decode cX7_scanNumber 81 = .ok (.iconst 4, 1) := by decide +kernel
theorem dX7_scanNumber_82 : decode cX7_scanNumber 82 = .ok (.if_icmp .le 7, 3) := by decide +kernel
theorem dX7_scanNumber_85 : decode cX7_scanNumber 85 = .ok (.iconst 1, 1) := by decide +kernel
theorem dX7_scanNumber_86 : decode cX7_scanNumber 86 = .ok (.goto 4, 3) := by decide +kernel
theorem dX7_scanNumber_89 : decode cX7_scanNumber 89 = .ok (.iconst 3, 1) := by decide +kernel
theorem dX7_scanNumber_90 : decode cX7_scanNumber 90 = .ok (.iload_n 1, 1) := by decide +kernel
theorem dX7_scanNumber_91 : decode cX7_scanNumber 91 = .ok (.iload_n 2, 1) := by decide +kernel
theorem dX7_scanNumber_92 : decode cX7_scanNumber 92 = .ok (.i2l, 1) := by decide +kernel
theorem dX7_scanNumber_93 : decode cX7_scanNumber 93 = .ok (.invokevirtual 82, 3) := by decide +kernel
theorem dX7_scanNumber_96 : decode cX7_scanNumber 96 = .ok (.return_, 1) := by decide +kernel
theorem dX7_pack_0 : decode cX7_pack 0 = .ok (.lload_n 0, 1) := by decide +kernel
theorem dX7_pack_1 : decode cX7_pack 1 = .ok (.ldc2_w 54, 3) := by decide +kernel
theorem dX7_pack_4 : decode cX7_pack 4 = .ok (.lmul, 1) := by decide +kernel
theorem dX7_pack_5 : decode cX7_pack 5 = .ok (.iload_n 2, 1) := by decide +kernel
theorem dX7_pack_6 : decode cX7_pack 6 = .ok (.bipush 97, 2) := by decide +kernel
theorem dX7_pack_8 : decode cX7_pack 8 = .ok (.isub, 1) := by decide +kernel
theorem dX7_pack_9 : decode cX7_pack 9 = .ok (.iconst 1, 1) := by decide +kernel
theorem dX7_pack_10 : decode cX7_pack 10 = .ok (.iadd, 1) := by decide +kernel
theorem dX7_pack_11 : decode cX7_pack 11 = .ok (.i2l, 1) := by decide +kernel
theorem dX7_pack_12 : decode cX7_pack 12 = .ok (.ladd, 1) := by decide +kernel
theorem dX7_pack_13 : decode cX7_pack 13 = .ok (.lreturn, 1) := by decide +kernel
theorem dX7_wordOf_0 : decode cX7_wordOf 0 = .ok (.iconst 0, 1) := by decide +kernel
theorem dX7_wordOf_1 : decode cX7_wordOf 1 = .ok (.istore_n 3, 1) := by decide +kernel
theorem dX7_wordOf_2 : decode cX7_wordOf 2 = .ok (.iload_n 3, 1) := by decide +kernel
theorem dX7_wordOf_3 : decode cX7_wordOf 3 = .ok (.bipush 30, 2) := by decide +kernel
theorem dX7_wordOf_5 : decode cX7_wordOf 5 = .ok (.if_icmp .ge 22, 3) := by decide +kernel
theorem dX7_wordOf_8 : decode cX7_wordOf 8 = .ok (.aload_n 0, 1) := by decide +kernel
theorem dX7_wordOf_9 : decode cX7_wordOf 9 = .ok (.getfield 28, 3) := by decide +kernel
theorem dX7_wordOf_12 : decode cX7_wordOf 12 = .ok (.iload_n 3, 1) := by decide +kernel
theorem dX7_wordOf_13 : decode cX7_wordOf 13 = .ok (.laload, 1) := by decide +kernel
theorem dX7_wordOf_14 : decode cX7_wordOf 14 = .ok (.lload_n 1, 1) := by decide +kernel
theorem dX7_wordOf_15 : decode cX7_wordOf 15 = .ok (.lcmp, 1) := by decide +kernel
theorem dX7_wordOf_16 : decode cX7_wordOf 16 = .ok (.ifCond .ne 5, 3) := by decide +kernel
theorem dX7_wordOf_19 : decode cX7_wordOf 19 = .ok (.iload_n 3, 1) := by decide +kernel
theorem dX7_wordOf_20 : decode cX7_wordOf 20 = .ok (.ireturn, 1) := by decide +kernel
theorem dX7_wordOf_21 : decode cX7_wordOf 21 = .ok (.iinc 3 1, 3) := by decide +kernel
theorem dX7_wordOf_24 : decode cX7_wordOf 24 = .ok (.goto (-22), 3) := by decide +kernel
theorem dX7_wordOf_27 : decode cX7_wordOf 27 = .ok (.iconst (-1), 1) := by decide +kernel
theorem dX7_wordOf_28 : decode cX7_wordOf 28 = .ok (.ireturn, 1) := by decide +kernel
theorem dX7_scanWord_0 : decode cX7_scanWord 0 = .ok (.aload_n 0, 1) := by decide +kernel
theorem dX7_scanWord_1 : decode cX7_scanWord 1 = .ok (.getfield 70, 3) := by decide +kernel
theorem dX7_scanWord_4 : decode cX7_scanWord 4 = .ok (.istore_n 1, 1) := by decide +kernel
theorem dX7_scanWord_5 : decode cX7_scanWord 5 = .ok (.lconst 0, 1) := by decide +kernel
theorem dX7_scanWord_6 : decode cX7_scanWord 6 = .ok (.lstore_n 2, 1) := by decide +kernel
theorem dX7_scanWord_7 : decode cX7_scanWord 7 = .ok (.aload_n 0, 1) := by decide +kernel
theorem dX7_scanWord_8 : decode cX7_scanWord 8 = .ok (.getfield 70, 3) := by decide +kernel
theorem dX7_scanWord_11 : decode cX7_scanWord 11 = .ok (.aload_n 0, 1) := by decide +kernel
theorem dX7_scanWord_12 : decode cX7_scanWord 12 = .ok (.getfield 65, 3) := by decide +kernel
theorem dX7_scanWord_15 : decode cX7_scanWord 15 = .ok (.if_icmp .ge 56, 3) := by decide +kernel
theorem dX7_scanWord_18 : decode cX7_scanWord 18 = .ok (.aload_n 0, 1) := by decide +kernel
theorem dX7_scanWord_19 : decode cX7_scanWord 19 = .ok (.getfield 11, 3) := by decide +kernel
theorem dX7_scanWord_22 : decode cX7_scanWord 22 = .ok (.aload_n 0, 1) := by decide +kernel
theorem dX7_scanWord_23 : decode cX7_scanWord 23 = .ok (.getfield 70, 3) := by decide +kernel
theorem dX7_scanWord_26 : decode cX7_scanWord 26 = .ok (.baload, 1) := by decide +kernel
theorem dX7_scanWord_27 : decode cX7_scanWord 27 = .ok (.invokestatic 86, 3) := by decide +kernel
theorem dX7_scanWord_30 : decode cX7_scanWord 30 = .ok (.ifCond .eq 41, 3) := by decide +kernel
theorem dX7_scanWord_33 : decode cX7_scanWord 33 = .ok (.aload_n 0, 1) := by decide +kernel
theorem dX7_scanWord_34 : decode cX7_scanWord 34 = .ok (.getfield 70, 3) := by decide +kernel
theorem dX7_scanWord_37 : decode cX7_scanWord 37 = .ok (.iload_n 1, 1) := by decide +kernel
theorem dX7_scanWord_38 : decode cX7_scanWord 38 = .ok (.isub, 1) := by decide +kernel
theorem dX7_scanWord_39 : decode cX7_scanWord 39 = .ok (.bipush 8, 2) := by decide +kernel
theorem dX7_scanWord_41 : decode cX7_scanWord 41 = .ok (.if_icmp .ge 17, 3) := by decide +kernel
theorem dX7_scanWord_44 : decode cX7_scanWord 44 = .ok (.lload_n 2, 1) := by decide +kernel
theorem dX7_scanWord_45 : decode cX7_scanWord 45 = .ok (.aload_n 0, 1) := by decide +kernel
theorem dX7_scanWord_46 : decode cX7_scanWord 46 = .ok (.getfield 11, 3) := by decide +kernel
theorem dX7_scanWord_49 : decode cX7_scanWord 49 = .ok (.aload_n 0, 1) := by decide +kernel
theorem dX7_scanWord_50 : decode cX7_scanWord 50 = .ok (.getfield 70, 3) := by decide +kernel
theorem dX7_scanWord_53 : decode cX7_scanWord 53 = .ok (.baload, 1) := by decide +kernel
theorem dX7_scanWord_54 : decode cX7_scanWord 54 = .ok (.invokestatic 50, 3) := by decide +kernel
theorem dX7_scanWord_57 : decode cX7_scanWord 57 = .ok (.lstore_n 2, 1) := by decide +kernel
theorem dX7_scanWord_58 : decode cX7_scanWord 58 = .ok (.aload_n 0, 1) := by decide +kernel
theorem dX7_scanWord_59 : decode cX7_scanWord 59 = .ok (.dup, 1) := by decide +kernel
theorem dX7_scanWord_60 : decode cX7_scanWord 60 = .ok (.getfield 70, 3) := by decide +kernel
theorem dX7_scanWord_63 : decode cX7_scanWord 63 = .ok (.iconst 1, 1) := by decide +kernel
theorem dX7_scanWord_64 : decode cX7_scanWord 64 = .ok (.iadd, 1) := by decide +kernel
theorem dX7_scanWord_65 : decode cX7_scanWord 65 = .ok (.putfield 70, 3) := by decide +kernel
theorem dX7_scanWord_68 : decode cX7_scanWord 68 = .ok (.goto (-61), 3) := by decide +kernel
theorem dX7_scanWord_71 : decode cX7_scanWord 71 = .ok (.aload_n 0, 1) := by decide +kernel
theorem dX7_scanWord_72 : decode cX7_scanWord 72 = .ok (.getfield 70, 3) := by decide +kernel
theorem dX7_scanWord_75 : decode cX7_scanWord 75 = .ok (.iload_n 1, 1) := by decide +kernel
theorem dX7_scanWord_76 : decode cX7_scanWord 76 = .ok (.isub, 1) := by decide +kernel
theorem dX7_scanWord_77 : decode cX7_scanWord 77 = .ok (.bipush 8, 2) := by decide +kernel
theorem dX7_scanWord_79 : decode cX7_scanWord 79 = .ok (.if_icmp .le 12, 3) := by decide +kernel
theorem dX7_scanWord_82 : decode cX7_scanWord 82 = .ok (.aload_n 0, 1) := by decide +kernel
theorem dX7_scanWord_83 : decode cX7_scanWord 83 = .ok (.bipush 6, 2) := by decide +kernel
theorem dX7_scanWord_85 : decode cX7_scanWord 85 = .ok (.iload_n 1, 1) := by decide +kernel
theorem dX7_scanWord_86 : decode cX7_scanWord 86 = .ok (.lconst 0, 1) := by decide +kernel
theorem dX7_scanWord_87 : decode cX7_scanWord 87 = .ok (.invokevirtual 82, 3) := by decide +kernel
theorem dX7_scanWord_90 : decode cX7_scanWord 90 = .ok (.return_, 1) := by decide +kernel
theorem dX7_scanWord_91 : decode cX7_scanWord 91 = .ok (.aload_n 0, 1) := by decide +kernel
theorem dX7_scanWord_92 : decode cX7_scanWord 92 = .ok (.lload_n 2, 1) := by decide +kernel
theorem dX7_scanWord_93 : decode cX7_scanWord 93 = .ok (.invokevirtual 99, 3) := by decide +kernel
theorem dX7_scanWord_96 : decode cX7_scanWord 96 = .ok (.istore 4, 2) := by decide +kernel
theorem dX7_scanWord_98 : decode cX7_scanWord 98 = .ok (.iload 4, 2) := by decide +kernel
theorem dX7_scanWord_100 : decode cX7_scanWord 100 = .ok (.iconst (-1), 1) := by decide +kernel
theorem dX7_scanWord_101 : decode cX7_scanWord 101 = .ok (.if_icmp .ne 13, 3) := by decide +kernel
theorem dX7_scanWord_104 : decode cX7_scanWord 104 = .ok (.aload_n 0, 1) := by decide +kernel
theorem dX7_scanWord_105 : decode cX7_scanWord 105 = .ok (.iconst 4, 1) := by decide +kernel
theorem dX7_scanWord_106 : decode cX7_scanWord 106 = .ok (.iload_n 1, 1) := by decide +kernel
theorem dX7_scanWord_107 : decode cX7_scanWord 107 = .ok (.lload_n 2, 1) := by decide +kernel
theorem dX7_scanWord_108 : decode cX7_scanWord 108 = .ok (.invokevirtual 82, 3) := by decide +kernel
theorem dX7_scanWord_111 : decode cX7_scanWord 111 = .ok (.goto 12, 3) := by decide +kernel
theorem dX7_scanWord_114 : decode cX7_scanWord 114 = .ok (.aload_n 0, 1) := by decide +kernel
theorem dX7_scanWord_115 : decode cX7_scanWord 115 = .ok (.iconst 5, 1) := by decide +kernel
theorem dX7_scanWord_116 : decode cX7_scanWord 116 = .ok (.iload_n 1, 1) := by decide +kernel
theorem dX7_scanWord_117 : decode cX7_scanWord 117 = .ok (.iload 4, 2) := by decide +kernel
theorem dX7_scanWord_119 : decode cX7_scanWord 119 = .ok (.i2l, 1) := by decide +kernel
theorem dX7_scanWord_120 : decode cX7_scanWord 120 = .ok (.invokevirtual 82, 3) := by decide +kernel
theorem dX7_scanWord_123 : decode cX7_scanWord 123 = .ok (.return_, 1) := by decide +kernel
theorem dX7_scanToken_0 : decode cX7_scanToken 0 = .ok (.aload_n 0, 1) := by decide +kernel
theorem dX7_scanToken_1 : decode cX7_scanToken 1 = .ok (.getfield 11, 3) := by decide +kernel
theorem dX7_scanToken_4 : decode cX7_scanToken 4 = .ok (.aload_n 0, 1) := by decide +kernel
theorem dX7_scanToken_5 : decode cX7_scanToken 5 = .ok (.getfield 70, 3) := by decide +kernel
theorem dX7_scanToken_8 : decode cX7_scanToken 8 = .ok (.baload, 1) := by decide +kernel
theorem dX7_scanToken_9 : decode cX7_scanToken 9 = .ok (.istore_n 1, 1) := by decide +kernel
theorem dX7_scanToken_10 : decode cX7_scanToken 10 = .ok (.iload_n 1, 1) := by decide +kernel
theorem dX7_scanToken_11 : decode cX7_scanToken 11 = .ok (.invokestatic 86, 3) := by decide +kernel
theorem dX7_scanToken_14 : decode cX7_scanToken 14 = .ok (.ifCond .eq 10, 3) := by decide +kernel
theorem dX7_scanToken_17 : decode cX7_scanToken 17 = .ok (.aload_n 0, 1) := by decide +kernel
theorem dX7_scanToken_18 : decode cX7_scanToken 18 = .ok (.invokevirtual 90, 3) := by decide +kernel
theorem dX7_scanToken_21 : decode cX7_scanToken 21 = .ok (.goto 76, 3) := by decide +kernel
theorem dX7_scanToken_24 : decode cX7_scanToken 24 = .ok (.iload_n 1, 1) := by decide +kernel
theorem dX7_scanToken_25 : decode cX7_scanToken 25 = .ok (.invokestatic 93, 3) := by decide +kernel
theorem dX7_scanToken_28 : decode cX7_scanToken 28 = .ok (.ifCond .eq 10, 3) := by decide +kernel
theorem dX7_scanToken_31 : decode cX7_scanToken 31 = .ok (.aload_n 0, 1) := by decide +kernel
theorem dX7_scanToken_32 : decode cX7_scanToken 32 = .ok (.invokevirtual 96, 3) := by decide +kernel
theorem dX7_scanToken_35 : decode cX7_scanToken 35 = .ok (.goto 62, 3) := by decide +kernel
theorem dX7_scanToken_38 : decode cX7_scanToken 38 = .ok (.iload_n 1, 1) := by decide +kernel
theorem dX7_scanToken_39 : decode cX7_scanToken 39 = .ok (.bipush 59, 2) := by decide +kernel
theorem dX7_scanToken_41 : decode cX7_scanToken 41 = .ok (.if_icmp .eq 21, 3) := by decide +kernel
theorem dX7_scanToken_44 : decode cX7_scanToken 44 = .ok (.iload_n 1, 1) := by decide +kernel
theorem dX7_scanToken_45 : decode cX7_scanToken 45 = .ok (.bipush 60, 2) := by decide +kernel
theorem dX7_scanToken_47 : decode cX7_scanToken 47 = .ok (.if_icmp .eq 15, 3) := by decide +kernel
theorem dX7_scanToken_50 : decode cX7_scanToken 50 = .ok (.iload_n 1, 1) := by decide +kernel
theorem dX7_scanToken_51 : decode cX7_scanToken 51 = .ok (.bipush 62, 2) := by decide +kernel
theorem dX7_scanToken_53 : decode cX7_scanToken 53 = .ok (.if_icmp .eq 9, 3) := by decide +kernel
theorem dX7_scanToken_56 : decode cX7_scanToken 56 = .ok (.iload_n 1, 1) := by decide +kernel
theorem dX7_scanToken_57 : decode cX7_scanToken 57 = .ok (.bipush 61, 2) := by decide +kernel
theorem dX7_scanToken_59 : decode cX7_scanToken 59 = .ok (.if_icmp .ne 7, 3) := by decide +kernel
theorem dX7_scanToken_62 : decode cX7_scanToken 62 = .ok (.iconst 1, 1) := by decide +kernel
theorem dX7_scanToken_63 : decode cX7_scanToken 63 = .ok (.goto 4, 3) := by decide +kernel
theorem dX7_scanToken_66 : decode cX7_scanToken 66 = .ok (.iconst 0, 1) := by decide +kernel
theorem dX7_scanToken_67 : decode cX7_scanToken 67 = .ok (.istore_n 2, 1) := by decide +kernel
theorem dX7_scanToken_68 : decode cX7_scanToken 68 = .ok (.aload_n 0, 1) := by decide +kernel
theorem dX7_scanToken_69 : decode cX7_scanToken 69 = .ok (.iload_n 2, 1) := by decide +kernel
theorem dX7_scanToken_70 : decode cX7_scanToken 70 = .ok (.ifCond .eq 7, 3) := by decide +kernel
theorem dX7_scanToken_73 : decode cX7_scanToken 73 = .ok (.iconst 2, 1) := by decide +kernel
theorem dX7_scanToken_74 : decode cX7_scanToken 74 = .ok (.goto 4, 3) := by decide +kernel
theorem dX7_scanToken_77 : decode cX7_scanToken 77 = .ok (.iconst 1, 1) := by decide +kernel
theorem dX7_scanToken_78 : decode cX7_scanToken 78 = .ok (.aload_n 0, 1) := by decide +kernel
theorem dX7_scanToken_79 : decode cX7_scanToken 79 = .ok (.getfield 70, 3) := by decide +kernel
theorem dX7_scanToken_82 : decode cX7_scanToken 82 = .ok (.iload_n 1, 1) := by decide +kernel
theorem dX7_scanToken_83 : decode cX7_scanToken 83 = .ok (.i2l, 1) := by decide +kernel
theorem dX7_scanToken_84 : decode cX7_scanToken 84 = .ok (.invokevirtual 82, 3) := by decide +kernel
theorem dX7_scanToken_87 : decode cX7_scanToken 87 = .ok (.aload_n 0, 1) := by decide +kernel
theorem dX7_scanToken_88 : decode cX7_scanToken 88 = .ok (.dup, 1) := by decide +kernel
theorem dX7_scanToken_89 : decode cX7_scanToken 89 = .ok (.getfield 70, 3) := by decide +kernel
theorem dX7_scanToken_92 : decode cX7_scanToken 92 = .ok (.iconst 1, 1) := by decide +kernel
theorem dX7_scanToken_93 : decode cX7_scanToken 93 = .ok (.iadd, 1) := by decide +kernel
theorem dX7_scanToken_94 : decode cX7_scanToken 94 = .ok (.putfield 70, 3) := by decide +kernel
theorem dX7_scanToken_97 : decode cX7_scanToken 97 = .ok (.return_, 1) := by decide +kernel
theorem dX7_skipBlanks_0 : decode cX7_skipBlanks 0 = .ok (.aload_n 0, 1) := by decide +kernel
theorem dX7_skipBlanks_1 : decode cX7_skipBlanks 1 = .ok (.getfield 70, 3) := by decide +kernel
theorem dX7_skipBlanks_4 : decode cX7_skipBlanks 4 = .ok (.aload_n 0, 1) := by decide +kernel
theorem dX7_skipBlanks_5 : decode cX7_skipBlanks 5 = .ok (.getfield 65, 3) := by decide +kernel
theorem dX7_skipBlanks_8 : decode cX7_skipBlanks 8 = .ok (.if_icmp .ge 44, 3) := by decide +kernel
theorem dX7_skipBlanks_11 : decode cX7_skipBlanks 11 = .ok (.aload_n 0, 1) := by decide +kernel
theorem dX7_skipBlanks_12 : decode cX7_skipBlanks 12 = .ok (.getfield 11, 3) := by decide +kernel
theorem dX7_skipBlanks_15 : decode cX7_skipBlanks 15 = .ok (.aload_n 0, 1) := by decide +kernel
theorem dX7_skipBlanks_16 : decode cX7_skipBlanks 16 = .ok (.getfield 70, 3) := by decide +kernel
theorem dX7_skipBlanks_19 : decode cX7_skipBlanks 19 = .ok (.baload, 1) := by decide +kernel
theorem dX7_skipBlanks_20 : decode cX7_skipBlanks 20 = .ok (.bipush 32, 2) := by decide +kernel
theorem dX7_skipBlanks_22 : decode cX7_skipBlanks 22 = .ok (.if_icmp .eq 17, 3) := by decide +kernel
theorem dX7_skipBlanks_25 : decode cX7_skipBlanks 25 = .ok (.aload_n 0, 1) := by decide +kernel
theorem dX7_skipBlanks_26 : decode cX7_skipBlanks 26 = .ok (.getfield 11, 3) := by decide +kernel
theorem dX7_skipBlanks_29 : decode cX7_skipBlanks 29 = .ok (.aload_n 0, 1) := by decide +kernel
theorem dX7_skipBlanks_30 : decode cX7_skipBlanks 30 = .ok (.getfield 70, 3) := by decide +kernel
theorem dX7_skipBlanks_33 : decode cX7_skipBlanks 33 = .ok (.baload, 1) := by decide +kernel
theorem dX7_skipBlanks_34 : decode cX7_skipBlanks 34 = .ok (.bipush 10, 2) := by decide +kernel
theorem dX7_skipBlanks_36 : decode cX7_skipBlanks 36 = .ok (.if_icmp .ne 16, 3) := by decide +kernel
theorem dX7_skipBlanks_39 : decode cX7_skipBlanks 39 = .ok (.aload_n 0, 1) := by decide +kernel
theorem dX7_skipBlanks_40 : decode cX7_skipBlanks 40 = .ok (.dup, 1) := by decide +kernel
theorem dX7_skipBlanks_41 : decode cX7_skipBlanks 41 = .ok (.getfield 70, 3) := by decide +kernel
theorem dX7_skipBlanks_44 : decode cX7_skipBlanks 44 = .ok (.iconst 1, 1) := by decide +kernel
theorem dX7_skipBlanks_45 : decode cX7_skipBlanks 45 = .ok (.iadd, 1) := by decide +kernel
theorem dX7_skipBlanks_46 : decode cX7_skipBlanks 46 = .ok (.putfield 70, 3) := by decide +kernel
theorem dX7_skipBlanks_49 : decode cX7_skipBlanks 49 = .ok (.goto (-49), 3) := by decide +kernel
theorem dX7_skipBlanks_52 : decode cX7_skipBlanks 52 = .ok (.return_, 1) := by decide +kernel
theorem dX7_begin_0 : decode cX7_begin 0 = .ok (.aload_n 0, 1) := by decide +kernel
theorem dX7_begin_1 : decode cX7_begin 1 = .ok (.iload_n 1, 1) := by decide +kernel
theorem dX7_begin_2 : decode cX7_begin 2 = .ok (.aload_n 0, 1) := by decide +kernel
theorem dX7_begin_3 : decode cX7_begin 3 = .ok (.getfield 56, 3) := by decide +kernel
theorem dX7_begin_6 : decode cX7_begin 6 = .ok (.invokestatic 59, 3) := by decide +kernel
theorem dX7_begin_9 : decode cX7_begin 9 = .ok (.putfield 65, 3) := by decide +kernel
theorem dX7_begin_12 : decode cX7_begin 12 = .ok (.aload_n 0, 1) := by decide +kernel
theorem dX7_begin_13 : decode cX7_begin 13 = .ok (.iconst 0, 1) := by decide +kernel
theorem dX7_begin_14 : decode cX7_begin 14 = .ok (.putfield 56, 3) := by decide +kernel
theorem dX7_begin_17 : decode cX7_begin 17 = .ok (.aload_n 0, 1) := by decide +kernel
theorem dX7_begin_18 : decode cX7_begin 18 = .ok (.iconst 0, 1) := by decide +kernel
theorem dX7_begin_19 : decode cX7_begin 19 = .ok (.putfield 31, 3) := by decide +kernel
theorem dX7_begin_22 : decode cX7_begin 22 = .ok (.aload_n 0, 1) := by decide +kernel
theorem dX7_begin_23 : decode cX7_begin 23 = .ok (.iconst (-1), 1) := by decide +kernel
theorem dX7_begin_24 : decode cX7_begin 24 = .ok (.putfield 35, 3) := by decide +kernel
theorem dX7_begin_27 : decode cX7_begin 27 = .ok (.aload_n 0, 1) := by decide +kernel
theorem dX7_begin_28 : decode cX7_begin 28 = .ok (.iconst 0, 1) := by decide +kernel
theorem dX7_begin_29 : decode cX7_begin 29 = .ok (.putfield 67, 3) := by decide +kernel
theorem dX7_begin_32 : decode cX7_begin 32 = .ok (.aload_n 0, 1) := by decide +kernel
theorem dX7_begin_33 : decode cX7_begin 33 = .ok (.iconst 0, 1) := by decide +kernel
theorem dX7_begin_34 : decode cX7_begin 34 = .ok (.putfield 70, 3) := by decide +kernel
theorem dX7_begin_37 : decode cX7_begin 37 = .ok (.aload_n 0, 1) := by decide +kernel
theorem dX7_begin_38 : decode cX7_begin 38 = .ok (.iconst 0, 1) := by decide +kernel
theorem dX7_begin_39 : decode cX7_begin 39 = .ok (.putfield 73, 3) := by decide +kernel
theorem dX7_begin_42 : decode cX7_begin 42 = .ok (.aload_n 0, 1) := by decide +kernel
theorem dX7_begin_43 : decode cX7_begin 43 = .ok (.invokevirtual 76, 3) := by decide +kernel
theorem dX7_begin_46 : decode cX7_begin 46 = .ok (.iconst 0, 1) := by decide +kernel
theorem dX7_begin_47 : decode cX7_begin 47 = .ok (.istore_n 2, 1) := by decide +kernel
theorem dX7_begin_48 : decode cX7_begin 48 = .ok (.iload_n 2, 1) := by decide +kernel
theorem dX7_begin_49 : decode cX7_begin 49 = .ok (.sipush 900, 3) := by decide +kernel
theorem dX7_begin_52 : decode cX7_begin 52 = .ok (.if_icmp .ge 28, 3) := by decide +kernel
theorem dX7_begin_55 : decode cX7_begin 55 = .ok (.aload_n 0, 1) := by decide +kernel
theorem dX7_begin_56 : decode cX7_begin 56 = .ok (.getfield 70, 3) := by decide +kernel
theorem dX7_begin_59 : decode cX7_begin 59 = .ok (.aload_n 0, 1) := by decide +kernel
theorem dX7_begin_60 : decode cX7_begin 60 = .ok (.getfield 65, 3) := by decide +kernel
theorem dX7_begin_63 : decode cX7_begin 63 = .ok (.if_icmp .ge 17, 3) := by decide +kernel
theorem dX7_begin_66 : decode cX7_begin 66 = .ok (.aload_n 0, 1) := by decide +kernel
theorem dX7_begin_67 : decode cX7_begin 67 = .ok (.invokevirtual 79, 3) := by decide +kernel
theorem dX7_begin_70 : decode cX7_begin 70 = .ok (.aload_n 0, 1) := by decide +kernel
theorem dX7_begin_71 : decode cX7_begin 71 = .ok (.invokevirtual 76, 3) := by decide +kernel
theorem dX7_begin_74 : decode cX7_begin 74 = .ok (.iinc 2 1, 3) := by decide +kernel
theorem dX7_begin_77 : decode cX7_begin 77 = .ok (.goto (-29), 3) := by decide +kernel
theorem dX7_begin_80 : decode cX7_begin 80 = .ok (.aload_n 0, 1) := by decide +kernel
theorem dX7_begin_81 : decode cX7_begin 81 = .ok (.iconst 0, 1) := by decide +kernel
theorem dX7_begin_82 : decode cX7_begin 82 = .ok (.aload_n 0, 1) := by decide +kernel
theorem dX7_begin_83 : decode cX7_begin 83 = .ok (.getfield 65, 3) := by decide +kernel
theorem dX7_begin_86 : decode cX7_begin 86 = .ok (.lconst 0, 1) := by decide +kernel
theorem dX7_begin_87 : decode cX7_begin 87 = .ok (.invokevirtual 82, 3) := by decide +kernel
theorem dX7_begin_90 : decode cX7_begin 90 = .ok (.return_, 1) := by decide +kernel
theorem dX11_beach_0 : decode cX11_beach 0 = .ok (.iload_n 1, 1) := by decide +kernel
theorem dX11_beach_1 : decode cX11_beach 1 = .ok (.ifCond .lt 14, 3) := by decide +kernel
theorem dX11_beach_4 : decode cX11_beach 4 = .ok (.iload_n 1, 1) := by decide +kernel
theorem dX11_beach_5 : decode cX11_beach 5 = .ok (.aload_n 0, 1) := by decide +kernel
theorem dX11_beach_6 : decode cX11_beach 6 = .ok (.getfield 18, 3) := by decide +kernel
theorem dX11_beach_9 : decode cX11_beach 9 = .ok (.getfield 162, 3) := by decide +kernel
theorem dX11_beach_12 : decode cX11_beach 12 = .ok (.if_icmp .le 9, 3) := by decide +kernel
theorem dX11_beach_15 : decode cX11_beach 15 = .ok (.aload_n 0, 1) := by decide +kernel
theorem dX11_beach_16 : decode cX11_beach 16 = .ok (.iconst 1, 1) := by decide +kernel
theorem dX11_beach_17 : decode cX11_beach 17 = .ok (.invokevirtual 100, 3) := by decide +kernel
theorem dX11_beach_20 : decode cX11_beach 20 = .ok (.ireturn, 1) := by decide +kernel
theorem dX11_beach_21 : decode cX11_beach 21 = .ok (.aload_n 0, 1) := by decide +kernel
theorem dX11_beach_22 : decode cX11_beach 22 = .ok (.getfield 18, 3) := by decide +kernel
theorem dX11_beach_25 : decode cX11_beach 25 = .ok (.iload_n 1, 1) := by decide +kernel
theorem dX11_beach_26 : decode cX11_beach 26 = .ok (.invokevirtual 165, 3) := by decide +kernel
theorem dX11_beach_29 : decode cX11_beach 29 = .ok (.aload_n 0, 1) := by decide +kernel
theorem dX11_beach_30 : decode cX11_beach 30 = .ok (.getfield 27, 3) := by decide +kernel
theorem dX11_beach_33 : decode cX11_beach 33 = .ok (.aload_n 0, 1) := by decide +kernel
theorem dX11_beach_34 : decode cX11_beach 34 = .ok (.getfield 73, 3) := by decide +kernel
theorem dX11_beach_37 : decode cX11_beach 37 = .ok (.invokevirtual 168, 3) := by decide +kernel
theorem dX11_beach_40 : decode cX11_beach 40 = .ok (.ifCond .ne 10, 3) := by decide +kernel
theorem dX11_beach_43 : decode cX11_beach 43 = .ok (.aload_n 0, 1) := by decide +kernel
theorem dX11_beach_44 : decode cX11_beach 44 = .ok (.bipush 9, 2) := by decide +kernel
theorem dX11_beach_46 : decode cX11_beach 46 = .ok (.invokevirtual 100, 3) := by decide +kernel
theorem dX11_beach_49 : decode cX11_beach 49 = .ok (.ireturn, 1) := by decide +kernel
theorem dX11_beach_50 : decode cX11_beach 50 = .ok (.aload_n 0, 1) := by decide +kernel
theorem dX11_beach_51 : decode cX11_beach 51 = .ok (.getfield 69, 3) := by decide +kernel
theorem dX11_beach_54 : decode cX11_beach 54 = .ok (.astore_n 2, 1) := by decide +kernel
theorem dX11_beach_55 : decode cX11_beach 55 = .ok (.aload_n 0, 1) := by decide +kernel
theorem dX11_beach_56 : decode cX11_beach 56 = .ok (.aload_n 0, 1) := by decide +kernel
theorem dX11_beach_57 : decode cX11_beach 57 = .ok (.getfield 73, 3) := by decide +kernel
theorem dX11_beach_60 : decode cX11_beach 60 = .ok (.putfield 69, 3) := by decide +kernel
theorem dX11_beach_63 : decode cX11_beach 63 = .ok (.aload_n 0, 1) := by decide +kernel
theorem dX11_beach_64 : decode cX11_beach 64 = .ok (.aload_n 2, 1) := by decide +kernel
theorem dX11_beach_65 : decode cX11_beach 65 = .ok (.putfield 73, 3) := by decide +kernel
theorem dX11_beach_68 : decode cX11_beach 68 = .ok (.aload_n 0, 1) := by decide +kernel
theorem dX11_beach_69 : decode cX11_beach 69 = .ok (.getfield 77, 3) := by decide +kernel
theorem dX11_beach_72 : decode cX11_beach 72 = .ok (.invokevirtual 172, 3) := by decide +kernel
theorem dX11_beach_75 : decode cX11_beach 75 = .ok (.aload_n 0, 1) := by decide +kernel
theorem dX11_beach_76 : decode cX11_beach 76 = .ok (.aload_n 0, 1) := by decide +kernel
theorem dX11_beach_77 : decode cX11_beach 77 = .ok (.getfield 69, 3) := by decide +kernel
theorem dX11_beach_80 : decode cX11_beach 80 = .ok (.getfield 175, 3) := by decide +kernel
theorem dX11_beach_83 : decode cX11_beach 83 = .ok (.invokevirtual 96, 3) := by decide +kernel
theorem dX11_beach_86 : decode cX11_beach 86 = .ok (.ireturn, 1) := by decide +kernel
theorem dX0_finderAt_0 : decode cX0_finderAt 0 = .ok (.iload_n 1, 1) := by decide +kernel
theorem dX0_finderAt_1 : decode cX0_finderAt 1 = .ok (.ifCond .lt 20, 3) := by decide +kernel
theorem dX0_finderAt_4 : decode cX0_finderAt 4 = .ok (.iload_n 1, 1) := by decide +kernel
theorem dX0_finderAt_5 : decode cX0_finderAt 5 = .ok (.aload_n 0, 1) := by decide +kernel
theorem dX0_finderAt_6 : decode cX0_finderAt 6 = .ok (.getfield 44, 3) := by decide +kernel
theorem dX0_finderAt_9 : decode cX0_finderAt 9 = .ok (.if_icmp .ge 12, 3) := by decide +kernel
theorem dX0_finderAt_12 : decode cX0_finderAt 12 = .ok (.aload_n 0, 1) := by decide +kernel
theorem dX0_finderAt_13 : decode cX0_finderAt 13 = .ok (.getfield 13, 3) := by decide +kernel
theorem dX0_finderAt_16 : decode cX0_finderAt 16 = .ok (.iload_n 1, 1) := by decide +kernel
theorem dX0_finderAt_17 : decode cX0_finderAt 17 = .ok (.aaload, 1) := by decide +kernel
theorem dX0_finderAt_18 : decode cX0_finderAt 18 = .ok (.goto 4, 3) := by decide +kernel
theorem dX0_finderAt_21 : decode cX0_finderAt 21 = .ok (.aconst_null, 1) := by decide +kernel
theorem dX0_finderAt_22 : decode cX0_finderAt 22 = .ok (.areturn, 1) := by decide +kernel
theorem dX0_firstOf_0 : decode cX0_firstOf 0 = .ok (.iconst 0, 1) := by decide +kernel
theorem dX0_firstOf_1 : decode cX0_firstOf 1 = .ok (.istore_n 1, 1) := by decide +kernel
theorem dX0_firstOf_2 : decode cX0_firstOf 2 = .ok (.iload_n 1, 1) := by decide +kernel
theorem dX0_firstOf_3 : decode cX0_firstOf 3 = .ok (.bipush 6, 2) := by decide +kernel
theorem dX0_firstOf_5 : decode cX0_firstOf 5 = .ok (.if_icmp .ge 22, 3) := by decide +kernel
theorem dX0_firstOf_8 : decode cX0_firstOf 8 = .ok (.iload_n 0, 1) := by decide +kernel
theorem dX0_firstOf_9 : decode cX0_firstOf 9 = .ok (.iload_n 1, 1) := by decide +kernel
theorem dX0_firstOf_10 : decode cX0_firstOf 10 = .ok (.ishr, 1) := by decide +kernel
theorem dX0_firstOf_11 : decode cX0_firstOf 11 = .ok (.iconst 1, 1) := by decide +kernel
theorem dX0_firstOf_12 : decode cX0_firstOf 12 = .ok (.iand, 1) := by decide +kernel
theorem dX0_firstOf_13 : decode cX0_firstOf 13 = .ok (.iconst 1, 1) := by decide +kernel
theorem dX0_firstOf_14 : decode cX0_firstOf 14 = .ok (.if_icmp .ne 7, 3) := by decide +kernel
theorem dX0_firstOf_17 : decode cX0_firstOf 17 = .ok (.iconst 1, 1) := by decide +kernel
theorem dX0_firstOf_18 : decode cX0_firstOf 18 = .ok (.iload_n 1, 1) := by decide +kernel
theorem dX0_firstOf_19 : decode cX0_firstOf 19 = .ok (.ishl, 1) := by decide +kernel
theorem dX0_firstOf_20 : decode cX0_firstOf 20 = .ok (.ireturn, 1) := by decide +kernel
theorem dX0_firstOf_21 : decode cX0_firstOf 21 = .ok (.iinc 1 1, 3) := by decide +kernel
theorem dX0_firstOf_24 : decode cX0_firstOf 24 = .ok (.goto (-22), 3) := by decide +kernel
theorem dX0_firstOf_27 : decode cX0_firstOf 27 = .ok (.iconst 0, 1) := by decide +kernel
theorem dX0_firstOf_28 : decode cX0_firstOf 28 = .ok (.ireturn, 1) := by decide +kernel
theorem dX0_lastOf_0 : decode cX0_lastOf 0 = .ok (.iconst 5, 1) := by decide +kernel
theorem dX0_lastOf_1 : decode cX0_lastOf 1 = .ok (.istore_n 1, 1) := by decide +kernel
theorem dX0_lastOf_2 : decode cX0_lastOf 2 = .ok (.iload_n 1, 1) := by decide +kernel
theorem dX0_lastOf_3 : decode cX0_lastOf 3 = .ok (.ifCond .lt 22, 3) := by decide +kernel
theorem dX0_lastOf_6 : decode cX0_lastOf 6 = .ok (.iload_n 0, 1) := by decide +kernel
theorem dX0_lastOf_7 : decode cX0_lastOf 7 = .ok (.iload_n 1, 1) := by decide +kernel
theorem dX0_lastOf_8 : decode cX0_lastOf 8 = .ok (.ishr, 1) := by decide +kernel
theorem dX0_lastOf_9 : decode cX0_lastOf 9 = .ok (.iconst 1, 1) := by decide +kernel
theorem dX0_lastOf_10 : decode cX0_lastOf 10 = .ok (.iand, 1) := by decide +kernel
theorem dX0_lastOf_11 : decode cX0_lastOf 11 = .ok (.iconst 1, 1) := by decide +kernel
theorem dX0_lastOf_12 : decode cX0_lastOf 12 = .ok (.if_icmp .ne 7, 3) := by decide +kernel
theorem dX0_lastOf_15 : decode cX0_lastOf 15 = .ok (.iconst 1, 1) := by decide +kernel
theorem dX0_lastOf_16 : decode cX0_lastOf 16 = .ok (.iload_n 1, 1) := by decide +kernel
theorem dX0_lastOf_17 : decode cX0_lastOf 17 = .ok (.ishl, 1) := by decide +kernel
theorem dX0_lastOf_18 : decode cX0_lastOf 18 = .ok (.ireturn, 1) := by decide +kernel
theorem dX0_lastOf_19 : decode cX0_lastOf 19 = .ok (.iinc 1 (-1), 3) := by decide +kernel
theorem dX0_lastOf_22 : decode cX0_lastOf 22 = .ok (.goto (-20), 3) := by decide +kernel
theorem dX0_lastOf_25 : decode cX0_lastOf 25 = .ok (.iconst 0, 1) := by decide +kernel
theorem dX0_lastOf_26 : decode cX0_lastOf 26 = .ok (.ireturn, 1) := by decide +kernel
theorem dX4_lastSet_0 : decode cX4_lastSet 0 = .ok (.iconst 0, 1) := by decide +kernel
theorem dX4_lastSet_1 : decode cX4_lastSet 1 = .ok (.istore_n 1, 1) := by decide +kernel
theorem dX4_lastSet_2 : decode cX4_lastSet 2 = .ok (.aload_n 0, 1) := by decide +kernel
theorem dX4_lastSet_3 : decode cX4_lastSet 3 = .ok (.getfield 35, 3) := by decide +kernel
theorem dX4_lastSet_6 : decode cX4_lastSet 6 = .ok (.iconst 1, 1) := by decide +kernel
theorem dX4_lastSet_7 : decode cX4_lastSet 7 = .ok (.isub, 1) := by decide +kernel
theorem dX4_lastSet_8 : decode cX4_lastSet 8 = .ok (.istore_n 2, 1) := by decide +kernel
theorem dX4_lastSet_9 : decode cX4_lastSet 9 = .ok (.iload_n 2, 1) := by decide +kernel
theorem dX4_lastSet_10 : decode cX4_lastSet 10 = .ok (.ifCond .lt 40, 3) := by decide +kernel
theorem dX4_lastSet_13 : decode cX4_lastSet 13 = .ok (.aload_n 0, 1) := by decide +kernel
theorem dX4_lastSet_14 : decode cX4_lastSet 14 = .ok (.getfield 17, 3) := by decide +kernel
theorem dX4_lastSet_17 : decode cX4_lastSet 17 = .ok (.iload_n 2, 1) := by decide +kernel
theorem dX4_lastSet_18 : decode cX4_lastSet 18 = .ok (.iaload, 1) := by decide +kernel
theorem dX4_lastSet_19 : decode cX4_lastSet 19 = .ok (.aload_n 0, 1) := by decide +kernel
theorem dX4_lastSet_20 : decode cX4_lastSet 20 = .ok (.getfield 17, 3) := by decide +kernel
theorem dX4_lastSet_23 : decode cX4_lastSet 23 = .ok (.aload_n 0, 1) := by decide +kernel
theorem dX4_lastSet_24 : decode cX4_lastSet 24 = .ok (.getfield 35, 3) := by decide +kernel
theorem dX4_lastSet_27 : decode cX4_lastSet 27 = .ok (.iconst 1, 1) := by decide +kernel
theorem dX4_lastSet_28 : decode cX4_lastSet 28 = .ok (.isub, 1) := by decide +kernel
theorem dX4_lastSet_29 : decode cX4_lastSet 29 = .ok (.iaload, 1) := by decide +kernel
theorem dX4_lastSet_30 : decode cX4_lastSet 30 = .ok (.if_icmp .ne 20, 3) := by decide +kernel
theorem dX4_lastSet_33 : decode cX4_lastSet 33 = .ok (.iload_n 1, 1) := by decide +kernel
theorem dX4_lastSet_34 : decode cX4_lastSet 34 = .ok (.iconst 1, 1) := by decide +kernel
theorem dX4_lastSet_35 : decode cX4_lastSet 35 = .ok (.aload_n 0, 1) := by decide +kernel
theorem dX4_lastSet_36 : decode cX4_lastSet 36 = .ok (.getfield 11, 3) := by decide +kernel
theorem dX4_lastSet_39 : decode cX4_lastSet 39 = .ok (.iload_n 2, 1) := by decide +kernel
theorem dX4_lastSet_40 : decode cX4_lastSet 40 = .ok (.iaload, 1) := by decide +kernel
theorem dX4_lastSet_41 : decode cX4_lastSet 41 = .ok (.ishl, 1) := by decide +kernel
theorem dX4_lastSet_42 : decode cX4_lastSet 42 = .ok (.ior, 1) := by decide +kernel
theorem dX4_lastSet_43 : decode cX4_lastSet 43 = .ok (.istore_n 1, 1) := by decide +kernel
theorem dX4_lastSet_44 : decode cX4_lastSet 44 = .ok (.iinc 2 (-1), 3) := by decide +kernel
theorem dX4_lastSet_47 : decode cX4_lastSet 47 = .ok (.goto (-38), 3) := by decide +kernel
theorem dX4_lastSet_50 : decode cX4_lastSet 50 = .ok (.iload_n 1, 1) := by decide +kernel
theorem dX4_lastSet_51 : decode cX4_lastSet 51 = .ok (.ireturn, 1) := by decide +kernel
theorem dX0_heirs_0 : decode cX0_heirs 0 = .ok (.aload_n 1, 1) := by decide +kernel
theorem dX0_heirs_1 : decode cX0_heirs 1 = .ok (.invokevirtual 163, 3) := by decide +kernel
theorem dX0_heirs_4 : decode cX0_heirs 4 = .ok (.istore_n 2, 1) := by decide +kernel
theorem dX0_heirs_5 : decode cX0_heirs 5 = .ok (.iload_n 2, 1) := by decide +kernel
theorem dX0_heirs_6 : decode cX0_heirs 6 = .ok (.invokestatic 152, 3) := by decide +kernel
theorem dX0_heirs_9 : decode cX0_heirs 9 = .ok (.iconst 2, 1) := by decide +kernel
theorem dX0_heirs_10 : decode cX0_heirs 10 = .ok (.if_icmp .ge 5, 3) := by decide +kernel
theorem dX0_heirs_13 : decode cX0_heirs 13 = .ok (.iload_n 2, 1) := by decide +kernel
theorem dX0_heirs_14 : decode cX0_heirs 14 = .ok (.ireturn, 1) := by decide +kernel
theorem dX0_heirs_15 : decode cX0_heirs 15 = .ok (.aload_n 0, 1) := by decide +kernel
theorem dX0_heirs_16 : decode cX0_heirs 16 = .ok (.getfield 38, 3) := by decide +kernel
theorem dX0_heirs_19 : decode cX0_heirs 19 = .ok (.tableswitch 37 0 2 #[25, 27, 32], 25) := by decide +kernel
theorem dX0_heirs_44 : decode cX0_heirs 44 = .ok (.iconst 0, 1) := by decide +kernel
theorem dX0_heirs_45 : decode cX0_heirs 45 = .ok (.ireturn, 1) := by decide +kernel
theorem dX0_heirs_46 : decode cX0_heirs 46 = .ok (.iload_n 2, 1) := by decide +kernel
theorem dX0_heirs_47 : decode cX0_heirs 47 = .ok (.invokestatic 166, 3) := by decide +kernel
theorem dX0_heirs_50 : decode cX0_heirs 50 = .ok (.ireturn, 1) := by decide +kernel
theorem dX0_heirs_51 : decode cX0_heirs 51 = .ok (.iload_n 2, 1) := by decide +kernel
theorem dX0_heirs_52 : decode cX0_heirs 52 = .ok (.invokestatic 169, 3) := by decide +kernel
theorem dX0_heirs_55 : decode cX0_heirs 55 = .ok (.ireturn, 1) := by decide +kernel
theorem dX0_heirs_56 : decode cX0_heirs 56 = .ok (.iload_n 2, 1) := by decide +kernel
theorem dX0_heirs_57 : decode cX0_heirs 57 = .ok (.ireturn, 1) := by decide +kernel
theorem dX0_shareOf_0 : decode cX0_shareOf 0 = .ok (.aload_n 0, 1) := by decide +kernel
theorem dX0_shareOf_1 : decode cX0_shareOf 1 = .ok (.aload_n 2, 1) := by decide +kernel
theorem dX0_shareOf_2 : decode cX0_shareOf 2 = .ok (.invokevirtual 139, 3) := by decide +kernel
theorem dX0_shareOf_5 : decode cX0_shareOf 5 = .ok (.istore_n 3, 1) := by decide +kernel
theorem dX0_shareOf_6 : decode cX0_shareOf 6 = .ok (.iload_n 3, 1) := by decide +kernel
theorem dX0_shareOf_7 : decode cX0_shareOf 7 = .ok (.invokestatic 152, 3) := by decide +kernel
theorem dX0_shareOf_10 : decode cX0_shareOf 10 = .ok (.istore 4, 2) := by decide +kernel
theorem dX0_shareOf_12 : decode cX0_shareOf 12 = .ok (.iload 4, 2) := by decide +kernel
theorem dX0_shareOf_14 : decode cX0_shareOf 14 = .ok (.ifCond .le 22, 3) := by decide +kernel
theorem dX0_shareOf_17 : decode cX0_shareOf 17 = .ok (.iload_n 3, 1) := by decide +kernel
theorem dX0_shareOf_18 : decode cX0_shareOf 18 = .ok (.iload_n 1, 1) := by decide +kernel
theorem dX0_shareOf_19 : decode cX0_shareOf 19 = .ok (.ishr, 1) := by decide +kernel
theorem dX0_shareOf_20 : decode cX0_shareOf 20 = .ok (.iconst 1, 1) := by decide +kernel
theorem dX0_shareOf_21 : decode cX0_shareOf 21 = .ok (.iand, 1) := by decide +kernel
theorem dX0_shareOf_22 : decode cX0_shareOf 22 = .ok (.iconst 1, 1) := by decide +kernel
theorem dX0_shareOf_23 : decode cX0_shareOf 23 = .ok (.if_icmp .ne 13, 3) := by decide +kernel
theorem dX0_shareOf_26 : decode cX0_shareOf 26 = .ok (.aload_n 2, 1) := by decide +kernel
theorem dX0_shareOf_27 : decode cX0_shareOf 27 = .ok (.getfield 81, 3) := by decide +kernel
theorem dX0_shareOf_30 : decode cX0_shareOf 30 = .ok (.iload 4, 2) := by decide +kernel
theorem dX0_shareOf_32 : decode cX0_shareOf 32 = .ok (.idiv, 1) := by decide +kernel
theorem dX0_shareOf_33 : decode cX0_shareOf 33 = .ok (.goto 4, 3) := by decide +kernel
theorem dX0_shareOf_36 : decode cX0_shareOf 36 = .ok (.iconst 0, 1) := by decide +kernel
theorem dX0_shareOf_37 : decode cX0_shareOf 37 = .ok (.ireturn, 1) := by decide +kernel
theorem dX0_leadOf_0 : decode cX0_leadOf 0 = .ok (.iconst 0, 1) := by decide +kernel
theorem dX0_leadOf_1 : decode cX0_leadOf 1 = .ok (.istore_n 2, 1) := by decide +kernel
theorem dX0_leadOf_2 : decode cX0_leadOf 2 = .ok (.iconst 0, 1) := by decide +kernel
theorem dX0_leadOf_3 : decode cX0_leadOf 3 = .ok (.istore_n 3, 1) := by decide +kernel
theorem dX0_leadOf_4 : decode cX0_leadOf 4 = .ok (.iload_n 3, 1) := by decide +kernel
theorem dX0_leadOf_5 : decode cX0_leadOf 5 = .ok (.aload_n 0, 1) := by decide +kernel
theorem dX0_leadOf_6 : decode cX0_leadOf 6 = .ok (.getfield 47, 3) := by decide +kernel
theorem dX0_leadOf_9 : decode cX0_leadOf 9 = .ok (.if_icmp .ge 23, 3) := by decide +kernel
theorem dX0_leadOf_12 : decode cX0_leadOf 12 = .ok (.iload_n 2, 1) := by decide +kernel
theorem dX0_leadOf_13 : decode cX0_leadOf 13 = .ok (.aload_n 0, 1) := by decide +kernel
theorem dX0_leadOf_14 : decode cX0_leadOf 14 = .ok (.iload_n 1, 1) := by decide +kernel
theorem dX0_leadOf_15 : decode cX0_leadOf 15 = .ok (.aload_n 0, 1) := by decide +kernel
theorem dX0_leadOf_16 : decode cX0_leadOf 16 = .ok (.getfield 19, 3) := by decide +kernel
theorem dX0_leadOf_19 : decode cX0_leadOf 19 = .ok (.iload_n 3, 1) := by decide +kernel
theorem dX0_leadOf_20 : decode cX0_leadOf 20 = .ok (.aaload, 1) := by decide +kernel
theorem dX0_leadOf_21 : decode cX0_leadOf 21 = .ok (.invokevirtual 172, 3) := by decide +kernel
theorem dX0_leadOf_24 : decode cX0_leadOf 24 = .ok (.iadd, 1) := by decide +kernel
theorem dX0_leadOf_25 : decode cX0_leadOf 25 = .ok (.istore_n 2, 1) := by decide +kernel
theorem dX0_leadOf_26 : decode cX0_leadOf 26 = .ok (.iinc 3 1, 3) := by decide +kernel
theorem dX0_leadOf_29 : decode cX0_leadOf 29 = .ok (.goto (-25), 3) := by decide +kernel
theorem dX0_leadOf_32 : decode cX0_leadOf 32 = .ok (.iload_n 2, 1) := by decide +kernel
theorem dX0_leadOf_33 : decode cX0_leadOf 33 = .ok (.ireturn, 1) := by decide +kernel
theorem dX0_findersAhead_0 : decode cX0_findersAhead 0 = .ok (.aload_n 0, 1) := by decide +kernel
theorem dX0_findersAhead_1 : decode cX0_findersAhead 1 = .ok (.iload_n 1, 1) := by decide +kernel
theorem dX0_findersAhead_2 : decode cX0_findersAhead 2 = .ok (.invokevirtual 179, 3) := by decide +kernel
theorem dX0_findersAhead_5 : decode cX0_findersAhead 5 = .ok (.istore_n 2, 1) := by decide +kernel
theorem dX0_findersAhead_6 : decode cX0_findersAhead 6 = .ok (.iconst 0, 1) := by decide +kernel
theorem dX0_findersAhead_7 : decode cX0_findersAhead 7 = .ok (.istore_n 3, 1) := by decide +kernel
theorem dX0_findersAhead_8 : decode cX0_findersAhead 8 = .ok (.iconst 0, 1) := by decide +kernel
theorem dX0_findersAhead_9 : decode cX0_findersAhead 9 = .ok (.istore 4, 2) := by decide +kernel
theorem dX0_findersAhead_11 : decode cX0_findersAhead 11 = .ok (.iload 4, 2) := by decide +kernel
theorem dX0_findersAhead_13 : decode cX0_findersAhead 13 = .ok (.aload_n 0, 1) := by decide +kernel
theorem dX0_findersAhead_14 : decode cX0_findersAhead 14 = .ok (.getfield 44, 3) := by decide +kernel
theorem dX0_findersAhead_17 : decode cX0_findersAhead 17 = .ok (.if_icmp .ge 38, 3) := by decide +kernel
theorem dX0_findersAhead_20 : decode cX0_findersAhead 20 = .ok (.aload_n 0, 1) := by decide +kernel
theorem dX0_findersAhead_21 : decode cX0_findersAhead 21 = .ok (.iload 4, 2) := by decide +kernel
theorem dX0_findersAhead_23 : decode cX0_findersAhead 23 = .ok (.invokevirtual 179, 3) := by decide +kernel
theorem dX0_findersAhead_26 : decode cX0_findersAhead 26 = .ok (.istore 5, 2) := by decide +kernel
theorem dX0_findersAhead_28 : decode cX0_findersAhead 28 = .ok (.iload 5, 2) := by decide +kernel
theorem dX0_findersAhead_30 : decode cX0_findersAhead 30 = .ok (.iload_n 2, 1) := by decide +kernel
theorem dX0_findersAhead_31 : decode cX0_findersAhead 31 = .ok (.if_icmp .gt 15, 3) := by decide +kernel
theorem dX0_findersAhead_34 : decode cX0_findersAhead 34 = .ok (.iload 5, 2) := by decide +kernel
theorem dX0_findersAhead_36 : decode cX0_findersAhead 36 = .ok (.iload_n 2, 1) := by decide +kernel
theorem dX0_findersAhead_37 : decode cX0_findersAhead 37 = .ok (.if_icmp .ne 12, 3) := by decide +kernel
theorem dX0_findersAhead_40 : decode cX0_findersAhead 40 = .ok (.iload 4, 2) := by decide +kernel
theorem dX0_findersAhead_42 : decode cX0_findersAhead 42 = .ok (.iload_n 1, 1) := by decide +kernel
theorem dX0_findersAhead_43 : decode cX0_findersAhead 43 = .ok (.if_icmp .ge 6, 3) := by decide +kernel
theorem dX0_findersAhead_46 : decode cX0_findersAhead 46 = .ok (.iinc 3 1, 3) := by decide +kernel
theorem dX0_findersAhead_49 : decode cX0_findersAhead 49 = .ok (.iinc 4 1, 3) := by decide +kernel
theorem dX0_findersAhead_52 : decode cX0_findersAhead 52 = .ok (.goto (-41), 3) := by decide +kernel
theorem dX0_findersAhead_55 : decode cX0_findersAhead 55 = .ok (.iload_n 3, 1) := by decide +kernel
theorem dX0_findersAhead_56 : decode cX0_findersAhead 56 = .ok (.ireturn, 1) := by decide +kernel
theorem dX0_ranking_0 : decode cX0_ranking 0 = .ok (.iconst 0, 1) := by decide +kernel
theorem dX0_ranking_1 : decode cX0_ranking 1 = .ok (.istore_n 2, 1) := by decide +kernel
theorem dX0_ranking_2 : decode cX0_ranking 2 = .ok (.iload_n 2, 1) := by decide +kernel
theorem dX0_ranking_3 : decode cX0_ranking 3 = .ok (.aload_n 0, 1) := by decide +kernel
theorem dX0_ranking_4 : decode cX0_ranking 4 = .ok (.getfield 44, 3) := by decide +kernel
theorem dX0_ranking_7 : decode cX0_ranking 7 = .ok (.if_icmp .ge 20, 3) := by decide +kernel
theorem dX0_ranking_10 : decode cX0_ranking 10 = .ok (.aload_n 0, 1) := by decide +kernel
theorem dX0_ranking_11 : decode cX0_ranking 11 = .ok (.iload_n 2, 1) := by decide +kernel
theorem dX0_ranking_12 : decode cX0_ranking 12 = .ok (.invokevirtual 176, 3) := by decide +kernel
theorem dX0_ranking_15 : decode cX0_ranking 15 = .ok (.iload_n 1, 1) := by decide +kernel
theorem dX0_ranking_16 : decode cX0_ranking 16 = .ok (.if_icmp .ne 5, 3) := by decide +kernel
theorem dX0_ranking_19 : decode cX0_ranking 19 = .ok (.iload_n 2, 1) := by decide +kernel
theorem dX0_ranking_20 : decode cX0_ranking 20 = .ok (.ireturn, 1) := by decide +kernel
theorem dX0_ranking_21 : decode cX0_ranking 21 = .ok (.iinc 2 1, 3) := by decide +kernel
theorem dX0_ranking_24 : decode cX0_ranking 24 = .ok (.goto (-22), 3) := by decide +kernel
theorem dX0_ranking_27 : decode cX0_ranking 27 = .ok (.iconst (-1), 1) := by decide +kernel
theorem dX0_ranking_28 : decode cX0_ranking 28 = .ok (.ireturn, 1) := by decide +kernel
theorem dX11_behind_0 : decode cX11_behind 0 = .ok (.aload_n 0, 1) := by decide +kernel
theorem dX11_behind_1 : decode cX11_behind 1 = .ok (.getfield 69, 3) := by decide +kernel
theorem dX11_behind_4 : decode cX11_behind 4 = .ok (.iconst 0, 1) := by decide +kernel
theorem dX11_behind_5 : decode cX11_behind 5 = .ok (.invokevirtual 300, 3) := by decide +kernel
theorem dX11_behind_8 : decode cX11_behind 8 = .ok (.istore_n 2, 1) := by decide +kernel
theorem dX11_behind_9 : decode cX11_behind 9 = .ok (.aload_n 0, 1) := by decide +kernel
theorem dX11_behind_10 : decode cX11_behind 10 = .ok (.getfield 69, 3) := by decide +kernel
theorem dX11_behind_13 : decode cX11_behind 13 = .ok (.iload_n 1, 1) := by decide +kernel
theorem dX11_behind_14 : decode cX11_behind 14 = .ok (.invokevirtual 216, 3) := by decide +kernel
theorem dX11_behind_17 : decode cX11_behind 17 = .ok (.ifnull 8, 3) := by decide +kernel
theorem dX11_behind_20 : decode cX11_behind 20 = .ok (.iload_n 2, 1) := by decide +kernel
theorem dX11_behind_21 : decode cX11_behind 21 = .ok (.iconst (-1), 1) := by decide +kernel
theorem dX11_behind_22 : decode cX11_behind 22 = .ok (.if_icmp .ne 9, 3) := by decide +kernel
theorem dX11_behind_25 : decode cX11_behind 25 = .ok (.aload_n 0, 1) := by decide +kernel
theorem dX11_behind_26 : decode cX11_behind 26 = .ok (.iconst 1, 1) := by decide +kernel
theorem dX11_behind_27 : decode cX11_behind 27 = .ok (.invokevirtual 100, 3) := by decide +kernel
theorem dX11_behind_30 : decode cX11_behind 30 = .ok (.ireturn, 1) := by decide +kernel
theorem dX11_behind_31 : decode cX11_behind 31 = .ok (.aload_n 0, 1) := by decide +kernel
theorem dX11_behind_32 : decode cX11_behind 32 = .ok (.aload_n 0, 1) := by decide +kernel
theorem dX11_behind_33 : decode cX11_behind 33 = .ok (.getfield 69, 3) := by decide +kernel
theorem dX11_behind_36 : decode cX11_behind 36 = .ok (.iload_n 2, 1) := by decide +kernel
theorem dX11_behind_37 : decode cX11_behind 37 = .ok (.invokevirtual 297, 3) := by decide +kernel
theorem dX11_behind_40 : decode cX11_behind 40 = .ok (.aload_n 0, 1) := by decide +kernel
theorem dX11_behind_41 : decode cX11_behind 41 = .ok (.getfield 69, 3) := by decide +kernel
theorem dX11_behind_44 : decode cX11_behind 44 = .ok (.iload_n 1, 1) := by decide +kernel
theorem dX11_behind_45 : decode cX11_behind 45 = .ok (.invokevirtual 297, 3) := by decide +kernel
theorem dX11_behind_48 : decode cX11_behind 48 = .ok (.isub, 1) := by decide +kernel
theorem dX11_behind_49 : decode cX11_behind 49 = .ok (.invokevirtual 96, 3) := by decide +kernel
theorem dX11_behind_52 : decode cX11_behind 52 = .ok (.ireturn, 1) := by decide +kernel
theorem dX8_fits_0 : decode cX8_fits 0 = .ok (.iload_n 1, 1) := by decide +kernel
theorem dX8_fits_1 : decode cX8_fits 1 = .ok (.invokestatic 100, 3) := by decide +kernel
theorem dX8_fits_4 : decode cX8_fits 4 = .ok (.aload_n 0, 1) := by decide +kernel
theorem dX8_fits_5 : decode cX8_fits 5 = .ok (.getfield 54, 3) := by decide +kernel
theorem dX8_fits_8 : decode cX8_fits 8 = .ok (.if_icmp .gt 26, 3) := by decide +kernel
theorem dX8_fits_11 : decode cX8_fits 11 = .ok (.aload_n 0, 1) := by decide +kernel
theorem dX8_fits_12 : decode cX8_fits 12 = .ok (.getfield 50, 3) := by decide +kernel
theorem dX8_fits_15 : decode cX8_fits 15 = .ok (.aload_n 0, 1) := by decide +kernel
theorem dX8_fits_16 : decode cX8_fits 16 = .ok (.getfield 11, 3) := by decide +kernel
theorem dX8_fits_19 : decode cX8_fits 19 = .ok (.iload_n 1, 1) := by decide +kernel
theorem dX8_fits_20 : decode cX8_fits 20 = .ok (.bipush 9, 2) := by decide +kernel
theorem dX8_fits_22 : decode cX8_fits 22 = .ok (.imul, 1) := by decide +kernel
theorem dX8_fits_23 : decode cX8_fits 23 = .ok (.bipush 8, 2) := by decide +kernel
theorem dX8_fits_25 : decode cX8_fits 25 = .ok (.iadd, 1) := by decide +kernel
theorem dX8_fits_26 : decode cX8_fits 26 = .ok (.iaload, 1) := by decide +kernel
theorem dX8_fits_27 : decode cX8_fits 27 = .ok (.if_icmp .gt 7, 3) := by decide +kernel
theorem dX8_fits_30 : decode cX8_fits 30 = .ok (.iconst 1, 1) := by decide +kernel
theorem dX8_fits_31 : decode cX8_fits 31 = .ok (.goto 4, 3) := by decide +kernel
theorem dX8_fits_34 : decode cX8_fits 34 = .ok (.iconst 0, 1) := by decide +kernel
theorem dX8_fits_35 : decode cX8_fits 35 = .ok (.ireturn, 1) := by decide +kernel
theorem dX8_worthOf_0 : decode cX8_worthOf 0 = .ok (.iconst 0, 1) := by decide +kernel
theorem dX8_worthOf_1 : decode cX8_worthOf 1 = .ok (.istore_n 2, 1) := by decide +kernel
theorem dX8_worthOf_2 : decode cX8_worthOf 2 = .ok (.iconst 0, 1) := by decide +kernel
theorem dX8_worthOf_3 : decode cX8_worthOf 3 = .ok (.istore_n 3, 1) := by decide +kernel
theorem dX8_worthOf_4 : decode cX8_worthOf 4 = .ok (.iload_n 3, 1) := by decide +kernel
theorem dX8_worthOf_5 : decode cX8_worthOf 5 = .ok (.aload_n 0, 1) := by decide +kernel
theorem dX8_worthOf_6 : decode cX8_worthOf 6 = .ok (.getfield 38, 3) := by decide +kernel
theorem dX8_worthOf_9 : decode cX8_worthOf 9 = .ok (.if_icmp .ge 27, 3) := by decide +kernel
theorem dX8_worthOf_12 : decode cX8_worthOf 12 = .ok (.iload_n 1, 1) := by decide +kernel
theorem dX8_worthOf_13 : decode cX8_worthOf 13 = .ok (.iload_n 3, 1) := by decide +kernel
theorem dX8_worthOf_14 : decode cX8_worthOf 14 = .ok (.ishr, 1) := by decide +kernel
theorem dX8_worthOf_15 : decode cX8_worthOf 15 = .ok (.iconst 1, 1) := by decide +kernel
theorem dX8_worthOf_16 : decode cX8_worthOf 16 = .ok (.iand, 1) := by decide +kernel
theorem dX8_worthOf_17 : decode cX8_worthOf 17 = .ok (.iconst 1, 1) := by decide +kernel
theorem dX8_worthOf_18 : decode cX8_worthOf 18 = .ok (.if_icmp .ne 12, 3) := by decide +kernel
theorem dX8_worthOf_21 : decode cX8_worthOf 21 = .ok (.iload_n 2, 1) := by decide +kernel
theorem dX8_worthOf_22 : decode cX8_worthOf 22 = .ok (.aload_n 0, 1) := by decide +kernel
theorem dX8_worthOf_23 : decode cX8_worthOf 23 = .ok (.getfield 21, 3) := by decide +kernel
theorem dX8_worthOf_26 : decode cX8_worthOf 26 = .ok (.iload_n 3, 1) := by decide +kernel
theorem dX8_worthOf_27 : decode cX8_worthOf 27 = .ok (.iaload, 1) := by decide +kernel
theorem dX8_worthOf_28 : decode cX8_worthOf 28 = .ok (.iadd, 1) := by decide +kernel
theorem dX8_worthOf_29 : decode cX8_worthOf 29 = .ok (.istore_n 2, 1) := by decide +kernel
theorem dX8_worthOf_30 : decode cX8_worthOf 30 = .ok (.iinc 3 1, 3) := by decide +kernel
theorem dX8_worthOf_33 : decode cX8_worthOf 33 = .ok (.goto (-29), 3) := by decide +kernel
theorem dX8_worthOf_36 : decode cX8_worthOf 36 = .ok (.iload_n 2, 1) := by decide +kernel
theorem dX8_worthOf_37 : decode cX8_worthOf 37 = .ok (.ireturn, 1) := by decide +kernel
theorem dX8_bestWorth_0 : decode cX8_bestWorth 0 = .ok (.iconst 0, 1) := by decide +kernel
theorem dX8_bestWorth_1 : decode cX8_bestWorth 1 = .ok (.istore_n 1, 1) := by decide +kernel
theorem dX8_bestWorth_2 : decode cX8_bestWorth 2 = .ok (.iconst 0, 1) := by decide +kernel
theorem dX8_bestWorth_3 : decode cX8_bestWorth 3 = .ok (.istore_n 2, 1) := by decide +kernel
theorem dX8_bestWorth_4 : decode cX8_bestWorth 4 = .ok (.iload_n 2, 1) := by decide +kernel
theorem dX8_bestWorth_5 : decode cX8_bestWorth 5 = .ok (.iconst 1, 1) := by decide +kernel
theorem dX8_bestWorth_6 : decode cX8_bestWorth 6 = .ok (.aload_n 0, 1) := by decide +kernel
theorem dX8_bestWorth_7 : decode cX8_bestWorth 7 = .ok (.getfield 38, 3) := by decide +kernel
theorem dX8_bestWorth_10 : decode cX8_bestWorth 10 = .ok (.ishl, 1) := by decide +kernel
theorem dX8_bestWorth_11 : decode cX8_bestWorth 11 = .ok (.if_icmp .ge 27, 3) := by decide +kernel
theorem dX8_bestWorth_14 : decode cX8_bestWorth 14 = .ok (.aload_n 0, 1) := by decide +kernel
theorem dX8_bestWorth_15 : decode cX8_bestWorth 15 = .ok (.iload_n 2, 1) := by decide +kernel
theorem dX8_bestWorth_16 : decode cX8_bestWorth 16 = .ok (.invokevirtual 105, 3) := by decide +kernel
theorem dX8_bestWorth_19 : decode cX8_bestWorth 19 = .ok (.ifCond .eq 13, 3) := by decide +kernel
theorem dX8_bestWorth_22 : decode cX8_bestWorth 22 = .ok (.iload_n 1, 1) := by decide +kernel
theorem dX8_bestWorth_23 : decode cX8_bestWorth 23 = .ok (.aload_n 0, 1) := by decide +kernel
theorem dX8_bestWorth_24 : decode cX8_bestWorth 24 = .ok (.iload_n 2, 1) := by decide +kernel
theorem dX8_bestWorth_25 : decode cX8_bestWorth 25 = .ok (.invokevirtual 109, 3) := by decide +kernel
theorem dX8_bestWorth_28 : decode cX8_bestWorth 28 = .ok (.invokestatic 92, 3) := by decide +kernel
theorem dX8_bestWorth_31 : decode cX8_bestWorth 31 = .ok (.istore_n 1, 1) := by decide +kernel
theorem dX8_bestWorth_32 : decode cX8_bestWorth 32 = .ok (.iinc 2 1, 3) := by decide +kernel
theorem dX8_bestWorth_35 : decode cX8_bestWorth 35 = .ok (.goto (-31), 3) := by decide +kernel
theorem dX8_bestWorth_38 : decode cX8_bestWorth 38 = .ok (.iload_n 1, 1) := by decide +kernel
theorem dX8_bestWorth_39 : decode cX8_bestWorth 39 = .ok (.ireturn, 1) := by decide +kernel
theorem dX8_fewestFor_0 : decode cX8_fewestFor 0 = .ok (.aload_n 0, 1) := by decide +kernel
theorem dX8_fewestFor_1 : decode cX8_fewestFor 1 = .ok (.getfield 38, 3) := by decide +kernel
theorem dX8_fewestFor_4 : decode cX8_fewestFor 4 = .ok (.istore_n 2, 1) := by decide +kernel
theorem dX8_fewestFor_5 : decode cX8_fewestFor 5 = .ok (.iconst 0, 1) := by decide +kernel
theorem dX8_fewestFor_6 : decode cX8_fewestFor 6 = .ok (.istore_n 3, 1) := by decide +kernel
theorem dX8_fewestFor_7 : decode cX8_fewestFor 7 = .ok (.iload_n 3, 1) := by decide +kernel
theorem dX8_fewestFor_8 : decode cX8_fewestFor 8 = .ok (.iconst 1, 1) := by decide +kernel
theorem dX8_fewestFor_9 : decode cX8_fewestFor 9 = .ok (.aload_n 0, 1) := by decide +kernel
theorem dX8_fewestFor_10 : decode cX8_fewestFor 10 = .ok (.getfield 38, 3) := by decide +kernel
theorem dX8_fewestFor_13 : decode cX8_fewestFor 13 = .ok (.ishl, 1) := by decide +kernel
theorem dX8_fewestFor_14 : decode cX8_fewestFor 14 = .ok (.if_icmp .ge 35, 3) := by decide +kernel
theorem dX8_fewestFor_17 : decode cX8_fewestFor 17 = .ok (.aload_n 0, 1) := by decide +kernel
theorem dX8_fewestFor_18 : decode cX8_fewestFor 18 = .ok (.iload_n 3, 1) := by decide +kernel
theorem dX8_fewestFor_19 : decode cX8_fewestFor 19 = .ok (.invokevirtual 105, 3) := by decide +kernel
theorem dX8_fewestFor_22 : decode cX8_fewestFor 22 = .ok (.ifCond .eq 21, 3) := by decide +kernel
theorem dX8_fewestFor_25 : decode cX8_fewestFor 25 = .ok (.aload_n 0, 1) := by decide +kernel
theorem dX8_fewestFor_26 : decode cX8_fewestFor 26 = .ok (.iload_n 3, 1) := by decide +kernel
theorem dX8_fewestFor_27 : decode cX8_fewestFor 27 = .ok (.invokevirtual 109, 3) := by decide +kernel
theorem dX8_fewestFor_30 : decode cX8_fewestFor 30 = .ok (.iload_n 1, 1) := by decide +kernel
theorem dX8_fewestFor_31 : decode cX8_fewestFor 31 = .ok (.if_icmp .ne 12, 3) := by decide +kernel
theorem dX8_fewestFor_34 : decode cX8_fewestFor 34 = .ok (.iload_n 2, 1) := by decide +kernel
theorem dX8_fewestFor_35 : decode cX8_fewestFor 35 = .ok (.iload_n 3, 1) := by decide +kernel
theorem dX8_fewestFor_36 : decode cX8_fewestFor 36 = .ok (.invokestatic 100, 3) := by decide +kernel
theorem dX8_fewestFor_39 : decode cX8_fewestFor 39 = .ok (.invokestatic 135, 3) := by decide +kernel
theorem dX8_fewestFor_42 : decode cX8_fewestFor 42 = .ok (.istore_n 2, 1) := by decide +kernel
theorem dX8_fewestFor_43 : decode cX8_fewestFor 43 = .ok (.iinc 3 1, 3) := by decide +kernel
theorem dX8_fewestFor_46 : decode cX8_fewestFor 46 = .ok (.goto (-39), 3) := by decide +kernel
theorem dX8_fewestFor_49 : decode cX8_fewestFor 49 = .ok (.iload_n 2, 1) := by decide +kernel
theorem dX8_fewestFor_50 : decode cX8_fewestFor 50 = .ok (.ireturn, 1) := by decide +kernel
theorem dX8_dueAt_0 : decode cX8_dueAt 0 = .ok (.aload_n 0, 1) := by decide +kernel
theorem dX8_dueAt_1 : decode cX8_dueAt 1 = .ok (.getfield 11, 3) := by decide +kernel
theorem dX8_dueAt_4 : decode cX8_dueAt 4 = .ok (.iload_n 1, 1) := by decide +kernel
theorem dX8_dueAt_5 : decode cX8_dueAt 5 = .ok (.iconst 1, 1) := by decide +kernel
theorem dX8_dueAt_6 : decode cX8_dueAt 6 = .ok (.iload_n 2, 1) := by decide +kernel
theorem dX8_dueAt_7 : decode cX8_dueAt 7 = .ok (.ishl, 1) := by decide +kernel
theorem dX8_dueAt_8 : decode cX8_dueAt 8 = .ok (.iconst (-1), 1) := by decide +kernel
theorem dX8_dueAt_9 : decode cX8_dueAt 9 = .ok (.ixor, 1) := by decide +kernel
theorem dX8_dueAt_10 : decode cX8_dueAt 10 = .ok (.iand, 1) := by decide +kernel
theorem dX8_dueAt_11 : decode cX8_dueAt 11 = .ok (.bipush 9, 2) := by decide +kernel
theorem dX8_dueAt_13 : decode cX8_dueAt 13 = .ok (.imul, 1) := by decide +kernel
theorem dX8_dueAt_14 : decode cX8_dueAt 14 = .ok (.iload_n 2, 1) := by decide +kernel
theorem dX8_dueAt_15 : decode cX8_dueAt 15 = .ok (.iadd, 1) := by decide +kernel
theorem dX8_dueAt_16 : decode cX8_dueAt 16 = .ok (.iaload, 1) := by decide +kernel
theorem dX8_dueAt_17 : decode cX8_dueAt 17 = .ok (.ireturn, 1) := by decide +kernel
theorem dX8_minutesBetween_0 : decode cX8_minutesBetween 0 = .ok (.aload_n 0, 1) := by decide +kernel
theorem dX8_minutesBetween_1 : decode cX8_minutesBetween 1 = .ok (.getfield 46, 3) := by decide +kernel
theorem dX8_minutesBetween_4 : decode cX8_minutesBetween 4 = .ok (.aload_n 0, 1) := by decide +kernel
theorem dX8_minutesBetween_5 : decode cX8_minutesBetween 5 = .ok (.getfield 15, 3) := by decide +kernel
theorem dX8_minutesBetween_8 : decode cX8_minutesBetween 8 = .ok (.iload_n 1, 1) := by decide +kernel
theorem dX8_minutesBetween_9 : decode cX8_minutesBetween 9 = .ok (.iaload, 1) := by decide +kernel
theorem dX8_minutesBetween_10 : decode cX8_minutesBetween 10 = .ok (.aload_n 0, 1) := by decide +kernel
theorem dX8_minutesBetween_11 : decode cX8_minutesBetween 11 = .ok (.getfield 15, 3) := by decide +kernel
theorem dX8_minutesBetween_14 : decode cX8_minutesBetween 14 = .ok (.iload_n 2, 1) := by decide +kernel
theorem dX8_minutesBetween_15 : decode cX8_minutesBetween 15 = .ok (.iaload, 1) := by decide +kernel
theorem dX8_minutesBetween_16 : decode cX8_minutesBetween 16 = .ok (.isub, 1) := by decide +kernel
theorem dX8_minutesBetween_17 : decode cX8_minutesBetween 17 = .ok (.invokestatic 97, 3) := by decide +kernel
theorem dX8_minutesBetween_20 : decode cX8_minutesBetween 20 = .ok (.imul, 1) := by decide +kernel
theorem dX8_minutesBetween_21 : decode cX8_minutesBetween 21 = .ok (.ireturn, 1) := by decide +kernel
theorem dX8_minuteAt_0 : decode cX8_minuteAt 0 = .ok (.iload_n 3, 1) := by decide +kernel
theorem dX8_minuteAt_1 : decode cX8_minuteAt 1 = .ok (.aload_n 0, 1) := by decide +kernel
theorem dX8_minuteAt_2 : decode cX8_minuteAt 2 = .ok (.iload_n 2, 1) := by decide +kernel
theorem dX8_minuteAt_3 : decode cX8_minuteAt 3 = .ok (.iload_n 1, 1) := by decide +kernel
theorem dX8_minuteAt_4 : decode cX8_minuteAt 4 = .ok (.invokevirtual 89, 3) := by decide +kernel
theorem dX8_minuteAt_7 : decode cX8_minuteAt 7 = .ok (.iadd, 1) := by decide +kernel
theorem dX8_minuteAt_8 : decode cX8_minuteAt 8 = .ok (.aload_n 0, 1) := by decide +kernel
theorem dX8_minuteAt_9 : decode cX8_minuteAt 9 = .ok (.getfield 18, 3) := by decide +kernel
theorem dX8_minuteAt_12 : decode cX8_minuteAt 12 = .ok (.iload_n 1, 1) := by decide +kernel
theorem dX8_minuteAt_13 : decode cX8_minuteAt 13 = .ok (.iaload, 1) := by decide +kernel
theorem dX8_minuteAt_14 : decode cX8_minuteAt 14 = .ok (.invokestatic 92, 3) := by decide +kernel
theorem dX8_minuteAt_17 : decode cX8_minuteAt 17 = .ok (.ireturn, 1) := by decide +kernel
theorem dX8_firstNext_0 : decode cX8_firstNext 0 = .ok (.iconst 0, 1) := by decide +kernel
theorem dX8_firstNext_1 : decode cX8_firstNext 1 = .ok (.istore 4, 2) := by decide +kernel
theorem dX8_firstNext_3 : decode cX8_firstNext 3 = .ok (.iload 4, 2) := by decide +kernel
theorem dX8_firstNext_5 : decode cX8_firstNext 5 = .ok (.aload_n 0, 1) := by decide +kernel
theorem dX8_firstNext_6 : decode cX8_firstNext 6 = .ok (.getfield 38, 3) := by decide +kernel
theorem dX8_firstNext_9 : decode cX8_firstNext 9 = .ok (.if_icmp .ge 40, 3) := by decide +kernel
theorem dX8_firstNext_12 : decode cX8_firstNext 12 = .ok (.iload_n 1, 1) := by decide +kernel
theorem dX8_firstNext_13 : decode cX8_firstNext 13 = .ok (.iload 4, 2) := by decide +kernel
theorem dX8_firstNext_15 : decode cX8_firstNext 15 = .ok (.ishr, 1) := by decide +kernel
theorem dX8_firstNext_16 : decode cX8_firstNext 16 = .ok (.iconst 1, 1) := by decide +kernel
theorem dX8_firstNext_17 : decode cX8_firstNext 17 = .ok (.iand, 1) := by decide +kernel
theorem dX8_firstNext_18 : decode cX8_firstNext 18 = .ok (.iconst 1, 1) := by decide +kernel
theorem dX8_firstNext_19 : decode cX8_firstNext 19 = .ok (.if_icmp .ne 24, 3) := by decide +kernel
theorem dX8_firstNext_22 : decode cX8_firstNext 22 = .ok (.aload_n 0, 1) := by decide +kernel
theorem dX8_firstNext_23 : decode cX8_firstNext 23 = .ok (.iload 4, 2) := by decide +kernel
theorem dX8_firstNext_25 : decode cX8_firstNext 25 = .ok (.iload_n 2, 1) := by decide +kernel
theorem dX8_firstNext_26 : decode cX8_firstNext 26 = .ok (.iload_n 3, 1) := by decide +kernel
theorem dX8_firstNext_27 : decode cX8_firstNext 27 = .ok (.invokevirtual 141, 3) := by decide +kernel
theorem dX8_firstNext_30 : decode cX8_firstNext 30 = .ok (.aload_n 0, 1) := by decide +kernel
theorem dX8_firstNext_31 : decode cX8_firstNext 31 = .ok (.iload_n 1, 1) := by decide +kernel
theorem dX8_firstNext_32 : decode cX8_firstNext 32 = .ok (.iload 4, 2) := by decide +kernel
theorem dX8_firstNext_34 : decode cX8_firstNext 34 = .ok (.invokevirtual 85, 3) := by decide +kernel
theorem dX8_firstNext_37 : decode cX8_firstNext 37 = .ok (.if_icmp .gt 6, 3) := by decide +kernel
theorem dX8_firstNext_40 : decode cX8_firstNext 40 = .ok (.iload 4, 2) := by decide +kernel
theorem dX8_firstNext_42 : decode cX8_firstNext 42 = .ok (.ireturn, 1) := by decide +kernel
theorem dX8_firstNext_43 : decode cX8_firstNext 43 = .ok (.iinc 4 1, 3) := by decide +kernel
theorem dX8_firstNext_46 : decode cX8_firstNext 46 = .ok (.goto (-43), 3) := by decide +kernel
theorem dX8_firstNext_49 : decode cX8_firstNext 49 = .ok (.iconst 0, 1) := by decide +kernel
theorem dX8_firstNext_50 : decode cX8_firstNext 50 = .ok (.ireturn, 1) := by decide +kernel
theorem dX8_layTrial_0 : decode cX8_layTrial 0 = .ok (.iload_n 1, 1) := by decide +kernel
theorem dX8_layTrial_1 : decode cX8_layTrial 1 = .ok (.istore_n 3, 1) := by decide +kernel
theorem dX8_layTrial_2 : decode cX8_layTrial 2 = .ok (.bipush 8, 2) := by decide +kernel
theorem dX8_layTrial_4 : decode cX8_layTrial 4 = .ok (.istore 4, 2) := by decide +kernel
theorem dX8_layTrial_6 : decode cX8_layTrial 6 = .ok (.aload_n 0, 1) := by decide +kernel
theorem dX8_layTrial_7 : decode cX8_layTrial 7 = .ok (.getfield 50, 3) := by decide +kernel
theorem dX8_layTrial_10 : decode cX8_layTrial 10 = .ok (.istore 5, 2) := by decide +kernel
theorem dX8_layTrial_12 : decode cX8_layTrial 12 = .ok (.iconst 0, 1) := by decide +kernel
theorem dX8_layTrial_13 : decode cX8_layTrial 13 = .ok (.istore 6, 2) := by decide +kernel
theorem dX8_layTrial_15 : decode cX8_layTrial 15 = .ok (.iload 6, 2) := by decide +kernel
theorem dX8_layTrial_17 : decode cX8_layTrial 17 = .ok (.iload_n 2, 1) := by decide +kernel
theorem dX8_layTrial_18 : decode cX8_layTrial 18 = .ok (.if_icmp .ge 54, 3) := by decide +kernel
theorem dX8_layTrial_21 : decode cX8_layTrial 21 = .ok (.aload_n 0, 1) := by decide +kernel
theorem dX8_layTrial_22 : decode cX8_layTrial 22 = .ok (.iload_n 3, 1) := by decide +kernel
theorem dX8_layTrial_23 : decode cX8_layTrial 23 = .ok (.iload 4, 2) := by decide +kernel
theorem dX8_layTrial_25 : decode cX8_layTrial 25 = .ok (.iload 5, 2) := by decide +kernel
theorem dX8_layTrial_27 : decode cX8_layTrial 27 = .ok (.invokevirtual 138, 3) := by decide +kernel
theorem dX8_layTrial_30 : decode cX8_layTrial 30 = .ok (.istore 7, 2) := by decide +kernel
theorem dX8_layTrial_32 : decode cX8_layTrial 32 = .ok (.aload_n 0, 1) := by decide +kernel
theorem dX8_layTrial_33 : decode cX8_layTrial 33 = .ok (.getfield 24, 3) := by decide +kernel
theorem dX8_layTrial_36 : decode cX8_layTrial 36 = .ok (.iload 6, 2) := by decide +kernel
theorem dX8_layTrial_38 : decode cX8_layTrial 38 = .ok (.iload 7, 2) := by decide +kernel
theorem dX8_layTrial_40 : decode cX8_layTrial 40 = .ok (.iastore, 1) := by decide +kernel
theorem dX8_layTrial_41 : decode cX8_layTrial 41 = .ok (.aload_n 0, 1) := by decide +kernel
theorem dX8_layTrial_42 : decode cX8_layTrial 42 = .ok (.iload 7, 2) := by decide +kernel
theorem dX8_layTrial_44 : decode cX8_layTrial 44 = .ok (.iload 4, 2) := by decide +kernel
theorem dX8_layTrial_46 : decode cX8_layTrial 46 = .ok (.iload 5, 2) := by decide +kernel
theorem dX8_layTrial_48 : decode cX8_layTrial 48 = .ok (.invokevirtual 141, 3) := by decide +kernel
theorem dX8_layTrial_51 : decode cX8_layTrial 51 = .ok (.istore 5, 2) := by decide +kernel
theorem dX8_layTrial_53 : decode cX8_layTrial 53 = .ok (.iload_n 3, 1) := by decide +kernel
theorem dX8_layTrial_54 : decode cX8_layTrial 54 = .ok (.iconst 1, 1) := by decide +kernel
theorem dX8_layTrial_55 : decode cX8_layTrial 55 = .ok (.iload 7, 2) := by decide +kernel
theorem dX8_layTrial_57 : decode cX8_layTrial 57 = .ok (.ishl, 1) := by decide +kernel
theorem dX8_layTrial_58 : decode cX8_layTrial 58 = .ok (.iconst (-1), 1) := by decide +kernel
theorem dX8_layTrial_59 : decode cX8_layTrial 59 = .ok (.ixor, 1) := by decide +kernel
theorem dX8_layTrial_60 : decode cX8_layTrial 60 = .ok (.iand, 1) := by decide +kernel
theorem dX8_layTrial_61 : decode cX8_layTrial 61 = .ok (.istore_n 3, 1) := by decide +kernel
theorem dX8_layTrial_62 : decode cX8_layTrial 62 = .ok (.iload 7, 2) := by decide +kernel
theorem dX8_layTrial_64 : decode cX8_layTrial 64 = .ok (.istore 4, 2) := by decide +kernel
theorem dX8_layTrial_66 : decode cX8_layTrial 66 = .ok (.iinc 6 1, 3) := by decide +kernel
theorem dX8_layTrial_69 : decode cX8_layTrial 69 = .ok (.goto (-54), 3) := by decide +kernel
theorem dX8_layTrial_72 : decode cX8_layTrial 72 = .ok (.return_, 1) := by decide +kernel
theorem dX8_trialIsAhead_0 : decode cX8_trialIsAhead 0 = .ok (.iconst 0, 1) := by decide +kernel
theorem dX8_trialIsAhead_1 : decode cX8_trialIsAhead 1 = .ok (.istore_n 2, 1) := by decide +kernel
theorem dX8_trialIsAhead_2 : decode cX8_trialIsAhead 2 = .ok (.iload_n 2, 1) := by decide +kernel
theorem dX8_trialIsAhead_3 : decode cX8_trialIsAhead 3 = .ok (.iload_n 1, 1) := by decide +kernel
theorem dX8_trialIsAhead_4 : decode cX8_trialIsAhead 4 = .ok (.if_icmp .ge 45, 3) := by decide +kernel
theorem dX8_trialIsAhead_7 : decode cX8_trialIsAhead 7 = .ok (.aload_n 0, 1) := by decide +kernel
theorem dX8_trialIsAhead_8 : decode cX8_trialIsAhead 8 = .ok (.getfield 24, 3) := by decide +kernel
theorem dX8_trialIsAhead_11 : decode cX8_trialIsAhead 11 = .ok (.iload_n 2, 1) := by decide +kernel
theorem dX8_trialIsAhead_12 : decode cX8_trialIsAhead 12 = .ok (.iaload, 1) := by decide +kernel
theorem dX8_trialIsAhead_13 : decode cX8_trialIsAhead 13 = .ok (.aload_n 0, 1) := by decide +kernel
theorem dX8_trialIsAhead_14 : decode cX8_trialIsAhead 14 = .ok (.getfield 27, 3) := by decide +kernel
theorem dX8_trialIsAhead_17 : decode cX8_trialIsAhead 17 = .ok (.iload_n 2, 1) := by decide +kernel
theorem dX8_trialIsAhead_18 : decode cX8_trialIsAhead 18 = .ok (.iaload, 1) := by decide +kernel
theorem dX8_trialIsAhead_19 : decode cX8_trialIsAhead 19 = .ok (.if_icmp .eq 24, 3) := by decide +kernel
theorem dX8_trialIsAhead_22 : decode cX8_trialIsAhead 22 = .ok (.aload_n 0, 1) := by decide +kernel
theorem dX8_trialIsAhead_23 : decode cX8_trialIsAhead 23 = .ok (.getfield 24, 3) := by decide +kernel
theorem dX8_trialIsAhead_26 : decode cX8_trialIsAhead 26 = .ok (.iload_n 2, 1) := by decide +kernel
theorem dX8_trialIsAhead_27 : decode cX8_trialIsAhead 27 = .ok (.iaload, 1) := by decide +kernel
theorem dX8_trialIsAhead_28 : decode cX8_trialIsAhead 28 = .ok (.aload_n 0, 1) := by decide +kernel
theorem dX8_trialIsAhead_29 : decode cX8_trialIsAhead 29 = .ok (.getfield 27, 3) := by decide +kernel
theorem dX8_trialIsAhead_32 : decode cX8_trialIsAhead 32 = .ok (.iload_n 2, 1) := by decide +kernel
theorem dX8_trialIsAhead_33 : decode cX8_trialIsAhead 33 = .ok (.iaload, 1) := by decide +kernel
theorem dX8_trialIsAhead_34 : decode cX8_trialIsAhead 34 = .ok (.if_icmp .ge 7, 3) := by decide +kernel
theorem dX8_trialIsAhead_37 : decode cX8_trialIsAhead 37 = .ok (.iconst 1, 1) := by decide +kernel
theorem dX8_trialIsAhead_38 : decode cX8_trialIsAhead 38 = .ok (.goto 4, 3) := by decide +kernel
theorem dX8_trialIsAhead_41 : decode cX8_trialIsAhead 41 = .ok (.iconst 0, 1) := by decide +kernel
theorem dX8_trialIsAhead_42 : decode cX8_trialIsAhead 42 = .ok (.ireturn, 1) := by decide +kernel
theorem dX8_trialIsAhead_43 : decode cX8_trialIsAhead 43 = .ok (.iinc 2 1, 3) := by decide +kernel
theorem dX8_trialIsAhead_46 : decode cX8_trialIsAhead 46 = .ok (.goto (-44), 3) := by decide +kernel
theorem dX8_trialIsAhead_49 : decode cX8_trialIsAhead 49 = .ok (.iconst 0, 1) := by decide +kernel
theorem dX8_trialIsAhead_50 : decode cX8_trialIsAhead 50 = .ok (.ireturn, 1) := by decide +kernel
theorem dX8_chooseRow_0 : decode cX8_chooseRow 0 = .ok (.aload_n 0, 1) := by decide +kernel
theorem dX8_chooseRow_1 : decode cX8_chooseRow 1 = .ok (.invokevirtual 112, 3) := by decide +kernel
theorem dX8_chooseRow_4 : decode cX8_chooseRow 4 = .ok (.istore_n 1, 1) := by decide +kernel
theorem dX8_chooseRow_5 : decode cX8_chooseRow 5 = .ok (.aload_n 0, 1) := by decide +kernel
theorem dX8_chooseRow_6 : decode cX8_chooseRow 6 = .ok (.iload_n 1, 1) := by decide +kernel
theorem dX8_chooseRow_7 : decode cX8_chooseRow 7 = .ok (.invokevirtual 116, 3) := by decide +kernel
theorem dX8_chooseRow_10 : decode cX8_chooseRow 10 = .ok (.istore_n 2, 1) := by decide +kernel
theorem dX8_chooseRow_11 : decode cX8_chooseRow 11 = .ok (.iconst 0, 1) := by decide +kernel
theorem dX8_chooseRow_12 : decode cX8_chooseRow 12 = .ok (.istore_n 3, 1) := by decide +kernel
theorem dX8_chooseRow_13 : decode cX8_chooseRow 13 = .ok (.iconst 0, 1) := by decide +kernel
theorem dX8_chooseRow_14 : decode cX8_chooseRow 14 = .ok (.istore 4, 2) := by decide +kernel
theorem dX8_chooseRow_16 : decode cX8_chooseRow 16 = .ok (.iload 4, 2) := by decide +kernel
theorem dX8_chooseRow_18 : decode cX8_chooseRow 18 = .ok (.iconst 1, 1) := by decide +kernel
theorem dX8_chooseRow_19 : decode cX8_chooseRow 19 = .ok (.aload_n 0, 1) := by decide +kernel
theorem dX8_chooseRow_20 : decode cX8_chooseRow 20 = .ok (.getfield 38, 3) := by decide +kernel
theorem dX8_chooseRow_23 : decode cX8_chooseRow 23 = .ok (.ishl, 1) := by decide +kernel
theorem dX8_chooseRow_24 : decode cX8_chooseRow 24 = .ok (.if_icmp .ge 72, 3) := by decide +kernel
theorem dX8_chooseRow_27 : decode cX8_chooseRow 27 = .ok (.aload_n 0, 1) := by decide +kernel
theorem dX8_chooseRow_28 : decode cX8_chooseRow 28 = .ok (.iload 4, 2) := by decide +kernel
theorem dX8_chooseRow_30 : decode cX8_chooseRow 30 = .ok (.invokevirtual 105, 3) := by decide +kernel
theorem dX8_chooseRow_33 : decode cX8_chooseRow 33 = .ok (.ifCond .eq 57, 3) := by decide +kernel
theorem dX8_chooseRow_36 : decode cX8_chooseRow 36 = .ok (.aload_n 0, 1) := by decide +kernel
theorem dX8_chooseRow_37 : decode cX8_chooseRow 37 = .ok (.iload 4, 2) := by decide +kernel
theorem dX8_chooseRow_39 : decode cX8_chooseRow 39 = .ok (.invokevirtual 109, 3) := by decide +kernel
theorem dX8_chooseRow_42 : decode cX8_chooseRow 42 = .ok (.iload_n 1, 1) := by decide +kernel
theorem dX8_chooseRow_43 : decode cX8_chooseRow 43 = .ok (.if_icmp .ne 47, 3) := by decide +kernel
theorem dX8_chooseRow_46 : decode cX8_chooseRow 46 = .ok (.iload 4, 2) := by decide +kernel
theorem dX8_chooseRow_48 : decode cX8_chooseRow 48 = .ok (.invokestatic 100, 3) := by decide +kernel
theorem dX8_chooseRow_51 : decode cX8_chooseRow 51 = .ok (.iload_n 2, 1) := by decide +kernel
theorem dX8_chooseRow_52 : decode cX8_chooseRow 52 = .ok (.if_icmp .ne 38, 3) := by decide +kernel
theorem dX8_chooseRow_55 : decode cX8_chooseRow 55 = .ok (.aload_n 0, 1) := by decide +kernel
theorem dX8_chooseRow_56 : decode cX8_chooseRow 56 = .ok (.iload 4, 2) := by decide +kernel
theorem dX8_chooseRow_58 : decode cX8_chooseRow 58 = .ok (.iload_n 2, 1) := by decide +kernel
theorem dX8_chooseRow_59 : decode cX8_chooseRow 59 = .ok (.invokevirtual 119, 3) := by decide +kernel
theorem dX8_chooseRow_62 : decode cX8_chooseRow 62 = .ok (.iload_n 3, 1) := by decide +kernel
theorem dX8_chooseRow_63 : decode cX8_chooseRow 63 = .ok (.ifCond .eq 11, 3) := by decide +kernel
theorem dX8_chooseRow_66 : decode cX8_chooseRow 66 = .ok (.aload_n 0, 1) := by decide +kernel
theorem dX8_chooseRow_67 : decode cX8_chooseRow 67 = .ok (.iload_n 2, 1) := by decide +kernel
theorem dX8_chooseRow_68 : decode cX8_chooseRow 68 = .ok (.invokevirtual 123, 3) := by decide +kernel
theorem dX8_chooseRow_71 : decode cX8_chooseRow 71 = .ok (.ifCond .eq 19, 3) := by decide +kernel
theorem dX8_chooseRow_74 : decode cX8_chooseRow 74 = .ok (.aload_n 0, 1) := by decide +kernel
theorem dX8_chooseRow_75 : decode cX8_chooseRow 75 = .ok (.getfield 24, 3) := by decide +kernel
theorem dX8_chooseRow_78 : decode cX8_chooseRow 78 = .ok (.iconst 0, 1) := by decide +kernel
theorem dX8_chooseRow_79 : decode cX8_chooseRow 79 = .ok (.aload_n 0, 1) := by decide +kernel
theorem dX8_chooseRow_80 : decode cX8_chooseRow 80 = .ok (.getfield 27, 3) := by decide +kernel
theorem dX8_chooseRow_83 : decode cX8_chooseRow 83 = .ok (.iconst 0, 1) := by decide +kernel
theorem dX8_chooseRow_84 : decode cX8_chooseRow 84 = .ok (.iload_n 2, 1) := by decide +kernel
theorem dX8_chooseRow_85 : decode cX8_chooseRow 85 = .ok (.invokestatic 126, 3) := by decide +kernel
theorem dX8_chooseRow_88 : decode cX8_chooseRow 88 = .ok (.iconst 1, 1) := by decide +kernel
theorem dX8_chooseRow_89 : decode cX8_chooseRow 89 = .ok (.istore_n 3, 1) := by decide +kernel
theorem dX8_chooseRow_90 : decode cX8_chooseRow 90 = .ok (.iinc 4 1, 3) := by decide +kernel
theorem dX8_chooseRow_93 : decode cX8_chooseRow 93 = .ok (.goto (-77), 3) := by decide +kernel
theorem dX8_chooseRow_96 : decode cX8_chooseRow 96 = .ok (.aload_n 0, 1) := by decide +kernel
theorem dX8_chooseRow_97 : decode cX8_chooseRow 97 = .ok (.iload_n 2, 1) := by decide +kernel
theorem dX8_chooseRow_98 : decode cX8_chooseRow 98 = .ok (.putfield 132, 3) := by decide +kernel
theorem dX8_chooseRow_101 : decode cX8_chooseRow 101 = .ok (.return_, 1) := by decide +kernel
theorem dX4_behindOthers_0 : decode cX4_behindOthers 0 = .ok (.aload_n 0, 1) := by decide +kernel
theorem dX4_behindOthers_1 : decode cX4_behindOthers 1 = .ok (.getfield 35, 3) := by decide +kernel
theorem dX4_behindOthers_4 : decode cX4_behindOthers 4 = .ok (.iconst 1, 1) := by decide +kernel
theorem dX4_behindOthers_5 : decode cX4_behindOthers 5 = .ok (.isub, 1) := by decide +kernel
theorem dX4_behindOthers_6 : decode cX4_behindOthers 6 = .ok (.istore_n 2, 1) := by decide +kernel
theorem dX4_behindOthers_7 : decode cX4_behindOthers 7 = .ok (.iload_n 2, 1) := by decide +kernel
theorem dX4_behindOthers_8 : decode cX4_behindOthers 8 = .ok (.ifCond .lt 28, 3) := by decide +kernel
theorem dX4_behindOthers_11 : decode cX4_behindOthers 11 = .ok (.aload_n 0, 1) := by decide +kernel
theorem dX4_behindOthers_12 : decode cX4_behindOthers 12 = .ok (.getfield 11, 3) := by decide +kernel
theorem dX4_behindOthers_15 : decode cX4_behindOthers 15 = .ok (.iload_n 2, 1) := by decide +kernel
theorem dX4_behindOthers_16 : decode cX4_behindOthers 16 = .ok (.iaload, 1) := by decide +kernel
theorem dX4_behindOthers_17 : decode cX4_behindOthers 17 = .ok (.iload_n 1, 1) := by decide +kernel
theorem dX4_behindOthers_18 : decode cX4_behindOthers 18 = .ok (.if_icmp .eq 12, 3) := by decide +kernel
theorem dX4_behindOthers_21 : decode cX4_behindOthers 21 = .ok (.aload_n 0, 1) := by decide +kernel
theorem dX4_behindOthers_22 : decode cX4_behindOthers 22 = .ok (.getfield 17, 3) := by decide +kernel
theorem dX4_behindOthers_25 : decode cX4_behindOthers 25 = .ok (.iload_n 2, 1) := by decide +kernel
theorem dX4_behindOthers_26 : decode cX4_behindOthers 26 = .ok (.iaload, 1) := by decide +kernel
theorem dX4_behindOthers_27 : decode cX4_behindOthers 27 = .ok (.iconst 1, 1) := by decide +kernel
theorem dX4_behindOthers_28 : decode cX4_behindOthers 28 = .ok (.iadd, 1) := by decide +kernel
theorem dX4_behindOthers_29 : decode cX4_behindOthers 29 = .ok (.ireturn, 1) := by decide +kernel
theorem dX4_behindOthers_30 : decode cX4_behindOthers 30 = .ok (.iinc 2 (-1), 3) := by decide +kernel
theorem dX4_behindOthers_33 : decode cX4_behindOthers 33 = .ok (.goto (-26), 3) := by decide +kernel
theorem dX4_behindOthers_36 : decode cX4_behindOthers 36 = .ok (.iconst 0, 1) := by decide +kernel
theorem dX4_behindOthers_37 : decode cX4_behindOthers 37 = .ok (.ireturn, 1) := by decide +kernel
theorem dX8_latestFor_0 : decode cX8_latestFor 0 = .ok (.iload_n 1, 1) := by decide +kernel
theorem dX8_latestFor_1 : decode cX8_latestFor 1 = .ok (.ifCond .ne 5, 3) := by decide +kernel
theorem dX8_latestFor_4 : decode cX8_latestFor 4 = .ok (.iload_n 3, 1) := by decide +kernel
theorem dX8_latestFor_5 : decode cX8_latestFor 5 = .ok (.ireturn, 1) := by decide +kernel
theorem dX8_latestFor_6 : decode cX8_latestFor 6 = .ok (.ldc 84, 2) := by decide +kernel
theorem dX8_latestFor_8 : decode cX8_latestFor 8 = .ok (.istore 4, 2) := by decide +kernel
theorem dX8_latestFor_10 : decode cX8_latestFor 10 = .ok (.iconst 0, 1) := by decide +kernel
theorem dX8_latestFor_11 : decode cX8_latestFor 11 = .ok (.istore 5, 2) := by decide +kernel
theorem dX8_latestFor_13 : decode cX8_latestFor 13 = .ok (.iload 5, 2) := by decide +kernel
theorem dX8_latestFor_15 : decode cX8_latestFor 15 = .ok (.aload_n 0, 1) := by decide +kernel
theorem dX8_latestFor_16 : decode cX8_latestFor 16 = .ok (.getfield 38, 3) := by decide +kernel
theorem dX8_latestFor_19 : decode cX8_latestFor 19 = .ok (.if_icmp .ge 57, 3) := by decide +kernel
theorem dX8_latestFor_22 : decode cX8_latestFor 22 = .ok (.iload_n 1, 1) := by decide +kernel
theorem dX8_latestFor_23 : decode cX8_latestFor 23 = .ok (.iload 5, 2) := by decide +kernel
theorem dX8_latestFor_25 : decode cX8_latestFor 25 = .ok (.ishr, 1) := by decide +kernel
theorem dX8_latestFor_26 : decode cX8_latestFor 26 = .ok (.iconst 1, 1) := by decide +kernel
theorem dX8_latestFor_27 : decode cX8_latestFor 27 = .ok (.iand, 1) := by decide +kernel
theorem dX8_latestFor_28 : decode cX8_latestFor 28 = .ok (.iconst 1, 1) := by decide +kernel
theorem dX8_latestFor_29 : decode cX8_latestFor 29 = .ok (.if_icmp .ne 41, 3) := by decide +kernel
theorem dX8_latestFor_32 : decode cX8_latestFor 32 = .ok (.aload_n 0, 1) := by decide +kernel
theorem dX8_latestFor_33 : decode cX8_latestFor 33 = .ok (.iload_n 1, 1) := by decide +kernel
theorem dX8_latestFor_34 : decode cX8_latestFor 34 = .ok (.iload 5, 2) := by decide +kernel
theorem dX8_latestFor_36 : decode cX8_latestFor 36 = .ok (.invokevirtual 85, 3) := by decide +kernel
theorem dX8_latestFor_39 : decode cX8_latestFor 39 = .ok (.istore 6, 2) := by decide +kernel
theorem dX8_latestFor_41 : decode cX8_latestFor 41 = .ok (.aload_n 0, 1) := by decide +kernel
theorem dX8_latestFor_42 : decode cX8_latestFor 42 = .ok (.getfield 18, 3) := by decide +kernel
theorem dX8_latestFor_45 : decode cX8_latestFor 45 = .ok (.iload 5, 2) := by decide +kernel
theorem dX8_latestFor_47 : decode cX8_latestFor 47 = .ok (.iaload, 1) := by decide +kernel
theorem dX8_latestFor_48 : decode cX8_latestFor 48 = .ok (.iload 6, 2) := by decide +kernel
theorem dX8_latestFor_50 : decode cX8_latestFor 50 = .ok (.if_icmp .gt 20, 3) := by decide +kernel
theorem dX8_latestFor_53 : decode cX8_latestFor 53 = .ok (.iload 4, 2) := by decide +kernel
theorem dX8_latestFor_55 : decode cX8_latestFor 55 = .ok (.iload 6, 2) := by decide +kernel
theorem dX8_latestFor_57 : decode cX8_latestFor 57 = .ok (.aload_n 0, 1) := by decide +kernel
theorem dX8_latestFor_58 : decode cX8_latestFor 58 = .ok (.iload_n 2, 1) := by decide +kernel
theorem dX8_latestFor_59 : decode cX8_latestFor 59 = .ok (.iload 5, 2) := by decide +kernel
theorem dX8_latestFor_61 : decode cX8_latestFor 61 = .ok (.invokevirtual 89, 3) := by decide +kernel
theorem dX8_latestFor_64 : decode cX8_latestFor 64 = .ok (.isub, 1) := by decide +kernel
theorem dX8_latestFor_65 : decode cX8_latestFor 65 = .ok (.invokestatic 92, 3) := by decide +kernel
theorem dX8_latestFor_68 : decode cX8_latestFor 68 = .ok (.istore 4, 2) := by decide +kernel
theorem dX8_latestFor_70 : decode cX8_latestFor 70 = .ok (.iinc 5 1, 3) := by decide +kernel
theorem dX8_latestFor_73 : decode cX8_latestFor 73 = .ok (.goto (-60), 3) := by decide +kernel
theorem dX8_latestFor_76 : decode cX8_latestFor 76 = .ok (.iload 4, 2) := by decide +kernel
theorem dX8_latestFor_78 : decode cX8_latestFor 78 = .ok (.ireturn, 1) := by decide +kernel
theorem dX8_prepare_0 : decode cX8_prepare 0 = .ok (.aload_n 1, 1) := by decide +kernel
theorem dX8_prepare_1 : decode cX8_prepare 1 = .ok (.iload_n 2, 1) := by decide +kernel
theorem dX8_prepare_2 : decode cX8_prepare 2 = .ok (.invokevirtual 30, 3) := by decide +kernel
theorem dX8_prepare_5 : decode cX8_prepare 5 = .ok (.astore 4, 2) := by decide +kernel
theorem dX8_prepare_7 : decode cX8_prepare 7 = .ok (.aload 4, 2) := by decide +kernel
theorem dX8_prepare_9 : decode cX8_prepare 9 = .ok (.ifnonnull 4, 3) := by decide +kernel
theorem dX8_prepare_12 : decode cX8_prepare 12 = .ok (.return_, 1) := by decide +kernel
theorem dX8_prepare_13 : decode cX8_prepare 13 = .ok (.aload_n 0, 1) := by decide +kernel
theorem dX8_prepare_14 : decode cX8_prepare 14 = .ok (.aload_n 1, 1) := by decide +kernel
theorem dX8_prepare_15 : decode cX8_prepare 15 = .ok (.getfield 34, 3) := by decide +kernel
theorem dX8_prepare_18 : decode cX8_prepare 18 = .ok (.putfield 38, 3) := by decide +kernel
theorem dX8_prepare_21 : decode cX8_prepare 21 = .ok (.aload_n 0, 1) := by decide +kernel
theorem dX8_prepare_22 : decode cX8_prepare 22 = .ok (.aload 4, 2) := by decide +kernel
theorem dX8_prepare_24 : decode cX8_prepare 24 = .ok (.getfield 41, 3) := by decide +kernel
theorem dX8_prepare_27 : decode cX8_prepare 27 = .ok (.putfield 46, 3) := by decide +kernel
theorem dX8_prepare_30 : decode cX8_prepare 30 = .ok (.aload_n 0, 1) := by decide +kernel
theorem dX8_prepare_31 : decode cX8_prepare 31 = .ok (.aload 4, 2) := by decide +kernel
theorem dX8_prepare_33 : decode cX8_prepare 33 = .ok (.getfield 47, 3) := by decide +kernel
theorem dX8_prepare_36 : decode cX8_prepare 36 = .ok (.putfield 50, 3) := by decide +kernel
theorem dX8_prepare_39 : decode cX8_prepare 39 = .ok (.aload_n 0, 1) := by decide +kernel
theorem dX8_prepare_40 : decode cX8_prepare 40 = .ok (.aload 4, 2) := by decide +kernel
theorem dX8_prepare_42 : decode cX8_prepare 42 = .ok (.getfield 51, 3) := by decide +kernel
theorem dX8_prepare_45 : decode cX8_prepare 45 = .ok (.putfield 54, 3) := by decide +kernel
theorem dX8_prepare_48 : decode cX8_prepare 48 = .ok (.aload_n 0, 1) := by decide +kernel
theorem dX8_prepare_49 : decode cX8_prepare 49 = .ok (.getfield 15, 3) := by decide +kernel
theorem dX8_prepare_52 : decode cX8_prepare 52 = .ok (.bipush 8, 2) := by decide +kernel
theorem dX8_prepare_54 : decode cX8_prepare 54 = .ok (.aload 4, 2) := by decide +kernel
theorem dX8_prepare_56 : decode cX8_prepare 56 = .ok (.getfield 55, 3) := by decide +kernel
theorem dX8_prepare_59 : decode cX8_prepare 59 = .ok (.iastore, 1) := by decide +kernel
theorem dX8_prepare_60 : decode cX8_prepare 60 = .ok (.iconst 0, 1) := by decide +kernel
theorem dX8_prepare_61 : decode cX8_prepare 61 = .ok (.istore 5, 2) := by decide +kernel
theorem dX8_prepare_63 : decode cX8_prepare 63 = .ok (.iload 5, 2) := by decide +kernel
theorem dX8_prepare_65 : decode cX8_prepare 65 = .ok (.aload_n 0, 1) := by decide +kernel
theorem dX8_prepare_66 : decode cX8_prepare 66 = .ok (.getfield 38, 3) := by decide +kernel
theorem dX8_prepare_69 : decode cX8_prepare 69 = .ok (.if_icmp .ge 68, 3) := by decide +kernel
theorem dX8_prepare_72 : decode cX8_prepare 72 = .ok (.aload_n 1, 1) := by decide +kernel
theorem dX8_prepare_73 : decode cX8_prepare 73 = .ok (.getfield 58, 3) := by decide +kernel
theorem dX8_prepare_76 : decode cX8_prepare 76 = .ok (.iload 5, 2) := by decide +kernel
theorem dX8_prepare_78 : decode cX8_prepare 78 = .ok (.aaload, 1) := by decide +kernel
theorem dX8_prepare_79 : decode cX8_prepare 79 = .ok (.astore 6, 2) := by decide +kernel
theorem dX8_prepare_81 : decode cX8_prepare 81 = .ok (.aload_n 0, 1) := by decide +kernel
theorem dX8_prepare_82 : decode cX8_prepare 82 = .ok (.getfield 15, 3) := by decide +kernel
theorem dX8_prepare_85 : decode cX8_prepare 85 = .ok (.iload 5, 2) := by decide +kernel
theorem dX8_prepare_87 : decode cX8_prepare 87 = .ok (.aload 6, 2) := by decide +kernel
theorem dX8_prepare_89 : decode cX8_prepare 89 = .ok (.getfield 62, 3) := by decide +kernel
theorem dX8_prepare_92 : decode cX8_prepare 92 = .ok (.iastore, 1) := by decide +kernel
theorem dX8_prepare_93 : decode cX8_prepare 93 = .ok (.aload_n 0, 1) := by decide +kernel
theorem dX8_prepare_94 : decode cX8_prepare 94 = .ok (.getfield 21, 3) := by decide +kernel
theorem dX8_prepare_97 : decode cX8_prepare 97 = .ok (.iload 5, 2) := by decide +kernel
theorem dX8_prepare_99 : decode cX8_prepare 99 = .ok (.aload 6, 2) := by decide +kernel
theorem dX8_prepare_101 : decode cX8_prepare 101 = .ok (.getfield 65, 3) := by decide +kernel
theorem dX8_prepare_104 : decode cX8_prepare 104 = .ok (.iastore, 1) := by decide +kernel
theorem dX8_prepare_105 : decode cX8_prepare 105 = .ok (.aload_n 0, 1) := by decide +kernel
theorem dX8_prepare_106 : decode cX8_prepare 106 = .ok (.getfield 18, 3) := by decide +kernel
theorem dX8_prepare_109 : decode cX8_prepare 109 = .ok (.iload 5, 2) := by decide +kernel
theorem dX8_prepare_111 : decode cX8_prepare 111 = .ok (.aload 6, 2) := by decide +kernel
theorem dX8_prepare_113 : decode cX8_prepare 113 = .ok (.getfield 68, 3) := by decide +kernel
theorem dX8_prepare_116 : decode cX8_prepare 116 = .ok (.ifCond .eq 12, 3) := by decide +kernel
theorem dX8_prepare_119 : decode cX8_prepare 119 = .ok (.aload 6, 2) := by decide +kernel
theorem dX8_prepare_121 : decode cX8_prepare 121 = .ok (.iload_n 2, 1) := by decide +kernel
theorem dX8_prepare_122 : decode cX8_prepare 122 = .ok (.invokevirtual 72, 3) := by decide +kernel
theorem dX8_prepare_125 : decode cX8_prepare 125 = .ok (.goto 5, 3) := by decide +kernel
theorem dX8_prepare_128 : decode cX8_prepare 128 = .ok (.ldc 76, 2) := by decide +kernel
theorem dX8_prepare_130 : decode cX8_prepare 130 = .ok (.iastore, 1) := by decide +kernel
theorem dX8_prepare_131 : decode cX8_prepare 131 = .ok (.iinc 5 1, 3) := by decide +kernel
theorem dX8_prepare_134 : decode cX8_prepare 134 = .ok (.goto (-71), 3) := by decide +kernel
theorem dX8_prepare_137 : decode cX8_prepare 137 = .ok (.iconst 0, 1) := by decide +kernel
theorem dX8_prepare_138 : decode cX8_prepare 138 = .ok (.istore 5, 2) := by decide +kernel
theorem dX8_prepare_140 : decode cX8_prepare 140 = .ok (.iload 5, 2) := by decide +kernel
theorem dX8_prepare_142 : decode cX8_prepare 142 = .ok (.iconst 1, 1) := by decide +kernel
theorem dX8_prepare_143 : decode cX8_prepare 143 = .ok (.aload_n 0, 1) := by decide +kernel
theorem dX8_prepare_144 : decode cX8_prepare 144 = .ok (.getfield 38, 3) := by decide +kernel
theorem dX8_prepare_147 : decode cX8_prepare 147 = .ok (.ishl, 1) := by decide +kernel
theorem dX8_prepare_148 : decode cX8_prepare 148 = .ok (.if_icmp .ge 52, 3) := by decide +kernel
theorem dX8_prepare_151 : decode cX8_prepare 151 = .ok (.iconst 0, 1) := by decide +kernel
theorem dX8_prepare_152 : decode cX8_prepare 152 = .ok (.istore 6, 2) := by decide +kernel
theorem dX8_prepare_154 : decode cX8_prepare 154 = .ok (.iload 6, 2) := by decide +kernel
theorem dX8_prepare_156 : decode cX8_prepare 156 = .ok (.bipush 9, 2) := by decide +kernel
theorem dX8_prepare_158 : decode cX8_prepare 158 = .ok (.if_icmp .ge 36, 3) := by decide +kernel
theorem dX8_prepare_161 : decode cX8_prepare 161 = .ok (.aload_n 0, 1) := by decide +kernel
theorem dX8_prepare_162 : decode cX8_prepare 162 = .ok (.getfield 11, 3) := by decide +kernel
theorem dX8_prepare_165 : decode cX8_prepare 165 = .ok (.iload 5, 2) := by decide +kernel
theorem dX8_prepare_167 : decode cX8_prepare 167 = .ok (.bipush 9, 2) := by decide +kernel
theorem dX8_prepare_169 : decode cX8_prepare 169 = .ok (.imul, 1) := by decide +kernel
theorem dX8_prepare_170 : decode cX8_prepare 170 = .ok (.iload 6, 2) := by decide +kernel
theorem dX8_prepare_172 : decode cX8_prepare 172 = .ok (.iadd, 1) := by decide +kernel
theorem dX8_prepare_173 : decode cX8_prepare 173 = .ok (.aload_n 0, 1) := by decide +kernel
theorem dX8_prepare_174 : decode cX8_prepare 174 = .ok (.iload 5, 2) := by decide +kernel
theorem dX8_prepare_176 : decode cX8_prepare 176 = .ok (.iload 6, 2) := by decide +kernel
theorem dX8_prepare_178 : decode cX8_prepare 178 = .ok (.aload_n 1, 1) := by decide +kernel
theorem dX8_prepare_179 : decode cX8_prepare 179 = .ok (.getfield 77, 3) := by decide +kernel
theorem dX8_prepare_182 : decode cX8_prepare 182 = .ok (.iload_n 3, 1) := by decide +kernel
theorem dX8_prepare_183 : decode cX8_prepare 183 = .ok (.iadd, 1) := by decide +kernel
theorem dX8_prepare_184 : decode cX8_prepare 184 = .ok (.invokevirtual 80, 3) := by decide +kernel
theorem dX8_prepare_187 : decode cX8_prepare 187 = .ok (.iastore, 1) := by decide +kernel
theorem dX8_prepare_188 : decode cX8_prepare 188 = .ok (.iinc 6 1, 3) := by decide +kernel
theorem dX8_prepare_191 : decode cX8_prepare 191 = .ok (.goto (-37), 3) := by decide +kernel
theorem dX8_prepare_194 : decode cX8_prepare 194 = .ok (.iinc 5 1, 3) := by decide +kernel
theorem dX8_prepare_197 : decode cX8_prepare 197 = .ok (.goto (-57), 3) := by decide +kernel
theorem dX8_prepare_200 : decode cX8_prepare 200 = .ok (.return_, 1) := by decide +kernel
theorem dX11_best_0 : decode cX11_best 0 = .ok (.aload_n 0, 1) := by decide +kernel
theorem dX11_best_1 : decode cX11_best 1 = .ok (.getfield 69, 3) := by decide +kernel
theorem dX11_best_4 : decode cX11_best 4 = .ok (.iload_n 1, 1) := by decide +kernel
theorem dX11_best_5 : decode cX11_best 5 = .ok (.invokevirtual 216, 3) := by decide +kernel
theorem dX11_best_8 : decode cX11_best 8 = .ok (.ifnonnull 9, 3) := by decide +kernel
theorem dX11_best_11 : decode cX11_best 11 = .ok (.aload_n 0, 1) := by decide +kernel
theorem dX11_best_12 : decode cX11_best 12 = .ok (.iconst 1, 1) := by decide +kernel
theorem dX11_best_13 : decode cX11_best 13 = .ok (.invokevirtual 100, 3) := by decide +kernel
theorem dX11_best_16 : decode cX11_best 16 = .ok (.ireturn, 1) := by decide +kernel
theorem dX11_best_17 : decode cX11_best 17 = .ok (.aload_n 0, 1) := by decide +kernel
theorem dX11_best_18 : decode cX11_best 18 = .ok (.getfield 53, 3) := by decide +kernel
theorem dX11_best_21 : decode cX11_best 21 = .ok (.aload_n 0, 1) := by decide +kernel
theorem dX11_best_22 : decode cX11_best 22 = .ok (.getfield 69, 3) := by decide +kernel
theorem dX11_best_25 : decode cX11_best 25 = .ok (.iload_n 1, 1) := by decide +kernel
theorem dX11_best_26 : decode cX11_best 26 = .ok (.iconst 0, 1) := by decide +kernel
theorem dX11_best_27 : decode cX11_best 27 = .ok (.invokevirtual 322, 3) := by decide +kernel
theorem dX11_best_30 : decode cX11_best 30 = .ok (.aload_n 0, 1) := by decide +kernel
theorem dX11_best_31 : decode cX11_best 31 = .ok (.getfield 53, 3) := by decide +kernel
theorem dX11_best_34 : decode cX11_best 34 = .ok (.invokevirtual 326, 3) := by decide +kernel
theorem dX11_best_37 : decode cX11_best 37 = .ok (.aload_n 0, 1) := by decide +kernel
theorem dX11_best_38 : decode cX11_best 38 = .ok (.aload_n 0, 1) := by decide +kernel
theorem dX11_best_39 : decode cX11_best 39 = .ok (.getfield 53, 3) := by decide +kernel
theorem dX11_best_42 : decode cX11_best 42 = .ok (.invokevirtual 329, 3) := by decide +kernel
theorem dX11_best_45 : decode cX11_best 45 = .ok (.invokevirtual 96, 3) := by decide +kernel
theorem dX11_best_48 : decode cX11_best 48 = .ok (.ireturn, 1) := by decide +kernel
theorem dX11_bestAt_0 : decode cX11_bestAt 0 = .ok (.iload_n 1, 1) := by decide +kernel
theorem dX11_bestAt_1 : decode cX11_bestAt 1 = .ok (.ifCond .lt 30, 3) := by decide +kernel
theorem dX11_bestAt_4 : decode cX11_bestAt 4 = .ok (.iload_n 1, 1) := by decide +kernel
theorem dX11_bestAt_5 : decode cX11_bestAt 5 = .ok (.aload_n 0, 1) := by decide +kernel
theorem dX11_bestAt_6 : decode cX11_bestAt 6 = .ok (.getfield 53, 3) := by decide +kernel
theorem dX11_bestAt_9 : decode cX11_bestAt 9 = .ok (.getfield 332, 3) := by decide +kernel
theorem dX11_bestAt_12 : decode cX11_bestAt 12 = .ok (.if_icmp .ge 19, 3) := by decide +kernel
theorem dX11_bestAt_15 : decode cX11_bestAt 15 = .ok (.aload_n 0, 1) := by decide +kernel
theorem dX11_bestAt_16 : decode cX11_bestAt 16 = .ok (.aload_n 0, 1) := by decide +kernel
theorem dX11_bestAt_17 : decode cX11_bestAt 17 = .ok (.getfield 53, 3) := by decide +kernel
theorem dX11_bestAt_20 : decode cX11_bestAt 20 = .ok (.getfield 335, 3) := by decide +kernel
theorem dX11_bestAt_23 : decode cX11_bestAt 23 = .ok (.iload_n 1, 1) := by decide +kernel
theorem dX11_bestAt_24 : decode cX11_bestAt 24 = .ok (.iaload, 1) := by decide +kernel
theorem dX11_bestAt_25 : decode cX11_bestAt 25 = .ok (.invokevirtual 96, 3) := by decide +kernel
theorem dX11_bestAt_28 : decode cX11_bestAt 28 = .ok (.goto 9, 3) := by decide +kernel
theorem dX11_bestAt_31 : decode cX11_bestAt 31 = .ok (.aload_n 0, 1) := by decide +kernel
theorem dX11_bestAt_32 : decode cX11_bestAt 32 = .ok (.bipush 6, 2) := by decide +kernel
theorem dX11_bestAt_34 : decode cX11_bestAt 34 = .ok (.invokevirtual 100, 3) := by decide +kernel
theorem dX11_bestAt_37 : decode cX11_bestAt 37 = .ok (.ireturn, 1) := by decide +kernel
theorem dX0_sightOf_0 : decode cX0_sightOf 0 = .ok (.iconst 0, 1) := by decide +kernel
theorem dX0_sightOf_1 : decode cX0_sightOf 1 = .ok (.istore_n 3, 1) := by decide +kernel
theorem dX0_sightOf_2 : decode cX0_sightOf 2 = .ok (.iconst 0, 1) := by decide +kernel
theorem dX0_sightOf_3 : decode cX0_sightOf 3 = .ok (.istore 4, 2) := by decide +kernel
theorem dX0_sightOf_5 : decode cX0_sightOf 5 = .ok (.iload 4, 2) := by decide +kernel
theorem dX0_sightOf_7 : decode cX0_sightOf 7 = .ok (.aload_n 0, 1) := by decide +kernel
theorem dX0_sightOf_8 : decode cX0_sightOf 8 = .ok (.getfield 47, 3) := by decide +kernel
theorem dX0_sightOf_11 : decode cX0_sightOf 11 = .ok (.if_icmp .ge 51, 3) := by decide +kernel
theorem dX0_sightOf_14 : decode cX0_sightOf 14 = .ok (.aload_n 0, 1) := by decide +kernel
theorem dX0_sightOf_15 : decode cX0_sightOf 15 = .ok (.getfield 19, 3) := by decide +kernel
theorem dX0_sightOf_18 : decode cX0_sightOf 18 = .ok (.iload 4, 2) := by decide +kernel
theorem dX0_sightOf_20 : decode cX0_sightOf 20 = .ok (.aaload, 1) := by decide +kernel
theorem dX0_sightOf_21 : decode cX0_sightOf 21 = .ok (.getfield 84, 3) := by decide +kernel
theorem dX0_sightOf_24 : decode cX0_sightOf 24 = .ok (.ifCond .eq 32, 3) := by decide +kernel
theorem dX0_sightOf_27 : decode cX0_sightOf 27 = .ok (.aload_n 0, 1) := by decide +kernel
theorem dX0_sightOf_28 : decode cX0_sightOf 28 = .ok (.getfield 19, 3) := by decide +kernel
theorem dX0_sightOf_31 : decode cX0_sightOf 31 = .ok (.iload 4, 2) := by decide +kernel
theorem dX0_sightOf_33 : decode cX0_sightOf 33 = .ok (.aaload, 1) := by decide +kernel
theorem dX0_sightOf_34 : decode cX0_sightOf 34 = .ok (.getfield 80, 3) := by decide +kernel
theorem dX0_sightOf_37 : decode cX0_sightOf 37 = .ok (.aload_n 1, 1) := by decide +kernel
theorem dX0_sightOf_38 : decode cX0_sightOf 38 = .ok (.getfield 64, 3) := by decide +kernel
theorem dX0_sightOf_41 : decode cX0_sightOf 41 = .ok (.isub, 1) := by decide +kernel
theorem dX0_sightOf_42 : decode cX0_sightOf 42 = .ok (.invokestatic 191, 3) := by decide +kernel
theorem dX0_sightOf_45 : decode cX0_sightOf 45 = .ok (.iload_n 2, 1) := by decide +kernel
theorem dX0_sightOf_46 : decode cX0_sightOf 46 = .ok (.if_icmp .gt 10, 3) := by decide +kernel
theorem dX0_sightOf_49 : decode cX0_sightOf 49 = .ok (.iload_n 3, 1) := by decide +kernel
theorem dX0_sightOf_50 : decode cX0_sightOf 50 = .ok (.iconst 1, 1) := by decide +kernel
theorem dX0_sightOf_51 : decode cX0_sightOf 51 = .ok (.iload 4, 2) := by decide +kernel
theorem dX0_sightOf_53 : decode cX0_sightOf 53 = .ok (.ishl, 1) := by decide +kernel
theorem dX0_sightOf_54 : decode cX0_sightOf 54 = .ok (.ior, 1) := by decide +kernel
theorem dX0_sightOf_55 : decode cX0_sightOf 55 = .ok (.istore_n 3, 1) := by decide +kernel
theorem dX0_sightOf_56 : decode cX0_sightOf 56 = .ok (.iinc 4 1, 3) := by decide +kernel
theorem dX0_sightOf_59 : decode cX0_sightOf 59 = .ok (.goto (-54), 3) := by decide +kernel
theorem dX0_sightOf_62 : decode cX0_sightOf 62 = .ok (.iload_n 3, 1) := by decide +kernel
theorem dX0_sightOf_63 : decode cX0_sightOf 63 = .ok (.ireturn, 1) := by decide +kernel
theorem dX11_both_0 : decode cX11_both 0 = .ok (.aload_n 0, 1) := by decide +kernel
theorem dX11_both_1 : decode cX11_both 1 = .ok (.getfield 69, 3) := by decide +kernel
theorem dX11_both_4 : decode cX11_both 4 = .ok (.iload_n 1, 1) := by decide +kernel
theorem dX11_both_5 : decode cX11_both 5 = .ok (.invokevirtual 216, 3) := by decide +kernel
theorem dX11_both_8 : decode cX11_both 8 = .ok (.astore 4, 2) := by decide +kernel
theorem dX11_both_10 : decode cX11_both 10 = .ok (.aload_n 0, 1) := by decide +kernel
theorem dX11_both_11 : decode cX11_both 11 = .ok (.getfield 69, 3) := by decide +kernel
theorem dX11_both_14 : decode cX11_both 14 = .ok (.iload_n 2, 1) := by decide +kernel
theorem dX11_both_15 : decode cX11_both 15 = .ok (.invokevirtual 216, 3) := by decide +kernel
theorem dX11_both_18 : decode cX11_both 18 = .ok (.astore 5, 2) := by decide +kernel
theorem dX11_both_20 : decode cX11_both 20 = .ok (.aload 4, 2) := by decide +kernel
theorem dX11_both_22 : decode cX11_both 22 = .ok (.ifnull 23, 3) := by decide +kernel
theorem dX11_both_25 : decode cX11_both 25 = .ok (.aload 5, 2) := by decide +kernel
theorem dX11_both_27 : decode cX11_both 27 = .ok (.ifnull 18, 3) := by decide +kernel
theorem dX11_both_30 : decode cX11_both 30 = .ok (.iload_n 1, 1) := by decide +kernel
theorem dX11_both_31 : decode cX11_both 31 = .ok (.iload_n 2, 1) := by decide +kernel
theorem dX11_both_32 : decode cX11_both 32 = .ok (.if_icmp .eq 13, 3) := by decide +kernel
theorem dX11_both_35 : decode cX11_both 35 = .ok (.iload_n 3, 1) := by decide +kernel
theorem dX11_both_36 : decode cX11_both 36 = .ok (.ifCond .lt 9, 3) := by decide +kernel
theorem dX11_both_39 : decode cX11_both 39 = .ok (.iload_n 3, 1) := by decide +kernel
theorem dX11_both_40 : decode cX11_both 40 = .ok (.bipush 40, 2) := by decide +kernel
theorem dX11_both_42 : decode cX11_both 42 = .ok (.if_icmp .le 9, 3) := by decide +kernel
theorem dX11_both_45 : decode cX11_both 45 = .ok (.aload_n 0, 1) := by decide +kernel
theorem dX11_both_46 : decode cX11_both 46 = .ok (.iconst 1, 1) := by decide +kernel
theorem dX11_both_47 : decode cX11_both 47 = .ok (.invokevirtual 100, 3) := by decide +kernel
theorem dX11_both_50 : decode cX11_both 50 = .ok (.ireturn, 1) := by decide +kernel
theorem dX11_both_51 : decode cX11_both 51 = .ok (.aload_n 0, 1) := by decide +kernel
theorem dX11_both_52 : decode cX11_both 52 = .ok (.aload_n 0, 1) := by decide +kernel
theorem dX11_both_53 : decode cX11_both 53 = .ok (.getfield 69, 3) := by decide +kernel
theorem dX11_both_56 : decode cX11_both 56 = .ok (.aload 4, 2) := by decide +kernel
theorem dX11_both_58 : decode cX11_both 58 = .ok (.iload_n 3, 1) := by decide +kernel
theorem dX11_both_59 : decode cX11_both 59 = .ok (.invokevirtual 338, 3) := by decide +kernel
theorem dX11_both_62 : decode cX11_both 62 = .ok (.aload_n 0, 1) := by decide +kernel
theorem dX11_both_63 : decode cX11_both 63 = .ok (.getfield 69, 3) := by decide +kernel
theorem dX11_both_66 : decode cX11_both 66 = .ok (.aload 5, 2) := by decide +kernel
theorem dX11_both_68 : decode cX11_both 68 = .ok (.iload_n 3, 1) := by decide +kernel
theorem dX11_both_69 : decode cX11_both 69 = .ok (.invokevirtual 338, 3) := by decide +kernel
theorem dX11_both_72 : decode cX11_both 72 = .ok (.iand, 1) := by decide +kernel
theorem dX11_both_73 : decode cX11_both 73 = .ok (.invokevirtual 96, 3) := by decide +kernel
theorem dX11_both_76 : decode cX11_both 76 = .ok (.ireturn, 1) := by decide +kernel
theorem dX11_bottom_0 : decode cX11_bottom 0 = .ok (.aload_n 0, 1) := by decide +kernel
theorem dX11_bottom_1 : decode cX11_bottom 1 = .ok (.getfield 84, 3) := by decide +kernel
theorem dX11_bottom_4 : decode cX11_bottom 4 = .ok (.lreturn, 1) := by decide +kernel
theorem dX0_leftmostFrom_0 : decode cX0_leftmostFrom 0 = .ok (.iconst (-1), 1) := by decide +kernel
theorem dX0_leftmostFrom_1 : decode cX0_leftmostFrom 1 = .ok (.istore_n 2, 1) := by decide +kernel
theorem dX0_leftmostFrom_2 : decode cX0_leftmostFrom 2 = .ok (.iconst 0, 1) := by decide +kernel
theorem dX0_leftmostFrom_3 : decode cX0_leftmostFrom 3 = .ok (.istore_n 3, 1) := by decide +kernel
theorem dX0_leftmostFrom_4 : decode cX0_leftmostFrom 4 = .ok (.iload_n 3, 1) := by decide +kernel
theorem dX0_leftmostFrom_5 : decode cX0_leftmostFrom 5 = .ok (.aload_n 0, 1) := by decide +kernel
theorem dX0_leftmostFrom_6 : decode cX0_leftmostFrom 6 = .ok (.getfield 47, 3) := by decide +kernel
theorem dX0_leftmostFrom_9 : decode cX0_leftmostFrom 9 = .ok (.if_icmp .ge 54, 3) := by decide +kernel
theorem dX0_leftmostFrom_12 : decode cX0_leftmostFrom 12 = .ok (.aload_n 0, 1) := by decide +kernel
theorem dX0_leftmostFrom_13 : decode cX0_leftmostFrom 13 = .ok (.getfield 19, 3) := by decide +kernel
theorem dX0_leftmostFrom_16 : decode cX0_leftmostFrom 16 = .ok (.iload_n 3, 1) := by decide +kernel
theorem dX0_leftmostFrom_17 : decode cX0_leftmostFrom 17 = .ok (.aaload, 1) := by decide +kernel
theorem dX0_leftmostFrom_18 : decode cX0_leftmostFrom 18 = .ok (.astore 4, 2) := by decide +kernel
theorem dX0_leftmostFrom_20 : decode cX0_leftmostFrom 20 = .ok (.aload 4, 2) := by decide +kernel
theorem dX0_leftmostFrom_22 : decode cX0_leftmostFrom 22 = .ok (.getfield 84, 3) := by decide +kernel
theorem dX0_leftmostFrom_25 : decode cX0_leftmostFrom 25 = .ok (.ifCond .eq 32, 3) := by decide +kernel
theorem dX0_leftmostFrom_28 : decode cX0_leftmostFrom 28 = .ok (.aload 4, 2) := by decide +kernel
theorem dX0_leftmostFrom_30 : decode cX0_leftmostFrom 30 = .ok (.getfield 80, 3) := by decide +kernel
theorem dX0_leftmostFrom_33 : decode cX0_leftmostFrom 33 = .ok (.iload_n 1, 1) := by decide +kernel
theorem dX0_leftmostFrom_34 : decode cX0_leftmostFrom 34 = .ok (.if_icmp .lt 23, 3) := by decide +kernel
theorem dX0_leftmostFrom_37 : decode cX0_leftmostFrom 37 = .ok (.iload_n 2, 1) := by decide +kernel
theorem dX0_leftmostFrom_38 : decode cX0_leftmostFrom 38 = .ok (.iconst (-1), 1) := by decide +kernel
theorem dX0_leftmostFrom_39 : decode cX0_leftmostFrom 39 = .ok (.if_icmp .eq 12, 3) := by decide +kernel
theorem dX0_leftmostFrom_42 : decode cX0_leftmostFrom 42 = .ok (.aload 4, 2) := by decide +kernel
theorem dX0_leftmostFrom_44 : decode cX0_leftmostFrom 44 = .ok (.getfield 80, 3) := by decide +kernel
theorem dX0_leftmostFrom_47 : decode cX0_leftmostFrom 47 = .ok (.iload_n 2, 1) := by decide +kernel
theorem dX0_leftmostFrom_48 : decode cX0_leftmostFrom 48 = .ok (.if_icmp .ge 9, 3) := by decide +kernel
theorem dX0_leftmostFrom_51 : decode cX0_leftmostFrom 51 = .ok (.aload 4, 2) := by decide +kernel
theorem dX0_leftmostFrom_53 : decode cX0_leftmostFrom 53 = .ok (.getfield 80, 3) := by decide +kernel
theorem dX0_leftmostFrom_56 : decode cX0_leftmostFrom 56 = .ok (.istore_n 2, 1) := by decide +kernel
theorem dX0_leftmostFrom_57 : decode cX0_leftmostFrom 57 = .ok (.iinc 3 1, 3) := by decide +kernel
theorem dX0_leftmostFrom_60 : decode cX0_leftmostFrom 60 = .ok (.goto (-56), 3) := by decide +kernel
theorem dX0_leftmostFrom_63 : decode cX0_leftmostFrom 63 = .ok (.iload_n 2, 1) := by decide +kernel
theorem dX0_leftmostFrom_64 : decode cX0_leftmostFrom 64 = .ok (.ireturn, 1) := by decide +kernel
theorem dX0_boyCell_0 : decode cX0_boyCell 0 = .ok (.iconst (-1), 1) := by decide +kernel
theorem dX0_boyCell_1 : decode cX0_boyCell 1 = .ok (.istore_n 3, 1) := by decide +kernel
theorem dX0_boyCell_2 : decode cX0_boyCell 2 = .ok (.iconst 0, 1) := by decide +kernel
theorem dX0_boyCell_3 : decode cX0_boyCell 3 = .ok (.istore 4, 2) := by decide +kernel
theorem dX0_boyCell_5 : decode cX0_boyCell 5 = .ok (.iconst 0, 1) := by decide +kernel
theorem dX0_boyCell_6 : decode cX0_boyCell 6 = .ok (.istore 5, 2) := by decide +kernel
theorem dX0_boyCell_8 : decode cX0_boyCell 8 = .ok (.iload 5, 2) := by decide +kernel
theorem dX0_boyCell_10 : decode cX0_boyCell 10 = .ok (.iload_n 2, 1) := by decide +kernel
theorem dX0_boyCell_11 : decode cX0_boyCell 11 = .ok (.if_icmp .gt 53, 3) := by decide +kernel
theorem dX0_boyCell_14 : decode cX0_boyCell 14 = .ok (.iload 5, 2) := by decide +kernel
theorem dX0_boyCell_16 : decode cX0_boyCell 16 = .ok (.bipush 8, 2) := by decide +kernel
theorem dX0_boyCell_18 : decode cX0_boyCell 18 = .ok (.if_icmp .gt 46, 3) := by decide +kernel
theorem dX0_boyCell_21 : decode cX0_boyCell 21 = .ok (.aload_n 0, 1) := by decide +kernel
theorem dX0_boyCell_22 : decode cX0_boyCell 22 = .ok (.iload 4, 2) := by decide +kernel
theorem dX0_boyCell_24 : decode cX0_boyCell 24 = .ok (.invokevirtual 194, 3) := by decide +kernel
theorem dX0_boyCell_27 : decode cX0_boyCell 27 = .ok (.istore 6, 2) := by decide +kernel
theorem dX0_boyCell_29 : decode cX0_boyCell 29 = .ok (.iload 6, 2) := by decide +kernel
theorem dX0_boyCell_31 : decode cX0_boyCell 31 = .ok (.iconst (-1), 1) := by decide +kernel
theorem dX0_boyCell_32 : decode cX0_boyCell 32 = .ok (.if_icmp .ne 5, 3) := by decide +kernel
theorem dX0_boyCell_35 : decode cX0_boyCell 35 = .ok (.iconst (-1), 1) := by decide +kernel
theorem dX0_boyCell_36 : decode cX0_boyCell 36 = .ok (.ireturn, 1) := by decide +kernel
theorem dX0_boyCell_37 : decode cX0_boyCell 37 = .ok (.iload 6, 2) := by decide +kernel
theorem dX0_boyCell_39 : decode cX0_boyCell 39 = .ok (.iload_n 1, 1) := by decide +kernel
theorem dX0_boyCell_40 : decode cX0_boyCell 40 = .ok (.iadd, 1) := by decide +kernel
theorem dX0_boyCell_41 : decode cX0_boyCell 41 = .ok (.aload_n 0, 1) := by decide +kernel
theorem dX0_boyCell_42 : decode cX0_boyCell 42 = .ok (.getfield 28, 3) := by decide +kernel
theorem dX0_boyCell_45 : decode cX0_boyCell 45 = .ok (.iconst 1, 1) := by decide +kernel
theorem dX0_boyCell_46 : decode cX0_boyCell 46 = .ok (.isub, 1) := by decide +kernel
theorem dX0_boyCell_47 : decode cX0_boyCell 47 = .ok (.invokestatic 197, 3) := by decide +kernel
theorem dX0_boyCell_50 : decode cX0_boyCell 50 = .ok (.istore_n 3, 1) := by decide +kernel
theorem dX0_boyCell_51 : decode cX0_boyCell 51 = .ok (.iload_n 3, 1) := by decide +kernel
theorem dX0_boyCell_52 : decode cX0_boyCell 52 = .ok (.iload_n 1, 1) := by decide +kernel
theorem dX0_boyCell_53 : decode cX0_boyCell 53 = .ok (.iadd, 1) := by decide +kernel
theorem dX0_boyCell_54 : decode cX0_boyCell 54 = .ok (.iconst 1, 1) := by decide +kernel
theorem dX0_boyCell_55 : decode cX0_boyCell 55 = .ok (.iadd, 1) := by decide +kernel
theorem dX0_boyCell_56 : decode cX0_boyCell 56 = .ok (.istore 4, 2) := by decide +kernel
theorem dX0_boyCell_58 : decode cX0_boyCell 58 = .ok (.iinc 5 1, 3) := by decide +kernel
theorem dX0_boyCell_61 : decode cX0_boyCell 61 = .ok (.goto (-53), 3) := by decide +kernel
theorem dX0_boyCell_64 : decode cX0_boyCell 64 = .ok (.iload_n 3, 1) := by decide +kernel
theorem dX0_boyCell_65 : decode cX0_boyCell 65 = .ok (.ireturn, 1) := by decide +kernel
theorem dX11_boyAt_0 : decode cX11_boyAt 0 = .ok (.iload_n 1, 1) := by decide +kernel
theorem dX11_boyAt_1 : decode cX11_boyAt 1 = .ok (.ifCond .lt 9, 3) := by decide +kernel
theorem dX11_boyAt_4 : decode cX11_boyAt 4 = .ok (.iload_n 1, 1) := by decide +kernel
theorem dX11_boyAt_5 : decode cX11_boyAt 5 = .ok (.bipush 40, 2) := by decide +kernel
theorem dX11_boyAt_7 : decode cX11_boyAt 7 = .ok (.if_icmp .le 9, 3) := by decide +kernel
theorem dX11_boyAt_10 : decode cX11_boyAt 10 = .ok (.aload_n 0, 1) := by decide +kernel
theorem dX11_boyAt_11 : decode cX11_boyAt 11 = .ok (.iconst 1, 1) := by decide +kernel
theorem dX11_boyAt_12 : decode cX11_boyAt 12 = .ok (.invokevirtual 100, 3) := by decide +kernel
theorem dX11_boyAt_15 : decode cX11_boyAt 15 = .ok (.ireturn, 1) := by decide +kernel
theorem dX11_boyAt_16 : decode cX11_boyAt 16 = .ok (.aload_n 0, 1) := by decide +kernel
theorem dX11_boyAt_17 : decode cX11_boyAt 17 = .ok (.getfield 69, 3) := by decide +kernel
theorem dX11_boyAt_20 : decode cX11_boyAt 20 = .ok (.iload_n 1, 1) := by decide +kernel
theorem dX11_boyAt_21 : decode cX11_boyAt 21 = .ok (.iload_n 2, 1) := by decide +kernel
theorem dX11_boyAt_22 : decode cX11_boyAt 22 = .ok (.invokevirtual 342, 3) := by decide +kernel
theorem dX11_boyAt_25 : decode cX11_boyAt 25 = .ok (.istore_n 3, 1) := by decide +kernel
theorem dX11_boyAt_26 : decode cX11_boyAt 26 = .ok (.iload_n 3, 1) := by decide +kernel
theorem dX11_boyAt_27 : decode cX11_boyAt 27 = .ok (.iconst (-1), 1) := by decide +kernel
theorem dX11_boyAt_28 : decode cX11_boyAt 28 = .ok (.if_icmp .ne 12, 3) := by decide +kernel
theorem dX11_boyAt_31 : decode cX11_boyAt 31 = .ok (.aload_n 0, 1) := by decide +kernel
theorem dX11_boyAt_32 : decode cX11_boyAt 32 = .ok (.bipush 6, 2) := by decide +kernel
theorem dX11_boyAt_34 : decode cX11_boyAt 34 = .ok (.invokevirtual 100, 3) := by decide +kernel
theorem dX11_boyAt_37 : decode cX11_boyAt 37 = .ok (.goto 8, 3) := by decide +kernel
theorem dX11_boyAt_40 : decode cX11_boyAt 40 = .ok (.aload_n 0, 1) := by decide +kernel
theorem dX11_boyAt_41 : decode cX11_boyAt 41 = .ok (.iload_n 3, 1) := by decide +kernel
theorem dX11_boyAt_42 : decode cX11_boyAt 42 = .ok (.invokevirtual 96, 3) := by decide +kernel
theorem dX11_boyAt_45 : decode cX11_boyAt 45 = .ok (.ireturn, 1) := by decide +kernel
theorem dX11_boys_0 : decode cX11_boys 0 = .ok (.iload_n 1, 1) := by decide +kernel
theorem dX11_boys_1 : decode cX11_boys 1 = .ok (.ifCond .lt 9, 3) := by decide +kernel
theorem dX11_boys_4 : decode cX11_boys 4 = .ok (.iload_n 1, 1) := by decide +kernel
theorem dX11_boys_5 : decode cX11_boys 5 = .ok (.bipush 40, 2) := by decide +kernel
theorem dX11_boys_7 : decode cX11_boys 7 = .ok (.if_icmp .le 9, 3) := by decide +kernel
theorem dX11_boys_10 : decode cX11_boys 10 = .ok (.aload_n 0, 1) := by decide +kernel
theorem dX11_boys_11 : decode cX11_boys 11 = .ok (.iconst 1, 1) := by decide +kernel
theorem dX11_boys_12 : decode cX11_boys 12 = .ok (.invokevirtual 100, 3) := by decide +kernel
theorem dX11_boys_15 : decode cX11_boys 15 = .ok (.ireturn, 1) := by decide +kernel
theorem dX11_boys_16 : decode cX11_boys 16 = .ok (.iconst 0, 1) := by decide +kernel
theorem dX11_boys_17 : decode cX11_boys 17 = .ok (.istore_n 2, 1) := by decide +kernel
theorem dX11_boys_18 : decode cX11_boys 18 = .ok (.iload_n 2, 1) := by decide +kernel
theorem dX11_boys_19 : decode cX11_boys 19 = .ok (.bipush 8, 2) := by decide +kernel
theorem dX11_boys_21 : decode cX11_boys 21 = .ok (.if_icmp .ge 22, 3) := by decide +kernel
theorem dX11_boys_24 : decode cX11_boys 24 = .ok (.aload_n 0, 1) := by decide +kernel
theorem dX11_boys_25 : decode cX11_boys 25 = .ok (.getfield 69, 3) := by decide +kernel
theorem dX11_boys_28 : decode cX11_boys 28 = .ok (.iload_n 1, 1) := by decide +kernel
theorem dX11_boys_29 : decode cX11_boys 29 = .ok (.iload_n 2, 1) := by decide +kernel
theorem dX11_boys_30 : decode cX11_boys 30 = .ok (.invokevirtual 342, 3) := by decide +kernel
theorem dX11_boys_33 : decode cX11_boys 33 = .ok (.iconst (-1), 1) := by decide +kernel
theorem dX11_boys_34 : decode cX11_boys 34 = .ok (.if_icmp .eq 9, 3) := by decide +kernel
theorem dX11_boys_37 : decode cX11_boys 37 = .ok (.iinc 2 1, 3) := by decide +kernel
theorem dX11_boys_40 : decode cX11_boys 40 = .ok (.goto (-22), 3) := by decide +kernel
theorem dX11_boys_43 : decode cX11_boys 43 = .ok (.aload_n 0, 1) := by decide +kernel
theorem dX11_boys_44 : decode cX11_boys 44 = .ok (.iload_n 2, 1) := by decide +kernel
theorem dX11_boys_45 : decode cX11_boys 45 = .ok (.invokevirtual 96, 3) := by decide +kernel
theorem dX11_boys_48 : decode cX11_boys 48 = .ok (.ireturn, 1) := by decide +kernel
theorem dX4_tallyOf_0 : decode cX4_tallyOf 0 = .ok (.iconst 0, 1) := by decide +kernel
theorem dX4_tallyOf_1 : decode cX4_tallyOf 1 = .ok (.istore_n 2, 1) := by decide +kernel
theorem dX4_tallyOf_2 : decode cX4_tallyOf 2 = .ok (.iconst 0, 1) := by decide +kernel
theorem dX4_tallyOf_3 : decode cX4_tallyOf 3 = .ok (.istore_n 3, 1) := by decide +kernel
theorem dX4_tallyOf_4 : decode cX4_tallyOf 4 = .ok (.iload_n 3, 1) := by decide +kernel
theorem dX4_tallyOf_5 : decode cX4_tallyOf 5 = .ok (.aload_n 0, 1) := by decide +kernel
theorem dX4_tallyOf_6 : decode cX4_tallyOf 6 = .ok (.getfield 35, 3) := by decide +kernel
theorem dX4_tallyOf_9 : decode cX4_tallyOf 9 = .ok (.if_icmp .ge 22, 3) := by decide +kernel
theorem dX4_tallyOf_12 : decode cX4_tallyOf 12 = .ok (.aload_n 0, 1) := by decide +kernel
theorem dX4_tallyOf_13 : decode cX4_tallyOf 13 = .ok (.getfield 11, 3) := by decide +kernel
theorem dX4_tallyOf_16 : decode cX4_tallyOf 16 = .ok (.iload_n 3, 1) := by decide +kernel
theorem dX4_tallyOf_17 : decode cX4_tallyOf 17 = .ok (.iaload, 1) := by decide +kernel
theorem dX4_tallyOf_18 : decode cX4_tallyOf 18 = .ok (.iload_n 1, 1) := by decide +kernel
theorem dX4_tallyOf_19 : decode cX4_tallyOf 19 = .ok (.if_icmp .ne 6, 3) := by decide +kernel
theorem dX4_tallyOf_22 : decode cX4_tallyOf 22 = .ok (.iinc 2 1, 3) := by decide +kernel
theorem dX4_tallyOf_25 : decode cX4_tallyOf 25 = .ok (.iinc 3 1, 3) := by decide +kernel
theorem dX4_tallyOf_28 : decode cX4_tallyOf 28 = .ok (.goto (-24), 3) := by decide +kernel
theorem dX4_tallyOf_31 : decode cX4_tallyOf 31 = .ok (.iload_n 2, 1) := by decide +kernel
theorem dX4_tallyOf_32 : decode cX4_tallyOf 32 = .ok (.ireturn, 1) := by decide +kernel
theorem dX0_strewnBy_0 : decode cX0_strewnBy 0 = .ok (.iconst 0, 1) := by decide +kernel
theorem dX0_strewnBy_1 : decode cX0_strewnBy 1 = .ok (.istore_n 2, 1) := by decide +kernel
theorem dX0_strewnBy_2 : decode cX0_strewnBy 2 = .ok (.iconst 0, 1) := by decide +kernel
theorem dX0_strewnBy_3 : decode cX0_strewnBy 3 = .ok (.istore_n 3, 1) := by decide +kernel
theorem dX0_strewnBy_4 : decode cX0_strewnBy 4 = .ok (.iload_n 3, 1) := by decide +kernel
theorem dX0_strewnBy_5 : decode cX0_strewnBy 5 = .ok (.aload_n 0, 1) := by decide +kernel
theorem dX0_strewnBy_6 : decode cX0_strewnBy 6 = .ok (.getfield 47, 3) := by decide +kernel
theorem dX0_strewnBy_9 : decode cX0_strewnBy 9 = .ok (.if_icmp .ge 22, 3) := by decide +kernel
theorem dX0_strewnBy_12 : decode cX0_strewnBy 12 = .ok (.iload_n 2, 1) := by decide +kernel
theorem dX0_strewnBy_13 : decode cX0_strewnBy 13 = .ok (.aload_n 0, 1) := by decide +kernel
theorem dX0_strewnBy_14 : decode cX0_strewnBy 14 = .ok (.getfield 19, 3) := by decide +kernel
theorem dX0_strewnBy_17 : decode cX0_strewnBy 17 = .ok (.iload_n 3, 1) := by decide +kernel
theorem dX0_strewnBy_18 : decode cX0_strewnBy 18 = .ok (.aaload, 1) := by decide +kernel
theorem dX0_strewnBy_19 : decode cX0_strewnBy 19 = .ok (.iload_n 1, 1) := by decide +kernel
theorem dX0_strewnBy_20 : decode cX0_strewnBy 20 = .ok (.invokevirtual 182, 3) := by decide +kernel
theorem dX0_strewnBy_23 : decode cX0_strewnBy 23 = .ok (.iadd, 1) := by decide +kernel
theorem dX0_strewnBy_24 : decode cX0_strewnBy 24 = .ok (.istore_n 2, 1) := by decide +kernel
theorem dX0_strewnBy_25 : decode cX0_strewnBy 25 = .ok (.iinc 3 1, 3) := by decide +kernel
theorem dX0_strewnBy_28 : decode cX0_strewnBy 28 = .ok (.goto (-24), 3) := by decide +kernel
theorem dX0_strewnBy_31 : decode cX0_strewnBy 31 = .ok (.iload_n 2, 1) := by decide +kernel
theorem dX0_strewnBy_32 : decode cX0_strewnBy 32 = .ok (.ireturn, 1) := by decide +kernel
theorem dX11_busiest_0 : decode cX11_busiest 0 = .ok (.iconst (-1), 1) := by decide +kernel
theorem dX11_busiest_1 : decode cX11_busiest 1 = .ok (.istore_n 1, 1) := by decide +kernel
theorem dX11_busiest_2 : decode cX11_busiest 2 = .ok (.iconst (-1), 1) := by decide +kernel
theorem dX11_busiest_3 : decode cX11_busiest 3 = .ok (.istore_n 2, 1) := by decide +kernel
theorem dX11_busiest_4 : decode cX11_busiest 4 = .ok (.iconst 0, 1) := by decide +kernel
theorem dX11_busiest_5 : decode cX11_busiest 5 = .ok (.istore_n 3, 1) := by decide +kernel
theorem dX11_busiest_6 : decode cX11_busiest 6 = .ok (.iload_n 3, 1) := by decide +kernel
theorem dX11_busiest_7 : decode cX11_busiest 7 = .ok (.aload_n 0, 1) := by decide +kernel
theorem dX11_busiest_8 : decode cX11_busiest 8 = .ok (.getfield 69, 3) := by decide +kernel
theorem dX11_busiest_11 : decode cX11_busiest 11 = .ok (.getfield 194, 3) := by decide +kernel
theorem dX11_busiest_14 : decode cX11_busiest 14 = .ok (.if_icmp .ge 30, 3) := by decide +kernel
theorem dX11_busiest_17 : decode cX11_busiest 17 = .ok (.aload_n 0, 1) := by decide +kernel
theorem dX11_busiest_18 : decode cX11_busiest 18 = .ok (.getfield 69, 3) := by decide +kernel
theorem dX11_busiest_21 : decode cX11_busiest 21 = .ok (.iload_n 3, 1) := by decide +kernel
theorem dX11_busiest_22 : decode cX11_busiest 22 = .ok (.invokevirtual 312, 3) := by decide +kernel
theorem dX11_busiest_25 : decode cX11_busiest 25 = .ok (.istore 4, 2) := by decide +kernel
theorem dX11_busiest_27 : decode cX11_busiest 27 = .ok (.iload 4, 2) := by decide +kernel
theorem dX11_busiest_29 : decode cX11_busiest 29 = .ok (.iload_n 2, 1) := by decide +kernel
theorem dX11_busiest_30 : decode cX11_busiest 30 = .ok (.if_icmp .le 8, 3) := by decide +kernel
theorem dX11_busiest_33 : decode cX11_busiest 33 = .ok (.iload 4, 2) := by decide +kernel
theorem dX11_busiest_35 : decode cX11_busiest 35 = .ok (.istore_n 2, 1) := by decide +kernel
theorem dX11_busiest_36 : decode cX11_busiest 36 = .ok (.iload_n 3, 1) := by decide +kernel
theorem dX11_busiest_37 : decode cX11_busiest 37 = .ok (.istore_n 1, 1) := by decide +kernel
theorem dX11_busiest_38 : decode cX11_busiest 38 = .ok (.iinc 3 1, 3) := by decide +kernel
theorem dX11_busiest_41 : decode cX11_busiest 41 = .ok (.goto (-35), 3) := by decide +kernel
theorem dX11_busiest_44 : decode cX11_busiest 44 = .ok (.iload_n 1, 1) := by decide +kernel
theorem dX11_busiest_45 : decode cX11_busiest 45 = .ok (.iconst (-1), 1) := by decide +kernel
theorem dX11_busiest_46 : decode cX11_busiest 46 = .ok (.if_icmp .ne 12, 3) := by decide +kernel
theorem dX11_busiest_49 : decode cX11_busiest 49 = .ok (.aload_n 0, 1) := by decide +kernel
theorem dX11_busiest_50 : decode cX11_busiest 50 = .ok (.bipush 6, 2) := by decide +kernel
theorem dX11_busiest_52 : decode cX11_busiest 52 = .ok (.invokevirtual 100, 3) := by decide +kernel
theorem dX11_busiest_55 : decode cX11_busiest 55 = .ok (.goto 8, 3) := by decide +kernel
theorem dX11_busiest_58 : decode cX11_busiest 58 = .ok (.aload_n 0, 1) := by decide +kernel
theorem dX11_busiest_59 : decode cX11_busiest 59 = .ok (.iload_n 1, 1) := by decide +kernel
theorem dX11_busiest_60 : decode cX11_busiest 60 = .ok (.invokevirtual 96, 3) := by decide +kernel
theorem dX11_busiest_63 : decode cX11_busiest 63 = .ok (.ireturn, 1) := by decide +kernel
theorem dX0_findersIn_0 : decode cX0_findersIn 0 = .ok (.iconst 0, 1) := by decide +kernel
theorem dX0_findersIn_1 : decode cX0_findersIn 1 = .ok (.istore_n 3, 1) := by decide +kernel
theorem dX0_findersIn_2 : decode cX0_findersIn 2 = .ok (.iconst 0, 1) := by decide +kernel
theorem dX0_findersIn_3 : decode cX0_findersIn 3 = .ok (.istore 4, 2) := by decide +kernel
theorem dX0_findersIn_5 : decode cX0_findersIn 5 = .ok (.iload 4, 2) := by decide +kernel
theorem dX0_findersIn_7 : decode cX0_findersIn 7 = .ok (.aload_n 0, 1) := by decide +kernel
theorem dX0_findersIn_8 : decode cX0_findersIn 8 = .ok (.getfield 44, 3) := by decide +kernel
theorem dX0_findersIn_11 : decode cX0_findersIn 11 = .ok (.if_icmp .ge 42, 3) := by decide +kernel
theorem dX0_findersIn_14 : decode cX0_findersIn 14 = .ok (.aload_n 0, 1) := by decide +kernel
theorem dX0_findersIn_15 : decode cX0_findersIn 15 = .ok (.getfield 13, 3) := by decide +kernel
theorem dX0_findersIn_18 : decode cX0_findersIn 18 = .ok (.iload 4, 2) := by decide +kernel
theorem dX0_findersIn_20 : decode cX0_findersIn 20 = .ok (.aaload, 1) := by decide +kernel
theorem dX0_findersIn_21 : decode cX0_findersIn 21 = .ok (.getfield 64, 3) := by decide +kernel
theorem dX0_findersIn_24 : decode cX0_findersIn 24 = .ok (.iload_n 1, 1) := by decide +kernel
theorem dX0_findersIn_25 : decode cX0_findersIn 25 = .ok (.if_icmp .lt 22, 3) := by decide +kernel
theorem dX0_findersIn_28 : decode cX0_findersIn 28 = .ok (.aload_n 0, 1) := by decide +kernel
theorem dX0_findersIn_29 : decode cX0_findersIn 29 = .ok (.getfield 13, 3) := by decide +kernel
theorem dX0_findersIn_32 : decode cX0_findersIn 32 = .ok (.iload 4, 2) := by decide +kernel
theorem dX0_findersIn_34 : decode cX0_findersIn 34 = .ok (.aaload, 1) := by decide +kernel
theorem dX0_findersIn_35 : decode cX0_findersIn 35 = .ok (.getfield 64, 3) := by decide +kernel
theorem dX0_findersIn_38 : decode cX0_findersIn 38 = .ok (.iload_n 1, 1) := by decide +kernel
theorem dX0_findersIn_39 : decode cX0_findersIn 39 = .ok (.iload_n 2, 1) := by decide +kernel
theorem dX0_findersIn_40 : decode cX0_findersIn 40 = .ok (.iadd, 1) := by decide +kernel
theorem dX0_findersIn_41 : decode cX0_findersIn 41 = .ok (.if_icmp .ge 6, 3) := by decide +kernel
theorem dX0_findersIn_44 : decode cX0_findersIn 44 = .ok (.iinc 3 1, 3) := by decide +kernel
theorem dX0_findersIn_47 : decode cX0_findersIn 47 = .ok (.iinc 4 1, 3) := by decide +kernel
theorem dX0_findersIn_50 : decode cX0_findersIn 50 = .ok (.goto (-45), 3) := by decide +kernel
theorem dX0_findersIn_53 : decode cX0_findersIn 53 = .ok (.iload_n 3, 1) := by decide +kernel
theorem dX0_findersIn_54 : decode cX0_findersIn 54 = .ok (.ireturn, 1) := by decide +kernel
theorem dX11_crowd_0 : decode cX11_crowd 0 = .ok (.iload_n 1, 1) := by decide +kernel
theorem dX11_crowd_1 : decode cX11_crowd 1 = .ok (.iconst 1, 1) := by decide +kernel
theorem dX11_crowd_2 : decode cX11_crowd 2 = .ok (.if_icmp .lt 9, 3) := by decide +kernel
theorem dX11_crowd_5 : decode cX11_crowd 5 = .ok (.iload_n 1, 1) := by decide +kernel
theorem dX11_crowd_6 : decode cX11_crowd 6 = .ok (.bipush 40, 2) := by decide +kernel
theorem dX11_crowd_8 : decode cX11_crowd 8 = .ok (.if_icmp .le 9, 3) := by decide +kernel
theorem dX11_crowd_11 : decode cX11_crowd 11 = .ok (.aload_n 0, 1) := by decide +kernel
theorem dX11_crowd_12 : decode cX11_crowd 12 = .ok (.iconst 1, 1) := by decide +kernel
theorem dX11_crowd_13 : decode cX11_crowd 13 = .ok (.invokevirtual 100, 3) := by decide +kernel
theorem dX11_crowd_16 : decode cX11_crowd 16 = .ok (.ireturn, 1) := by decide +kernel
theorem dX11_crowd_17 : decode cX11_crowd 17 = .ok (.iconst 0, 1) := by decide +kernel
theorem dX11_crowd_18 : decode cX11_crowd 18 = .ok (.istore_n 2, 1) := by decide +kernel
theorem dX11_crowd_19 : decode cX11_crowd 19 = .ok (.iconst 0, 1) := by decide +kernel
theorem dX11_crowd_20 : decode cX11_crowd 20 = .ok (.istore_n 3, 1) := by decide +kernel
theorem dX11_crowd_21 : decode cX11_crowd 21 = .ok (.iload_n 3, 1) := by decide +kernel
theorem dX11_crowd_22 : decode cX11_crowd 22 = .ok (.aload_n 0, 1) := by decide +kernel
theorem dX11_crowd_23 : decode cX11_crowd 23 = .ok (.getfield 69, 3) := by decide +kernel
theorem dX11_crowd_26 : decode cX11_crowd 26 = .ok (.getfield 191, 3) := by decide +kernel
theorem dX11_crowd_29 : decode cX11_crowd 29 = .ok (.if_icmp .ge 23, 3) := by decide +kernel
theorem dX11_crowd_32 : decode cX11_crowd 32 = .ok (.iload_n 2, 1) := by decide +kernel
theorem dX11_crowd_33 : decode cX11_crowd 33 = .ok (.aload_n 0, 1) := by decide +kernel
theorem dX11_crowd_34 : decode cX11_crowd 34 = .ok (.getfield 69, 3) := by decide +kernel
theorem dX11_crowd_37 : decode cX11_crowd 37 = .ok (.iload_n 3, 1) := by decide +kernel
theorem dX11_crowd_38 : decode cX11_crowd 38 = .ok (.iload_n 1, 1) := by decide +kernel
theorem dX11_crowd_39 : decode cX11_crowd 39 = .ok (.invokevirtual 380, 3) := by decide +kernel
theorem dX11_crowd_42 : decode cX11_crowd 42 = .ok (.invokestatic 360, 3) := by decide +kernel
theorem dX11_crowd_45 : decode cX11_crowd 45 = .ok (.istore_n 2, 1) := by decide +kernel
theorem dX11_crowd_46 : decode cX11_crowd 46 = .ok (.iinc 3 1, 3) := by decide +kernel
theorem dX11_crowd_49 : decode cX11_crowd 49 = .ok (.goto (-28), 3) := by decide +kernel
theorem dX11_crowd_52 : decode cX11_crowd 52 = .ok (.aload_n 0, 1) := by decide +kernel
theorem dX11_crowd_53 : decode cX11_crowd 53 = .ok (.iload_n 2, 1) := by decide +kernel
theorem dX11_crowd_54 : decode cX11_crowd 54 = .ok (.invokevirtual 96, 3) := by decide +kernel
theorem dX11_crowd_57 : decode cX11_crowd 57 = .ok (.ireturn, 1) := by decide +kernel
theorem dX0_done_0 : decode cX0_done 0 = .ok (.aload_n 0, 1) := by decide +kernel
theorem dX0_done_1 : decode cX0_done 1 = .ok (.iload_n 1, 1) := by decide +kernel
theorem dX0_done_2 : decode cX0_done 2 = .ok (.putfield 50, 3) := by decide +kernel
theorem dX0_done_5 : decode cX0_done 5 = .ok (.iconst 0, 1) := by decide +kernel
theorem dX0_done_6 : decode cX0_done 6 = .ok (.ireturn, 1) := by decide +kernel
theorem dX0_thereSet_0 : decode cX0_thereSet 0 = .ok (.iconst 0, 1) := by decide +kernel
theorem dX0_thereSet_1 : decode cX0_thereSet 1 = .ok (.istore_n 1, 1) := by decide +kernel
theorem dX0_thereSet_2 : decode cX0_thereSet 2 = .ok (.iconst 0, 1) := by decide +kernel
theorem dX0_thereSet_3 : decode cX0_thereSet 3 = .ok (.istore_n 2, 1) := by decide +kernel
theorem dX0_thereSet_4 : decode cX0_thereSet 4 = .ok (.iload_n 2, 1) := by decide +kernel
theorem dX0_thereSet_5 : decode cX0_thereSet 5 = .ok (.aload_n 0, 1) := by decide +kernel
theorem dX0_thereSet_6 : decode cX0_thereSet 6 = .ok (.getfield 47, 3) := by decide +kernel
theorem dX0_thereSet_9 : decode cX0_thereSet 9 = .ok (.if_icmp .ge 27, 3) := by decide +kernel
theorem dX0_thereSet_12 : decode cX0_thereSet 12 = .ok (.aload_n 0, 1) := by decide +kernel
theorem dX0_thereSet_13 : decode cX0_thereSet 13 = .ok (.getfield 19, 3) := by decide +kernel
theorem dX0_thereSet_16 : decode cX0_thereSet 16 = .ok (.iload_n 2, 1) := by decide +kernel
theorem dX0_thereSet_17 : decode cX0_thereSet 17 = .ok (.aaload, 1) := by decide +kernel
theorem dX0_thereSet_18 : decode cX0_thereSet 18 = .ok (.getfield 84, 3) := by decide +kernel
theorem dX0_thereSet_21 : decode cX0_thereSet 21 = .ok (.ifCond .eq 9, 3) := by decide +kernel
theorem dX0_thereSet_24 : decode cX0_thereSet 24 = .ok (.iload_n 1, 1) := by decide +kernel
theorem dX0_thereSet_25 : decode cX0_thereSet 25 = .ok (.iconst 1, 1) := by decide +kernel
theorem dX0_thereSet_26 : decode cX0_thereSet 26 = .ok (.iload_n 2, 1) := by decide +kernel
theorem dX0_thereSet_27 : decode cX0_thereSet 27 = .ok (.ishl, 1) := by decide +kernel
theorem dX0_thereSet_28 : decode cX0_thereSet 28 = .ok (.ior, 1) := by decide +kernel
theorem dX0_thereSet_29 : decode cX0_thereSet 29 = .ok (.istore_n 1, 1) := by decide +kernel
theorem dX0_thereSet_30 : decode cX0_thereSet 30 = .ok (.iinc 2 1, 3) := by decide +kernel
theorem dX0_thereSet_33 : decode cX0_thereSet 33 = .ok (.goto (-29), 3) := by decide +kernel
theorem dX0_thereSet_36 : decode cX0_thereSet 36 = .ok (.iload_n 1, 1) := by decide +kernel
theorem dX0_thereSet_37 : decode cX0_thereSet 37 = .ok (.ireturn, 1) := by decide +kernel
theorem dX0_comeDawn_0 : decode cX0_comeDawn 0 = .ok (.aload_n 0, 1) := by decide +kernel
theorem dX0_comeDawn_1 : decode cX0_comeDawn 1 = .ok (.invokevirtual 136, 3) := by decide +kernel
theorem dX0_comeDawn_4 : decode cX0_comeDawn 4 = .ok (.ifCond .eq 6, 3) := by decide +kernel
theorem dX0_comeDawn_7 : decode cX0_comeDawn 7 = .ok (.bipush 7, 2) := by decide +kernel
theorem dX0_comeDawn_9 : decode cX0_comeDawn 9 = .ok (.ireturn, 1) := by decide +kernel
theorem dX0_comeDawn_10 : decode cX0_comeDawn 10 = .ok (.iconst 0, 1) := by decide +kernel
theorem dX0_comeDawn_11 : decode cX0_comeDawn 11 = .ok (.istore_n 1, 1) := by decide +kernel
theorem dX0_comeDawn_12 : decode cX0_comeDawn 12 = .ok (.iload_n 1, 1) := by decide +kernel
theorem dX0_comeDawn_13 : decode cX0_comeDawn 13 = .ok (.aload_n 0, 1) := by decide +kernel
theorem dX0_comeDawn_14 : decode cX0_comeDawn 14 = .ok (.getfield 47, 3) := by decide +kernel
theorem dX0_comeDawn_17 : decode cX0_comeDawn 17 = .ok (.if_icmp .ge 19, 3) := by decide +kernel
theorem dX0_comeDawn_20 : decode cX0_comeDawn 20 = .ok (.aload_n 0, 1) := by decide +kernel
theorem dX0_comeDawn_21 : decode cX0_comeDawn 21 = .ok (.getfield 19, 3) := by decide +kernel
theorem dX0_comeDawn_24 : decode cX0_comeDawn 24 = .ok (.iload_n 1, 1) := by decide +kernel
theorem dX0_comeDawn_25 : decode cX0_comeDawn 25 = .ok (.aaload, 1) := by decide +kernel
theorem dX0_comeDawn_26 : decode cX0_comeDawn 26 = .ok (.iconst 1, 1) := by decide +kernel
theorem dX0_comeDawn_27 : decode cX0_comeDawn 27 = .ok (.putfield 84, 3) := by decide +kernel
theorem dX0_comeDawn_30 : decode cX0_comeDawn 30 = .ok (.iinc 1 1, 3) := by decide +kernel
theorem dX0_comeDawn_33 : decode cX0_comeDawn 33 = .ok (.goto (-21), 3) := by decide +kernel
theorem dX0_comeDawn_36 : decode cX0_comeDawn 36 = .ok (.aload_n 0, 1) := by decide +kernel
theorem dX0_comeDawn_37 : decode cX0_comeDawn 37 = .ok (.aload_n 0, 1) := by decide +kernel
theorem dX0_comeDawn_38 : decode cX0_comeDawn 38 = .ok (.getfield 47, 3) := by decide +kernel
theorem dX0_comeDawn_41 : decode cX0_comeDawn 41 = .ok (.invokevirtual 91, 3) := by decide +kernel
theorem dX0_comeDawn_44 : decode cX0_comeDawn 44 = .ok (.ireturn, 1) := by decide +kernel
theorem dX11_settle_0 : decode cX11_settle 0 = .ok (.iload_n 1, 1) := by decide +kernel
theorem dX11_settle_1 : decode cX11_settle 1 = .ok (.ifCond .ne 17, 3) := by decide +kernel
theorem dX11_settle_4 : decode cX11_settle 4 = .ok (.aload_n 0, 1) := by decide +kernel
theorem dX11_settle_5 : decode cX11_settle 5 = .ok (.aload_n 0, 1) := by decide +kernel
theorem dX11_settle_6 : decode cX11_settle 6 = .ok (.getfield 69, 3) := by decide +kernel
theorem dX11_settle_9 : decode cX11_settle 9 = .ok (.getfield 93, 3) := by decide +kernel
theorem dX11_settle_12 : decode cX11_settle 12 = .ok (.invokevirtual 96, 3) := by decide +kernel
theorem dX11_settle_15 : decode cX11_settle 15 = .ok (.goto 8, 3) := by decide +kernel
theorem dX11_settle_18 : decode cX11_settle 18 = .ok (.aload_n 0, 1) := by decide +kernel
theorem dX11_settle_19 : decode cX11_settle 19 = .ok (.iload_n 1, 1) := by decide +kernel
theorem dX11_settle_20 : decode cX11_settle 20 = .ok (.invokevirtual 100, 3) := by decide +kernel
theorem dX11_settle_23 : decode cX11_settle 23 = .ok (.ireturn, 1) := by decide +kernel
theorem dX11_dawn_0 : decode cX11_dawn 0 = .ok (.aload_n 0, 1) := by decide +kernel
theorem dX11_dawn_1 : decode cX11_dawn 1 = .ok (.aload_n 0, 1) := by decide +kernel
theorem dX11_dawn_2 : decode cX11_dawn 2 = .ok (.getfield 69, 3) := by decide +kernel
theorem dX11_dawn_5 : decode cX11_dawn 5 = .ok (.invokevirtual 284, 3) := by decide +kernel
theorem dX11_dawn_8 : decode cX11_dawn 8 = .ok (.invokevirtual 263, 3) := by decide +kernel
theorem dX11_dawn_11 : decode cX11_dawn 11 = .ok (.ireturn, 1) := by decide +kernel
theorem dX3_beginTest_0 : decode cX3_beginTest 0 = .ok (.aload_n 0, 1) := by decide +kernel
theorem dX3_beginTest_1 : decode cX3_beginTest 1 = .ok (.getfield 15, 3) := by decide +kernel
theorem dX3_beginTest_4 : decode cX3_beginTest 4 = .ok (.invokevirtual 42, 3) := by decide +kernel
theorem dX3_beginTest_7 : decode cX3_beginTest 7 = .ok (.istore_n 1, 1) := by decide +kernel
theorem dX3_beginTest_8 : decode cX3_beginTest 8 = .ok (.iload_n 1, 1) := by decide +kernel
theorem dX3_beginTest_9 : decode cX3_beginTest 9 = .ok (.bipush 25, 2) := by decide +kernel
theorem dX3_beginTest_11 : decode cX3_beginTest 11 = .ok (.if_icmp .eq 26, 3) := by decide +kernel
theorem dX3_beginTest_14 : decode cX3_beginTest 14 = .ok (.iload_n 1, 1) := by decide +kernel
theorem dX3_beginTest_15 : decode cX3_beginTest 15 = .ok (.bipush 15, 2) := by decide +kernel
theorem dX3_beginTest_17 : decode cX3_beginTest 17 = .ok (.if_icmp .eq 20, 3) := by decide +kernel
theorem dX3_beginTest_20 : decode cX3_beginTest 20 = .ok (.iload_n 1, 1) := by decide +kernel
theorem dX3_beginTest_21 : decode cX3_beginTest 21 = .ok (.bipush 26, 2) := by decide +kernel
theorem dX3_beginTest_23 : decode cX3_beginTest 23 = .ok (.if_icmp .eq 14, 3) := by decide +kernel
theorem dX3_beginTest_26 : decode cX3_beginTest 26 = .ok (.aload_n 0, 1) := by decide +kernel
theorem dX3_beginTest_27 : decode cX3_beginTest 27 = .ok (.getfield 15, 3) := by decide +kernel
theorem dX3_beginTest_30 : decode cX3_beginTest 30 = .ok (.iconst 2, 1) := by decide +kernel
theorem dX3_beginTest_31 : decode cX3_beginTest 31 = .ok (.invokevirtual 62, 3) := by decide +kernel
theorem dX3_beginTest_34 : decode cX3_beginTest 34 = .ok (.pop, 1) := by decide +kernel
theorem dX3_beginTest_35 : decode cX3_beginTest 35 = .ok (.iconst (-1), 1) := by decide +kernel
theorem dX3_beginTest_36 : decode cX3_beginTest 36 = .ok (.ireturn, 1) := by decide +kernel
theorem dX3_beginTest_37 : decode cX3_beginTest 37 = .ok (.aload_n 0, 1) := by decide +kernel
theorem dX3_beginTest_38 : decode cX3_beginTest 38 = .ok (.getfield 15, 3) := by decide +kernel
theorem dX3_beginTest_41 : decode cX3_beginTest 41 = .ok (.iload_n 1, 1) := by decide +kernel
theorem dX3_beginTest_42 : decode cX3_beginTest 42 = .ok (.invokevirtual 69, 3) := by decide +kernel
theorem dX3_beginTest_45 : decode cX3_beginTest 45 = .ok (.pop, 1) := by decide +kernel
theorem dX3_beginTest_46 : decode cX3_beginTest 46 = .ok (.iload_n 1, 1) := by decide +kernel
theorem dX3_beginTest_47 : decode cX3_beginTest 47 = .ok (.ireturn, 1) := by decide +kernel
theorem dX3_isPlain_0 : decode cX3_isPlain 0 = .ok (.iload_n 0, 1) := by decide +kernel
theorem dX3_isPlain_1 : decode cX3_isPlain 1 = .ok (.bipush 18, 2) := by decide +kernel
theorem dX3_isPlain_3 : decode cX3_isPlain 3 = .ok (.if_icmp .lt 9, 3) := by decide +kernel
theorem dX3_isPlain_6 : decode cX3_isPlain 6 = .ok (.iload_n 0, 1) := by decide +kernel
theorem dX3_isPlain_7 : decode cX3_isPlain 7 = .ok (.bipush 23, 2) := by decide +kernel
theorem dX3_isPlain_9 : decode cX3_isPlain 9 = .ok (.if_icmp .le 14, 3) := by decide +kernel
theorem dX3_isPlain_12 : decode cX3_isPlain 12 = .ok (.iload_n 0, 1) := by decide +kernel
theorem dX3_isPlain_13 : decode cX3_isPlain 13 = .ok (.iconst 1, 1) := by decide +kernel
theorem dX3_isPlain_14 : decode cX3_isPlain 14 = .ok (.if_icmp .eq 9, 3) := by decide +kernel
theorem dX3_isPlain_17 : decode cX3_isPlain 17 = .ok (.iload_n 0, 1) := by decide +kernel
theorem dX3_isPlain_18 : decode cX3_isPlain 18 = .ok (.bipush 29, 2) := by decide +kernel
theorem dX3_isPlain_20 : decode cX3_isPlain 20 = .ok (.if_icmp .ne 7, 3) := by decide +kernel
theorem dX3_isPlain_23 : decode cX3_isPlain 23 = .ok (.iconst 1, 1) := by decide +kernel
theorem dX3_isPlain_24 : decode cX3_isPlain 24 = .ok (.goto 4, 3) := by decide +kernel
theorem dX3_isPlain_27 : decode cX3_isPlain 27 = .ok (.iconst 0, 1) := by decide +kernel
theorem dX3_isPlain_28 : decode cX3_isPlain 28 = .ok (.ireturn, 1) := by decide +kernel
theorem dX3_beginStep_0 : decode cX3_beginStep 0 = .ok (.aload_n 0, 1) := by decide +kernel
theorem dX3_beginStep_1 : decode cX3_beginStep 1 = .ok (.getfield 15, 3) := by decide +kernel
theorem dX3_beginStep_4 : decode cX3_beginStep 4 = .ok (.invokevirtual 42, 3) := by decide +kernel
theorem dX3_beginStep_7 : decode cX3_beginStep 7 = .ok (.istore_n 1, 1) := by decide +kernel
theorem dX3_beginStep_8 : decode cX3_beginStep 8 = .ok (.iload_n 1, 1) := by decide +kernel
theorem dX3_beginStep_9 : decode cX3_beginStep 9 = .ok (.bipush 24, 2) := by decide +kernel
theorem dX3_beginStep_11 : decode cX3_beginStep 11 = .ok (.if_icmp .eq 9, 3) := by decide +kernel
theorem dX3_beginStep_14 : decode cX3_beginStep 14 = .ok (.iload_n 1, 1) := by decide +kernel
theorem dX3_beginStep_15 : decode cX3_beginStep 15 = .ok (.bipush 27, 2) := by decide +kernel
theorem dX3_beginStep_17 : decode cX3_beginStep 17 = .ok (.if_icmp .ne 7, 3) := by decide +kernel
theorem dX3_beginStep_20 : decode cX3_beginStep 20 = .ok (.iconst 1, 1) := by decide +kernel
theorem dX3_beginStep_21 : decode cX3_beginStep 21 = .ok (.goto 4, 3) := by decide +kernel
theorem dX3_beginStep_24 : decode cX3_beginStep 24 = .ok (.iconst 0, 1) := by decide +kernel
theorem dX3_beginStep_25 : decode cX3_beginStep 25 = .ok (.istore_n 2, 1) := by decide +kernel
theorem dX3_beginStep_26 : decode cX3_beginStep 26 = .ok (.iload_n 2, 1) := by decide +kernel
theorem dX3_beginStep_27 : decode cX3_beginStep 27 = .ok (.ifCond .ne 21, 3) := by decide +kernel
theorem dX3_beginStep_30 : decode cX3_beginStep 30 = .ok (.iload_n 1, 1) := by decide +kernel
theorem dX3_beginStep_31 : decode cX3_beginStep 31 = .ok (.invokestatic 76, 3) := by decide +kernel
theorem dX3_beginStep_34 : decode cX3_beginStep 34 = .ok (.ifCond .ne 14, 3) := by decide +kernel
theorem dX3_beginStep_37 : decode cX3_beginStep 37 = .ok (.aload_n 0, 1) := by decide +kernel
theorem dX3_beginStep_38 : decode cX3_beginStep 38 = .ok (.getfield 15, 3) := by decide +kernel
theorem dX3_beginStep_41 : decode cX3_beginStep 41 = .ok (.iconst 2, 1) := by decide +kernel
theorem dX3_beginStep_42 : decode cX3_beginStep 42 = .ok (.invokevirtual 62, 3) := by decide +kernel
theorem dX3_beginStep_45 : decode cX3_beginStep 45 = .ok (.pop, 1) := by decide +kernel
theorem dX3_beginStep_46 : decode cX3_beginStep 46 = .ok (.iconst (-1), 1) := by decide +kernel
theorem dX3_beginStep_47 : decode cX3_beginStep 47 = .ok (.ireturn, 1) := by decide +kernel
theorem dX3_beginStep_48 : decode cX3_beginStep 48 = .ok (.aload_n 0, 1) := by decide +kernel
theorem dX3_beginStep_49 : decode cX3_beginStep 49 = .ok (.getfield 23, 3) := by decide +kernel
theorem dX3_beginStep_52 : decode cX3_beginStep 52 = .ok (.getfield 79, 3) := by decide +kernel
theorem dX3_beginStep_55 : decode cX3_beginStep 55 = .ok (.bipush 30, 2) := by decide +kernel
theorem dX3_beginStep_57 : decode cX3_beginStep 57 = .ok (.if_icmp .lt 15, 3) := by decide +kernel
theorem dX3_beginStep_60 : decode cX3_beginStep 60 = .ok (.aload_n 0, 1) := by decide +kernel
theorem dX3_beginStep_61 : decode cX3_beginStep 61 = .ok (.getfield 15, 3) := by decide +kernel
theorem dX3_beginStep_64 : decode cX3_beginStep 64 = .ok (.bipush 6, 2) := by decide +kernel
theorem dX3_beginStep_66 : decode cX3_beginStep 66 = .ok (.invokevirtual 62, 3) := by decide +kernel
theorem dX3_beginStep_69 : decode cX3_beginStep 69 = .ok (.pop, 1) := by decide +kernel
theorem dX3_beginStep_70 : decode cX3_beginStep 70 = .ok (.iconst (-1), 1) := by decide +kernel
theorem dX3_beginStep_71 : decode cX3_beginStep 71 = .ok (.ireturn, 1) := by decide +kernel
theorem dX3_beginStep_72 : decode cX3_beginStep 72 = .ok (.iload_n 2, 1) := by decide +kernel
theorem dX3_beginStep_73 : decode cX3_beginStep 73 = .ok (.ifCond .eq 23, 3) := by decide +kernel
theorem dX3_beginStep_76 : decode cX3_beginStep 76 = .ok (.aload_n 0, 1) := by decide +kernel
theorem dX3_beginStep_77 : decode cX3_beginStep 77 = .ok (.getfield 32, 3) := by decide +kernel
theorem dX3_beginStep_80 : decode cX3_beginStep 80 = .ok (.iconst 3, 1) := by decide +kernel
theorem dX3_beginStep_81 : decode cX3_beginStep 81 = .ok (.if_icmp .lt 15, 3) := by decide +kernel
theorem dX3_beginStep_84 : decode cX3_beginStep 84 = .ok (.aload_n 0, 1) := by decide +kernel
theorem dX3_beginStep_85 : decode cX3_beginStep 85 = .ok (.getfield 15, 3) := by decide +kernel
theorem dX3_beginStep_88 : decode cX3_beginStep 88 = .ok (.bipush 7, 2) := by decide +kernel
theorem dX3_beginStep_90 : decode cX3_beginStep 90 = .ok (.invokevirtual 62, 3) := by decide +kernel
theorem dX3_beginStep_93 : decode cX3_beginStep 93 = .ok (.pop, 1) := by decide +kernel
theorem dX3_beginStep_94 : decode cX3_beginStep 94 = .ok (.iconst (-1), 1) := by decide +kernel
theorem dX3_beginStep_95 : decode cX3_beginStep 95 = .ok (.ireturn, 1) := by decide +kernel
theorem dX3_beginStep_96 : decode cX3_beginStep 96 = .ok (.aload_n 0, 1) := by decide +kernel
theorem dX3_beginStep_97 : decode cX3_beginStep 97 = .ok (.getfield 15, 3) := by decide +kernel
theorem dX3_beginStep_100 : decode cX3_beginStep 100 = .ok (.iload_n 1, 1) := by decide +kernel
theorem dX3_beginStep_101 : decode cX3_beginStep 101 = .ok (.invokevirtual 69, 3) := by decide +kernel
theorem dX3_beginStep_104 : decode cX3_beginStep 104 = .ok (.pop, 1) := by decide +kernel
theorem dX3_beginStep_105 : decode cX3_beginStep 105 = .ok (.aload_n 0, 1) := by decide +kernel
theorem dX3_beginStep_106 : decode cX3_beginStep 106 = .ok (.getfield 23, 3) := by decide +kernel
theorem dX3_beginStep_109 : decode cX3_beginStep 109 = .ok (.dup, 1) := by decide +kernel
theorem dX3_beginStep_110 : decode cX3_beginStep 110 = .ok (.getfield 79, 3) := by decide +kernel
theorem dX3_beginStep_113 : decode cX3_beginStep 113 = .ok (.iconst 1, 1) := by decide +kernel
theorem dX3_beginStep_114 : decode cX3_beginStep 114 = .ok (.iadd, 1) := by decide +kernel
theorem dX3_beginStep_115 : decode cX3_beginStep 115 = .ok (.putfield 79, 3) := by decide +kernel
theorem dX3_beginStep_118 : decode cX3_beginStep 118 = .ok (.iload_n 2, 1) := by decide +kernel
theorem dX3_beginStep_119 : decode cX3_beginStep 119 = .ok (.ifCond .eq 29, 3) := by decide +kernel
theorem dX3_beginStep_122 : decode cX3_beginStep 122 = .ok (.aload_n 0, 1) := by decide +kernel
theorem dX3_beginStep_123 : decode cX3_beginStep 123 = .ok (.getfield 11, 3) := by decide +kernel
theorem dX3_beginStep_126 : decode cX3_beginStep 126 = .ok (.aload_n 0, 1) := by decide +kernel
theorem dX3_beginStep_127 : decode cX3_beginStep 127 = .ok (.getfield 32, 3) := by decide +kernel
theorem dX3_beginStep_130 : decode cX3_beginStep 130 = .ok (.aload_n 0, 1) := by decide +kernel
theorem dX3_beginStep_131 : decode cX3_beginStep 131 = .ok (.getfield 23, 3) := by decide +kernel
theorem dX3_beginStep_134 : decode cX3_beginStep 134 = .ok (.getfield 82, 3) := by decide +kernel
theorem dX3_beginStep_137 : decode cX3_beginStep 137 = .ok (.iastore, 1) := by decide +kernel
theorem dX3_beginStep_138 : decode cX3_beginStep 138 = .ok (.aload_n 0, 1) := by decide +kernel
theorem dX3_beginStep_139 : decode cX3_beginStep 139 = .ok (.dup, 1) := by decide +kernel
theorem dX3_beginStep_140 : decode cX3_beginStep 140 = .ok (.getfield 32, 3) := by decide +kernel
theorem dX3_beginStep_143 : decode cX3_beginStep 143 = .ok (.iconst 1, 1) := by decide +kernel
theorem dX3_beginStep_144 : decode cX3_beginStep 144 = .ok (.iadd, 1) := by decide +kernel
theorem dX3_beginStep_145 : decode cX3_beginStep 145 = .ok (.putfield 32, 3) := by decide +kernel
theorem dX3_beginStep_148 : decode cX3_beginStep 148 = .ok (.iload_n 1, 1) := by decide +kernel
theorem dX3_beginStep_149 : decode cX3_beginStep 149 = .ok (.bipush 24, 2) := by decide +kernel
theorem dX3_beginStep_151 : decode cX3_beginStep 151 = .ok (.if_icmp .ne 10, 3) := by decide +kernel
theorem dX3_beginStep_154 : decode cX3_beginStep 154 = .ok (.aload_n 0, 1) := by decide +kernel
theorem dX3_beginStep_155 : decode cX3_beginStep 155 = .ok (.invokevirtual 85, 3) := by decide +kernel
theorem dX3_beginStep_158 : decode cX3_beginStep 158 = .ok (.goto 4, 3) := by decide +kernel
theorem dX3_beginStep_161 : decode cX3_beginStep 161 = .ok (.iload_n 1, 1) := by decide +kernel
theorem dX3_beginStep_162 : decode cX3_beginStep 162 = .ok (.ireturn, 1) := by decide +kernel
theorem dX2_append_0 : decode cX2_append 0 = .ok (.aload_n 0, 1) := by decide +kernel
theorem dX2_append_1 : decode cX2_append 1 = .ok (.getfield 35, 3) := by decide +kernel
theorem dX2_append_4 : decode cX2_append 4 = .ok (.bipush 60, 2) := by decide +kernel
theorem dX2_append_6 : decode cX2_append 6 = .ok (.if_icmp .lt 4, 3) := by decide +kernel
theorem dX2_append_9 : decode cX2_append 9 = .ok (.return_, 1) := by decide +kernel
theorem dX2_append_10 : decode cX2_append 10 = .ok (.aload_n 0, 1) := by decide +kernel
theorem dX2_append_11 : decode cX2_append 11 = .ok (.getfield 11, 3) := by decide +kernel
theorem dX2_append_14 : decode cX2_append 14 = .ok (.aload_n 0, 1) := by decide +kernel
theorem dX2_append_15 : decode cX2_append 15 = .ok (.getfield 35, 3) := by decide +kernel
theorem dX2_append_18 : decode cX2_append 18 = .ok (.iload_n 1, 1) := by decide +kernel
theorem dX2_append_19 : decode cX2_append 19 = .ok (.iastore, 1) := by decide +kernel
theorem dX2_append_20 : decode cX2_append 20 = .ok (.aload_n 0, 1) := by decide +kernel
theorem dX2_append_21 : decode cX2_append 21 = .ok (.getfield 15, 3) := by decide +kernel
theorem dX2_append_24 : decode cX2_append 24 = .ok (.aload_n 0, 1) := by decide +kernel
theorem dX2_append_25 : decode cX2_append 25 = .ok (.getfield 35, 3) := by decide +kernel
theorem dX2_append_28 : decode cX2_append 28 = .ok (.iload_n 2, 1) := by decide +kernel
theorem dX2_append_29 : decode cX2_append 29 = .ok (.iastore, 1) := by decide +kernel
theorem dX2_append_30 : decode cX2_append 30 = .ok (.aload_n 0, 1) := by decide +kernel
theorem dX2_append_31 : decode cX2_append 31 = .ok (.getfield 18, 3) := by decide +kernel
theorem dX2_append_34 : decode cX2_append 34 = .ok (.aload_n 0, 1) := by decide +kernel
theorem dX2_append_35 : decode cX2_append 35 = .ok (.getfield 35, 3) := by decide +kernel
theorem dX2_append_38 : decode cX2_append 38 = .ok (.iload_n 3, 1) := by decide +kernel
theorem dX2_append_39 : decode cX2_append 39 = .ok (.iastore, 1) := by decide +kernel
theorem dX2_append_40 : decode cX2_append 40 = .ok (.aload_n 0, 1) := by decide +kernel
theorem dX2_append_41 : decode cX2_append 41 = .ok (.getfield 21, 3) := by decide +kernel
theorem dX2_append_44 : decode cX2_append 44 = .ok (.aload_n 0, 1) := by decide +kernel
theorem dX2_append_45 : decode cX2_append 45 = .ok (.getfield 35, 3) := by decide +kernel
theorem dX2_append_48 : decode cX2_append 48 = .ok (.iload 4, 2) := by decide +kernel
theorem dX2_append_50 : decode cX2_append 50 = .ok (.iastore, 1) := by decide +kernel
theorem dX2_append_51 : decode cX2_append 51 = .ok (.aload_n 0, 1) := by decide +kernel
theorem dX2_append_52 : decode cX2_append 52 = .ok (.getfield 24, 3) := by decide +kernel
theorem dX2_append_55 : decode cX2_append 55 = .ok (.aload_n 0, 1) := by decide +kernel
theorem dX2_append_56 : decode cX2_append 56 = .ok (.getfield 35, 3) := by decide +kernel
theorem dX2_append_59 : decode cX2_append 59 = .ok (.iconst (-1), 1) := by decide +kernel
theorem dX2_append_60 : decode cX2_append 60 = .ok (.iastore, 1) := by decide +kernel
theorem dX2_append_61 : decode cX2_append 61 = .ok (.aload_n 0, 1) := by decide +kernel
theorem dX2_append_62 : decode cX2_append 62 = .ok (.dup, 1) := by decide +kernel
theorem dX2_append_63 : decode cX2_append 63 = .ok (.getfield 35, 3) := by decide +kernel
theorem dX2_append_66 : decode cX2_append 66 = .ok (.iconst 1, 1) := by decide +kernel
theorem dX2_append_67 : decode cX2_append 67 = .ok (.iadd, 1) := by decide +kernel
theorem dX2_append_68 : decode cX2_append 68 = .ok (.putfield 35, 3) := by decide +kernel
theorem dX2_append_71 : decode cX2_append 71 = .ok (.return_, 1) := by decide +kernel
theorem dX2_appendEnd_0 : decode cX2_appendEnd 0 = .ok (.aload_n 0, 1) := by decide +kernel
theorem dX2_appendEnd_1 : decode cX2_appendEnd 1 = .ok (.getfield 35, 3) := by decide +kernel
theorem dX2_appendEnd_4 : decode cX2_appendEnd 4 = .ok (.bipush 60, 2) := by decide +kernel
theorem dX2_appendEnd_6 : decode cX2_appendEnd 6 = .ok (.if_icmp .ge 15, 3) := by decide +kernel
theorem dX2_appendEnd_9 : decode cX2_appendEnd 9 = .ok (.iload_n 1, 1) := by decide +kernel
theorem dX2_appendEnd_10 : decode cX2_appendEnd 10 = .ok (.ifCond .lt 11, 3) := by decide +kernel
theorem dX2_appendEnd_13 : decode cX2_appendEnd 13 = .ok (.iload_n 1, 1) := by decide +kernel
theorem dX2_appendEnd_14 : decode cX2_appendEnd 14 = .ok (.aload_n 0, 1) := by decide +kernel
theorem dX2_appendEnd_15 : decode cX2_appendEnd 15 = .ok (.getfield 35, 3) := by decide +kernel
theorem dX2_appendEnd_18 : decode cX2_appendEnd 18 = .ok (.if_icmp .lt 4, 3) := by decide +kernel
theorem dX2_appendEnd_21 : decode cX2_appendEnd 21 = .ok (.return_, 1) := by decide +kernel
theorem dX2_appendEnd_22 : decode cX2_appendEnd 22 = .ok (.aload_n 0, 1) := by decide +kernel
theorem dX2_appendEnd_23 : decode cX2_appendEnd 23 = .ok (.getfield 35, 3) := by decide +kernel
theorem dX2_appendEnd_26 : decode cX2_appendEnd 26 = .ok (.istore_n 2, 1) := by decide +kernel
theorem dX2_appendEnd_27 : decode cX2_appendEnd 27 = .ok (.aload_n 0, 1) := by decide +kernel
theorem dX2_appendEnd_28 : decode cX2_appendEnd 28 = .ok (.bipush 28, 2) := by decide +kernel
theorem dX2_appendEnd_30 : decode cX2_appendEnd 30 = .ok (.iconst 0, 1) := by decide +kernel
theorem dX2_appendEnd_31 : decode cX2_appendEnd 31 = .ok (.iconst 0, 1) := by decide +kernel
theorem dX2_appendEnd_32 : decode cX2_appendEnd 32 = .ok (.iconst 0, 1) := by decide +kernel
theorem dX2_appendEnd_33 : decode cX2_appendEnd 33 = .ok (.invokevirtual 46, 3) := by decide +kernel
theorem dX2_appendEnd_36 : decode cX2_appendEnd 36 = .ok (.aload_n 0, 1) := by decide +kernel
theorem dX2_appendEnd_37 : decode cX2_appendEnd 37 = .ok (.getfield 24, 3) := by decide +kernel
theorem dX2_appendEnd_40 : decode cX2_appendEnd 40 = .ok (.iload_n 2, 1) := by decide +kernel
theorem dX2_appendEnd_41 : decode cX2_appendEnd 41 = .ok (.iload_n 1, 1) := by decide +kernel
theorem dX2_appendEnd_42 : decode cX2_appendEnd 42 = .ok (.iastore, 1) := by decide +kernel
theorem dX2_appendEnd_43 : decode cX2_appendEnd 43 = .ok (.aload_n 0, 1) := by decide +kernel
theorem dX2_appendEnd_44 : decode cX2_appendEnd 44 = .ok (.getfield 24, 3) := by decide +kernel
theorem dX2_appendEnd_47 : decode cX2_appendEnd 47 = .ok (.iload_n 1, 1) := by decide +kernel
theorem dX2_appendEnd_48 : decode cX2_appendEnd 48 = .ok (.iload_n 2, 1) := by decide +kernel
theorem dX2_appendEnd_49 : decode cX2_appendEnd 49 = .ok (.iastore, 1) := by decide +kernel
theorem dX2_appendEnd_50 : decode cX2_appendEnd 50 = .ok (.return_, 1) := by decide +kernel
theorem dX3_takeEnd_0 : decode cX3_takeEnd 0 = .ok (.aload_n 0, 1) := by decide +kernel
theorem dX3_takeEnd_1 : decode cX3_takeEnd 1 = .ok (.getfield 32, 3) := by decide +kernel
theorem dX3_takeEnd_4 : decode cX3_takeEnd 4 = .ok (.ifCond .le 11, 3) := by decide +kernel
theorem dX3_takeEnd_7 : decode cX3_takeEnd 7 = .ok (.aload_n 0, 1) := by decide +kernel
theorem dX3_takeEnd_8 : decode cX3_takeEnd 8 = .ok (.getfield 32, 3) := by decide +kernel
theorem dX3_takeEnd_11 : decode cX3_takeEnd 11 = .ok (.iconst 3, 1) := by decide +kernel
theorem dX3_takeEnd_12 : decode cX3_takeEnd 12 = .ok (.if_icmp .le 12, 3) := by decide +kernel
theorem dX3_takeEnd_15 : decode cX3_takeEnd 15 = .ok (.aload_n 0, 1) := by decide +kernel
theorem dX3_takeEnd_16 : decode cX3_takeEnd 16 = .ok (.getfield 15, 3) := by decide +kernel
theorem dX3_takeEnd_19 : decode cX3_takeEnd 19 = .ok (.iconst 2, 1) := by decide +kernel
theorem dX3_takeEnd_20 : decode cX3_takeEnd 20 = .ok (.invokevirtual 62, 3) := by decide +kernel
theorem dX3_takeEnd_23 : decode cX3_takeEnd 23 = .ok (.ireturn, 1) := by decide +kernel
theorem dX3_takeEnd_24 : decode cX3_takeEnd 24 = .ok (.aload_n 0, 1) := by decide +kernel
theorem dX3_takeEnd_25 : decode cX3_takeEnd 25 = .ok (.getfield 15, 3) := by decide +kernel
theorem dX3_takeEnd_28 : decode cX3_takeEnd 28 = .ok (.bipush 28, 2) := by decide +kernel
theorem dX3_takeEnd_30 : decode cX3_takeEnd 30 = .ok (.invokevirtual 69, 3) := by decide +kernel
theorem dX3_takeEnd_33 : decode cX3_takeEnd 33 = .ok (.pop, 1) := by decide +kernel
theorem dX3_takeEnd_34 : decode cX3_takeEnd 34 = .ok (.aload_n 0, 1) := by decide +kernel
theorem dX3_takeEnd_35 : decode cX3_takeEnd 35 = .ok (.dup, 1) := by decide +kernel
theorem dX3_takeEnd_36 : decode cX3_takeEnd 36 = .ok (.getfield 32, 3) := by decide +kernel
theorem dX3_takeEnd_39 : decode cX3_takeEnd 39 = .ok (.iconst 1, 1) := by decide +kernel
theorem dX3_takeEnd_40 : decode cX3_takeEnd 40 = .ok (.isub, 1) := by decide +kernel
theorem dX3_takeEnd_41 : decode cX3_takeEnd 41 = .ok (.putfield 32, 3) := by decide +kernel
theorem dX3_takeEnd_44 : decode cX3_takeEnd 44 = .ok (.aload_n 0, 1) := by decide +kernel
theorem dX3_takeEnd_45 : decode cX3_takeEnd 45 = .ok (.getfield 23, 3) := by decide +kernel
theorem dX3_takeEnd_48 : decode cX3_takeEnd 48 = .ok (.aload_n 0, 1) := by decide +kernel
theorem dX3_takeEnd_49 : decode cX3_takeEnd 49 = .ok (.getfield 11, 3) := by decide +kernel
theorem dX3_takeEnd_52 : decode cX3_takeEnd 52 = .ok (.aload_n 0, 1) := by decide +kernel
theorem dX3_takeEnd_53 : decode cX3_takeEnd 53 = .ok (.getfield 32, 3) := by decide +kernel
theorem dX3_takeEnd_56 : decode cX3_takeEnd 56 = .ok (.iaload, 1) := by decide +kernel
theorem dX3_takeEnd_57 : decode cX3_takeEnd 57 = .ok (.invokevirtual 72, 3) := by decide +kernel
theorem dX3_takeEnd_60 : decode cX3_takeEnd 60 = .ok (.iconst 1, 1) := by decide +kernel
theorem dX3_takeEnd_61 : decode cX3_takeEnd 61 = .ok (.ireturn, 1) := by decide +kernel
theorem dX3_add_0 : decode cX3_add 0 = .ok (.aload_n 0, 1) := by decide +kernel
theorem dX3_add_1 : decode cX3_add 1 = .ok (.getfield 23, 3) := by decide +kernel
theorem dX3_add_4 : decode cX3_add 4 = .ok (.iload_n 1, 1) := by decide +kernel
theorem dX3_add_5 : decode cX3_add 5 = .ok (.iload_n 2, 1) := by decide +kernel
theorem dX3_add_6 : decode cX3_add 6 = .ok (.iload_n 3, 1) := by decide +kernel
theorem dX3_add_7 : decode cX3_add 7 = .ok (.iload 4, 2) := by decide +kernel
theorem dX3_add_9 : decode cX3_add 9 = .ok (.invokevirtual 111, 3) := by decide +kernel
theorem dX3_add_12 : decode cX3_add 12 = .ok (.iconst 1, 1) := by decide +kernel
theorem dX3_add_13 : decode cX3_add 13 = .ok (.ireturn, 1) := by decide +kernel
theorem dX3_takeFree_0 : decode cX3_takeFree 0 = .ok (.aload_n 0, 1) := by decide +kernel
theorem dX3_takeFree_1 : decode cX3_takeFree 1 = .ok (.getfield 15, 3) := by decide +kernel
theorem dX3_takeFree_4 : decode cX3_takeFree 4 = .ok (.aload_n 0, 1) := by decide +kernel
theorem dX3_takeFree_5 : decode cX3_takeFree 5 = .ok (.getfield 19, 3) := by decide +kernel
theorem dX3_takeFree_8 : decode cX3_takeFree 8 = .ok (.invokevirtual 136, 3) := by decide +kernel
theorem dX3_takeFree_11 : decode cX3_takeFree 11 = .ok (.istore_n 1, 1) := by decide +kernel
theorem dX3_takeFree_12 : decode cX3_takeFree 12 = .ok (.iload_n 1, 1) := by decide +kernel
theorem dX3_takeFree_13 : decode cX3_takeFree 13 = .ok (.iconst (-1), 1) := by decide +kernel
theorem dX3_takeFree_14 : decode cX3_takeFree 14 = .ok (.if_icmp .eq 19, 3) := by decide +kernel
theorem dX3_takeFree_17 : decode cX3_takeFree 17 = .ok (.aload_n 0, 1) := by decide +kernel
theorem dX3_takeFree_18 : decode cX3_takeFree 18 = .ok (.bipush 26, 2) := by decide +kernel
theorem dX3_takeFree_20 : decode cX3_takeFree 20 = .ok (.iconst 0, 1) := by decide +kernel
theorem dX3_takeFree_21 : decode cX3_takeFree 21 = .ok (.iload_n 1, 1) := by decide +kernel
theorem dX3_takeFree_22 : decode cX3_takeFree 22 = .ok (.iconst 0, 1) := by decide +kernel
theorem dX3_takeFree_23 : decode cX3_takeFree 23 = .ok (.invokevirtual 107, 3) := by decide +kernel
theorem dX3_takeFree_26 : decode cX3_takeFree 26 = .ok (.ifCond .eq 7, 3) := by decide +kernel
theorem dX3_takeFree_29 : decode cX3_takeFree 29 = .ok (.iconst 1, 1) := by decide +kernel
theorem dX3_takeFree_30 : decode cX3_takeFree 30 = .ok (.goto 4, 3) := by decide +kernel
theorem dX3_takeFree_33 : decode cX3_takeFree 33 = .ok (.iconst 0, 1) := by decide +kernel
theorem dX3_takeFree_34 : decode cX3_takeFree 34 = .ok (.ireturn, 1) := by decide +kernel
theorem dX3_takeGo_0 : decode cX3_takeGo 0 = .ok (.aload_n 0, 1) := by decide +kernel
theorem dX3_takeGo_1 : decode cX3_takeGo 1 = .ok (.getfield 15, 3) := by decide +kernel
theorem dX3_takeGo_4 : decode cX3_takeGo 4 = .ok (.aload_n 0, 1) := by decide +kernel
theorem dX3_takeGo_5 : decode cX3_takeGo 5 = .ok (.getfield 19, 3) := by decide +kernel
theorem dX3_takeGo_8 : decode cX3_takeGo 8 = .ok (.invokevirtual 115, 3) := by decide +kernel
theorem dX3_takeGo_11 : decode cX3_takeGo 11 = .ok (.istore_n 1, 1) := by decide +kernel
theorem dX3_takeGo_12 : decode cX3_takeGo 12 = .ok (.iload_n 1, 1) := by decide +kernel
theorem dX3_takeGo_13 : decode cX3_takeGo 13 = .ok (.iconst (-1), 1) := by decide +kernel
theorem dX3_takeGo_14 : decode cX3_takeGo 14 = .ok (.if_icmp .ne 5, 3) := by decide +kernel
theorem dX3_takeGo_17 : decode cX3_takeGo 17 = .ok (.iconst 0, 1) := by decide +kernel
theorem dX3_takeGo_18 : decode cX3_takeGo 18 = .ok (.ireturn, 1) := by decide +kernel
theorem dX3_takeGo_19 : decode cX3_takeGo 19 = .ok (.aload_n 0, 1) := by decide +kernel
theorem dX3_takeGo_20 : decode cX3_takeGo 20 = .ok (.getfield 15, 3) := by decide +kernel
theorem dX3_takeGo_23 : decode cX3_takeGo 23 = .ok (.bipush 17, 2) := by decide +kernel
theorem dX3_takeGo_25 : decode cX3_takeGo 25 = .ok (.iconst 0, 1) := by decide +kernel
theorem dX3_takeGo_26 : decode cX3_takeGo 26 = .ok (.aload_n 0, 1) := by decide +kernel
theorem dX3_takeGo_27 : decode cX3_takeGo 27 = .ok (.getfield 19, 3) := by decide +kernel
theorem dX3_takeGo_30 : decode cX3_takeGo 30 = .ok (.getfield 119, 3) := by decide +kernel
theorem dX3_takeGo_33 : decode cX3_takeGo 33 = .ok (.iconst 1, 1) := by decide +kernel
theorem dX3_takeGo_34 : decode cX3_takeGo 34 = .ok (.isub, 1) := by decide +kernel
theorem dX3_takeGo_35 : decode cX3_takeGo 35 = .ok (.invokevirtual 124, 3) := by decide +kernel
theorem dX3_takeGo_38 : decode cX3_takeGo 38 = .ok (.istore_n 2, 1) := by decide +kernel
theorem dX3_takeGo_39 : decode cX3_takeGo 39 = .ok (.iload_n 2, 1) := by decide +kernel
theorem dX3_takeGo_40 : decode cX3_takeGo 40 = .ok (.iconst (-1), 1) := by decide +kernel
theorem dX3_takeGo_41 : decode cX3_takeGo 41 = .ok (.if_icmp .eq 19, 3) := by decide +kernel
theorem dX3_takeGo_44 : decode cX3_takeGo 44 = .ok (.aload_n 0, 1) := by decide +kernel
theorem dX3_takeGo_45 : decode cX3_takeGo 45 = .ok (.bipush 18, 2) := by decide +kernel
theorem dX3_takeGo_47 : decode cX3_takeGo 47 = .ok (.iload_n 1, 1) := by decide +kernel
theorem dX3_takeGo_48 : decode cX3_takeGo 48 = .ok (.iload_n 2, 1) := by decide +kernel
theorem dX3_takeGo_49 : decode cX3_takeGo 49 = .ok (.iconst 0, 1) := by decide +kernel
theorem dX3_takeGo_50 : decode cX3_takeGo 50 = .ok (.invokevirtual 107, 3) := by decide +kernel
theorem dX3_takeGo_53 : decode cX3_takeGo 53 = .ok (.ifCond .eq 7, 3) := by decide +kernel
theorem dX3_takeGo_56 : decode cX3_takeGo 56 = .ok (.iconst 1, 1) := by decide +kernel
theorem dX3_takeGo_57 : decode cX3_takeGo 57 = .ok (.goto 4, 3) := by decide +kernel
theorem dX3_takeGo_60 : decode cX3_takeGo 60 = .ok (.iconst 0, 1) := by decide +kernel
theorem dX3_takeGo_61 : decode cX3_takeGo 61 = .ok (.ireturn, 1) := by decide +kernel
theorem dX7_takeCompares_0 : decode cX7_takeCompares 0 = .ok (.aload_n 0, 1) := by decide +kernel
theorem dX7_takeCompares_1 : decode cX7_takeCompares 1 = .ok (.getfield 15, 3) := by decide +kernel
theorem dX7_takeCompares_4 : decode cX7_takeCompares 4 = .ok (.aload_n 0, 1) := by decide +kernel
theorem dX7_takeCompares_5 : decode cX7_takeCompares 5 = .ok (.getfield 73, 3) := by decide +kernel
theorem dX7_takeCompares_8 : decode cX7_takeCompares 8 = .ok (.iaload, 1) := by decide +kernel
theorem dX7_takeCompares_9 : decode cX7_takeCompares 9 = .ok (.iconst 2, 1) := by decide +kernel
theorem dX7_takeCompares_10 : decode cX7_takeCompares 10 = .ok (.if_icmp .ne 19, 3) := by decide +kernel
theorem dX7_takeCompares_13 : decode cX7_takeCompares 13 = .ok (.aload_n 0, 1) := by decide +kernel
theorem dX7_takeCompares_14 : decode cX7_takeCompares 14 = .ok (.getfield 22, 3) := by decide +kernel
theorem dX7_takeCompares_17 : decode cX7_takeCompares 17 = .ok (.aload_n 0, 1) := by decide +kernel
theorem dX7_takeCompares_18 : decode cX7_takeCompares 18 = .ok (.getfield 73, 3) := by decide +kernel
theorem dX7_takeCompares_21 : decode cX7_takeCompares 21 = .ok (.laload, 1) := by decide +kernel
theorem dX7_takeCompares_22 : decode cX7_takeCompares 22 = .ok (.ldc2_w 109, 3) := by decide +kernel
theorem dX7_takeCompares_25 : decode cX7_takeCompares 25 = .ok (.lcmp, 1) := by decide +kernel
theorem dX7_takeCompares_26 : decode cX7_takeCompares 26 = .ok (.ifCond .ne 11, 3) := by decide +kernel
theorem dX7_takeCompares_29 : decode cX7_takeCompares 29 = .ok (.aload_n 0, 1) := by decide +kernel
theorem dX7_takeCompares_30 : decode cX7_takeCompares 30 = .ok (.iconst 2, 1) := by decide +kernel
theorem dX7_takeCompares_31 : decode cX7_takeCompares 31 = .ok (.invokevirtual 103, 3) := by decide +kernel
theorem dX7_takeCompares_34 : decode cX7_takeCompares 34 = .ok (.pop, 1) := by decide +kernel
theorem dX7_takeCompares_35 : decode cX7_takeCompares 35 = .ok (.iconst (-1), 1) := by decide +kernel
theorem dX7_takeCompares_36 : decode cX7_takeCompares 36 = .ok (.ireturn, 1) := by decide +kernel
theorem dX7_takeCompares_37 : decode cX7_takeCompares 37 = .ok (.aload_n 0, 1) := by decide +kernel
theorem dX7_takeCompares_38 : decode cX7_takeCompares 38 = .ok (.getfield 22, 3) := by decide +kernel
theorem dX7_takeCompares_41 : decode cX7_takeCompares 41 = .ok (.aload_n 0, 1) := by decide +kernel
theorem dX7_takeCompares_42 : decode cX7_takeCompares 42 = .ok (.getfield 73, 3) := by decide +kernel
theorem dX7_takeCompares_45 : decode cX7_takeCompares 45 = .ok (.laload, 1) := by decide +kernel
theorem dX7_takeCompares_46 : decode cX7_takeCompares 46 = .ok (.l2i, 1) := by decide +kernel
theorem dX7_takeCompares_47 : decode cX7_takeCompares 47 = .ok (.istore_n 1, 1) := by decide +kernel
theorem dX7_takeCompares_48 : decode cX7_takeCompares 48 = .ok (.aload_n 0, 1) := by decide +kernel
theorem dX7_takeCompares_49 : decode cX7_takeCompares 49 = .ok (.invokevirtual 106, 3) := by decide +kernel
theorem dX7_takeCompares_52 : decode cX7_takeCompares 52 = .ok (.iload_n 1, 1) := by decide +kernel
theorem dX7_takeCompares_53 : decode cX7_takeCompares 53 = .ok (.ireturn, 1) := by decide +kernel
theorem dX3_takeLeads_0 : decode cX3_takeLeads 0 = .ok (.aload_n 0, 1) := by decide +kernel
theorem dX3_takeLeads_1 : decode cX3_takeLeads 1 = .ok (.getfield 15, 3) := by decide +kernel
theorem dX3_takeLeads_4 : decode cX3_takeLeads 4 = .ok (.aload_n 0, 1) := by decide +kernel
theorem dX3_takeLeads_5 : decode cX3_takeLeads 5 = .ok (.getfield 19, 3) := by decide +kernel
theorem dX3_takeLeads_8 : decode cX3_takeLeads 8 = .ok (.invokevirtual 115, 3) := by decide +kernel
theorem dX3_takeLeads_11 : decode cX3_takeLeads 11 = .ok (.istore_n 1, 1) := by decide +kernel
theorem dX3_takeLeads_12 : decode cX3_takeLeads 12 = .ok (.iload_n 1, 1) := by decide +kernel
theorem dX3_takeLeads_13 : decode cX3_takeLeads 13 = .ok (.iconst (-1), 1) := by decide +kernel
theorem dX3_takeLeads_14 : decode cX3_takeLeads 14 = .ok (.if_icmp .ne 5, 3) := by decide +kernel
theorem dX3_takeLeads_17 : decode cX3_takeLeads 17 = .ok (.iconst 0, 1) := by decide +kernel
theorem dX3_takeLeads_18 : decode cX3_takeLeads 18 = .ok (.ireturn, 1) := by decide +kernel
theorem dX3_takeLeads_19 : decode cX3_takeLeads 19 = .ok (.aload_n 0, 1) := by decide +kernel
theorem dX3_takeLeads_20 : decode cX3_takeLeads 20 = .ok (.getfield 15, 3) := by decide +kernel
theorem dX3_takeLeads_23 : decode cX3_takeLeads 23 = .ok (.invokevirtual 139, 3) := by decide +kernel
theorem dX3_takeLeads_26 : decode cX3_takeLeads 26 = .ok (.istore_n 2, 1) := by decide +kernel
