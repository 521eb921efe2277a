theorem dJ6_bitCount_0f7a4_0 : decode cJ6_bitCount_0f7a4 0 = .ok (.iload_n 0, 1) := by decide +kernel
theorem dJ6_bitCount_0f7a4_1 : decode cJ6_bitCount_0f7a4 1 = .ok (.iload_n 0, 1) := by decide +kernel
theorem dJ6_bitCount_0f7a4_2 : decode cJ6_bitCount_0f7a4 2 = .ok (.iconst 1, 1) := by decide +kernel
theorem dJ6_bitCount_0f7a4_3 : decode cJ6_bitCount_0f7a4 3 = .ok (.iushr, 1) := by decide +kernel
theorem dJ6_bitCount_0f7a4_4 : decode cJ6_bitCount_0f7a4 4 = .ok (.ldc_w 265, 3) := by decide +kernel
theorem dJ6_bitCount_0f7a4_7 : decode cJ6_bitCount_0f7a4 7 = .ok (.iand, 1) := by decide +kernel
theorem dJ6_bitCount_0f7a4_8 : decode cJ6_bitCount_0f7a4 8 = .ok (.isub, 1) := by decide +kernel
theorem dJ6_bitCount_0f7a4_9 : decode cJ6_bitCount_0f7a4 9 = .ok (.istore_n 0, 1) := by decide +kernel
theorem dJ6_bitCount_0f7a4_10 : decode cJ6_bitCount_0f7a4 10 = .ok (.iload_n 0, 1) := by decide +kernel
theorem dJ6_bitCount_0f7a4_11 : decode cJ6_bitCount_0f7a4 11 = .ok (.ldc_w 266, 3) := by decide +kernel
theorem dJ6_bitCount_0f7a4_14 : decode cJ6_bitCount_0f7a4 14 = .ok (.iand, 1) := by decide +kernel
theorem dJ6_bitCount_0f7a4_15 : decode cJ6_bitCount_0f7a4 15 = .ok (.iload_n 0, 1) := by decide +kernel
theorem dJ6_bitCount_0f7a4_16 : decode cJ6_bitCount_0f7a4 16 = .ok (.iconst 2, 1) := by decide +kernel
theorem dJ6_bitCount_0f7a4_17 : decode cJ6_bitCount_0f7a4 17 = .ok (.iushr, 1) := by decide +kernel
theorem dJ6_bitCount_0f7a4_18 : decode cJ6_bitCount_0f7a4 18 = .ok (.ldc_w 266, 3) := by decide +kernel
theorem dJ6_bitCount_0f7a4_21 : decode cJ6_bitCount_0f7a4 21 = .ok (.iand, 1) := by decide +kernel
theorem dJ6_bitCount_0f7a4_22 : decode cJ6_bitCount_0f7a4 22 = .ok (.iadd, 1) := by decide +kernel
theorem dJ6_bitCount_0f7a4_23 : decode cJ6_bitCount_0f7a4 23 = .ok (.istore_n 0, 1) := by decide +kernel
theorem dJ6_bitCount_0f7a4_24 : decode cJ6_bitCount_0f7a4 24 = .ok (.iload_n 0, 1) := by decide +kernel
theorem dJ6_bitCount_0f7a4_25 : decode cJ6_bitCount_0f7a4 25 = .ok (.iload_n 0, 1) := by decide +kernel
theorem dJ6_bitCount_0f7a4_26 : decode cJ6_bitCount_0f7a4 26 = .ok (.iconst 4, 1) := by decide +kernel
theorem dJ6_bitCount_0f7a4_27 : decode cJ6_bitCount_0f7a4 27 = .ok (.iushr, 1) := by decide +kernel
theorem dJ6_bitCount_0f7a4_28 : decode cJ6_bitCount_0f7a4 28 = .ok (.iadd, 1) := by decide +kernel
theorem dJ6_bitCount_0f7a4_29 : decode cJ6_bitCount_0f7a4 29 = .ok (.ldc_w 267, 3) := by decide +kernel
theorem dJ6_bitCount_0f7a4_32 : decode cJ6_bitCount_0f7a4 32 = .ok (.iand, 1) := by decide +kernel
theorem dJ6_bitCount_0f7a4_33 : decode cJ6_bitCount_0f7a4 33 = .ok (.istore_n 0, 1) := by decide +kernel
theorem dJ6_bitCount_0f7a4_34 : decode cJ6_bitCount_0f7a4 34 = .ok (.iload_n 0, 1) := by decide +kernel
theorem dJ6_bitCount_0f7a4_35 : decode cJ6_bitCount_0f7a4 35 = .ok (.iload_n 0, 1) := by decide +kernel
theorem dJ6_bitCount_0f7a4_36 : decode cJ6_bitCount_0f7a4 36 = .ok (.bipush 8, 2) := by decide +kernel
theorem dJ6_bitCount_0f7a4_38 : decode cJ6_bitCount_0f7a4 38 = .ok (.iushr, 1) := by decide +kernel
theorem dJ6_bitCount_0f7a4_39 : decode cJ6_bitCount_0f7a4 39 = .ok (.iadd, 1) := by decide +kernel
theorem dJ6_bitCount_0f7a4_40 : decode cJ6_bitCount_0f7a4 40 = .ok (.istore_n 0, 1) := by decide +kernel
theorem dJ6_bitCount_0f7a4_41 : decode cJ6_bitCount_0f7a4 41 = .ok (.iload_n 0, 1) := by decide +kernel
theorem dJ6_bitCount_0f7a4_42 : decode cJ6_bitCount_0f7a4 42 = .ok (.iload_n 0, 1) := by decide +kernel
theorem dJ6_bitCount_0f7a4_43 : decode cJ6_bitCount_0f7a4 43 = .ok (.bipush 16, 2) := by decide +kernel
theorem dJ6_bitCount_0f7a4_45 : decode cJ6_bitCount_0f7a4 45 = .ok (.iushr, 1) := by decide +kernel
theorem dJ6_bitCount_0f7a4_46 : decode cJ6_bitCount_0f7a4 46 = .ok (.iadd, 1) := by decide +kernel
theorem dJ6_bitCount_0f7a4_47 : decode cJ6_bitCount_0f7a4 47 = .ok (.istore_n 0, 1) := by decide +kernel
theorem dJ6_bitCount_0f7a4_48 : decode cJ6_bitCount_0f7a4 48 = .ok (.iload_n 0, 1) := by decide +kernel
theorem dJ6_bitCount_0f7a4_49 : decode cJ6_bitCount_0f7a4 49 = .ok (.bipush 63, 2) := by decide +kernel
theorem dJ6_bitCount_0f7a4_51 : decode cJ6_bitCount_0f7a4 51 = .ok (.iand, 1) := by decide +kernel
theorem dJ6_bitCount_0f7a4_52 : decode cJ6_bitCount_0f7a4 52 = .ok (.ireturn, 1) := by decide +kernel
theorem dX0_init_0 : decode cX0_init 0 = .ok (.aload_n 0, 1) := by decide +kernel
theorem dX0_init_1 : decode cX0_init 1 = .ok (.iload_n 1, 1) := by decide +kernel
theorem dX0_init_2 : decode cX0_init 2 = .ok (.iload_n 2, 1) := by decide +kernel
theorem dX0_init_3 : decode cX0_init 3 = .ok (.invokespecial 1, 3) := by decide +kernel
theorem dX0_init_6 : decode cX0_init 6 = .ok (.return_, 1) := by decide +kernel
theorem dX0_rests_0 : decode cX0_rests 0 = .ok (.aload_n 1, 1) := by decide +kernel
theorem dX0_rests_1 : decode cX0_rests 1 = .ok (.bipush 41, 2) := by decide +kernel
theorem dX0_rests_3 : decode cX0_rests 3 = .ok (.invokevirtual 13, 3) := by decide +kernel
theorem dX0_rests_6 : decode cX0_rests 6 = .ok (.aload_n 0, 1) := by decide +kernel
theorem dX0_rests_7 : decode cX0_rests 7 = .ok (.aload_n 1, 1) := by decide +kernel
theorem dX0_rests_8 : decode cX0_rests 8 = .ok (.iload_n 2, 1) := by decide +kernel
theorem dX0_rests_9 : decode cX0_rests 9 = .ok (.iconst 1, 1) := by decide +kernel
theorem dX0_rests_10 : decode cX0_rests 10 = .ok (.isub, 1) := by decide +kernel
theorem dX0_rests_11 : decode cX0_rests 11 = .ok (.invokespecial 19, 3) := by decide +kernel
theorem dX0_rests_14 : decode cX0_rests 14 = .ok (.aload_n 0, 1) := by decide +kernel
theorem dX0_rests_15 : decode cX0_rests 15 = .ok (.aload_n 1, 1) := by decide +kernel
theorem dX0_rests_16 : decode cX0_rests 16 = .ok (.iconst 2, 1) := by decide +kernel
theorem dX0_rests_17 : decode cX0_rests 17 = .ok (.invokevirtual 23, 3) := by decide +kernel
theorem dX0_rests_20 : decode cX0_rests 20 = .ok (.iadd, 1) := by decide +kernel
theorem dX0_rests_21 : decode cX0_rests 21 = .ok (.ireturn, 1) := by decide +kernel
theorem dX0_wants_0 : decode cX0_wants 0 = .ok (.aload_n 2, 1) := by decide +kernel
theorem dX0_wants_1 : decode cX0_wants 1 = .ok (.iload_n 3, 1) := by decide +kernel
theorem dX0_wants_2 : decode cX0_wants 2 = .ok (.iload 4, 2) := by decide +kernel
theorem dX0_wants_4 : decode cX0_wants 4 = .ok (.invokevirtual 7, 3) := by decide +kernel
theorem dX0_wants_7 : decode cX0_wants 7 = .ok (.ireturn, 1) := by decide +kernel
theorem dX10_goes_0 : decode cX10_goes 0 = .ok (.aload_n 1, 1) := by decide +kernel
theorem dX10_goes_1 : decode cX10_goes 1 = .ok (.iconst 1, 1) := by decide +kernel
theorem dX10_goes_2 : decode cX10_goes 2 = .ok (.invokevirtual 27, 3) := by decide +kernel
theorem dX10_goes_5 : decode cX10_goes 5 = .ok (.iload_n 2, 1) := by decide +kernel
theorem dX10_goes_6 : decode cX10_goes 6 = .ok (.aload_n 0, 1) := by decide +kernel
theorem dX10_goes_7 : decode cX10_goes 7 = .ok (.getfield 7, 3) := by decide +kernel
theorem dX10_goes_10 : decode cX10_goes 10 = .ok (.iadd, 1) := by decide +kernel
theorem dX10_goes_11 : decode cX10_goes 11 = .ok (.ireturn, 1) := by decide +kernel
theorem dX10_init_0 : decode cX10_init 0 = .ok (.aload_n 0, 1) := by decide +kernel
theorem dX10_init_1 : decode cX10_init 1 = .ok (.invokespecial 1, 3) := by decide +kernel
theorem dX10_init_4 : decode cX10_init 4 = .ok (.aload_n 0, 1) := by decide +kernel
theorem dX10_init_5 : decode cX10_init 5 = .ok (.iload_n 1, 1) := by decide +kernel
theorem dX10_init_6 : decode cX10_init 6 = .ok (.putfield 7, 3) := by decide +kernel
theorem dX10_init_9 : decode cX10_init 9 = .ok (.aload_n 0, 1) := by decide +kernel
theorem dX10_init_10 : decode cX10_init 10 = .ok (.iload_n 2, 1) := by decide +kernel
theorem dX10_init_11 : decode cX10_init 11 = .ok (.putfield 13, 3) := by decide +kernel
theorem dX10_init_14 : decode cX10_init 14 = .ok (.return_, 1) := by decide +kernel
theorem dX10_rests_0 : decode cX10_rests 0 = .ok (.aload_n 1, 1) := by decide +kernel
theorem dX10_rests_1 : decode cX10_rests 1 = .ok (.iconst 3, 1) := by decide +kernel
theorem dX10_rests_2 : decode cX10_rests 2 = .ok (.invokevirtual 27, 3) := by decide +kernel
theorem dX10_rests_5 : decode cX10_rests 5 = .ok (.aload_n 0, 1) := by decide +kernel
theorem dX10_rests_6 : decode cX10_rests 6 = .ok (.aload_n 1, 1) := by decide +kernel
theorem dX10_rests_7 : decode cX10_rests 7 = .ok (.iload_n 2, 1) := by decide +kernel
theorem dX10_rests_8 : decode cX10_rests 8 = .ok (.invokevirtual 35, 3) := by decide +kernel
theorem dX10_rests_11 : decode cX10_rests 11 = .ok (.iconst 2, 1) := by decide +kernel
theorem dX10_rests_12 : decode cX10_rests 12 = .ok (.imul, 1) := by decide +kernel
theorem dX10_rests_13 : decode cX10_rests 13 = .ok (.ireturn, 1) := by decide +kernel
theorem dX10_spends_0 : decode cX10_spends 0 = .ok (.aload_n 1, 1) := by decide +kernel
theorem dX10_spends_1 : decode cX10_spends 1 = .ok (.iconst 2, 1) := by decide +kernel
theorem dX10_spends_2 : decode cX10_spends 2 = .ok (.invokevirtual 27, 3) := by decide +kernel
theorem dX10_spends_5 : decode cX10_spends 5 = .ok (.aload_n 0, 1) := by decide +kernel
theorem dX10_spends_6 : decode cX10_spends 6 = .ok (.aload_n 1, 1) := by decide +kernel
theorem dX10_spends_7 : decode cX10_spends 7 = .ok (.iload_n 2, 1) := by decide +kernel
theorem dX10_spends_8 : decode cX10_spends 8 = .ok (.invokevirtual 31, 3) := by decide +kernel
theorem dX10_spends_11 : decode cX10_spends 11 = .ok (.aload_n 0, 1) := by decide +kernel
theorem dX10_spends_12 : decode cX10_spends 12 = .ok (.getfield 13, 3) := by decide +kernel
theorem dX10_spends_15 : decode cX10_spends 15 = .ok (.isub, 1) := by decide +kernel
theorem dX10_spends_16 : decode cX10_spends 16 = .ok (.ireturn, 1) := by decide +kernel
theorem dX10_wants_0 : decode cX10_wants 0 = .ok (.aload_n 1, 1) := by decide +kernel
theorem dX10_wants_1 : decode cX10_wants 1 = .ok (.getfield 16, 3) := by decide +kernel
theorem dX10_wants_4 : decode cX10_wants 4 = .ok (.getfield 22, 3) := by decide +kernel
theorem dX10_wants_7 : decode cX10_wants 7 = .ok (.ireturn, 1) := by decide +kernel
theorem dX1_goes_0 : decode cX1_goes 0 = .ok (.aload_n 1, 1) := by decide +kernel
theorem dX1_goes_1 : decode cX1_goes 1 = .ok (.bipush 11, 2) := by decide +kernel
theorem dX1_goes_3 : decode cX1_goes 3 = .ok (.invokevirtual 13, 3) := by decide +kernel
theorem dX1_goes_6 : decode cX1_goes 6 = .ok (.aload_n 0, 1) := by decide +kernel
theorem dX1_goes_7 : decode cX1_goes 7 = .ok (.aload_n 1, 1) := by decide +kernel
theorem dX1_goes_8 : decode cX1_goes 8 = .ok (.iload_n 2, 1) := by decide +kernel
theorem dX1_goes_9 : decode cX1_goes 9 = .ok (.iconst 3, 1) := by decide +kernel
theorem dX1_goes_10 : decode cX1_goes 10 = .ok (.imul, 1) := by decide +kernel
theorem dX1_goes_11 : decode cX1_goes 11 = .ok (.invokespecial 19, 3) := by decide +kernel
theorem dX1_goes_14 : decode cX1_goes 14 = .ok (.ireturn, 1) := by decide +kernel
theorem dX1_init_0 : decode cX1_init 0 = .ok (.aload_n 0, 1) := by decide +kernel
theorem dX1_init_1 : decode cX1_init 1 = .ok (.iload_n 1, 1) := by decide +kernel
theorem dX1_init_2 : decode cX1_init 2 = .ok (.iload_n 2, 1) := by decide +kernel
theorem dX1_init_3 : decode cX1_init 3 = .ok (.invokespecial 1, 3) := by decide +kernel
theorem dX1_init_6 : decode cX1_init 6 = .ok (.return_, 1) := by decide +kernel
theorem dX1_wants_0 : decode cX1_wants 0 = .ok (.aload_n 0, 1) := by decide +kernel
theorem dX1_wants_1 : decode cX1_wants 1 = .ok (.getfield 7, 3) := by decide +kernel
theorem dX1_wants_4 : decode cX1_wants 4 = .ok (.ireturn, 1) := by decide +kernel
theorem dX2_goes_0 : decode cX2_goes 0 = .ok (.aload_n 1, 1) := by decide +kernel
theorem dX2_goes_1 : decode cX2_goes 1 = .ok (.bipush 51, 2) := by decide +kernel
theorem dX2_goes_3 : decode cX2_goes 3 = .ok (.invokevirtual 30, 3) := by decide +kernel
theorem dX2_goes_6 : decode cX2_goes 6 = .ok (.aload_n 0, 1) := by decide +kernel
theorem dX2_goes_7 : decode cX2_goes 7 = .ok (.aload_n 1, 1) := by decide +kernel
theorem dX2_goes_8 : decode cX2_goes 8 = .ok (.iload_n 2, 1) := by decide +kernel
theorem dX2_goes_9 : decode cX2_goes 9 = .ok (.invokespecial 34, 3) := by decide +kernel
theorem dX2_goes_12 : decode cX2_goes 12 = .ok (.aload_n 0, 1) := by decide +kernel
theorem dX2_goes_13 : decode cX2_goes 13 = .ok (.getfield 38, 3) := by decide +kernel
theorem dX2_goes_16 : decode cX2_goes 16 = .ok (.ixor, 1) := by decide +kernel
theorem dX2_goes_17 : decode cX2_goes 17 = .ok (.ireturn, 1) := by decide +kernel
theorem dX2_init_0 : decode cX2_init 0 = .ok (.aload_n 0, 1) := by decide +kernel
theorem dX2_init_1 : decode cX2_init 1 = .ok (.iload_n 1, 1) := by decide +kernel
theorem dX2_init_2 : decode cX2_init 2 = .ok (.iload_n 2, 1) := by decide +kernel
theorem dX2_init_3 : decode cX2_init 3 = .ok (.invokespecial 1, 3) := by decide +kernel
theorem dX2_init_6 : decode cX2_init 6 = .ok (.return_, 1) := by decide +kernel
theorem dX2_wants_0 : decode cX2_wants 0 = .ok (.aload_n 1, 1) := by decide +kernel
theorem dX2_wants_1 : decode cX2_wants 1 = .ok (.getfield 7, 3) := by decide +kernel
theorem dX2_wants_4 : decode cX2_wants 4 = .ok (.astore 5, 2) := by decide +kernel
theorem dX2_wants_6 : decode cX2_wants 6 = .ok (.iload 4, 2) := by decide +kernel
theorem dX2_wants_8 : decode cX2_wants 8 = .ok (.aload 5, 2) := by decide +kernel
theorem dX2_wants_10 : decode cX2_wants 10 = .ok (.getfield 13, 3) := by decide +kernel
theorem dX2_wants_13 : decode cX2_wants 13 = .ok (.imul, 1) := by decide +kernel
theorem dX2_wants_14 : decode cX2_wants 14 = .ok (.aload 5, 2) := by decide +kernel
theorem dX2_wants_16 : decode cX2_wants 16 = .ok (.getfield 19, 3) := by decide +kernel
theorem dX2_wants_19 : decode cX2_wants 19 = .ok (.aload 5, 2) := by decide +kernel
theorem dX2_wants_21 : decode cX2_wants 21 = .ok (.getfield 13, 3) := by decide +kernel
theorem dX2_wants_24 : decode cX2_wants 24 = .ok (.iload_n 3, 1) := by decide +kernel
theorem dX2_wants_25 : decode cX2_wants 25 = .ok (.isub, 1) := by decide +kernel
theorem dX2_wants_26 : decode cX2_wants 26 = .ok (.imul, 1) := by decide +kernel
theorem dX2_wants_27 : decode cX2_wants 27 = .ok (.if_icmp .ge 7, 3) := by decide +kernel
theorem dX2_wants_30 : decode cX2_wants 30 = .ok (.iconst 1, 1) := by decide +kernel
theorem dX2_wants_31 : decode cX2_wants 31 = .ok (.goto 4, 3) := by decide +kernel
theorem dX2_wants_34 : decode cX2_wants 34 = .ok (.iconst 0, 1) := by decide +kernel
theorem dX2_wants_35 : decode cX2_wants 35 = .ok (.istore 6, 2) := by decide +kernel
theorem dX2_wants_37 : decode cX2_wants 37 = .ok (.iload 6, 2) := by decide +kernel
theorem dX2_wants_39 : decode cX2_wants 39 = .ok (.ifCond .eq 11, 3) := by decide +kernel
theorem dX2_wants_42 : decode cX2_wants 42 = .ok (.aload 5, 2) := by decide +kernel
theorem dX2_wants_44 : decode cX2_wants 44 = .ok (.getfield 22, 3) := by decide +kernel
theorem dX2_wants_47 : decode cX2_wants 47 = .ok (.goto 7, 3) := by decide +kernel
theorem dX2_wants_50 : decode cX2_wants 50 = .ok (.aload_n 0, 1) := by decide +kernel
theorem dX2_wants_51 : decode cX2_wants 51 = .ok (.getfield 25, 3) := by decide +kernel
theorem dX2_wants_54 : decode cX2_wants 54 = .ok (.ireturn, 1) := by decide +kernel
theorem dX3_init_0 : decode cX3_init 0 = .ok (.aload_n 0, 1) := by decide +kernel
theorem dX3_init_1 : decode cX3_init 1 = .ok (.iload_n 1, 1) := by decide +kernel
theorem dX3_init_2 : decode cX3_init 2 = .ok (.iload_n 2, 1) := by decide +kernel
theorem dX3_init_3 : decode cX3_init 3 = .ok (.invokespecial 1, 3) := by decide +kernel
theorem dX3_init_6 : decode cX3_init 6 = .ok (.return_, 1) := by decide +kernel
theorem dX3_rests_0 : decode cX3_rests 0 = .ok (.aload_n 1, 1) := by decide +kernel
theorem dX3_rests_1 : decode cX3_rests 1 = .ok (.bipush 31, 2) := by decide +kernel
theorem dX3_rests_3 : decode cX3_rests 3 = .ok (.invokevirtual 17, 3) := by decide +kernel
theorem dX3_rests_6 : decode cX3_rests 6 = .ok (.aload_n 0, 1) := by decide +kernel
theorem dX3_rests_7 : decode cX3_rests 7 = .ok (.aload_n 1, 1) := by decide +kernel
theorem dX3_rests_8 : decode cX3_rests 8 = .ok (.iload_n 2, 1) := by decide +kernel
theorem dX3_rests_9 : decode cX3_rests 9 = .ok (.invokespecial 23, 3) := by decide +kernel
theorem dX3_rests_12 : decode cX3_rests 12 = .ok (.bipush 7, 2) := by decide +kernel
theorem dX3_rests_14 : decode cX3_rests 14 = .ok (.ixor, 1) := by decide +kernel
theorem dX3_rests_15 : decode cX3_rests 15 = .ok (.ireturn, 1) := by decide +kernel
theorem dX3_wants_0 : decode cX3_wants 0 = .ok (.aload_n 0, 1) := by decide +kernel
theorem dX3_wants_1 : decode cX3_wants 1 = .ok (.aload_n 1, 1) := by decide +kernel
theorem dX3_wants_2 : decode cX3_wants 2 = .ok (.aload_n 2, 1) := by decide +kernel
theorem dX3_wants_3 : decode cX3_wants 3 = .ok (.iload_n 3, 1) := by decide +kernel
theorem dX3_wants_4 : decode cX3_wants 4 = .ok (.iload 4, 2) := by decide +kernel
theorem dX3_wants_6 : decode cX3_wants 6 = .ok (.invokespecial 7, 3) := by decide +kernel
theorem dX3_wants_9 : decode cX3_wants 9 = .ok (.istore 5, 2) := by decide +kernel
theorem dX3_wants_11 : decode cX3_wants 11 = .ok (.iload_n 3, 1) := by decide +kernel
theorem dX3_wants_12 : decode cX3_wants 12 = .ok (.aload_n 0, 1) := by decide +kernel
theorem dX3_wants_13 : decode cX3_wants 13 = .ok (.getfield 11, 3) := by decide +kernel
theorem dX3_wants_16 : decode cX3_wants 16 = .ok (.if_icmp .lt 10, 3) := by decide +kernel
theorem dX3_wants_19 : decode cX3_wants 19 = .ok (.iload 5, 2) := by decide +kernel
theorem dX3_wants_21 : decode cX3_wants 21 = .ok (.iconst 2, 1) := by decide +kernel
theorem dX3_wants_22 : decode cX3_wants 22 = .ok (.iadd, 1) := by decide +kernel
theorem dX3_wants_23 : decode cX3_wants 23 = .ok (.goto 5, 3) := by decide +kernel
theorem dX3_wants_26 : decode cX3_wants 26 = .ok (.iload 5, 2) := by decide +kernel
theorem dX3_wants_28 : decode cX3_wants 28 = .ok (.ireturn, 1) := by decide +kernel
theorem dX4_effortAt_0 : decode cX4_effortAt 0 = .ok (.aload_n 0, 1) := by decide +kernel
theorem dX4_effortAt_1 : decode cX4_effortAt 1 = .ok (.getfield 24, 3) := by decide +kernel
theorem dX4_effortAt_4 : decode cX4_effortAt 4 = .ok (.iload_n 1, 1) := by decide +kernel
theorem dX4_effortAt_5 : decode cX4_effortAt 5 = .ok (.iload_n 2, 1) := by decide +kernel
theorem dX4_effortAt_6 : decode cX4_effortAt 6 = .ok (.invokestatic 64, 3) := by decide +kernel
theorem dX4_effortAt_9 : decode cX4_effortAt 9 = .ok (.iaload, 1) := by decide +kernel
theorem dX4_effortAt_10 : decode cX4_effortAt 10 = .ok (.ireturn, 1) := by decide +kernel
theorem dX4_empty_0 : decode cX4_empty 0 = .ok (.iconst 0, 1) := by decide +kernel
theorem dX4_empty_1 : decode cX4_empty 1 = .ok (.istore_n 1, 1) := by decide +kernel
theorem dX4_empty_2 : decode cX4_empty 2 = .ok (.iload_n 1, 1) := by decide +kernel
theorem dX4_empty_3 : decode cX4_empty 3 = .ok (.aload_n 0, 1) := by decide +kernel
theorem dX4_empty_4 : decode cX4_empty 4 = .ok (.arraylength, 1) := by decide +kernel
theorem dX4_empty_5 : decode cX4_empty 5 = .ok (.if_icmp .ge 13, 3) := by decide +kernel
theorem dX4_empty_8 : decode cX4_empty 8 = .ok (.aload_n 0, 1) := by decide +kernel
theorem dX4_empty_9 : decode cX4_empty 9 = .ok (.iload_n 1, 1) := by decide +kernel
theorem dX4_empty_10 : decode cX4_empty 10 = .ok (.iconst (-1), 1) := by decide +kernel
theorem dX4_empty_11 : decode cX4_empty 11 = .ok (.iastore, 1) := by decide +kernel
theorem dX4_empty_12 : decode cX4_empty 12 = .ok (.iinc 1 1, 3) := by decide +kernel
theorem dX4_empty_15 : decode cX4_empty 15 = .ok (.goto (-13), 3) := by decide +kernel
theorem dX4_empty_18 : decode cX4_empty 18 = .ok (.return_, 1) := by decide +kernel
theorem dX4_fewestBy_0 : decode cX4_fewestBy 0 = .ok (.aload_n 0, 1) := by decide +kernel
theorem dX4_fewestBy_1 : decode cX4_fewestBy 1 = .ok (.getfield 27, 3) := by decide +kernel
theorem dX4_fewestBy_4 : decode cX4_fewestBy 4 = .ok (.astore_n 2, 1) := by decide +kernel
theorem dX4_fewestBy_5 : decode cX4_fewestBy 5 = .ok (.aload_n 0, 1) := by decide +kernel
theorem dX4_fewestBy_6 : decode cX4_fewestBy 6 = .ok (.getfield 30, 3) := by decide +kernel
theorem dX4_fewestBy_9 : decode cX4_fewestBy 9 = .ok (.astore_n 3, 1) := by decide +kernel
theorem dX4_fewestBy_10 : decode cX4_fewestBy 10 = .ok (.aload_n 2, 1) := by decide +kernel
theorem dX4_fewestBy_11 : decode cX4_fewestBy 11 = .ok (.invokestatic 90, 3) := by decide +kernel
theorem dX4_fewestBy_14 : decode cX4_fewestBy 14 = .ok (.aload_n 0, 1) := by decide +kernel
theorem dX4_fewestBy_15 : decode cX4_fewestBy 15 = .ok (.getfield 63, 3) := by decide +kernel
theorem dX4_fewestBy_18 : decode cX4_fewestBy 18 = .ok (.ifCond .lt 19, 3) := by decide +kernel
theorem dX4_fewestBy_21 : decode cX4_fewestBy 21 = .ok (.aload_n 0, 1) := by decide +kernel
theorem dX4_fewestBy_22 : decode cX4_fewestBy 22 = .ok (.getfield 63, 3) := by decide +kernel
theorem dX4_fewestBy_25 : decode cX4_fewestBy 25 = .ok (.bipush 61, 2) := by decide +kernel
theorem dX4_fewestBy_27 : decode cX4_fewestBy 27 = .ok (.if_icmp .ge 10, 3) := by decide +kernel
theorem dX4_fewestBy_30 : decode cX4_fewestBy 30 = .ok (.aload_n 2, 1) := by decide +kernel
theorem dX4_fewestBy_31 : decode cX4_fewestBy 31 = .ok (.aload_n 0, 1) := by decide +kernel
theorem dX4_fewestBy_32 : decode cX4_fewestBy 32 = .ok (.getfield 63, 3) := by decide +kernel
theorem dX4_fewestBy_35 : decode cX4_fewestBy 35 = .ok (.iconst 0, 1) := by decide +kernel
theorem dX4_fewestBy_36 : decode cX4_fewestBy 36 = .ok (.iastore, 1) := by decide +kernel
theorem dX4_fewestBy_37 : decode cX4_fewestBy 37 = .ok (.iconst 0, 1) := by decide +kernel
theorem dX4_fewestBy_38 : decode cX4_fewestBy 38 = .ok (.istore 4, 2) := by decide +kernel
theorem dX4_fewestBy_40 : decode cX4_fewestBy 40 = .ok (.iload 4, 2) := by decide +kernel
theorem dX4_fewestBy_42 : decode cX4_fewestBy 42 = .ok (.aload_n 0, 1) := by decide +kernel
theorem dX4_fewestBy_43 : decode cX4_fewestBy 43 = .ok (.getfield 59, 3) := by decide +kernel
theorem dX4_fewestBy_46 : decode cX4_fewestBy 46 = .ok (.if_icmp .ge 57, 3) := by decide +kernel
theorem dX4_fewestBy_49 : decode cX4_fewestBy 49 = .ok (.aload_n 3, 1) := by decide +kernel
theorem dX4_fewestBy_50 : decode cX4_fewestBy 50 = .ok (.invokestatic 90, 3) := by decide +kernel
theorem dX4_fewestBy_53 : decode cX4_fewestBy 53 = .ok (.iconst 0, 1) := by decide +kernel
theorem dX4_fewestBy_54 : decode cX4_fewestBy 54 = .ok (.istore 5, 2) := by decide +kernel
theorem dX4_fewestBy_56 : decode cX4_fewestBy 56 = .ok (.iload 5, 2) := by decide +kernel
theorem dX4_fewestBy_58 : decode cX4_fewestBy 58 = .ok (.bipush 10, 2) := by decide +kernel
theorem dX4_fewestBy_60 : decode cX4_fewestBy 60 = .ok (.if_icmp .ge 29, 3) := by decide +kernel
theorem dX4_fewestBy_63 : decode cX4_fewestBy 63 = .ok (.iload_n 1, 1) := by decide +kernel
theorem dX4_fewestBy_64 : decode cX4_fewestBy 64 = .ok (.iload 5, 2) := by decide +kernel
theorem dX4_fewestBy_66 : decode cX4_fewestBy 66 = .ok (.ishr, 1) := by decide +kernel
theorem dX4_fewestBy_67 : decode cX4_fewestBy 67 = .ok (.iconst 1, 1) := by decide +kernel
theorem dX4_fewestBy_68 : decode cX4_fewestBy 68 = .ok (.iand, 1) := by decide +kernel
theorem dX4_fewestBy_69 : decode cX4_fewestBy 69 = .ok (.iconst 1, 1) := by decide +kernel
theorem dX4_fewestBy_70 : decode cX4_fewestBy 70 = .ok (.if_icmp .ne 13, 3) := by decide +kernel
theorem dX4_fewestBy_73 : decode cX4_fewestBy 73 = .ok (.aload_n 0, 1) := by decide +kernel
theorem dX4_fewestBy_74 : decode cX4_fewestBy 74 = .ok (.iload 4, 2) := by decide +kernel
theorem dX4_fewestBy_76 : decode cX4_fewestBy 76 = .ok (.iload 5, 2) := by decide +kernel
theorem dX4_fewestBy_78 : decode cX4_fewestBy 78 = .ok (.aload_n 2, 1) := by decide +kernel
theorem dX4_fewestBy_79 : decode cX4_fewestBy 79 = .ok (.aload_n 3, 1) := by decide +kernel
theorem dX4_fewestBy_80 : decode cX4_fewestBy 80 = .ok (.invokevirtual 94, 3) := by decide +kernel
theorem dX4_fewestBy_83 : decode cX4_fewestBy 83 = .ok (.iinc 5 1, 3) := by decide +kernel
theorem dX4_fewestBy_86 : decode cX4_fewestBy 86 = .ok (.goto (-30), 3) := by decide +kernel
theorem dX4_fewestBy_89 : decode cX4_fewestBy 89 = .ok (.aload_n 2, 1) := by decide +kernel
theorem dX4_fewestBy_90 : decode cX4_fewestBy 90 = .ok (.astore 5, 2) := by decide +kernel
theorem dX4_fewestBy_92 : decode cX4_fewestBy 92 = .ok (.aload_n 3, 1) := by decide +kernel
theorem dX4_fewestBy_93 : decode cX4_fewestBy 93 = .ok (.astore_n 2, 1) := by decide +kernel
theorem dX4_fewestBy_94 : decode cX4_fewestBy 94 = .ok (.aload 5, 2) := by decide +kernel
theorem dX4_fewestBy_96 : decode cX4_fewestBy 96 = .ok (.astore_n 3, 1) := by decide +kernel
theorem dX4_fewestBy_97 : decode cX4_fewestBy 97 = .ok (.iinc 4 1, 3) := by decide +kernel
theorem dX4_fewestBy_100 : decode cX4_fewestBy 100 = .ok (.goto (-60), 3) := by decide +kernel
theorem dX4_fewestBy_103 : decode cX4_fewestBy 103 = .ok (.iconst (-1), 1) := by decide +kernel
theorem dX4_fewestBy_104 : decode cX4_fewestBy 104 = .ok (.istore 4, 2) := by decide +kernel
theorem dX4_fewestBy_106 : decode cX4_fewestBy 106 = .ok (.iconst 0, 1) := by decide +kernel
theorem dX4_fewestBy_107 : decode cX4_fewestBy 107 = .ok (.istore 5, 2) := by decide +kernel
theorem dX4_fewestBy_109 : decode cX4_fewestBy 109 = .ok (.iload 5, 2) := by decide +kernel
theorem dX4_fewestBy_111 : decode cX4_fewestBy 111 = .ok (.aload_n 0, 1) := by decide +kernel
theorem dX4_fewestBy_112 : decode cX4_fewestBy 112 = .ok (.getfield 63, 3) := by decide +kernel
theorem dX4_fewestBy_115 : decode cX4_fewestBy 115 = .ok (.if_icmp .gt 43, 3) := by decide +kernel
theorem dX4_fewestBy_118 : decode cX4_fewestBy 118 = .ok (.iload 5, 2) := by decide +kernel
theorem dX4_fewestBy_120 : decode cX4_fewestBy 120 = .ok (.bipush 61, 2) := by decide +kernel
theorem dX4_fewestBy_122 : decode cX4_fewestBy 122 = .ok (.if_icmp .ge 36, 3) := by decide +kernel
theorem dX4_fewestBy_125 : decode cX4_fewestBy 125 = .ok (.aload_n 2, 1) := by decide +kernel
theorem dX4_fewestBy_126 : decode cX4_fewestBy 126 = .ok (.iload 5, 2) := by decide +kernel
theorem dX4_fewestBy_128 : decode cX4_fewestBy 128 = .ok (.iaload, 1) := by decide +kernel
theorem dX4_fewestBy_129 : decode cX4_fewestBy 129 = .ok (.ifCond .lt 23, 3) := by decide +kernel
theorem dX4_fewestBy_132 : decode cX4_fewestBy 132 = .ok (.iload 4, 2) := by decide +kernel
theorem dX4_fewestBy_134 : decode cX4_fewestBy 134 = .ok (.ifCond .lt 12, 3) := by decide +kernel
theorem dX4_fewestBy_137 : decode cX4_fewestBy 137 = .ok (.aload_n 2, 1) := by decide +kernel
theorem dX4_fewestBy_138 : decode cX4_fewestBy 138 = .ok (.iload 5, 2) := by decide +kernel
theorem dX4_fewestBy_140 : decode cX4_fewestBy 140 = .ok (.iaload, 1) := by decide +kernel
theorem dX4_fewestBy_141 : decode cX4_fewestBy 141 = .ok (.iload 4, 2) := by decide +kernel
theorem dX4_fewestBy_143 : decode cX4_fewestBy 143 = .ok (.if_icmp .ge 9, 3) := by decide +kernel
theorem dX4_fewestBy_146 : decode cX4_fewestBy 146 = .ok (.aload_n 2, 1) := by decide +kernel
theorem dX4_fewestBy_147 : decode cX4_fewestBy 147 = .ok (.iload 5, 2) := by decide +kernel
theorem dX4_fewestBy_149 : decode cX4_fewestBy 149 = .ok (.iaload, 1) := by decide +kernel
theorem dX4_fewestBy_150 : decode cX4_fewestBy 150 = .ok (.istore 4, 2) := by decide +kernel
theorem dX4_fewestBy_152 : decode cX4_fewestBy 152 = .ok (.iinc 5 1, 3) := by decide +kernel
theorem dX4_fewestBy_155 : decode cX4_fewestBy 155 = .ok (.goto (-46), 3) := by decide +kernel
theorem dX4_fewestBy_158 : decode cX4_fewestBy 158 = .ok (.iload 4, 2) := by decide +kernel
theorem dX4_fewestBy_160 : decode cX4_fewestBy 160 = .ok (.ireturn, 1) := by decide +kernel
theorem dX4_fill_0 : decode cX4_fill 0 = .ok (.iload_n 2, 1) := by decide +kernel
theorem dX4_fill_1 : decode cX4_fill 1 = .ok (.iload_n 3, 1) := by decide +kernel
theorem dX4_fill_2 : decode cX4_fill 2 = .ok (.invokestatic 64, 3) := by decide +kernel
theorem dX4_fill_5 : decode cX4_fill 5 = .ok (.istore 4, 2) := by decide +kernel
theorem dX4_fill_7 : decode cX4_fill 7 = .ok (.iconst 0, 1) := by decide +kernel
theorem dX4_fill_8 : decode cX4_fill 8 = .ok (.istore 5, 2) := by decide +kernel
theorem dX4_fill_10 : decode cX4_fill 10 = .ok (.iload 5, 2) := by decide +kernel
theorem dX4_fill_12 : decode cX4_fill 12 = .ok (.bipush 10, 2) := by decide +kernel
theorem dX4_fill_14 : decode cX4_fill 14 = .ok (.if_icmp .ge 178, 3) := by decide +kernel
theorem dX4_fill_17 : decode cX4_fill 17 = .ok (.iload_n 2, 1) := by decide +kernel
theorem dX4_fill_18 : decode cX4_fill 18 = .ok (.iload 5, 2) := by decide +kernel
theorem dX4_fill_20 : decode cX4_fill 20 = .ok (.iload_n 3, 1) := by decide +kernel
theorem dX4_fill_21 : decode cX4_fill 21 = .ok (.invokestatic 71, 3) := by decide +kernel
theorem dX4_fill_24 : decode cX4_fill 24 = .ok (.istore 6, 2) := by decide +kernel
theorem dX4_fill_26 : decode cX4_fill 26 = .ok (.aload_n 1, 1) := by decide +kernel
theorem dX4_fill_27 : decode cX4_fill 27 = .ok (.iload_n 2, 1) := by decide +kernel
theorem dX4_fill_28 : decode cX4_fill 28 = .ok (.iload 5, 2) := by decide +kernel
theorem dX4_fill_30 : decode cX4_fill 30 = .ok (.iload_n 3, 1) := by decide +kernel
theorem dX4_fill_31 : decode cX4_fill 31 = .ok (.invokevirtual 75, 3) := by decide +kernel
theorem dX4_fill_34 : decode cX4_fill 34 = .ok (.istore 7, 2) := by decide +kernel
theorem dX4_fill_36 : decode cX4_fill 36 = .ok (.aload_n 0, 1) := by decide +kernel
theorem dX4_fill_37 : decode cX4_fill 37 = .ok (.getfield 15, 3) := by decide +kernel
theorem dX4_fill_40 : decode cX4_fill 40 = .ok (.iload 6, 2) := by decide +kernel
theorem dX4_fill_42 : decode cX4_fill 42 = .ok (.iload 7, 2) := by decide +kernel
theorem dX4_fill_44 : decode cX4_fill 44 = .ok (.iastore, 1) := by decide +kernel
theorem dX4_fill_45 : decode cX4_fill 45 = .ok (.iload 7, 2) := by decide +kernel
theorem dX4_fill_47 : decode cX4_fill 47 = .ok (.ifCond .ge 6, 3) := by decide +kernel
theorem dX4_fill_50 : decode cX4_fill 50 = .ok (.goto 136, 3) := by decide +kernel
theorem dX4_fill_53 : decode cX4_fill 53 = .ok (.aload_n 0, 1) := by decide +kernel
theorem dX4_fill_54 : decode cX4_fill 54 = .ok (.getfield 9, 3) := by decide +kernel
theorem dX4_fill_57 : decode cX4_fill 57 = .ok (.iload 6, 2) := by decide +kernel
theorem dX4_fill_59 : decode cX4_fill 59 = .ok (.aload_n 1, 1) := by decide +kernel
theorem dX4_fill_60 : decode cX4_fill 60 = .ok (.iload_n 2, 1) := by decide +kernel
theorem dX4_fill_61 : decode cX4_fill 61 = .ok (.iload 5, 2) := by decide +kernel
theorem dX4_fill_63 : decode cX4_fill 63 = .ok (.iload_n 3, 1) := by decide +kernel
theorem dX4_fill_64 : decode cX4_fill 64 = .ok (.invokevirtual 78, 3) := by decide +kernel
theorem dX4_fill_67 : decode cX4_fill 67 = .ok (.iastore, 1) := by decide +kernel
theorem dX4_fill_68 : decode cX4_fill 68 = .ok (.aload_n 0, 1) := by decide +kernel
theorem dX4_fill_69 : decode cX4_fill 69 = .ok (.getfield 9, 3) := by decide +kernel
theorem dX4_fill_72 : decode cX4_fill 72 = .ok (.iload 6, 2) := by decide +kernel
theorem dX4_fill_74 : decode cX4_fill 74 = .ok (.iaload, 1) := by decide +kernel
theorem dX4_fill_75 : decode cX4_fill 75 = .ok (.aload_n 0, 1) := by decide +kernel
theorem dX4_fill_76 : decode cX4_fill 76 = .ok (.getfield 18, 3) := by decide +kernel
theorem dX4_fill_79 : decode cX4_fill 79 = .ok (.iload_n 2, 1) := by decide +kernel
theorem dX4_fill_80 : decode cX4_fill 80 = .ok (.iconst 1, 1) := by decide +kernel
theorem dX4_fill_81 : decode cX4_fill 81 = .ok (.iadd, 1) := by decide +kernel
theorem dX4_fill_82 : decode cX4_fill 82 = .ok (.iload 7, 2) := by decide +kernel
theorem dX4_fill_84 : decode cX4_fill 84 = .ok (.invokestatic 64, 3) := by decide +kernel
theorem dX4_fill_87 : decode cX4_fill 87 = .ok (.iaload, 1) := by decide +kernel
theorem dX4_fill_88 : decode cX4_fill 88 = .ok (.iadd, 1) := by decide +kernel
theorem dX4_fill_89 : decode cX4_fill 89 = .ok (.istore 8, 2) := by decide +kernel
theorem dX4_fill_91 : decode cX4_fill 91 = .ok (.aload_n 0, 1) := by decide +kernel
theorem dX4_fill_92 : decode cX4_fill 92 = .ok (.getfield 21, 3) := by decide +kernel
theorem dX4_fill_95 : decode cX4_fill 95 = .ok (.iload_n 2, 1) := by decide +kernel
theorem dX4_fill_96 : decode cX4_fill 96 = .ok (.iconst 1, 1) := by decide +kernel
theorem dX4_fill_97 : decode cX4_fill 97 = .ok (.iadd, 1) := by decide +kernel
theorem dX4_fill_98 : decode cX4_fill 98 = .ok (.iload 7, 2) := by decide +kernel
theorem dX4_fill_100 : decode cX4_fill 100 = .ok (.invokestatic 64, 3) := by decide +kernel
theorem dX4_fill_103 : decode cX4_fill 103 = .ok (.iaload, 1) := by decide +kernel
theorem dX4_fill_104 : decode cX4_fill 104 = .ok (.istore 9, 2) := by decide +kernel
theorem dX4_fill_106 : decode cX4_fill 106 = .ok (.iload 8, 2) := by decide +kernel
theorem dX4_fill_108 : decode cX4_fill 108 = .ok (.aload_n 0, 1) := by decide +kernel
theorem dX4_fill_109 : decode cX4_fill 109 = .ok (.getfield 18, 3) := by decide +kernel
theorem dX4_fill_112 : decode cX4_fill 112 = .ok (.iload 4, 2) := by decide +kernel
theorem dX4_fill_114 : decode cX4_fill 114 = .ok (.iaload, 1) := by decide +kernel
theorem dX4_fill_115 : decode cX4_fill 115 = .ok (.if_icmp .lt 27, 3) := by decide +kernel
theorem dX4_fill_118 : decode cX4_fill 118 = .ok (.iload 8, 2) := by decide +kernel
theorem dX4_fill_120 : decode cX4_fill 120 = .ok (.aload_n 0, 1) := by decide +kernel
theorem dX4_fill_121 : decode cX4_fill 121 = .ok (.getfield 18, 3) := by decide +kernel
theorem dX4_fill_124 : decode cX4_fill 124 = .ok (.iload 4, 2) := by decide +kernel
theorem dX4_fill_126 : decode cX4_fill 126 = .ok (.iaload, 1) := by decide +kernel
theorem dX4_fill_127 : decode cX4_fill 127 = .ok (.if_icmp .ne 19, 3) := by decide +kernel
theorem dX4_fill_130 : decode cX4_fill 130 = .ok (.iload 9, 2) := by decide +kernel
theorem dX4_fill_132 : decode cX4_fill 132 = .ok (.aload_n 0, 1) := by decide +kernel
theorem dX4_fill_133 : decode cX4_fill 133 = .ok (.getfield 21, 3) := by decide +kernel
theorem dX4_fill_136 : decode cX4_fill 136 = .ok (.iload 4, 2) := by decide +kernel
theorem dX4_fill_138 : decode cX4_fill 138 = .ok (.iaload, 1) := by decide +kernel
theorem dX4_fill_139 : decode cX4_fill 139 = .ok (.if_icmp .le 7, 3) := by decide +kernel
theorem dX4_fill_142 : decode cX4_fill 142 = .ok (.iconst 1, 1) := by decide +kernel
theorem dX4_fill_143 : decode cX4_fill 143 = .ok (.goto 4, 3) := by decide +kernel
theorem dX4_fill_146 : decode cX4_fill 146 = .ok (.iconst 0, 1) := by decide +kernel
theorem dX4_fill_147 : decode cX4_fill 147 = .ok (.istore 10, 2) := by decide +kernel
theorem dX4_fill_149 : decode cX4_fill 149 = .ok (.iload 5, 2) := by decide +kernel
theorem dX4_fill_151 : decode cX4_fill 151 = .ok (.ifCond .eq 8, 3) := by decide +kernel
theorem dX4_fill_154 : decode cX4_fill 154 = .ok (.iload 10, 2) := by decide +kernel
theorem dX4_fill_156 : decode cX4_fill 156 = .ok (.ifCond .eq 30, 3) := by decide +kernel
theorem dX4_fill_159 : decode cX4_fill 159 = .ok (.aload_n 0, 1) := by decide +kernel
theorem dX4_fill_160 : decode cX4_fill 160 = .ok (.getfield 18, 3) := by decide +kernel
theorem dX4_fill_163 : decode cX4_fill 163 = .ok (.iload 4, 2) := by decide +kernel
theorem dX4_fill_165 : decode cX4_fill 165 = .ok (.iload 8, 2) := by decide +kernel
theorem dX4_fill_167 : decode cX4_fill 167 = .ok (.iastore, 1) := by decide +kernel
theorem dX4_fill_168 : decode cX4_fill 168 = .ok (.aload_n 0, 1) := by decide +kernel
theorem dX4_fill_169 : decode cX4_fill 169 = .ok (.getfield 21, 3) := by decide +kernel
theorem dX4_fill_172 : decode cX4_fill 172 = .ok (.iload 4, 2) := by decide +kernel
theorem dX4_fill_174 : decode cX4_fill 174 = .ok (.iload 9, 2) := by decide +kernel
theorem dX4_fill_176 : decode cX4_fill 176 = .ok (.iastore, 1) := by decide +kernel
theorem dX4_fill_177 : decode cX4_fill 177 = .ok (.aload_n 0, 1) := by decide +kernel
theorem dX4_fill_178 : decode cX4_fill 178 = .ok (.getfield 24, 3) := by decide +kernel
theorem dX4_fill_181 : decode cX4_fill 181 = .ok (.iload 4, 2) := by decide +kernel
theorem dX4_fill_183 : decode cX4_fill 183 = .ok (.iload 5, 2) := by decide +kernel
theorem dX4_fill_185 : decode cX4_fill 185 = .ok (.iastore, 1) := by decide +kernel
theorem dX4_fill_186 : decode cX4_fill 186 = .ok (.iinc 5 1, 3) := by decide +kernel
theorem dX4_fill_189 : decode cX4_fill 189 = .ok (.goto (-179), 3) := by decide +kernel
theorem dX4_fill_192 : decode cX4_fill 192 = .ok (.return_, 1) := by decide +kernel
theorem dX4_init_0 : decode cX4_init 0 = .ok (.aload_n 0, 1) := by decide +kernel
theorem dX4_init_1 : decode cX4_init 1 = .ok (.invokespecial 3, 3) := by decide +kernel
theorem dX4_init_4 : decode cX4_init 4 = .ok (.aload_n 0, 1) := by decide +kernel
theorem dX4_init_5 : decode cX4_init 5 = .ok (.sipush 4880, 3) := by decide +kernel
theorem dX4_init_8 : decode cX4_init 8 = .ok (.newarray .int, 2) := by decide +kernel
theorem dX4_init_10 : decode cX4_init 10 = .ok (.putfield 9, 3) := by decide +kernel
theorem dX4_init_13 : decode cX4_init 13 = .ok (.aload_n 0, 1) := by decide +kernel
theorem dX4_init_14 : decode cX4_init 14 = .ok (.sipush 4880, 3) := by decide +kernel
theorem dX4_init_17 : decode cX4_init 17 = .ok (.newarray .int, 2) := by decide +kernel
theorem dX4_init_19 : decode cX4_init 19 = .ok (.putfield 15, 3) := by decide +kernel
theorem dX4_init_22 : decode cX4_init 22 = .ok (.aload_n 0, 1) := by decide +kernel
theorem dX4_init_23 : decode cX4_init 23 = .ok (.sipush 549, 3) := by decide +kernel
theorem dX4_init_26 : decode cX4_init 26 = .ok (.newarray .int, 2) := by decide +kernel
theorem dX4_init_28 : decode cX4_init 28 = .ok (.putfield 18, 3) := by decide +kernel
theorem dX4_init_31 : decode cX4_init 31 = .ok (.aload_n 0, 1) := by decide +kernel
theorem dX4_init_32 : decode cX4_init 32 = .ok (.sipush 549, 3) := by decide +kernel
theorem dX4_init_35 : decode cX4_init 35 = .ok (.newarray .int, 2) := by decide +kernel
theorem dX4_init_37 : decode cX4_init 37 = .ok (.putfield 21, 3) := by decide +kernel
theorem dX4_init_40 : decode cX4_init 40 = .ok (.aload_n 0, 1) := by decide +kernel
theorem dX4_init_41 : decode cX4_init 41 = .ok (.sipush 549, 3) := by decide +kernel
theorem dX4_init_44 : decode cX4_init 44 = .ok (.newarray .int, 2) := by decide +kernel
theorem dX4_init_46 : decode cX4_init 46 = .ok (.putfield 24, 3) := by decide +kernel
theorem dX4_init_49 : decode cX4_init 49 = .ok (.aload_n 0, 1) := by decide +kernel
theorem dX4_init_50 : decode cX4_init 50 = .ok (.bipush 61, 2) := by decide +kernel
theorem dX4_init_52 : decode cX4_init 52 = .ok (.newarray .int, 2) := by decide +kernel
theorem dX4_init_54 : decode cX4_init 54 = .ok (.putfield 27, 3) := by decide +kernel
theorem dX4_init_57 : decode cX4_init 57 = .ok (.aload_n 0, 1) := by decide +kernel
theorem dX4_init_58 : decode cX4_init 58 = .ok (.bipush 61, 2) := by decide +kernel
theorem dX4_init_60 : decode cX4_init 60 = .ok (.newarray .int, 2) := by decide +kernel
theorem dX4_init_62 : decode cX4_init 62 = .ok (.putfield 30, 3) := by decide +kernel
theorem dX4_init_65 : decode cX4_init 65 = .ok (.aload_n 0, 1) := by decide +kernel
theorem dX4_init_66 : decode cX4_init 66 = .ok (.iconst 5, 1) := by decide +kernel
theorem dX4_init_67 : decode cX4_init 67 = .ok (.newarray .int, 2) := by decide +kernel
theorem dX4_init_69 : decode cX4_init 69 = .ok (.putfield 33, 3) := by decide +kernel
theorem dX4_init_72 : decode cX4_init 72 = .ok (.aload_n 0, 1) := by decide +kernel
theorem dX4_init_73 : decode cX4_init 73 = .ok (.iconst 5, 1) := by decide +kernel
theorem dX4_init_74 : decode cX4_init 74 = .ok (.newarray .int, 2) := by decide +kernel
theorem dX4_init_76 : decode cX4_init 76 = .ok (.putfield 36, 3) := by decide +kernel
theorem dX4_init_79 : decode cX4_init 79 = .ok (.return_, 1) := by decide +kernel
theorem dX4_prepare_0 : decode cX4_prepare 0 = .ok (.aload_n 0, 1) := by decide +kernel
theorem dX4_prepare_1 : decode cX4_prepare 1 = .ok (.getfield 39, 3) := by decide +kernel
theorem dX4_prepare_4 : decode cX4_prepare 4 = .ok (.aload_n 1, 1) := by decide +kernel
theorem dX4_prepare_5 : decode cX4_prepare 5 = .ok (.getfield 43, 3) := by decide +kernel
theorem dX4_prepare_8 : decode cX4_prepare 8 = .ok (.if_icmp .ne 4, 3) := by decide +kernel
theorem dX4_prepare_11 : decode cX4_prepare 11 = .ok (.return_, 1) := by decide +kernel
theorem dX4_prepare_12 : decode cX4_prepare 12 = .ok (.aload_n 0, 1) := by decide +kernel
theorem dX4_prepare_13 : decode cX4_prepare 13 = .ok (.aload_n 1, 1) := by decide +kernel
theorem dX4_prepare_14 : decode cX4_prepare 14 = .ok (.getfield 43, 3) := by decide +kernel
theorem dX4_prepare_17 : decode cX4_prepare 17 = .ok (.putfield 39, 3) := by decide +kernel
theorem dX4_prepare_20 : decode cX4_prepare 20 = .ok (.aload_n 0, 1) := by decide +kernel
theorem dX4_prepare_21 : decode cX4_prepare 21 = .ok (.iconst 0, 1) := by decide +kernel
theorem dX4_prepare_22 : decode cX4_prepare 22 = .ok (.putfield 46, 3) := by decide +kernel
theorem dX4_prepare_25 : decode cX4_prepare 25 = .ok (.aload_n 0, 1) := by decide +kernel
theorem dX4_prepare_26 : decode cX4_prepare 26 = .ok (.aload_n 1, 1) := by decide +kernel
theorem dX4_prepare_27 : decode cX4_prepare 27 = .ok (.getfield 50, 3) := by decide +kernel
theorem dX4_prepare_30 : decode cX4_prepare 30 = .ok (.bipush 8, 2) := by decide +kernel
theorem dX4_prepare_32 : decode cX4_prepare 32 = .ok (.invokestatic 53, 3) := by decide +kernel
theorem dX4_prepare_35 : decode cX4_prepare 35 = .ok (.putfield 59, 3) := by decide +kernel
theorem dX4_prepare_38 : decode cX4_prepare 38 = .ok (.aload_n 0, 1) := by decide +kernel
theorem dX4_prepare_39 : decode cX4_prepare 39 = .ok (.aload_n 1, 1) := by decide +kernel
theorem dX4_prepare_40 : decode cX4_prepare 40 = .ok (.getfield 60, 3) := by decide +kernel
theorem dX4_prepare_43 : decode cX4_prepare 43 = .ok (.bipush 60, 2) := by decide +kernel
theorem dX4_prepare_45 : decode cX4_prepare 45 = .ok (.invokestatic 53, 3) := by decide +kernel
theorem dX4_prepare_48 : decode cX4_prepare 48 = .ok (.putfield 63, 3) := by decide +kernel
theorem dX4_prepare_51 : decode cX4_prepare 51 = .ok (.iconst 0, 1) := by decide +kernel
theorem dX4_prepare_52 : decode cX4_prepare 52 = .ok (.istore_n 2, 1) := by decide +kernel
theorem dX4_prepare_53 : decode cX4_prepare 53 = .ok (.iload_n 2, 1) := by decide +kernel
theorem dX4_prepare_54 : decode cX4_prepare 54 = .ok (.aload_n 0, 1) := by decide +kernel
theorem dX4_prepare_55 : decode cX4_prepare 55 = .ok (.getfield 63, 3) := by decide +kernel
theorem dX4_prepare_58 : decode cX4_prepare 58 = .ok (.if_icmp .gt 37, 3) := by decide +kernel
theorem dX4_prepare_61 : decode cX4_prepare 61 = .ok (.aload_n 0, 1) := by decide +kernel
theorem dX4_prepare_62 : decode cX4_prepare 62 = .ok (.getfield 18, 3) := by decide +kernel
theorem dX4_prepare_65 : decode cX4_prepare 65 = .ok (.aload_n 0, 1) := by decide +kernel
theorem dX4_prepare_66 : decode cX4_prepare 66 = .ok (.getfield 59, 3) := by decide +kernel
theorem dX4_prepare_69 : decode cX4_prepare 69 = .ok (.iload_n 2, 1) := by decide +kernel
theorem dX4_prepare_70 : decode cX4_prepare 70 = .ok (.invokestatic 64, 3) := by decide +kernel
theorem dX4_prepare_73 : decode cX4_prepare 73 = .ok (.iconst 0, 1) := by decide +kernel
theorem dX4_prepare_74 : decode cX4_prepare 74 = .ok (.iastore, 1) := by decide +kernel
theorem dX4_prepare_75 : decode cX4_prepare 75 = .ok (.aload_n 0, 1) := by decide +kernel
theorem dX4_prepare_76 : decode cX4_prepare 76 = .ok (.getfield 21, 3) := by decide +kernel
theorem dX4_prepare_79 : decode cX4_prepare 79 = .ok (.aload_n 0, 1) := by decide +kernel
theorem dX4_prepare_80 : decode cX4_prepare 80 = .ok (.getfield 59, 3) := by decide +kernel
theorem dX4_prepare_83 : decode cX4_prepare 83 = .ok (.iload_n 2, 1) := by decide +kernel
theorem dX4_prepare_84 : decode cX4_prepare 84 = .ok (.invokestatic 64, 3) := by decide +kernel
theorem dX4_prepare_87 : decode cX4_prepare 87 = .ok (.iload_n 2, 1) := by decide +kernel
theorem dX4_prepare_88 : decode cX4_prepare 88 = .ok (.iastore, 1) := by decide +kernel
theorem dX4_prepare_89 : decode cX4_prepare 89 = .ok (.iinc 2 1, 3) := by decide +kernel
theorem dX4_prepare_92 : decode cX4_prepare 92 = .ok (.goto (-39), 3) := by decide +kernel
theorem dX4_prepare_95 : decode cX4_prepare 95 = .ok (.aload_n 0, 1) := by decide +kernel
theorem dX4_prepare_96 : decode cX4_prepare 96 = .ok (.getfield 59, 3) := by decide +kernel
theorem dX4_prepare_99 : decode cX4_prepare 99 = .ok (.iconst 1, 1) := by decide +kernel
theorem dX4_prepare_100 : decode cX4_prepare 100 = .ok (.isub, 1) := by decide +kernel
theorem dX4_prepare_101 : decode cX4_prepare 101 = .ok (.istore_n 2, 1) := by decide +kernel
theorem dX4_prepare_102 : decode cX4_prepare 102 = .ok (.iload_n 2, 1) := by decide +kernel
theorem dX4_prepare_103 : decode cX4_prepare 103 = .ok (.ifCond .lt 32, 3) := by decide +kernel
theorem dX4_prepare_106 : decode cX4_prepare 106 = .ok (.iconst 0, 1) := by decide +kernel
theorem dX4_prepare_107 : decode cX4_prepare 107 = .ok (.istore_n 3, 1) := by decide +kernel
theorem dX4_prepare_108 : decode cX4_prepare 108 = .ok (.iload_n 3, 1) := by decide +kernel
theorem dX4_prepare_109 : decode cX4_prepare 109 = .ok (.aload_n 0, 1) := by decide +kernel
theorem dX4_prepare_110 : decode cX4_prepare 110 = .ok (.getfield 63, 3) := by decide +kernel
theorem dX4_prepare_113 : decode cX4_prepare 113 = .ok (.if_icmp .gt 16, 3) := by decide +kernel
theorem dX4_prepare_116 : decode cX4_prepare 116 = .ok (.aload_n 0, 1) := by decide +kernel
theorem dX4_prepare_117 : decode cX4_prepare 117 = .ok (.aload_n 1, 1) := by decide +kernel
theorem dX4_prepare_118 : decode cX4_prepare 118 = .ok (.iload_n 2, 1) := by decide +kernel
theorem dX4_prepare_119 : decode cX4_prepare 119 = .ok (.iload_n 3, 1) := by decide +kernel
theorem dX4_prepare_120 : decode cX4_prepare 120 = .ok (.invokevirtual 67, 3) := by decide +kernel
theorem dX4_prepare_123 : decode cX4_prepare 123 = .ok (.iinc 3 1, 3) := by decide +kernel
theorem dX4_prepare_126 : decode cX4_prepare 126 = .ok (.goto (-18), 3) := by decide +kernel
theorem dX4_prepare_129 : decode cX4_prepare 129 = .ok (.iinc 2 (-1), 3) := by decide +kernel
theorem dX4_prepare_132 : decode cX4_prepare 132 = .ok (.goto (-30), 3) := by decide +kernel
theorem dX4_prepare_135 : decode cX4_prepare 135 = .ok (.return_, 1) := by decide +kernel
theorem dX4_prepareGears_0 : decode cX4_prepareGears 0 = .ok (.aload_n 0, 1) := by decide +kernel
theorem dX4_prepareGears_1 : decode cX4_prepareGears 1 = .ok (.getfield 46, 3) := by decide +kernel
theorem dX4_prepareGears_4 : decode cX4_prepareGears 4 = .ok (.ifCond .eq 4, 3) := by decide +kernel
theorem dX4_prepareGears_7 : decode cX4_prepareGears 7 = .ok (.return_, 1) := by decide +kernel
theorem dX4_prepareGears_8 : decode cX4_prepareGears 8 = .ok (.aload_n 0, 1) := by decide +kernel
theorem dX4_prepareGears_9 : decode cX4_prepareGears 9 = .ok (.iconst 1, 1) := by decide +kernel
theorem dX4_prepareGears_10 : decode cX4_prepareGears 10 = .ok (.putfield 46, 3) := by decide +kernel
theorem dX4_prepareGears_13 : decode cX4_prepareGears 13 = .ok (.iconst 1, 1) := by decide +kernel
theorem dX4_prepareGears_14 : decode cX4_prepareGears 14 = .ok (.istore_n 1, 1) := by decide +kernel
theorem dX4_prepareGears_15 : decode cX4_prepareGears 15 = .ok (.iload_n 1, 1) := by decide +kernel
theorem dX4_prepareGears_16 : decode cX4_prepareGears 16 = .ok (.sipush 1024, 3) := by decide +kernel
theorem dX4_prepareGears_19 : decode cX4_prepareGears 19 = .ok (.if_icmp .ge 112, 3) := by decide +kernel
theorem dX4_prepareGears_22 : decode cX4_prepareGears 22 = .ok (.iload_n 1, 1) := by decide +kernel
theorem dX4_prepareGears_23 : decode cX4_prepareGears 23 = .ok (.invokestatic 81, 3) := by decide +kernel
theorem dX4_prepareGears_26 : decode cX4_prepareGears 26 = .ok (.istore_n 2, 1) := by decide +kernel
theorem dX4_prepareGears_27 : decode cX4_prepareGears 27 = .ok (.iload_n 2, 1) := by decide +kernel
theorem dX4_prepareGears_28 : decode cX4_prepareGears 28 = .ok (.iconst 4, 1) := by decide +kernel
theorem dX4_prepareGears_29 : decode cX4_prepareGears 29 = .ok (.if_icmp .le 6, 3) := by decide +kernel
theorem dX4_prepareGears_32 : decode cX4_prepareGears 32 = .ok (.goto 93, 3) := by decide +kernel
theorem dX4_prepareGears_35 : decode cX4_prepareGears 35 = .ok (.aload_n 0, 1) := by decide +kernel
theorem dX4_prepareGears_36 : decode cX4_prepareGears 36 = .ok (.iload_n 1, 1) := by decide +kernel
theorem dX4_prepareGears_37 : decode cX4_prepareGears 37 = .ok (.invokevirtual 87, 3) := by decide +kernel
theorem dX4_prepareGears_40 : decode cX4_prepareGears 40 = .ok (.istore_n 3, 1) := by decide +kernel
theorem dX4_prepareGears_41 : decode cX4_prepareGears 41 = .ok (.iload_n 2, 1) := by decide +kernel
theorem dX4_prepareGears_42 : decode cX4_prepareGears 42 = .ok (.istore 4, 2) := by decide +kernel
theorem dX4_prepareGears_44 : decode cX4_prepareGears 44 = .ok (.iload 4, 2) := by decide +kernel
theorem dX4_prepareGears_46 : decode cX4_prepareGears 46 = .ok (.iconst 4, 1) := by decide +kernel
theorem dX4_prepareGears_47 : decode cX4_prepareGears 47 = .ok (.if_icmp .gt 78, 3) := by decide +kernel
theorem dX4_prepareGears_50 : decode cX4_prepareGears 50 = .ok (.iload_n 3, 1) := by decide +kernel
theorem dX4_prepareGears_51 : decode cX4_prepareGears 51 = .ok (.aload_n 0, 1) := by decide +kernel
theorem dX4_prepareGears_52 : decode cX4_prepareGears 52 = .ok (.getfield 36, 3) := by decide +kernel
theorem dX4_prepareGears_55 : decode cX4_prepareGears 55 = .ok (.iload 4, 2) := by decide +kernel
theorem dX4_prepareGears_57 : decode cX4_prepareGears 57 = .ok (.iaload, 1) := by decide +kernel
theorem dX4_prepareGears_58 : decode cX4_prepareGears 58 = .ok (.if_icmp .ne 21, 3) := by decide +kernel
theorem dX4_prepareGears_61 : decode cX4_prepareGears 61 = .ok (.iload_n 2, 1) := by decide +kernel
theorem dX4_prepareGears_62 : decode cX4_prepareGears 62 = .ok (.aload_n 0, 1) := by decide +kernel
theorem dX4_prepareGears_63 : decode cX4_prepareGears 63 = .ok (.getfield 33, 3) := by decide +kernel
theorem dX4_prepareGears_66 : decode cX4_prepareGears 66 = .ok (.iload 4, 2) := by decide +kernel
theorem dX4_prepareGears_68 : decode cX4_prepareGears 68 = .ok (.iaload, 1) := by decide +kernel
theorem dX4_prepareGears_69 : decode cX4_prepareGears 69 = .ok (.invokestatic 81, 3) := by decide +kernel
theorem dX4_prepareGears_72 : decode cX4_prepareGears 72 = .ok (.if_icmp .ge 7, 3) := by decide +kernel
theorem dX4_prepareGears_75 : decode cX4_prepareGears 75 = .ok (.iconst 1, 1) := by decide +kernel
theorem dX4_prepareGears_76 : decode cX4_prepareGears 76 = .ok (.goto 4, 3) := by decide +kernel
theorem dX4_prepareGears_79 : decode cX4_prepareGears 79 = .ok (.iconst 0, 1) := by decide +kernel
theorem dX4_prepareGears_80 : decode cX4_prepareGears 80 = .ok (.istore 5, 2) := by decide +kernel
theorem dX4_prepareGears_82 : decode cX4_prepareGears 82 = .ok (.iload_n 1, 1) := by decide +kernel
theorem dX4_prepareGears_83 : decode cX4_prepareGears 83 = .ok (.iconst 1, 1) := by decide +kernel
theorem dX4_prepareGears_84 : decode cX4_prepareGears 84 = .ok (.if_icmp .eq 19, 3) := by decide +kernel
theorem dX4_prepareGears_87 : decode cX4_prepareGears 87 = .ok (.iload_n 3, 1) := by decide +kernel
theorem dX4_prepareGears_88 : decode cX4_prepareGears 88 = .ok (.aload_n 0, 1) := by decide +kernel
theorem dX4_prepareGears_89 : decode cX4_prepareGears 89 = .ok (.getfield 36, 3) := by decide +kernel
theorem dX4_prepareGears_92 : decode cX4_prepareGears 92 = .ok (.iload 4, 2) := by decide +kernel
theorem dX4_prepareGears_94 : decode cX4_prepareGears 94 = .ok (.iaload, 1) := by decide +kernel
theorem dX4_prepareGears_95 : decode cX4_prepareGears 95 = .ok (.if_icmp .lt 8, 3) := by decide +kernel
theorem dX4_prepareGears_98 : decode cX4_prepareGears 98 = .ok (.iload 5, 2) := by decide +kernel
theorem dX4_prepareGears_100 : decode cX4_prepareGears 100 = .ok (.ifCond .eq 19, 3) := by decide +kernel
theorem dX4_prepareGears_103 : decode cX4_prepareGears 103 = .ok (.aload_n 0, 1) := by decide +kernel
theorem dX4_prepareGears_104 : decode cX4_prepareGears 104 = .ok (.getfield 33, 3) := by decide +kernel
theorem dX4_prepareGears_107 : decode cX4_prepareGears 107 = .ok (.iload 4, 2) := by decide +kernel
theorem dX4_prepareGears_109 : decode cX4_prepareGears 109 = .ok (.iload_n 1, 1) := by decide +kernel
theorem dX4_prepareGears_110 : decode cX4_prepareGears 110 = .ok (.iastore, 1) := by decide +kernel
theorem dX4_prepareGears_111 : decode cX4_prepareGears 111 = .ok (.aload_n 0, 1) := by decide +kernel
theorem dX4_prepareGears_112 : decode cX4_prepareGears 112 = .ok (.getfield 36, 3) := by decide +kernel
theorem dX4_prepareGears_115 : decode cX4_prepareGears 115 = .ok (.iload 4, 2) := by decide +kernel
theorem dX4_prepareGears_117 : decode cX4_prepareGears 117 = .ok (.iload_n 3, 1) := by decide +kernel
theorem dX4_prepareGears_118 : decode cX4_prepareGears 118 = .ok (.iastore, 1) := by decide +kernel
theorem dX4_prepareGears_119 : decode cX4_prepareGears 119 = .ok (.iinc 4 1, 3) := by decide +kernel
theorem dX4_prepareGears_122 : decode cX4_prepareGears 122 = .ok (.goto (-78), 3) := by decide +kernel
theorem dX4_prepareGears_125 : decode cX4_prepareGears 125 = .ok (.iinc 1 2, 3) := by decide +kernel
theorem dX4_prepareGears_128 : decode cX4_prepareGears 128 = .ok (.goto (-113), 3) := by decide +kernel
theorem dX4_prepareGears_131 : decode cX4_prepareGears 131 = .ok (.return_, 1) := by decide +kernel
theorem dX4_secondsFrom_0 : decode cX4_secondsFrom 0 = .ok (.aload_n 0, 1) := by decide +kernel
theorem dX4_secondsFrom_1 : decode cX4_secondsFrom 1 = .ok (.getfield 18, 3) := by decide +kernel
theorem dX4_secondsFrom_4 : decode cX4_secondsFrom 4 = .ok (.iload_n 1, 1) := by decide +kernel
theorem dX4_secondsFrom_5 : decode cX4_secondsFrom 5 = .ok (.iload_n 2, 1) := by decide +kernel
theorem dX4_secondsFrom_6 : decode cX4_secondsFrom 6 = .ok (.invokestatic 64, 3) := by decide +kernel
theorem dX4_secondsFrom_9 : decode cX4_secondsFrom 9 = .ok (.iaload, 1) := by decide +kernel
theorem dX4_secondsFrom_10 : decode cX4_secondsFrom 10 = .ok (.ireturn, 1) := by decide +kernel
theorem dX4_spot_0 : decode cX4_spot 0 = .ok (.iload_n 0, 1) := by decide +kernel
theorem dX4_spot_1 : decode cX4_spot 1 = .ok (.ifCond .lt 19, 3) := by decide +kernel
theorem dX4_spot_4 : decode cX4_spot 4 = .ok (.iload_n 0, 1) := by decide +kernel
theorem dX4_spot_5 : decode cX4_spot 5 = .ok (.bipush 8, 2) := by decide +kernel
theorem dX4_spot_7 : decode cX4_spot 7 = .ok (.if_icmp .gt 13, 3) := by decide +kernel
theorem dX4_spot_10 : decode cX4_spot 10 = .ok (.iload_n 1, 1) := by decide +kernel
theorem dX4_spot_11 : decode cX4_spot 11 = .ok (.ifCond .lt 9, 3) := by decide +kernel
theorem dX4_spot_14 : decode cX4_spot 14 = .ok (.iload_n 1, 1) := by decide +kernel
theorem dX4_spot_15 : decode cX4_spot 15 = .ok (.bipush 61, 2) := by decide +kernel
theorem dX4_spot_17 : decode cX4_spot 17 = .ok (.if_icmp .lt 5, 3) := by decide +kernel
theorem dX4_spot_20 : decode cX4_spot 20 = .ok (.iconst 0, 1) := by decide +kernel
theorem dX4_spot_21 : decode cX4_spot 21 = .ok (.ireturn, 1) := by decide +kernel
theorem dX4_spot_22 : decode cX4_spot 22 = .ok (.iload_n 0, 1) := by decide +kernel
theorem dX4_spot_23 : decode cX4_spot 23 = .ok (.bipush 61, 2) := by decide +kernel
theorem dX4_spot_25 : decode cX4_spot 25 = .ok (.imul, 1) := by decide +kernel
theorem dX4_spot_26 : decode cX4_spot 26 = .ok (.iload_n 1, 1) := by decide +kernel
theorem dX4_spot_27 : decode cX4_spot 27 = .ok (.iadd, 1) := by decide +kernel
theorem dX4_spot_28 : decode cX4_spot 28 = .ok (.ireturn, 1) := by decide +kernel
theorem dX4_spreadBy_0 : decode cX4_spreadBy 0 = .ok (.iconst 0, 1) := by decide +kernel
theorem dX4_spreadBy_1 : decode cX4_spreadBy 1 = .ok (.istore 5, 2) := by decide +kernel
theorem dX4_spreadBy_3 : decode cX4_spreadBy 3 = .ok (.iload 5, 2) := by decide +kernel
theorem dX4_spreadBy_5 : decode cX4_spreadBy 5 = .ok (.aload_n 0, 1) := by decide +kernel
theorem dX4_spreadBy_6 : decode cX4_spreadBy 6 = .ok (.getfield 63, 3) := by decide +kernel
theorem dX4_spreadBy_9 : decode cX4_spreadBy 9 = .ok (.if_icmp .gt 99, 3) := by decide +kernel
theorem dX4_spreadBy_12 : decode cX4_spreadBy 12 = .ok (.iload 5, 2) := by decide +kernel
theorem dX4_spreadBy_14 : decode cX4_spreadBy 14 = .ok (.aload_n 3, 1) := by decide +kernel
theorem dX4_spreadBy_15 : decode cX4_spreadBy 15 = .ok (.arraylength, 1) := by decide +kernel
theorem dX4_spreadBy_16 : decode cX4_spreadBy 16 = .ok (.if_icmp .ge 92, 3) := by decide +kernel
theorem dX4_spreadBy_19 : decode cX4_spreadBy 19 = .ok (.aload_n 3, 1) := by decide +kernel
theorem dX4_spreadBy_20 : decode cX4_spreadBy 20 = .ok (.iload 5, 2) := by decide +kernel
theorem dX4_spreadBy_22 : decode cX4_spreadBy 22 = .ok (.iaload, 1) := by decide +kernel
theorem dX4_spreadBy_23 : decode cX4_spreadBy 23 = .ok (.ifCond .ge 6, 3) := by decide +kernel
theorem dX4_spreadBy_26 : decode cX4_spreadBy 26 = .ok (.goto 76, 3) := by decide +kernel
theorem dX4_spreadBy_29 : decode cX4_spreadBy 29 = .ok (.iload_n 1, 1) := by decide +kernel
theorem dX4_spreadBy_30 : decode cX4_spreadBy 30 = .ok (.iload_n 2, 1) := by decide +kernel
theorem dX4_spreadBy_31 : decode cX4_spreadBy 31 = .ok (.iload 5, 2) := by decide +kernel
theorem dX4_spreadBy_33 : decode cX4_spreadBy 33 = .ok (.invokestatic 71, 3) := by decide +kernel
theorem dX4_spreadBy_36 : decode cX4_spreadBy 36 = .ok (.istore 6, 2) := by decide +kernel
theorem dX4_spreadBy_38 : decode cX4_spreadBy 38 = .ok (.aload_n 0, 1) := by decide +kernel
theorem dX4_spreadBy_39 : decode cX4_spreadBy 39 = .ok (.getfield 15, 3) := by decide +kernel
theorem dX4_spreadBy_42 : decode cX4_spreadBy 42 = .ok (.iload 6, 2) := by decide +kernel
theorem dX4_spreadBy_44 : decode cX4_spreadBy 44 = .ok (.iaload, 1) := by decide +kernel
theorem dX4_spreadBy_45 : decode cX4_spreadBy 45 = .ok (.istore 7, 2) := by decide +kernel
theorem dX4_spreadBy_47 : decode cX4_spreadBy 47 = .ok (.iload 7, 2) := by decide +kernel
theorem dX4_spreadBy_49 : decode cX4_spreadBy 49 = .ok (.ifCond .lt 53, 3) := by decide +kernel
theorem dX4_spreadBy_52 : decode cX4_spreadBy 52 = .ok (.iload 7, 2) := by decide +kernel
theorem dX4_spreadBy_54 : decode cX4_spreadBy 54 = .ok (.aload 4, 2) := by decide +kernel
theorem dX4_spreadBy_56 : decode cX4_spreadBy 56 = .ok (.arraylength, 1) := by decide +kernel
theorem dX4_spreadBy_57 : decode cX4_spreadBy 57 = .ok (.if_icmp .lt 6, 3) := by decide +kernel
theorem dX4_spreadBy_60 : decode cX4_spreadBy 60 = .ok (.goto 42, 3) := by decide +kernel
theorem dX4_spreadBy_63 : decode cX4_spreadBy 63 = .ok (.aload_n 3, 1) := by decide +kernel
theorem dX4_spreadBy_64 : decode cX4_spreadBy 64 = .ok (.iload 5, 2) := by decide +kernel
theorem dX4_spreadBy_66 : decode cX4_spreadBy 66 = .ok (.iaload, 1) := by decide +kernel
theorem dX4_spreadBy_67 : decode cX4_spreadBy 67 = .ok (.aload_n 0, 1) := by decide +kernel
theorem dX4_spreadBy_68 : decode cX4_spreadBy 68 = .ok (.getfield 9, 3) := by decide +kernel
theorem dX4_spreadBy_71 : decode cX4_spreadBy 71 = .ok (.iload 6, 2) := by decide +kernel
theorem dX4_spreadBy_73 : decode cX4_spreadBy 73 = .ok (.iaload, 1) := by decide +kernel
theorem dX4_spreadBy_74 : decode cX4_spreadBy 74 = .ok (.iadd, 1) := by decide +kernel
theorem dX4_spreadBy_75 : decode cX4_spreadBy 75 = .ok (.istore 8, 2) := by decide +kernel
theorem dX4_spreadBy_77 : decode cX4_spreadBy 77 = .ok (.aload 4, 2) := by decide +kernel
theorem dX4_spreadBy_79 : decode cX4_spreadBy 79 = .ok (.iload 7, 2) := by decide +kernel
theorem dX4_spreadBy_81 : decode cX4_spreadBy 81 = .ok (.iaload, 1) := by decide +kernel
theorem dX4_spreadBy_82 : decode cX4_spreadBy 82 = .ok (.ifCond .lt 13, 3) := by decide +kernel
theorem dX4_spreadBy_85 : decode cX4_spreadBy 85 = .ok (.iload 8, 2) := by decide +kernel
theorem dX4_spreadBy_87 : decode cX4_spreadBy 87 = .ok (.aload 4, 2) := by decide +kernel
theorem dX4_spreadBy_89 : decode cX4_spreadBy 89 = .ok (.iload 7, 2) := by decide +kernel
theorem dX4_spreadBy_91 : decode cX4_spreadBy 91 = .ok (.iaload, 1) := by decide +kernel
theorem dX4_spreadBy_92 : decode cX4_spreadBy 92 = .ok (.if_icmp .ge 10, 3) := by decide +kernel
theorem dX4_spreadBy_95 : decode cX4_spreadBy 95 = .ok (.aload 4, 2) := by decide +kernel
theorem dX4_spreadBy_97 : decode cX4_spreadBy 97 = .ok (.iload 7, 2) := by decide +kernel
theorem dX4_spreadBy_99 : decode cX4_spreadBy 99 = .ok (.iload 8, 2) := by decide +kernel
theorem dX4_spreadBy_101 : decode cX4_spreadBy 101 = .ok (.iastore, 1) := by decide +kernel
theorem dX4_spreadBy_102 : decode cX4_spreadBy 102 = .ok (.iinc 5 1, 3) := by decide +kernel
theorem dX4_spreadBy_105 : decode cX4_spreadBy 105 = .ok (.goto (-102), 3) := by decide +kernel
theorem dX4_spreadBy_108 : decode cX4_spreadBy 108 = .ok (.return_, 1) := by decide +kernel
theorem dX4_step_0 : decode cX4_step 0 = .ok (.iload_n 0, 1) := by decide +kernel
theorem dX4_step_1 : decode cX4_step 1 = .ok (.ifCond .lt 29, 3) := by decide +kernel
theorem dX4_step_4 : decode cX4_step 4 = .ok (.iload_n 0, 1) := by decide +kernel
theorem dX4_step_5 : decode cX4_step 5 = .ok (.bipush 8, 2) := by decide +kernel
theorem dX4_step_7 : decode cX4_step 7 = .ok (.if_icmp .ge 23, 3) := by decide +kernel
theorem dX4_step_10 : decode cX4_step 10 = .ok (.iload_n 1, 1) := by decide +kernel
theorem dX4_step_11 : decode cX4_step 11 = .ok (.ifCond .lt 19, 3) := by decide +kernel
theorem dX4_step_14 : decode cX4_step 14 = .ok (.iload_n 1, 1) := by decide +kernel
theorem dX4_step_15 : decode cX4_step 15 = .ok (.bipush 9, 2) := by decide +kernel
theorem dX4_step_17 : decode cX4_step 17 = .ok (.if_icmp .gt 13, 3) := by decide +kernel
theorem dX4_step_20 : decode cX4_step 20 = .ok (.iload_n 2, 1) := by decide +kernel
theorem dX4_step_21 : decode cX4_step 21 = .ok (.ifCond .lt 9, 3) := by decide +kernel
theorem dX4_step_24 : decode cX4_step 24 = .ok (.iload_n 2, 1) := by decide +kernel
theorem dX4_step_25 : decode cX4_step 25 = .ok (.bipush 61, 2) := by decide +kernel
theorem dX4_step_27 : decode cX4_step 27 = .ok (.if_icmp .lt 5, 3) := by decide +kernel
theorem dX4_step_30 : decode cX4_step 30 = .ok (.iconst 0, 1) := by decide +kernel
theorem dX4_step_31 : decode cX4_step 31 = .ok (.ireturn, 1) := by decide +kernel
theorem dX4_step_32 : decode cX4_step 32 = .ok (.iload_n 0, 1) := by decide +kernel
theorem dX4_step_33 : decode cX4_step 33 = .ok (.bipush 10, 2) := by decide +kernel
theorem dX4_step_35 : decode cX4_step 35 = .ok (.imul, 1) := by decide +kernel
theorem dX4_step_36 : decode cX4_step 36 = .ok (.iload_n 1, 1) := by decide +kernel
theorem dX4_step_37 : decode cX4_step 37 = .ok (.iadd, 1) := by decide +kernel
theorem dX4_step_38 : decode cX4_step 38 = .ok (.bipush 61, 2) := by decide +kernel
theorem dX4_step_40 : decode cX4_step 40 = .ok (.imul, 1) := by decide +kernel
theorem dX4_step_41 : decode cX4_step 41 = .ok (.iload_n 2, 1) := by decide +kernel
theorem dX4_step_42 : decode cX4_step 42 = .ok (.iadd, 1) := by decide +kernel
theorem dX4_step_43 : decode cX4_step 43 = .ok (.ireturn, 1) := by decide +kernel
theorem dX4_storeFrom_0 : decode cX4_storeFrom 0 = .ok (.aload_n 0, 1) := by decide +kernel
theorem dX4_storeFrom_1 : decode cX4_storeFrom 1 = .ok (.getfield 21, 3) := by decide +kernel
theorem dX4_storeFrom_4 : decode cX4_storeFrom 4 = .ok (.iload_n 1, 1) := by decide +kernel
theorem dX4_storeFrom_5 : decode cX4_storeFrom 5 = .ok (.iload_n 2, 1) := by decide +kernel
theorem dX4_storeFrom_6 : decode cX4_storeFrom 6 = .ok (.invokestatic 64, 3) := by decide +kernel
theorem dX4_storeFrom_9 : decode cX4_storeFrom 9 = .ok (.iaload, 1) := by decide +kernel
theorem dX4_storeFrom_10 : decode cX4_storeFrom 10 = .ok (.ireturn, 1) := by decide +kernel
theorem dX5_allOf_0 : decode cX5_allOf 0 = .ok (.aload_n 0, 1) := by decide +kernel
theorem dX5_allOf_1 : decode cX5_allOf 1 = .ok (.iload_n 1, 1) := by decide +kernel
theorem dX5_allOf_2 : decode cX5_allOf 2 = .ok (.invokevirtual 139, 3) := by decide +kernel
theorem dX5_allOf_5 : decode cX5_allOf 5 = .ok (.ifCond .ne 5, 3) := by decide +kernel
theorem dX5_allOf_8 : decode cX5_allOf 8 = .ok (.iconst 0, 1) := by decide +kernel
theorem dX5_allOf_9 : decode cX5_allOf 9 = .ok (.ireturn, 1) := by decide +kernel
theorem dX5_allOf_10 : decode cX5_allOf 10 = .ok (.iconst 0, 1) := by decide +kernel
theorem dX5_allOf_11 : decode cX5_allOf 11 = .ok (.istore_n 2, 1) := by decide +kernel
theorem dX5_allOf_12 : decode cX5_allOf 12 = .ok (.iload_n 2, 1) := by decide +kernel
theorem dX5_allOf_13 : decode cX5_allOf 13 = .ok (.bipush 120, 2) := by decide +kernel
theorem dX5_allOf_15 : decode cX5_allOf 15 = .ok (.if_icmp .ge 36, 3) := by decide +kernel
theorem dX5_allOf_18 : decode cX5_allOf 18 = .ok (.aload_n 0, 1) := by decide +kernel
theorem dX5_allOf_19 : decode cX5_allOf 19 = .ok (.bipush 38, 2) := by decide +kernel
theorem dX5_allOf_21 : decode cX5_allOf 21 = .ok (.invokevirtual 52, 3) := by decide +kernel
theorem dX5_allOf_24 : decode cX5_allOf 24 = .ok (.ifCond .eq 27, 3) := by decide +kernel
theorem dX5_allOf_27 : decode cX5_allOf 27 = .ok (.aload_n 0, 1) := by decide +kernel
theorem dX5_allOf_28 : decode cX5_allOf 28 = .ok (.iload_n 1, 1) := by decide +kernel
theorem dX5_allOf_29 : decode cX5_allOf 29 = .ok (.invokevirtual 139, 3) := by decide +kernel
theorem dX5_allOf_32 : decode cX5_allOf 32 = .ok (.ifCond .ne 5, 3) := by decide +kernel
theorem dX5_allOf_35 : decode cX5_allOf 35 = .ok (.iconst 0, 1) := by decide +kernel
theorem dX5_allOf_36 : decode cX5_allOf 36 = .ok (.ireturn, 1) := by decide +kernel
theorem dX5_allOf_37 : decode cX5_allOf 37 = .ok (.aload_n 0, 1) := by decide +kernel
theorem dX5_allOf_38 : decode cX5_allOf 38 = .ok (.getfield 12, 3) := by decide +kernel
theorem dX5_allOf_41 : decode cX5_allOf 41 = .ok (.iconst 2, 1) := by decide +kernel
theorem dX5_allOf_42 : decode cX5_allOf 42 = .ok (.invokevirtual 136, 3) := by decide +kernel
theorem dX5_allOf_45 : decode cX5_allOf 45 = .ok (.iinc 2 1, 3) := by decide +kernel
theorem dX5_allOf_48 : decode cX5_allOf 48 = .ok (.goto (-36), 3) := by decide +kernel
theorem dX5_allOf_51 : decode cX5_allOf 51 = .ok (.iconst 1, 1) := by decide +kernel
theorem dX5_allOf_52 : decode cX5_allOf 52 = .ok (.ireturn, 1) := by decide +kernel
theorem dX5_anyOf_0 : decode cX5_anyOf 0 = .ok (.aload_n 0, 1) := by decide +kernel
theorem dX5_anyOf_1 : decode cX5_anyOf 1 = .ok (.iload_n 1, 1) := by decide +kernel
theorem dX5_anyOf_2 : decode cX5_anyOf 2 = .ok (.invokevirtual 133, 3) := by decide +kernel
theorem dX5_anyOf_5 : decode cX5_anyOf 5 = .ok (.ifCond .ne 5, 3) := by decide +kernel
theorem dX5_anyOf_8 : decode cX5_anyOf 8 = .ok (.iconst 0, 1) := by decide +kernel
theorem dX5_anyOf_9 : decode cX5_anyOf 9 = .ok (.ireturn, 1) := by decide +kernel
theorem dX5_anyOf_10 : decode cX5_anyOf 10 = .ok (.iconst 0, 1) := by decide +kernel
theorem dX5_anyOf_11 : decode cX5_anyOf 11 = .ok (.istore_n 2, 1) := by decide +kernel
theorem dX5_anyOf_12 : decode cX5_anyOf 12 = .ok (.iload_n 2, 1) := by decide +kernel
theorem dX5_anyOf_13 : decode cX5_anyOf 13 = .ok (.bipush 120, 2) := by decide +kernel
theorem dX5_anyOf_15 : decode cX5_anyOf 15 = .ok (.if_icmp .ge 36, 3) := by decide +kernel
theorem dX5_anyOf_18 : decode cX5_anyOf 18 = .ok (.aload_n 0, 1) := by decide +kernel
theorem dX5_anyOf_19 : decode cX5_anyOf 19 = .ok (.bipush 124, 2) := by decide +kernel
theorem dX5_anyOf_21 : decode cX5_anyOf 21 = .ok (.invokevirtual 52, 3) := by decide +kernel
theorem dX5_anyOf_24 : decode cX5_anyOf 24 = .ok (.ifCond .eq 27, 3) := by decide +kernel
theorem dX5_anyOf_27 : decode cX5_anyOf 27 = .ok (.aload_n 0, 1) := by decide +kernel
theorem dX5_anyOf_28 : decode cX5_anyOf 28 = .ok (.iload_n 1, 1) := by decide +kernel
theorem dX5_anyOf_29 : decode cX5_anyOf 29 = .ok (.invokevirtual 133, 3) := by decide +kernel
theorem dX5_anyOf_32 : decode cX5_anyOf 32 = .ok (.ifCond .ne 5, 3) := by decide +kernel
theorem dX5_anyOf_35 : decode cX5_anyOf 35 = .ok (.iconst 0, 1) := by decide +kernel
theorem dX5_anyOf_36 : decode cX5_anyOf 36 = .ok (.ireturn, 1) := by decide +kernel
theorem dX5_anyOf_37 : decode cX5_anyOf 37 = .ok (.aload_n 0, 1) := by decide +kernel
theorem dX5_anyOf_38 : decode cX5_anyOf 38 = .ok (.getfield 12, 3) := by decide +kernel
theorem dX5_anyOf_41 : decode cX5_anyOf 41 = .ok (.iconst 3, 1) := by decide +kernel
theorem dX5_anyOf_42 : decode cX5_anyOf 42 = .ok (.invokevirtual 136, 3) := by decide +kernel
theorem dX5_anyOf_45 : decode cX5_anyOf 45 = .ok (.iinc 2 1, 3) := by decide +kernel
theorem dX5_anyOf_48 : decode cX5_anyOf 48 = .ok (.goto (-36), 3) := by decide +kernel
theorem dX5_anyOf_51 : decode cX5_anyOf 51 = .ok (.iconst 1, 1) := by decide +kernel
theorem dX5_anyOf_52 : decode cX5_anyOf 52 = .ok (.ireturn, 1) := by decide +kernel
theorem dX5_bend_0 : decode cX5_bend 0 = .ok (.aload_n 0, 1) := by decide +kernel
theorem dX5_bend_1 : decode cX5_bend 1 = .ok (.iconst 0, 1) := by decide +kernel
theorem dX5_bend_2 : decode cX5_bend 2 = .ok (.invokevirtual 66, 3) := by decide +kernel
theorem dX5_bend_5 : decode cX5_bend 5 = .ok (.istore_n 1, 1) := by decide +kernel
theorem dX5_bend_6 : decode cX5_bend 6 = .ok (.iload_n 1, 1) := by decide +kernel
theorem dX5_bend_7 : decode cX5_bend 7 = .ok (.ifCond .lt 12, 3) := by decide +kernel
theorem dX5_bend_10 : decode cX5_bend 10 = .ok (.aload_n 0, 1) := by decide +kernel
theorem dX5_bend_11 : decode cX5_bend 11 = .ok (.bipush 32, 2) := by decide +kernel
theorem dX5_bend_13 : decode cX5_bend 13 = .ok (.invokevirtual 52, 3) := by decide +kernel
theorem dX5_bend_16 : decode cX5_bend 16 = .ok (.ifCond .ne 5, 3) := by decide +kernel
theorem dX5_bend_19 : decode cX5_bend 19 = .ok (.iconst 0, 1) := by decide +kernel
theorem dX5_bend_20 : decode cX5_bend 20 = .ok (.ireturn, 1) := by decide +kernel
theorem dX5_bend_21 : decode cX5_bend 21 = .ok (.aload_n 0, 1) := by decide +kernel
theorem dX5_bend_22 : decode cX5_bend 22 = .ok (.invokevirtual 111, 3) := by decide +kernel
theorem dX5_bend_25 : decode cX5_bend 25 = .ok (.istore_n 2, 1) := by decide +kernel
theorem dX5_bend_26 : decode cX5_bend 26 = .ok (.iload_n 2, 1) := by decide +kernel
theorem dX5_bend_27 : decode cX5_bend 27 = .ok (.ifCond .ge 5, 3) := by decide +kernel
theorem dX5_bend_30 : decode cX5_bend 30 = .ok (.iconst 0, 1) := by decide +kernel
theorem dX5_bend_31 : decode cX5_bend 31 = .ok (.ireturn, 1) := by decide +kernel
theorem dX5_bend_32 : decode cX5_bend 32 = .ok (.aload_n 0, 1) := by decide +kernel
theorem dX5_bend_33 : decode cX5_bend 33 = .ok (.getfield 12, 3) := by decide +kernel
theorem dX5_bend_36 : decode cX5_bend 36 = .ok (.iload_n 1, 1) := by decide +kernel
theorem dX5_bend_37 : decode cX5_bend 37 = .ok (.iload_n 2, 1) := by decide +kernel
theorem dX5_bend_38 : decode cX5_bend 38 = .ok (.invokevirtual 114, 3) := by decide +kernel
theorem dX5_bend_41 : decode cX5_bend 41 = .ok (.iconst 1, 1) := by decide +kernel
theorem dX5_bend_42 : decode cX5_bend 42 = .ok (.ireturn, 1) := by decide +kernel
theorem dX5_clause_0 : decode cX5_clause 0 = .ok (.aload_n 0, 1) := by decide +kernel
theorem dX5_clause_1 : decode cX5_clause 1 = .ok (.invokevirtual 94, 3) := by decide +kernel
theorem dX5_clause_4 : decode cX5_clause 4 = .ok (.istore_n 1, 1) := by decide +kernel
theorem dX5_clause_5 : decode cX5_clause 5 = .ok (.iload_n 1, 1) := by decide +kernel
theorem dX5_clause_6 : decode cX5_clause 6 = .ok (.ifCond .lt 12, 3) := by decide +kernel
theorem dX5_clause_9 : decode cX5_clause 9 = .ok (.aload_n 0, 1) := by decide +kernel
theorem dX5_clause_10 : decode cX5_clause 10 = .ok (.bipush 32, 2) := by decide +kernel
theorem dX5_clause_12 : decode cX5_clause 12 = .ok (.invokevirtual 52, 3) := by decide +kernel
theorem dX5_clause_15 : decode cX5_clause 15 = .ok (.ifCond .ne 5, 3) := by decide +kernel
theorem dX5_clause_18 : decode cX5_clause 18 = .ok (.iconst 0, 1) := by decide +kernel
theorem dX5_clause_19 : decode cX5_clause 19 = .ok (.ireturn, 1) := by decide +kernel
theorem dX5_clause_20 : decode cX5_clause 20 = .ok (.iload_n 1, 1) := by decide +kernel
theorem dX5_clause_21 : decode cX5_clause 21 = .ok (.tableswitch 42 0 2 #[27, 32, 37], 27) := by decide +kernel
theorem dX5_clause_48 : decode cX5_clause 48 = .ok (.aload_n 0, 1) := by decide +kernel
theorem dX5_clause_49 : decode cX5_clause 49 = .ok (.invokevirtual 97, 3) := by decide +kernel
theorem dX5_clause_52 : decode cX5_clause 52 = .ok (.ireturn, 1) := by decide +kernel
theorem dX5_clause_53 : decode cX5_clause 53 = .ok (.aload_n 0, 1) := by decide +kernel
theorem dX5_clause_54 : decode cX5_clause 54 = .ok (.invokevirtual 99, 3) := by decide +kernel
theorem dX5_clause_57 : decode cX5_clause 57 = .ok (.ireturn, 1) := by decide +kernel
theorem dX5_clause_58 : decode cX5_clause 58 = .ok (.aload_n 0, 1) := by decide +kernel
theorem dX5_clause_59 : decode cX5_clause 59 = .ok (.invokevirtual 101, 3) := by decide +kernel
theorem dX5_clause_62 : decode cX5_clause 62 = .ok (.ireturn, 1) := by decide +kernel
theorem dX5_clause_63 : decode cX5_clause 63 = .ok (.aload_n 0, 1) := by decide +kernel
theorem dX5_clause_64 : decode cX5_clause 64 = .ok (.iload_n 1, 1) := by decide +kernel
theorem dX5_clause_65 : decode cX5_clause 65 = .ok (.invokevirtual 103, 3) := by decide +kernel
theorem dX5_clause_68 : decode cX5_clause 68 = .ok (.ireturn, 1) := by decide +kernel
theorem dX5_denied_0 : decode cX5_denied 0 = .ok (.aload_n 0, 1) := by decide +kernel
theorem dX5_denied_1 : decode cX5_denied 1 = .ok (.iload_n 1, 1) := by decide +kernel
theorem dX5_denied_2 : decode cX5_denied 2 = .ok (.invokevirtual 139, 3) := by decide +kernel
theorem dX5_denied_5 : decode cX5_denied 5 = .ok (.ifCond .ne 5, 3) := by decide +kernel
theorem dX5_denied_8 : decode cX5_denied 8 = .ok (.iconst 0, 1) := by decide +kernel
theorem dX5_denied_9 : decode cX5_denied 9 = .ok (.ireturn, 1) := by decide +kernel
theorem dX5_denied_10 : decode cX5_denied 10 = .ok (.aload_n 0, 1) := by decide +kernel
theorem dX5_denied_11 : decode cX5_denied 11 = .ok (.getfield 12, 3) := by decide +kernel
theorem dX5_denied_14 : decode cX5_denied 14 = .ok (.iconst 1, 1) := by decide +kernel
theorem dX5_denied_15 : decode cX5_denied 15 = .ok (.invokevirtual 136, 3) := by decide +kernel
theorem dX5_denied_18 : decode cX5_denied 18 = .ok (.iconst 1, 1) := by decide +kernel
theorem dX5_denied_19 : decode cX5_denied 19 = .ok (.ireturn, 1) := by decide +kernel
theorem dX5_digit_0 : decode cX5_digit 0 = .ok (.aload_n 0, 1) := by decide +kernel
theorem dX5_digit_1 : decode cX5_digit 1 = .ok (.getfield 39, 3) := by decide +kernel
theorem dX5_digit_4 : decode cX5_digit 4 = .ok (.ifCond .lt 23, 3) := by decide +kernel
theorem dX5_digit_7 : decode cX5_digit 7 = .ok (.aload_n 0, 1) := by decide +kernel
theorem dX5_digit_8 : decode cX5_digit 8 = .ok (.getfield 39, 3) := by decide +kernel
theorem dX5_digit_11 : decode cX5_digit 11 = .ok (.aload_n 0, 1) := by decide +kernel
theorem dX5_digit_12 : decode cX5_digit 12 = .ok (.getfield 35, 3) := by decide +kernel
theorem dX5_digit_15 : decode cX5_digit 15 = .ok (.if_icmp .ge 12, 3) := by decide +kernel
theorem dX5_digit_18 : decode cX5_digit 18 = .ok (.aload_n 0, 1) := by decide +kernel
theorem dX5_digit_19 : decode cX5_digit 19 = .ok (.getfield 39, 3) := by decide +kernel
theorem dX5_digit_22 : decode cX5_digit 22 = .ok (.bipush 120, 2) := by decide +kernel
theorem dX5_digit_24 : decode cX5_digit 24 = .ok (.if_icmp .lt 5, 3) := by decide +kernel
theorem dX5_digit_27 : decode cX5_digit 27 = .ok (.iconst (-1), 1) := by decide +kernel
theorem dX5_digit_28 : decode cX5_digit 28 = .ok (.ireturn, 1) := by decide +kernel
theorem dX5_digit_29 : decode cX5_digit 29 = .ok (.aload_n 0, 1) := by decide +kernel
theorem dX5_digit_30 : decode cX5_digit 30 = .ok (.getfield 18, 3) := by decide +kernel
theorem dX5_digit_33 : decode cX5_digit 33 = .ok (.aload_n 0, 1) := by decide +kernel
theorem dX5_digit_34 : decode cX5_digit 34 = .ok (.getfield 39, 3) := by decide +kernel
theorem dX5_digit_37 : decode cX5_digit 37 = .ok (.iaload, 1) := by decide +kernel
theorem dX5_digit_38 : decode cX5_digit 38 = .ok (.bipush 48, 2) := by decide +kernel
theorem dX5_digit_40 : decode cX5_digit 40 = .ok (.isub, 1) := by decide +kernel
theorem dX5_digit_41 : decode cX5_digit 41 = .ok (.istore_n 2, 1) := by decide +kernel
theorem dX5_digit_42 : decode cX5_digit 42 = .ok (.iload_n 2, 1) := by decide +kernel
theorem dX5_digit_43 : decode cX5_digit 43 = .ok (.iload_n 1, 1) := by decide +kernel
theorem dX5_digit_44 : decode cX5_digit 44 = .ok (.if_icmp .lt 9, 3) := by decide +kernel
theorem dX5_digit_47 : decode cX5_digit 47 = .ok (.iload_n 2, 1) := by decide +kernel
theorem dX5_digit_48 : decode cX5_digit 48 = .ok (.bipush 9, 2) := by decide +kernel
theorem dX5_digit_50 : decode cX5_digit 50 = .ok (.if_icmp .le 5, 3) := by decide +kernel
theorem dX5_digit_53 : decode cX5_digit 53 = .ok (.iconst (-1), 1) := by decide +kernel
theorem dX5_digit_54 : decode cX5_digit 54 = .ok (.ireturn, 1) := by decide +kernel
theorem dX5_digit_55 : decode cX5_digit 55 = .ok (.aload_n 0, 1) := by decide +kernel
theorem dX5_digit_56 : decode cX5_digit 56 = .ok (.dup, 1) := by decide +kernel
theorem dX5_digit_57 : decode cX5_digit 57 = .ok (.getfield 39, 3) := by decide +kernel
theorem dX5_digit_60 : decode cX5_digit 60 = .ok (.iconst 1, 1) := by decide +kernel
theorem dX5_digit_61 : decode cX5_digit 61 = .ok (.iadd, 1) := by decide +kernel
theorem dX5_digit_62 : decode cX5_digit 62 = .ok (.putfield 39, 3) := by decide +kernel
theorem dX5_digit_65 : decode cX5_digit 65 = .ok (.iload_n 2, 1) := by decide +kernel
theorem dX5_digit_66 : decode cX5_digit 66 = .ok (.ireturn, 1) := by decide +kernel
theorem dX5_ease_0 : decode cX5_ease 0 = .ok (.aload_n 0, 1) := by decide +kernel
theorem dX5_ease_1 : decode cX5_ease 1 = .ok (.invokevirtual 111, 3) := by decide +kernel
theorem dX5_ease_4 : decode cX5_ease 4 = .ok (.istore_n 1, 1) := by decide +kernel
theorem dX5_ease_5 : decode cX5_ease 5 = .ok (.iload_n 1, 1) := by decide +kernel
theorem dX5_ease_6 : decode cX5_ease 6 = .ok (.ifCond .lt 20, 3) := by decide +kernel
theorem dX5_ease_9 : decode cX5_ease 9 = .ok (.aload_n 0, 1) := by decide +kernel
theorem dX5_ease_10 : decode cX5_ease 10 = .ok (.bipush 32, 2) := by decide +kernel
theorem dX5_ease_12 : decode cX5_ease 12 = .ok (.invokevirtual 52, 3) := by decide +kernel
theorem dX5_ease_15 : decode cX5_ease 15 = .ok (.ifCond .eq 11, 3) := by decide +kernel
theorem dX5_ease_18 : decode cX5_ease 18 = .ok (.aload_n 0, 1) := by decide +kernel
theorem dX5_ease_19 : decode cX5_ease 19 = .ok (.iconst 0, 1) := by decide +kernel
theorem dX5_ease_20 : decode cX5_ease 20 = .ok (.invokevirtual 118, 3) := by decide +kernel
theorem dX5_ease_23 : decode cX5_ease 23 = .ok (.ifCond .ne 5, 3) := by decide +kernel
theorem dX5_ease_26 : decode cX5_ease 26 = .ok (.iconst 0, 1) := by decide +kernel
theorem dX5_ease_27 : decode cX5_ease 27 = .ok (.ireturn, 1) := by decide +kernel
theorem dX5_ease_28 : decode cX5_ease 28 = .ok (.aload_n 0, 1) := by decide +kernel
theorem dX5_ease_29 : decode cX5_ease 29 = .ok (.getfield 12, 3) := by decide +kernel
theorem dX5_ease_32 : decode cX5_ease 32 = .ok (.iload_n 1, 1) := by decide +kernel
theorem dX5_ease_33 : decode cX5_ease 33 = .ok (.invokevirtual 121, 3) := by decide +kernel
theorem dX5_ease_36 : decode cX5_ease 36 = .ok (.iconst 1, 1) := by decide +kernel
theorem dX5_ease_37 : decode cX5_ease 37 = .ok (.ireturn, 1) := by decide +kernel
theorem dX5_factor_0 : decode cX5_factor 0 = .ok (.aload_n 0, 1) := by decide +kernel
theorem dX5_factor_1 : decode cX5_factor 1 = .ok (.invokevirtual 56, 3) := by decide +kernel
theorem dX5_factor_4 : decode cX5_factor 4 = .ok (.istore_n 2, 1) := by decide +kernel
theorem dX5_factor_5 : decode cX5_factor 5 = .ok (.iload_n 2, 1) := by decide +kernel
theorem dX5_factor_6 : decode cX5_factor 6 = .ok (.bipush 33, 2) := by decide +kernel
theorem dX5_factor_8 : decode cX5_factor 8 = .ok (.if_icmp .eq 14, 3) := by decide +kernel
theorem dX5_factor_11 : decode cX5_factor 11 = .ok (.iload_n 2, 1) := by decide +kernel
theorem dX5_factor_12 : decode cX5_factor 12 = .ok (.bipush 40, 2) := by decide +kernel
theorem dX5_factor_14 : decode cX5_factor 14 = .ok (.if_icmp .eq 8, 3) := by decide +kernel
theorem dX5_factor_17 : decode cX5_factor 17 = .ok (.aload_n 0, 1) := by decide +kernel
theorem dX5_factor_18 : decode cX5_factor 18 = .ok (.invokevirtual 142, 3) := by decide +kernel
theorem dX5_factor_21 : decode cX5_factor 21 = .ok (.ireturn, 1) := by decide +kernel
theorem dX5_factor_22 : decode cX5_factor 22 = .ok (.iload_n 1, 1) := by decide +kernel
theorem dX5_factor_23 : decode cX5_factor 23 = .ok (.iconst 5, 1) := by decide +kernel
theorem dX5_factor_24 : decode cX5_factor 24 = .ok (.if_icmp .lt 5, 3) := by decide +kernel
theorem dX5_factor_27 : decode cX5_factor 27 = .ok (.iconst 0, 1) := by decide +kernel
theorem dX5_factor_28 : decode cX5_factor 28 = .ok (.ireturn, 1) := by decide +kernel
theorem dX5_factor_29 : decode cX5_factor 29 = .ok (.aload_n 0, 1) := by decide +kernel
theorem dX5_factor_30 : decode cX5_factor 30 = .ok (.dup, 1) := by decide +kernel
theorem dX5_factor_31 : decode cX5_factor 31 = .ok (.getfield 39, 3) := by decide +kernel
theorem dX5_factor_34 : decode cX5_factor 34 = .ok (.iconst 1, 1) := by decide +kernel
theorem dX5_factor_35 : decode cX5_factor 35 = .ok (.iadd, 1) := by decide +kernel
theorem dX5_factor_36 : decode cX5_factor 36 = .ok (.putfield 39, 3) := by decide +kernel
theorem dX5_factor_39 : decode cX5_factor 39 = .ok (.iload_n 2, 1) := by decide +kernel
theorem dX5_factor_40 : decode cX5_factor 40 = .ok (.bipush 40, 2) := by decide +kernel
theorem dX5_factor_42 : decode cX5_factor 42 = .ok (.if_icmp .ne 28, 3) := by decide +kernel
theorem dX5_factor_45 : decode cX5_factor 45 = .ok (.aload_n 0, 1) := by decide +kernel
theorem dX5_factor_46 : decode cX5_factor 46 = .ok (.iload_n 1, 1) := by decide +kernel
theorem dX5_factor_47 : decode cX5_factor 47 = .ok (.iconst 1, 1) := by decide +kernel
theorem dX5_factor_48 : decode cX5_factor 48 = .ok (.iadd, 1) := by decide +kernel
theorem dX5_factor_49 : decode cX5_factor 49 = .ok (.invokevirtual 118, 3) := by decide +kernel
theorem dX5_factor_52 : decode cX5_factor 52 = .ok (.ifCond .eq 16, 3) := by decide +kernel
theorem dX5_factor_55 : decode cX5_factor 55 = .ok (.aload_n 0, 1) := by decide +kernel
theorem dX5_factor_56 : decode cX5_factor 56 = .ok (.bipush 41, 2) := by decide +kernel
theorem dX5_factor_58 : decode cX5_factor 58 = .ok (.invokevirtual 52, 3) := by decide +kernel
theorem dX5_factor_61 : decode cX5_factor 61 = .ok (.ifCond .eq 7, 3) := by decide +kernel
theorem dX5_factor_64 : decode cX5_factor 64 = .ok (.iconst 1, 1) := by decide +kernel
theorem dX5_factor_65 : decode cX5_factor 65 = .ok (.goto 4, 3) := by decide +kernel
theorem dX5_factor_68 : decode cX5_factor 68 = .ok (.iconst 0, 1) := by decide +kernel
theorem dX5_factor_69 : decode cX5_factor 69 = .ok (.ireturn, 1) := by decide +kernel
theorem dX5_factor_70 : decode cX5_factor 70 = .ok (.aload_n 0, 1) := by decide +kernel
theorem dX5_factor_71 : decode cX5_factor 71 = .ok (.iload_n 1, 1) := by decide +kernel
theorem dX5_factor_72 : decode cX5_factor 72 = .ok (.iconst 1, 1) := by decide +kernel
theorem dX5_factor_73 : decode cX5_factor 73 = .ok (.iadd, 1) := by decide +kernel
theorem dX5_factor_74 : decode cX5_factor 74 = .ok (.invokevirtual 145, 3) := by decide +kernel
theorem dX5_factor_77 : decode cX5_factor 77 = .ok (.ireturn, 1) := by decide +kernel
theorem dX5_init_0 : decode cX5_init 0 = .ok (.aload_n 0, 1) := by decide +kernel
theorem dX5_init_1 : decode cX5_init 1 = .ok (.invokespecial 3, 3) := by decide +kernel
theorem dX5_init_4 : decode cX5_init 4 = .ok (.aload_n 0, 1) := by decide +kernel
theorem dX5_init_5 : decode cX5_init 5 = .ok (.new 9, 3) := by decide +kernel
theorem dX5_init_8 : decode cX5_init 8 = .ok (.dup, 1) := by decide +kernel
theorem dX5_init_9 : decode cX5_init 9 = .ok (.invokespecial 11, 3) := by decide +kernel
theorem dX5_init_12 : decode cX5_init 12 = .ok (.putfield 12, 3) := by decide +kernel
theorem dX5_init_15 : decode cX5_init 15 = .ok (.aload_n 0, 1) := by decide +kernel
theorem dX5_init_16 : decode cX5_init 16 = .ok (.bipush 120, 2) := by decide +kernel
theorem dX5_init_18 : decode cX5_init 18 = .ok (.newarray .int, 2) := by decide +kernel
theorem dX5_init_20 : decode cX5_init 20 = .ok (.putfield 18, 3) := by decide +kernel
theorem dX5_init_23 : decode cX5_init 23 = .ok (.return_, 1) := by decide +kernel
theorem dX5_next_0 : decode cX5_next 0 = .ok (.aload_n 0, 1) := by decide +kernel
theorem dX5_next_1 : decode cX5_next 1 = .ok (.getfield 39, 3) := by decide +kernel
theorem dX5_next_4 : decode cX5_next 4 = .ok (.ifCond .lt 35, 3) := by decide +kernel
theorem dX5_next_7 : decode cX5_next 7 = .ok (.aload_n 0, 1) := by decide +kernel
theorem dX5_next_8 : decode cX5_next 8 = .ok (.getfield 39, 3) := by decide +kernel
theorem dX5_next_11 : decode cX5_next 11 = .ok (.aload_n 0, 1) := by decide +kernel
theorem dX5_next_12 : decode cX5_next 12 = .ok (.getfield 35, 3) := by decide +kernel
theorem dX5_next_15 : decode cX5_next 15 = .ok (.if_icmp .ge 24, 3) := by decide +kernel
theorem dX5_next_18 : decode cX5_next 18 = .ok (.aload_n 0, 1) := by decide +kernel
theorem dX5_next_19 : decode cX5_next 19 = .ok (.getfield 39, 3) := by decide +kernel
theorem dX5_next_22 : decode cX5_next 22 = .ok (.bipush 120, 2) := by decide +kernel
theorem dX5_next_24 : decode cX5_next 24 = .ok (.if_icmp .ge 15, 3) := by decide +kernel
theorem dX5_next_27 : decode cX5_next 27 = .ok (.aload_n 0, 1) := by decide +kernel
theorem dX5_next_28 : decode cX5_next 28 = .ok (.getfield 18, 3) := by decide +kernel
theorem dX5_next_31 : decode cX5_next 31 = .ok (.aload_n 0, 1) := by decide +kernel
theorem dX5_next_32 : decode cX5_next 32 = .ok (.getfield 39, 3) := by decide +kernel
theorem dX5_next_35 : decode cX5_next 35 = .ok (.iaload, 1) := by decide +kernel
theorem dX5_next_36 : decode cX5_next 36 = .ok (.goto 4, 3) := by decide +kernel
theorem dX5_next_39 : decode cX5_next 39 = .ok (.iconst (-1), 1) := by decide +kernel
theorem dX5_next_40 : decode cX5_next 40 = .ok (.ireturn, 1) := by decide +kernel
theorem dX5_number_0 : decode cX5_number 0 = .ok (.aload_n 0, 1) := by decide +kernel
theorem dX5_number_1 : decode cX5_number 1 = .ok (.iconst 0, 1) := by decide +kernel
theorem dX5_number_2 : decode cX5_number 2 = .ok (.invokevirtual 66, 3) := by decide +kernel
theorem dX5_number_5 : decode cX5_number 5 = .ok (.istore_n 1, 1) := by decide +kernel
theorem dX5_number_6 : decode cX5_number 6 = .ok (.iload_n 1, 1) := by decide +kernel
theorem dX5_number_7 : decode cX5_number 7 = .ok (.ifCond .gt 5, 3) := by decide +kernel
theorem dX5_number_10 : decode cX5_number 10 = .ok (.iload_n 1, 1) := by decide +kernel
theorem dX5_number_11 : decode cX5_number 11 = .ok (.ireturn, 1) := by decide +kernel
theorem dX5_number_12 : decode cX5_number 12 = .ok (.aload_n 0, 1) := by decide +kernel
theorem dX5_number_13 : decode cX5_number 13 = .ok (.iconst 0, 1) := by decide +kernel
theorem dX5_number_14 : decode cX5_number 14 = .ok (.invokevirtual 66, 3) := by decide +kernel
theorem dX5_number_17 : decode cX5_number 17 = .ok (.istore_n 2, 1) := by decide +kernel
theorem dX5_number_18 : decode cX5_number 18 = .ok (.iload_n 2, 1) := by decide +kernel
theorem dX5_number_19 : decode cX5_number 19 = .ok (.ifCond .ge 7, 3) := by decide +kernel
theorem dX5_number_22 : decode cX5_number 22 = .ok (.iload_n 1, 1) := by decide +kernel
theorem dX5_number_23 : decode cX5_number 23 = .ok (.goto 9, 3) := by decide +kernel
theorem dX5_number_26 : decode cX5_number 26 = .ok (.bipush 10, 2) := by decide +kernel
theorem dX5_number_28 : decode cX5_number 28 = .ok (.iload_n 1, 1) := by decide +kernel
theorem dX5_number_29 : decode cX5_number 29 = .ok (.imul, 1) := by decide +kernel
theorem dX5_number_30 : decode cX5_number 30 = .ok (.iload_n 2, 1) := by decide +kernel
theorem dX5_number_31 : decode cX5_number 31 = .ok (.iadd, 1) := by decide +kernel
theorem dX5_number_32 : decode cX5_number 32 = .ok (.ireturn, 1) := by decide +kernel
theorem dX5_oneOf_0 : decode cX5_oneOf 0 = .ok (.aload_n 0, 1) := by decide +kernel
theorem dX5_oneOf_1 : decode cX5_oneOf 1 = .ok (.invokevirtual 56, 3) := by decide +kernel
theorem dX5_oneOf_4 : decode cX5_oneOf 4 = .ok (.istore_n 2, 1) := by decide +kernel
theorem dX5_oneOf_5 : decode cX5_oneOf 5 = .ok (.iload_n 2, 1) := by decide +kernel
theorem dX5_oneOf_6 : decode cX5_oneOf 6 = .ok (.ifCond .ge 7, 3) := by decide +kernel
theorem dX5_oneOf_9 : decode cX5_oneOf 9 = .ok (.iconst (-1), 1) := by decide +kernel
theorem dX5_oneOf_10 : decode cX5_oneOf 10 = .ok (.goto 9, 3) := by decide +kernel
theorem dX5_oneOf_13 : decode cX5_oneOf 13 = .ok (.aload_n 1, 1) := by decide +kernel
theorem dX5_oneOf_14 : decode cX5_oneOf 14 = .ok (.iload_n 2, 1) := by decide +kernel
theorem dX5_oneOf_15 : decode cX5_oneOf 15 = .ok (.i2c, 1) := by decide +kernel
theorem dX5_oneOf_16 : decode cX5_oneOf 16 = .ok (.invokevirtual 60, 3) := by decide +kernel
theorem dX5_oneOf_19 : decode cX5_oneOf 19 = .ok (.istore_n 3, 1) := by decide +kernel
theorem dX5_oneOf_20 : decode cX5_oneOf 20 = .ok (.iload_n 3, 1) := by decide +kernel
theorem dX5_oneOf_21 : decode cX5_oneOf 21 = .ok (.ifCond .lt 13, 3) := by decide +kernel
theorem dX5_oneOf_24 : decode cX5_oneOf 24 = .ok (.aload_n 0, 1) := by decide +kernel
theorem dX5_oneOf_25 : decode cX5_oneOf 25 = .ok (.dup, 1) := by decide +kernel
theorem dX5_oneOf_26 : decode cX5_oneOf 26 = .ok (.getfield 39, 3) := by decide +kernel
theorem dX5_oneOf_29 : decode cX5_oneOf 29 = .ok (.iconst 1, 1) := by decide +kernel
theorem dX5_oneOf_30 : decode cX5_oneOf 30 = .ok (.iadd, 1) := by decide +kernel
theorem dX5_oneOf_31 : decode cX5_oneOf 31 = .ok (.putfield 39, 3) := by decide +kernel
theorem dX5_oneOf_34 : decode cX5_oneOf 34 = .ok (.iload_n 3, 1) := by decide +kernel
theorem dX5_oneOf_35 : decode cX5_oneOf 35 = .ok (.ireturn, 1) := by decide +kernel
theorem dX5_piece_0 : decode cX5_piece 0 = .ok (.aload_n 0, 1) := by decide +kernel
theorem dX5_piece_1 : decode cX5_piece 1 = .ok (.iconst 1, 1) := by decide +kernel
theorem dX5_piece_2 : decode cX5_piece 2 = .ok (.invokevirtual 66, 3) := by decide +kernel
theorem dX5_piece_5 : decode cX5_piece 5 = .ok (.istore_n 1, 1) := by decide +kernel
theorem dX5_piece_6 : decode cX5_piece 6 = .ok (.iload_n 1, 1) := by decide +kernel
theorem dX5_piece_7 : decode cX5_piece 7 = .ok (.ifCond .lt 12, 3) := by decide +kernel
theorem dX5_piece_10 : decode cX5_piece 10 = .ok (.aload_n 0, 1) := by decide +kernel
theorem dX5_piece_11 : decode cX5_piece 11 = .ok (.bipush 32, 2) := by decide +kernel
theorem dX5_piece_13 : decode cX5_piece 13 = .ok (.invokevirtual 52, 3) := by decide +kernel
theorem dX5_piece_16 : decode cX5_piece 16 = .ok (.ifCond .ne 5, 3) := by decide +kernel
theorem dX5_piece_19 : decode cX5_piece 19 = .ok (.iconst 0, 1) := by decide +kernel
theorem dX5_piece_20 : decode cX5_piece 20 = .ok (.ireturn, 1) := by decide +kernel
theorem dX5_piece_21 : decode cX5_piece 21 = .ok (.aload_n 0, 1) := by decide +kernel
theorem dX5_piece_22 : decode cX5_piece 22 = .ok (.iconst 0, 1) := by decide +kernel
theorem dX5_piece_23 : decode cX5_piece 23 = .ok (.invokevirtual 66, 3) := by decide +kernel
theorem dX5_piece_26 : decode cX5_piece 26 = .ok (.istore_n 2, 1) := by decide +kernel
theorem dX5_piece_27 : decode cX5_piece 27 = .ok (.iload_n 2, 1) := by decide +kernel
theorem dX5_piece_28 : decode cX5_piece 28 = .ok (.ifCond .lt 12, 3) := by decide +kernel
theorem dX5_piece_31 : decode cX5_piece 31 = .ok (.aload_n 0, 1) := by decide +kernel
theorem dX5_piece_32 : decode cX5_piece 32 = .ok (.bipush 32, 2) := by decide +kernel
theorem dX5_piece_34 : decode cX5_piece 34 = .ok (.invokevirtual 52, 3) := by decide +kernel
theorem dX5_piece_37 : decode cX5_piece 37 = .ok (.ifCond .ne 5, 3) := by decide +kernel
theorem dX5_piece_40 : decode cX5_piece 40 = .ok (.iconst 0, 1) := by decide +kernel
theorem dX5_piece_41 : decode cX5_piece 41 = .ok (.ireturn, 1) := by decide +kernel
theorem dX5_piece_42 : decode cX5_piece 42 = .ok (.aload_n 0, 1) := by decide +kernel
theorem dX5_piece_43 : decode cX5_piece 43 = .ok (.iconst 0, 1) := by decide +kernel
theorem dX5_piece_44 : decode cX5_piece 44 = .ok (.invokevirtual 66, 3) := by decide +kernel
theorem dX5_piece_47 : decode cX5_piece 47 = .ok (.istore_n 3, 1) := by decide +kernel
theorem dX5_piece_48 : decode cX5_piece 48 = .ok (.iload_n 3, 1) := by decide +kernel
theorem dX5_piece_49 : decode cX5_piece 49 = .ok (.ifCond .ge 5, 3) := by decide +kernel
theorem dX5_piece_52 : decode cX5_piece 52 = .ok (.iconst 0, 1) := by decide +kernel
theorem dX5_piece_53 : decode cX5_piece 53 = .ok (.ireturn, 1) := by decide +kernel
theorem dX5_piece_54 : decode cX5_piece 54 = .ok (.aload_n 0, 1) := by decide +kernel
theorem dX5_piece_55 : decode cX5_piece 55 = .ok (.getfield 12, 3) := by decide +kernel
theorem dX5_piece_58 : decode cX5_piece 58 = .ok (.iload_n 1, 1) := by decide +kernel
theorem dX5_piece_59 : decode cX5_piece 59 = .ok (.iload_n 2, 1) := by decide +kernel
theorem dX5_piece_60 : decode cX5_piece 60 = .ok (.iload_n 3, 1) := by decide +kernel
theorem dX5_piece_61 : decode cX5_piece 61 = .ok (.invokevirtual 107, 3) := by decide +kernel
theorem dX5_piece_64 : decode cX5_piece 64 = .ok (.iconst 1, 1) := by decide +kernel
theorem dX5_piece_65 : decode cX5_piece 65 = .ok (.ireturn, 1) := by decide +kernel
theorem dX5_read_0 : decode cX5_read 0 = .ok (.aload_n 1, 1) := by decide +kernel
theorem dX5_read_1 : decode cX5_read 1 = .ok (.aload_n 0, 1) := by decide +kernel
theorem dX5_read_2 : decode cX5_read 2 = .ok (.getfield 18, 3) := by decide +kernel
theorem dX5_read_5 : decode cX5_read 5 = .ok (.invokestatic 22, 3) := by decide +kernel
theorem dX5_read_8 : decode cX5_read 8 = .ok (.aload_n 0, 1) := by decide +kernel
theorem dX5_read_9 : decode cX5_read 9 = .ok (.iconst 0, 1) := by decide +kernel
theorem dX5_read_10 : decode cX5_read 10 = .ok (.iload_n 2, 1) := by decide +kernel
theorem dX5_read_11 : decode cX5_read 11 = .ok (.bipush 120, 2) := by decide +kernel
theorem dX5_read_13 : decode cX5_read 13 = .ok (.invokestatic 26, 3) := by decide +kernel
theorem dX5_read_16 : decode cX5_read 16 = .ok (.invokestatic 32, 3) := by decide +kernel
theorem dX5_read_19 : decode cX5_read 19 = .ok (.putfield 35, 3) := by decide +kernel
theorem dX5_read_22 : decode cX5_read 22 = .ok (.aload_n 0, 1) := by decide +kernel
theorem dX5_read_23 : decode cX5_read 23 = .ok (.iconst 0, 1) := by decide +kernel
theorem dX5_read_24 : decode cX5_read 24 = .ok (.putfield 39, 3) := by decide +kernel
theorem dX5_read_27 : decode cX5_read 27 = .ok (.aload_n 0, 1) := by decide +kernel
theorem dX5_read_28 : decode cX5_read 28 = .ok (.getfield 12, 3) := by decide +kernel
theorem dX5_read_31 : decode cX5_read 31 = .ok (.invokevirtual 42, 3) := by decide +kernel
theorem dX5_read_34 : decode cX5_read 34 = .ok (.iconst 1, 1) := by decide +kernel
theorem dX5_read_35 : decode cX5_read 35 = .ok (.istore_n 3, 1) := by decide +kernel
theorem dX5_read_36 : decode cX5_read 36 = .ok (.iload_n 3, 1) := by decide +kernel
theorem dX5_read_37 : decode cX5_read 37 = .ok (.bipush 14, 2) := by decide +kernel
theorem dX5_read_39 : decode cX5_read 39 = .ok (.if_icmp .gt 71, 3) := by decide +kernel
theorem dX5_read_42 : decode cX5_read 42 = .ok (.aload_n 0, 1) := by decide +kernel
theorem dX5_read_43 : decode cX5_read 43 = .ok (.invokevirtual 45, 3) := by decide +kernel
theorem dX5_read_46 : decode cX5_read 46 = .ok (.ifCond .ne 8, 3) := by decide +kernel
theorem dX5_read_49 : decode cX5_read 49 = .ok (.aload_n 0, 1) := by decide +kernel
theorem dX5_read_50 : decode cX5_read 50 = .ok (.getfield 39, 3) := by decide +kernel
theorem dX5_read_53 : decode cX5_read 53 = .ok (.ireturn, 1) := by decide +kernel
theorem dX5_read_54 : decode cX5_read 54 = .ok (.aload_n 0, 1) := by decide +kernel
theorem dX5_read_55 : decode cX5_read 55 = .ok (.getfield 39, 3) := by decide +kernel
theorem dX5_read_58 : decode cX5_read 58 = .ok (.aload_n 0, 1) := by decide +kernel
theorem dX5_read_59 : decode cX5_read 59 = .ok (.getfield 35, 3) := by decide +kernel
theorem dX5_read_62 : decode cX5_read 62 = .ok (.if_icmp .lt 22, 3) := by decide +kernel
theorem dX5_read_65 : decode cX5_read 65 = .ok (.aload_n 0, 1) := by decide +kernel
theorem dX5_read_66 : decode cX5_read 66 = .ok (.getfield 12, 3) := by decide +kernel
theorem dX5_read_69 : decode cX5_read 69 = .ok (.getfield 49, 3) := by decide +kernel
theorem dX5_read_72 : decode cX5_read 72 = .ok (.ifCond .le 7, 3) := by decide +kernel
theorem dX5_read_75 : decode cX5_read 75 = .ok (.iconst (-1), 1) := by decide +kernel
theorem dX5_read_76 : decode cX5_read 76 = .ok (.goto 7, 3) := by decide +kernel
theorem dX5_read_79 : decode cX5_read 79 = .ok (.aload_n 0, 1) := by decide +kernel
theorem dX5_read_80 : decode cX5_read 80 = .ok (.getfield 35, 3) := by decide +kernel
theorem dX5_read_83 : decode cX5_read 83 = .ok (.ireturn, 1) := by decide +kernel
theorem dX5_read_84 : decode cX5_read 84 = .ok (.iload_n 3, 1) := by decide +kernel
theorem dX5_read_85 : decode cX5_read 85 = .ok (.bipush 14, 2) := by decide +kernel
theorem dX5_read_87 : decode cX5_read 87 = .ok (.if_icmp .eq 12, 3) := by decide +kernel
theorem dX5_read_90 : decode cX5_read 90 = .ok (.aload_n 0, 1) := by decide +kernel
theorem dX5_read_91 : decode cX5_read 91 = .ok (.bipush 59, 2) := by decide +kernel
theorem dX5_read_93 : decode cX5_read 93 = .ok (.invokevirtual 52, 3) := by decide +kernel
theorem dX5_read_96 : decode cX5_read 96 = .ok (.ifCond .ne 8, 3) := by decide +kernel
theorem dX5_read_99 : decode cX5_read 99 = .ok (.aload_n 0, 1) := by decide +kernel
theorem dX5_read_100 : decode cX5_read 100 = .ok (.getfield 39, 3) := by decide +kernel
theorem dX5_read_103 : decode cX5_read 103 = .ok (.ireturn, 1) := by decide +kernel
theorem dX5_read_104 : decode cX5_read 104 = .ok (.iinc 3 1, 3) := by decide +kernel
theorem dX5_read_107 : decode cX5_read 107 = .ok (.goto (-71), 3) := by decide +kernel
theorem dX5_read_110 : decode cX5_read 110 = .ok (.aload_n 0, 1) := by decide +kernel
theorem dX5_read_111 : decode cX5_read 111 = .ok (.getfield 39, 3) := by decide +kernel
theorem dX5_read_114 : decode cX5_read 114 = .ok (.ireturn, 1) := by decide +kernel
theorem dX5_setting_0 : decode cX5_setting 0 = .ok (.aload_n 0, 1) := by decide +kernel
theorem dX5_setting_1 : decode cX5_setting 1 = .ok (.invokevirtual 111, 3) := by decide +kernel
theorem dX5_setting_4 : decode cX5_setting 4 = .ok (.istore_n 2, 1) := by decide +kernel
theorem dX5_setting_5 : decode cX5_setting 5 = .ok (.iload_n 2, 1) := by decide +kernel
theorem dX5_setting_6 : decode cX5_setting 6 = .ok (.ifCond .ge 5, 3) := by decide +kernel
theorem dX5_setting_9 : decode cX5_setting 9 = .ok (.iconst 0, 1) := by decide +kernel
theorem dX5_setting_10 : decode cX5_setting 10 = .ok (.ireturn, 1) := by decide +kernel
theorem dX5_setting_11 : decode cX5_setting 11 = .ok (.iload_n 1, 1) := by decide +kernel
theorem dX5_setting_12 : decode cX5_setting 12 = .ok (.tableswitch 71 3 5 #[28, 44, 60], 28) := by decide +kernel
theorem dX5_setting_40 : decode cX5_setting 40 = .ok (.aload_n 0, 1) := by decide +kernel
theorem dX5_setting_41 : decode cX5_setting 41 = .ok (.getfield 12, 3) := by decide +kernel
theorem dX5_setting_44 : decode cX5_setting 44 = .ok (.iload_n 2, 1) := by decide +kernel
theorem dX5_setting_45 : decode cX5_setting 45 = .ok (.bipush 9, 2) := by decide +kernel
theorem dX5_setting_47 : decode cX5_setting 47 = .ok (.invokestatic 26, 3) := by decide +kernel
theorem dX5_setting_50 : decode cX5_setting 50 = .ok (.putfield 125, 3) := by decide +kernel
theorem dX5_setting_53 : decode cX5_setting 53 = .ok (.goto 43, 3) := by decide +kernel
theorem dX5_setting_56 : decode cX5_setting 56 = .ok (.aload_n 0, 1) := by decide +kernel
theorem dX5_setting_57 : decode cX5_setting 57 = .ok (.getfield 12, 3) := by decide +kernel
theorem dX5_setting_60 : decode cX5_setting 60 = .ok (.iload_n 2, 1) := by decide +kernel
theorem dX5_setting_61 : decode cX5_setting 61 = .ok (.bipush 60, 2) := by decide +kernel
theorem dX5_setting_63 : decode cX5_setting 63 = .ok (.invokestatic 26, 3) := by decide +kernel
theorem dX5_setting_66 : decode cX5_setting 66 = .ok (.putfield 127, 3) := by decide +kernel
theorem dX5_setting_69 : decode cX5_setting 69 = .ok (.goto 27, 3) := by decide +kernel
theorem dX5_setting_72 : decode cX5_setting 72 = .ok (.aload_n 0, 1) := by decide +kernel
theorem dX5_setting_73 : decode cX5_setting 73 = .ok (.getfield 12, 3) := by decide +kernel
theorem dX5_setting_76 : decode cX5_setting 76 = .ok (.iload_n 2, 1) := by decide +kernel
theorem dX5_setting_77 : decode cX5_setting 77 = .ok (.putfield 129, 3) := by decide +kernel
theorem dX5_setting_80 : decode cX5_setting 80 = .ok (.goto 16, 3) := by decide +kernel
theorem dX5_setting_83 : decode cX5_setting 83 = .ok (.aload_n 0, 1) := by decide +kernel
theorem dX5_setting_84 : decode cX5_setting 84 = .ok (.getfield 12, 3) := by decide +kernel
theorem dX5_setting_87 : decode cX5_setting 87 = .ok (.iload_n 2, 1) := by decide +kernel
theorem dX5_setting_88 : decode cX5_setting 88 = .ok (.bipush 10, 2) := by decide +kernel
theorem dX5_setting_90 : decode cX5_setting 90 = .ok (.invokestatic 26, 3) := by decide +kernel
theorem dX5_setting_93 : decode cX5_setting 93 = .ok (.putfield 131, 3) := by decide +kernel
theorem dX5_setting_96 : decode cX5_setting 96 = .ok (.iconst 1, 1) := by decide +kernel
theorem dX5_setting_97 : decode cX5_setting 97 = .ok (.ireturn, 1) := by decide +kernel
theorem dX5_sign_0 : decode cX5_sign 0 = .ok (.aload_n 0, 1) := by decide +kernel
theorem dX5_sign_1 : decode cX5_sign 1 = .ok (.invokevirtual 56, 3) := by decide +kernel
theorem dX5_sign_4 : decode cX5_sign 4 = .ok (.iload_n 1, 1) := by decide +kernel
theorem dX5_sign_5 : decode cX5_sign 5 = .ok (.if_icmp .eq 5, 3) := by decide +kernel
theorem dX5_sign_8 : decode cX5_sign 8 = .ok (.iconst 0, 1) := by decide +kernel
theorem dX5_sign_9 : decode cX5_sign 9 = .ok (.ireturn, 1) := by decide +kernel
theorem dX5_sign_10 : decode cX5_sign 10 = .ok (.aload_n 0, 1) := by decide +kernel
theorem dX5_sign_11 : decode cX5_sign 11 = .ok (.dup, 1) := by decide +kernel
theorem dX5_sign_12 : decode cX5_sign 12 = .ok (.getfield 39, 3) := by decide +kernel
theorem dX5_sign_15 : decode cX5_sign 15 = .ok (.iconst 1, 1) := by decide +kernel
theorem dX5_sign_16 : decode cX5_sign 16 = .ok (.iadd, 1) := by decide +kernel
theorem dX5_sign_17 : decode cX5_sign 17 = .ok (.putfield 39, 3) := by decide +kernel
theorem dX5_sign_20 : decode cX5_sign 20 = .ok (.iconst 1, 1) := by decide +kernel
theorem dX5_sign_21 : decode cX5_sign 21 = .ok (.ireturn, 1) := by decide +kernel
theorem dX5_test_0 : decode cX5_test 0 = .ok (.aload_n 0, 1) := by decide +kernel
theorem dX5_test_1 : decode cX5_test 1 = .ok (.ldc 148, 2) := by decide +kernel
theorem dX5_test_3 : decode cX5_test 3 = .ok (.invokevirtual 150, 3) := by decide +kernel
theorem dX5_test_6 : decode cX5_test 6 = .ok (.istore_n 1, 1) := by decide +kernel
theorem dX5_test_7 : decode cX5_test 7 = .ok (.iload_n 1, 1) := by decide +kernel
theorem dX5_test_8 : decode cX5_test 8 = .ok (.ifCond .ge 7, 3) := by decide +kernel
theorem dX5_test_11 : decode cX5_test 11 = .ok (.iconst (-1), 1) := by decide +kernel
theorem dX5_test_12 : decode cX5_test 12 = .ok (.goto 9, 3) := by decide +kernel
theorem dX5_test_15 : decode cX5_test 15 = .ok (.aload_n 0, 1) := by decide +kernel
theorem dX5_test_16 : decode cX5_test 16 = .ok (.ldc 154, 2) := by decide +kernel
theorem dX5_test_18 : decode cX5_test 18 = .ok (.invokevirtual 150, 3) := by decide +kernel
theorem dX5_test_21 : decode cX5_test 21 = .ok (.istore_n 2, 1) := by decide +kernel
theorem dX5_test_22 : decode cX5_test 22 = .ok (.iload_n 2, 1) := by decide +kernel
theorem dX5_test_23 : decode cX5_test 23 = .ok (.ifCond .ge 7, 3) := by decide +kernel
theorem dX5_test_26 : decode cX5_test 26 = .ok (.iconst (-1), 1) := by decide +kernel
theorem dX5_test_27 : decode cX5_test 27 = .ok (.goto 7, 3) := by decide +kernel
theorem dX5_test_30 : decode cX5_test 30 = .ok (.aload_n 0, 1) := by decide +kernel
theorem dX5_test_31 : decode cX5_test 31 = .ok (.invokevirtual 111, 3) := by decide +kernel
theorem dX5_test_34 : decode cX5_test 34 = .ok (.istore_n 3, 1) := by decide +kernel
theorem dX5_test_35 : decode cX5_test 35 = .ok (.iload_n 3, 1) := by decide +kernel
theorem dX5_test_36 : decode cX5_test 36 = .ok (.ifCond .ge 5, 3) := by decide +kernel
theorem dX5_test_39 : decode cX5_test 39 = .ok (.iconst 0, 1) := by decide +kernel
theorem dX5_test_40 : decode cX5_test 40 = .ok (.ireturn, 1) := by decide +kernel
theorem dX5_test_41 : decode cX5_test 41 = .ok (.aload_n 0, 1) := by decide +kernel
theorem dX5_test_42 : decode cX5_test 42 = .ok (.getfield 12, 3) := by decide +kernel
theorem dX5_test_45 : decode cX5_test 45 = .ok (.iload_n 1, 1) := by decide +kernel
theorem dX5_test_46 : decode cX5_test 46 = .ok (.iload_n 2, 1) := by decide +kernel
theorem dX5_test_47 : decode cX5_test 47 = .ok (.iload_n 3, 1) := by decide +kernel
theorem dX5_test_48 : decode cX5_test 48 = .ok (.invokevirtual 156, 3) := by decide +kernel
theorem dX5_test_51 : decode cX5_test 51 = .ok (.iconst 1, 1) := by decide +kernel
theorem dX5_test_52 : decode cX5_test 52 = .ok (.ireturn, 1) := by decide +kernel
theorem dX5_word_0 : decode cX5_word 0 = .ok (.bipush 127, 2) := by decide +kernel
theorem dX5_word_2 : decode cX5_word 2 = .ok (.istore_n 1, 1) := by decide +kernel
theorem dX5_word_3 : decode cX5_word 3 = .ok (.aload_n 0, 1) := by decide +kernel
theorem dX5_word_4 : decode cX5_word 4 = .ok (.getfield 12, 3) := by decide +kernel
theorem dX5_word_7 : decode cX5_word 7 = .ok (.getfield 49, 3) := by decide +kernel
theorem dX5_word_10 : decode cX5_word 10 = .ok (.bipush 8, 2) := by decide +kernel
theorem dX5_word_12 : decode cX5_word 12 = .ok (.if_icmp .lt 7, 3) := by decide +kernel
theorem dX5_word_15 : decode cX5_word 15 = .ok (.iload_n 1, 1) := by decide +kernel
theorem dX5_word_16 : decode cX5_word 16 = .ok (.iconst 1, 1) := by decide +kernel
theorem dX5_word_17 : decode cX5_word 17 = .ok (.ixor, 1) := by decide +kernel
theorem dX5_word_18 : decode cX5_word 18 = .ok (.istore_n 1, 1) := by decide +kernel
theorem dX5_word_19 : decode cX5_word 19 = .ok (.iconst 0, 1) := by decide +kernel
theorem dX5_word_20 : decode cX5_word 20 = .ok (.istore_n 2, 1) := by decide +kernel
theorem dX5_word_21 : decode cX5_word 21 = .ok (.iload_n 2, 1) := by decide +kernel
theorem dX5_word_22 : decode cX5_word 22 = .ok (.iconst 5, 1) := by decide +kernel
theorem dX5_word_23 : decode cX5_word 23 = .ok (.if_icmp .gt 111, 3) := by decide +kernel
theorem dX5_word_26 : decode cX5_word 26 = .ok (.iconst 0, 1) := by decide +kernel
theorem dX5_word_27 : decode cX5_word 27 = .ok (.istore_n 3, 1) := by decide +kernel
theorem dX5_word_28 : decode cX5_word 28 = .ok (.iconst 0, 1) := by decide +kernel
theorem dX5_word_29 : decode cX5_word 29 = .ok (.istore 4, 2) := by decide +kernel
theorem dX5_word_31 : decode cX5_word 31 = .ok (.iload 4, 2) := by decide +kernel
theorem dX5_word_33 : decode cX5_word 33 = .ok (.bipush 7, 2) := by decide +kernel
theorem dX5_word_35 : decode cX5_word 35 = .ok (.if_icmp .ge 75, 3) := by decide +kernel
theorem dX5_word_38 : decode cX5_word 38 = .ok (.iload 4, 2) := by decide +kernel
theorem dX5_word_40 : decode cX5_word 40 = .ok (.invokestatic 83, 3) := by decide +kernel
theorem dX5_word_43 : decode cX5_word 43 = .ok (.astore 5, 2) := by decide +kernel
theorem dX5_word_45 : decode cX5_word 45 = .ok (.iload_n 1, 1) := by decide +kernel
theorem dX5_word_46 : decode cX5_word 46 = .ok (.iload 4, 2) := by decide +kernel
theorem dX5_word_48 : decode cX5_word 48 = .ok (.ishr, 1) := by decide +kernel
theorem dX5_word_49 : decode cX5_word 49 = .ok (.iconst 1, 1) := by decide +kernel
theorem dX5_word_50 : decode cX5_word 50 = .ok (.iand, 1) := by decide +kernel
theorem dX5_word_51 : decode cX5_word 51 = .ok (.iconst 1, 1) := by decide +kernel
theorem dX5_word_52 : decode cX5_word 52 = .ok (.if_icmp .ne 7, 3) := by decide +kernel
theorem dX5_word_55 : decode cX5_word 55 = .ok (.iconst 1, 1) := by decide +kernel
theorem dX5_word_56 : decode cX5_word 56 = .ok (.goto 4, 3) := by decide +kernel
theorem dX5_word_59 : decode cX5_word 59 = .ok (.iconst 0, 1) := by decide +kernel
theorem dX5_word_60 : decode cX5_word 60 = .ok (.istore 6, 2) := by decide +kernel
theorem dX5_word_62 : decode cX5_word 62 = .ok (.iload 6, 2) := by decide +kernel
theorem dX5_word_64 : decode cX5_word 64 = .ok (.ifCond .eq 15, 3) := by decide +kernel
theorem dX5_word_67 : decode cX5_word 67 = .ok (.iload_n 2, 1) := by decide +kernel
theorem dX5_word_68 : decode cX5_word 68 = .ok (.aload 5, 2) := by decide +kernel
theorem dX5_word_70 : decode cX5_word 70 = .ok (.invokevirtual 87, 3) := by decide +kernel
theorem dX5_word_73 : decode cX5_word 73 = .ok (.if_icmp .lt 6, 3) := by decide +kernel
theorem dX5_word_76 : decode cX5_word 76 = .ok (.iload 4, 2) := by decide +kernel
theorem dX5_word_78 : decode cX5_word 78 = .ok (.ireturn, 1) := by decide +kernel
theorem dX5_word_79 : decode cX5_word 79 = .ok (.iload 6, 2) := by decide +kernel
theorem dX5_word_81 : decode cX5_word 81 = .ok (.ifCond .eq 23, 3) := by decide +kernel
theorem dX5_word_84 : decode cX5_word 84 = .ok (.aload 5, 2) := by decide +kernel
theorem dX5_word_86 : decode cX5_word 86 = .ok (.iload_n 2, 1) := by decide +kernel
theorem dX5_word_87 : decode cX5_word 87 = .ok (.invokevirtual 90, 3) := by decide +kernel
theorem dX5_word_90 : decode cX5_word 90 = .ok (.aload_n 0, 1) := by decide +kernel
theorem dX5_word_91 : decode cX5_word 91 = .ok (.invokevirtual 56, 3) := by decide +kernel
theorem dX5_word_94 : decode cX5_word 94 = .ok (.if_icmp .ne 10, 3) := by decide +kernel
theorem dX5_word_97 : decode cX5_word 97 = .ok (.iload_n 3, 1) := by decide +kernel
theorem dX5_word_98 : decode cX5_word 98 = .ok (.iconst 1, 1) := by decide +kernel
theorem dX5_word_99 : decode cX5_word 99 = .ok (.iload 4, 2) := by decide +kernel
theorem dX5_word_101 : decode cX5_word 101 = .ok (.ishl, 1) := by decide +kernel
theorem dX5_word_102 : decode cX5_word 102 = .ok (.ior, 1) := by decide +kernel
theorem dX5_word_103 : decode cX5_word 103 = .ok (.istore_n 3, 1) := by decide +kernel
theorem dX5_word_104 : decode cX5_word 104 = .ok (.iinc 4 1, 3) := by decide +kernel
theorem dX5_word_107 : decode cX5_word 107 = .ok (.goto (-76), 3) := by decide +kernel
theorem dX5_word_110 : decode cX5_word 110 = .ok (.iload_n 3, 1) := by decide +kernel
theorem dX5_word_111 : decode cX5_word 111 = .ok (.ifCond .ne 5, 3) := by decide +kernel
theorem dX5_word_114 : decode cX5_word 114 = .ok (.iconst (-1), 1) := by decide +kernel
theorem dX5_word_115 : decode cX5_word 115 = .ok (.ireturn, 1) := by decide +kernel
theorem dX5_word_116 : decode cX5_word 116 = .ok (.iload_n 3, 1) := by decide +kernel
theorem dX5_word_117 : decode cX5_word 117 = .ok (.istore_n 1, 1) := by decide +kernel
theorem dX5_word_118 : decode cX5_word 118 = .ok (.aload_n 0, 1) := by decide +kernel
theorem dX5_word_119 : decode cX5_word 119 = .ok (.dup, 1) := by decide +kernel
theorem dX5_word_120 : decode cX5_word 120 = .ok (.getfield 39, 3) := by decide +kernel
theorem dX5_word_123 : decode cX5_word 123 = .ok (.iconst 1, 1) := by decide +kernel
theorem dX5_word_124 : decode cX5_word 124 = .ok (.iadd, 1) := by decide +kernel
theorem dX5_word_125 : decode cX5_word 125 = .ok (.putfield 39, 3) := by decide +kernel
theorem dX5_word_128 : decode cX5_word 128 = .ok (.iinc 2 1, 3) := by decide +kernel
theorem dX5_word_131 : decode cX5_word 131 = .ok (.goto (-110), 3) := by decide +kernel
theorem dX5_word_134 : decode cX5_word 134 = .ok (.iconst (-1), 1) := by decide +kernel
theorem dX5_word_135 : decode cX5_word 135 = .ok (.ireturn, 1) := by decide +kernel
theorem dX5_wordOf_0 : decode cX5_wordOf 0 = .ok (.iload_n 0, 1) := by decide +kernel
theorem dX5_wordOf_1 : decode cX5_wordOf 1 = .ok (.tableswitch 57 0 5 #[39, 42, 45, 48, 51, 54], 39) := by decide +kernel
theorem dX5_wordOf_40 : decode cX5_wordOf 40 = .ok (.ldc 69, 2) := by decide +kernel
theorem dX5_wordOf_42 : decode cX5_wordOf 42 = .ok (.areturn, 1) := by decide +kernel
theorem dX5_wordOf_43 : decode cX5_wordOf 43 = .ok (.ldc 71, 2) := by decide +kernel
theorem dX5_wordOf_45 : decode cX5_wordOf 45 = .ok (.areturn, 1) := by decide +kernel
theorem dX5_wordOf_46 : decode cX5_wordOf 46 = .ok (.ldc 73, 2) := by decide +kernel
theorem dX5_wordOf_48 : decode cX5_wordOf 48 = .ok (.areturn, 1) := by decide +kernel
theorem dX5_wordOf_49 : decode cX5_wordOf 49 = .ok (.ldc 75, 2) := by decide +kernel
theorem dX5_wordOf_51 : decode cX5_wordOf 51 = .ok (.areturn, 1) := by decide +kernel
theorem dX5_wordOf_52 : decode cX5_wordOf 52 = .ok (.ldc 77, 2) := by decide +kernel
theorem dX5_wordOf_54 : decode cX5_wordOf 54 = .ok (.areturn, 1) := by decide +kernel
theorem dX5_wordOf_55 : decode cX5_wordOf 55 = .ok (.ldc 79, 2) := by decide +kernel
theorem dX5_wordOf_57 : decode cX5_wordOf 57 = .ok (.areturn, 1) := by decide +kernel
theorem dX5_wordOf_58 : decode cX5_wordOf 58 = .ok (.ldc 81, 2) := by decide +kernel
theorem dX5_wordOf_60 : decode cX5_wordOf 60 = .ok (.areturn, 1) := by decide +kernel
theorem dX6_addCode_0 : decode cX6_addCode 0 = .ok (.aload_n 0, 1) := by decide +kernel
theorem dX6_addCode_1 : decode cX6_addCode 1 = .ok (.getfield 46, 3) := by decide +kernel
theorem dX6_addCode_4 : decode cX6_addCode 4 = .ok (.ifCond .lt 32, 3) := by decide +kernel
theorem dX6_addCode_7 : decode cX6_addCode 7 = .ok (.aload_n 0, 1) := by decide +kernel
theorem dX6_addCode_8 : decode cX6_addCode 8 = .ok (.getfield 46, 3) := by decide +kernel
theorem dX6_addCode_11 : decode cX6_addCode 11 = .ok (.bipush 120, 2) := by decide +kernel
theorem dX6_addCode_13 : decode cX6_addCode 13 = .ok (.if_icmp .ge 23, 3) := by decide +kernel
theorem dX6_addCode_16 : decode cX6_addCode 16 = .ok (.aload_n 0, 1) := by decide +kernel
theorem dX6_addCode_17 : decode cX6_addCode 17 = .ok (.getfield 30, 3) := by decide +kernel
theorem dX6_addCode_20 : decode cX6_addCode 20 = .ok (.aload_n 0, 1) := by decide +kernel
theorem dX6_addCode_21 : decode cX6_addCode 21 = .ok (.getfield 46, 3) := by decide +kernel
theorem dX6_addCode_24 : decode cX6_addCode 24 = .ok (.iload_n 1, 1) := by decide +kernel
theorem dX6_addCode_25 : decode cX6_addCode 25 = .ok (.iastore, 1) := by decide +kernel
theorem dX6_addCode_26 : decode cX6_addCode 26 = .ok (.aload_n 0, 1) := by decide +kernel
theorem dX6_addCode_27 : decode cX6_addCode 27 = .ok (.dup, 1) := by decide +kernel
theorem dX6_addCode_28 : decode cX6_addCode 28 = .ok (.getfield 46, 3) := by decide +kernel
theorem dX6_addCode_31 : decode cX6_addCode 31 = .ok (.iconst 1, 1) := by decide +kernel
theorem dX6_addCode_32 : decode cX6_addCode 32 = .ok (.iadd, 1) := by decide +kernel
theorem dX6_addCode_33 : decode cX6_addCode 33 = .ok (.putfield 46, 3) := by decide +kernel
theorem dX6_addCode_36 : decode cX6_addCode 36 = .ok (.return_, 1) := by decide +kernel
theorem dX6_addEase_0 : decode cX6_addEase 0 = .ok (.aload_n 0, 1) := by decide +kernel
theorem dX6_addEase_1 : decode cX6_addEase 1 = .ok (.getfield 43, 3) := by decide +kernel
theorem dX6_addEase_4 : decode cX6_addEase 4 = .ok (.ifCond .lt 45, 3) := by decide +kernel
theorem dX6_addEase_7 : decode cX6_addEase 7 = .ok (.aload_n 0, 1) := by decide +kernel
theorem dX6_addEase_8 : decode cX6_addEase 8 = .ok (.getfield 43, 3) := by decide +kernel
theorem dX6_addEase_11 : decode cX6_addEase 11 = .ok (.bipush 14, 2) := by decide +kernel
theorem dX6_addEase_13 : decode cX6_addEase 13 = .ok (.if_icmp .ge 36, 3) := by decide +kernel
theorem dX6_addEase_16 : decode cX6_addEase 16 = .ok (.aload_n 0, 1) := by decide +kernel
theorem dX6_addEase_17 : decode cX6_addEase 17 = .ok (.getfield 24, 3) := by decide +kernel
theorem dX6_addEase_20 : decode cX6_addEase 20 = .ok (.aload_n 0, 1) := by decide +kernel
theorem dX6_addEase_21 : decode cX6_addEase 21 = .ok (.getfield 43, 3) := by decide +kernel
theorem dX6_addEase_24 : decode cX6_addEase 24 = .ok (.iload_n 1, 1) := by decide +kernel
theorem dX6_addEase_25 : decode cX6_addEase 25 = .ok (.iastore, 1) := by decide +kernel
theorem dX6_addEase_26 : decode cX6_addEase 26 = .ok (.aload_n 0, 1) := by decide +kernel
theorem dX6_addEase_27 : decode cX6_addEase 27 = .ok (.getfield 27, 3) := by decide +kernel
theorem dX6_addEase_30 : decode cX6_addEase 30 = .ok (.aload_n 0, 1) := by decide +kernel
theorem dX6_addEase_31 : decode cX6_addEase 31 = .ok (.getfield 43, 3) := by decide +kernel
theorem dX6_addEase_34 : decode cX6_addEase 34 = .ok (.aload_n 0, 1) := by decide +kernel
theorem dX6_addEase_35 : decode cX6_addEase 35 = .ok (.getfield 46, 3) := by decide +kernel
theorem dX6_addEase_38 : decode cX6_addEase 38 = .ok (.iastore, 1) := by decide +kernel
theorem dX6_addEase_39 : decode cX6_addEase 39 = .ok (.aload_n 0, 1) := by decide +kernel
theorem dX6_addEase_40 : decode cX6_addEase 40 = .ok (.dup, 1) := by decide +kernel
theorem dX6_addEase_41 : decode cX6_addEase 41 = .ok (.getfield 43, 3) := by decide +kernel
theorem dX6_addEase_44 : decode cX6_addEase 44 = .ok (.iconst 1, 1) := by decide +kernel
theorem dX6_addEase_45 : decode cX6_addEase 45 = .ok (.iadd, 1) := by decide +kernel
theorem dX6_addEase_46 : decode cX6_addEase 46 = .ok (.putfield 43, 3) := by decide +kernel
theorem dX6_addEase_49 : decode cX6_addEase 49 = .ok (.return_, 1) := by decide +kernel
theorem dX6_addPiece_0 : decode cX6_addPiece 0 = .ok (.aload_n 0, 1) := by decide +kernel
theorem dX6_addPiece_1 : decode cX6_addPiece 1 = .ok (.getfield 39, 3) := by decide +kernel
theorem dX6_addPiece_4 : decode cX6_addPiece 4 = .ok (.ifCond .lt 56, 3) := by decide +kernel
theorem dX6_addPiece_7 : decode cX6_addPiece 7 = .ok (.aload_n 0, 1) := by decide +kernel
theorem dX6_addPiece_8 : decode cX6_addPiece 8 = .ok (.getfield 39, 3) := by decide +kernel
theorem dX6_addPiece_11 : decode cX6_addPiece 11 = .ok (.bipush 8, 2) := by decide +kernel
theorem dX6_addPiece_13 : decode cX6_addPiece 13 = .ok (.if_icmp .ge 47, 3) := by decide +kernel
theorem dX6_addPiece_16 : decode cX6_addPiece 16 = .ok (.aload_n 0, 1) := by decide +kernel
theorem dX6_addPiece_17 : decode cX6_addPiece 17 = .ok (.getfield 9, 3) := by decide +kernel
theorem dX6_addPiece_20 : decode cX6_addPiece 20 = .ok (.aload_n 0, 1) := by decide +kernel
theorem dX6_addPiece_21 : decode cX6_addPiece 21 = .ok (.getfield 39, 3) := by decide +kernel
theorem dX6_addPiece_24 : decode cX6_addPiece 24 = .ok (.iload_n 1, 1) := by decide +kernel
theorem dX6_addPiece_25 : decode cX6_addPiece 25 = .ok (.iastore, 1) := by decide +kernel
theorem dX6_addPiece_26 : decode cX6_addPiece 26 = .ok (.aload_n 0, 1) := by decide +kernel
theorem dX6_addPiece_27 : decode cX6_addPiece 27 = .ok (.getfield 15, 3) := by decide +kernel
theorem dX6_addPiece_30 : decode cX6_addPiece 30 = .ok (.aload_n 0, 1) := by decide +kernel
theorem dX6_addPiece_31 : decode cX6_addPiece 31 = .ok (.getfield 39, 3) := by decide +kernel
theorem dX6_addPiece_34 : decode cX6_addPiece 34 = .ok (.iload_n 2, 1) := by decide +kernel
theorem dX6_addPiece_35 : decode cX6_addPiece 35 = .ok (.iconst 5, 1) := by decide +kernel
theorem dX6_addPiece_36 : decode cX6_addPiece 36 = .ok (.isub, 1) := by decide +kernel
theorem dX6_addPiece_37 : decode cX6_addPiece 37 = .ok (.iastore, 1) := by decide +kernel
theorem dX6_addPiece_38 : decode cX6_addPiece 38 = .ok (.aload_n 0, 1) := by decide +kernel
theorem dX6_addPiece_39 : decode cX6_addPiece 39 = .ok (.getfield 18, 3) := by decide +kernel
theorem dX6_addPiece_42 : decode cX6_addPiece 42 = .ok (.aload_n 0, 1) := by decide +kernel
theorem dX6_addPiece_43 : decode cX6_addPiece 43 = .ok (.getfield 39, 3) := by decide +kernel
theorem dX6_addPiece_46 : decode cX6_addPiece 46 = .ok (.iload_n 3, 1) := by decide +kernel
theorem dX6_addPiece_47 : decode cX6_addPiece 47 = .ok (.iconst 5, 1) := by decide +kernel
theorem dX6_addPiece_48 : decode cX6_addPiece 48 = .ok (.isub, 1) := by decide +kernel
theorem dX6_addPiece_49 : decode cX6_addPiece 49 = .ok (.iastore, 1) := by decide +kernel
theorem dX6_addPiece_50 : decode cX6_addPiece 50 = .ok (.aload_n 0, 1) := by decide +kernel
theorem dX6_addPiece_51 : decode cX6_addPiece 51 = .ok (.dup, 1) := by decide +kernel
theorem dX6_addPiece_52 : decode cX6_addPiece 52 = .ok (.getfield 39, 3) := by decide +kernel
theorem dX6_addPiece_55 : decode cX6_addPiece 55 = .ok (.iconst 1, 1) := by decide +kernel
theorem dX6_addPiece_56 : decode cX6_addPiece 56 = .ok (.iadd, 1) := by decide +kernel
theorem dX6_addPiece_57 : decode cX6_addPiece 57 = .ok (.putfield 39, 3) := by decide +kernel
theorem dX6_addPiece_60 : decode cX6_addPiece 60 = .ok (.return_, 1) := by decide +kernel
theorem dX6_addTest_0 : decode cX6_addTest 0 = .ok (.aload_n 0, 1) := by decide +kernel
theorem dX6_addTest_1 : decode cX6_addTest 1 = .ok (.iload_n 1, 1) := by decide +kernel
theorem dX6_addTest_2 : decode cX6_addTest 2 = .ok (.iconst 2, 1) := by decide +kernel
theorem dX6_addTest_3 : decode cX6_addTest 3 = .ok (.ishl, 1) := by decide +kernel
theorem dX6_addTest_4 : decode cX6_addTest 4 = .ok (.iload_n 2, 1) := by decide +kernel
theorem dX6_addTest_5 : decode cX6_addTest 5 = .ok (.iconst 5, 1) := by decide +kernel
theorem dX6_addTest_6 : decode cX6_addTest 6 = .ok (.ishl, 1) := by decide +kernel
theorem dX6_addTest_7 : decode cX6_addTest 7 = .ok (.ior, 1) := by decide +kernel
theorem dX6_addTest_8 : decode cX6_addTest 8 = .ok (.iload_n 3, 1) := by decide +kernel
theorem dX6_addTest_9 : decode cX6_addTest 9 = .ok (.bipush 7, 2) := by decide +kernel
theorem dX6_addTest_11 : decode cX6_addTest 11 = .ok (.ishl, 1) := by decide +kernel
theorem dX6_addTest_12 : decode cX6_addTest 12 = .ok (.ior, 1) := by decide +kernel
theorem dX6_addTest_13 : decode cX6_addTest 13 = .ok (.invokevirtual 74, 3) := by decide +kernel
theorem dX6_addTest_16 : decode cX6_addTest 16 = .ok (.return_, 1) := by decide +kernel
theorem dX6_behind_0 : decode cX6_behind 0 = .ok (.aload_n 0, 1) := by decide +kernel
theorem dX6_behind_1 : decode cX6_behind 1 = .ok (.iload_n 1, 1) := by decide +kernel
theorem dX6_behind_2 : decode cX6_behind 2 = .ok (.invokevirtual 78, 3) := by decide +kernel
theorem dX6_behind_5 : decode cX6_behind 5 = .ok (.ifCond .ne 5, 3) := by decide +kernel
theorem dX6_behind_8 : decode cX6_behind 8 = .ok (.iload_n 3, 1) := by decide +kernel
theorem dX6_behind_9 : decode cX6_behind 9 = .ok (.ireturn, 1) := by decide +kernel
theorem dX6_behind_10 : decode cX6_behind 10 = .ok (.iload_n 2, 1) := by decide +kernel
theorem dX6_behind_11 : decode cX6_behind 11 = .ok (.aload_n 0, 1) := by decide +kernel
theorem dX6_behind_12 : decode cX6_behind 12 = .ok (.getfield 49, 3) := by decide +kernel
theorem dX6_behind_15 : decode cX6_behind 15 = .ok (.if_icmp .le 12, 3) := by decide +kernel
theorem dX6_behind_18 : decode cX6_behind 18 = .ok (.iload_n 3, 1) := by decide +kernel
theorem dX6_behind_19 : decode cX6_behind 19 = .ok (.aload_n 0, 1) := by decide +kernel
theorem dX6_behind_20 : decode cX6_behind 20 = .ok (.iload_n 1, 1) := by decide +kernel
theorem dX6_behind_21 : decode cX6_behind 21 = .ok (.iload_n 2, 1) := by decide +kernel
theorem dX6_behind_22 : decode cX6_behind 22 = .ok (.invokevirtual 97, 3) := by decide +kernel
theorem dX6_behind_25 : decode cX6_behind 25 = .ok (.isub, 1) := by decide +kernel
theorem dX6_behind_26 : decode cX6_behind 26 = .ok (.ireturn, 1) := by decide +kernel
theorem dX6_behind_27 : decode cX6_behind 27 = .ok (.aload_n 0, 1) := by decide +kernel
theorem dX6_behind_28 : decode cX6_behind 28 = .ok (.getfield 52, 3) := by decide +kernel
theorem dX6_behind_31 : decode cX6_behind 31 = .ok (.iload_n 3, 1) := by decide +kernel
theorem dX6_behind_32 : decode cX6_behind 32 = .ok (.aload_n 0, 1) := by decide +kernel
theorem dX6_behind_33 : decode cX6_behind 33 = .ok (.getfield 9, 3) := by decide +kernel
theorem dX6_behind_36 : decode cX6_behind 36 = .ok (.iload_n 1, 1) := by decide +kernel
theorem dX6_behind_37 : decode cX6_behind 37 = .ok (.iaload, 1) := by decide +kernel
theorem dX6_behind_38 : decode cX6_behind 38 = .ok (.aload_n 0, 1) := by decide +kernel
theorem dX6_behind_39 : decode cX6_behind 39 = .ok (.getfield 49, 3) := by decide +kernel
theorem dX6_behind_42 : decode cX6_behind 42 = .ok (.iload_n 2, 1) := by decide +kernel
theorem dX6_behind_43 : decode cX6_behind 43 = .ok (.isub, 1) := by decide +kernel
theorem dX6_behind_44 : decode cX6_behind 44 = .ok (.imul, 1) := by decide +kernel
theorem dX6_behind_45 : decode cX6_behind 45 = .ok (.aload_n 0, 1) := by decide +kernel
theorem dX6_behind_46 : decode cX6_behind 46 = .ok (.getfield 55, 3) := by decide +kernel
theorem dX6_behind_49 : decode cX6_behind 49 = .ok (.imul, 1) := by decide +kernel
theorem dX6_behind_50 : decode cX6_behind 50 = .ok (.bipush 10, 2) := by decide +kernel
theorem dX6_behind_52 : decode cX6_behind 52 = .ok (.idiv, 1) := by decide +kernel
theorem dX6_behind_53 : decode cX6_behind 53 = .ok (.iadd, 1) := by decide +kernel
theorem dX6_behind_54 : decode cX6_behind 54 = .ok (.invokestatic 90, 3) := by decide +kernel
theorem dX6_behind_57 : decode cX6_behind 57 = .ok (.ireturn, 1) := by decide +kernel
theorem dX6_copyFrom_0 : decode cX6_copyFrom 0 = .ok (.aload_n 1, 1) := by decide +kernel
theorem dX6_copyFrom_1 : decode cX6_copyFrom 1 = .ok (.getfield 9, 3) := by decide +kernel
theorem dX6_copyFrom_4 : decode cX6_copyFrom 4 = .ok (.aload_n 0, 1) := by decide +kernel
theorem dX6_copyFrom_5 : decode cX6_copyFrom 5 = .ok (.getfield 9, 3) := by decide +kernel
theorem dX6_copyFrom_8 : decode cX6_copyFrom 8 = .ok (.invokestatic 64, 3) := by decide +kernel
theorem dX6_copyFrom_11 : decode cX6_copyFrom 11 = .ok (.aload_n 1, 1) := by decide +kernel
theorem dX6_copyFrom_12 : decode cX6_copyFrom 12 = .ok (.getfield 15, 3) := by decide +kernel
theorem dX6_copyFrom_15 : decode cX6_copyFrom 15 = .ok (.aload_n 0, 1) := by decide +kernel
theorem dX6_copyFrom_16 : decode cX6_copyFrom 16 = .ok (.getfield 15, 3) := by decide +kernel
theorem dX6_copyFrom_19 : decode cX6_copyFrom 19 = .ok (.invokestatic 64, 3) := by decide +kernel
theorem dX6_copyFrom_22 : decode cX6_copyFrom 22 = .ok (.aload_n 1, 1) := by decide +kernel
theorem dX6_copyFrom_23 : decode cX6_copyFrom 23 = .ok (.getfield 18, 3) := by decide +kernel
theorem dX6_copyFrom_26 : decode cX6_copyFrom 26 = .ok (.aload_n 0, 1) := by decide +kernel
theorem dX6_copyFrom_27 : decode cX6_copyFrom 27 = .ok (.getfield 18, 3) := by decide +kernel
theorem dX6_copyFrom_30 : decode cX6_copyFrom 30 = .ok (.invokestatic 64, 3) := by decide +kernel
theorem dX6_copyFrom_33 : decode cX6_copyFrom 33 = .ok (.aload_n 1, 1) := by decide +kernel
theorem dX6_copyFrom_34 : decode cX6_copyFrom 34 = .ok (.getfield 21, 3) := by decide +kernel
theorem dX6_copyFrom_37 : decode cX6_copyFrom 37 = .ok (.aload_n 0, 1) := by decide +kernel
theorem dX6_copyFrom_38 : decode cX6_copyFrom 38 = .ok (.getfield 21, 3) := by decide +kernel
theorem dX6_copyFrom_41 : decode cX6_copyFrom 41 = .ok (.invokestatic 64, 3) := by decide +kernel
theorem dX6_copyFrom_44 : decode cX6_copyFrom 44 = .ok (.aload_n 1, 1) := by decide +kernel
theorem dX6_copyFrom_45 : decode cX6_copyFrom 45 = .ok (.getfield 24, 3) := by decide +kernel
theorem dX6_copyFrom_48 : decode cX6_copyFrom 48 = .ok (.aload_n 0, 1) := by decide +kernel
theorem dX6_copyFrom_49 : decode cX6_copyFrom 49 = .ok (.getfield 24, 3) := by decide +kernel
theorem dX6_copyFrom_52 : decode cX6_copyFrom 52 = .ok (.invokestatic 64, 3) := by decide +kernel
theorem dX6_copyFrom_55 : decode cX6_copyFrom 55 = .ok (.aload_n 1, 1) := by decide +kernel
theorem dX6_copyFrom_56 : decode cX6_copyFrom 56 = .ok (.getfield 27, 3) := by decide +kernel
theorem dX6_copyFrom_59 : decode cX6_copyFrom 59 = .ok (.aload_n 0, 1) := by decide +kernel
theorem dX6_copyFrom_60 : decode cX6_copyFrom 60 = .ok (.getfield 27, 3) := by decide +kernel
theorem dX6_copyFrom_63 : decode cX6_copyFrom 63 = .ok (.invokestatic 64, 3) := by decide +kernel
theorem dX6_copyFrom_66 : decode cX6_copyFrom 66 = .ok (.aload_n 1, 1) := by decide +kernel
theorem dX6_copyFrom_67 : decode cX6_copyFrom 67 = .ok (.getfield 30, 3) := by decide +kernel
theorem dX6_copyFrom_70 : decode cX6_copyFrom 70 = .ok (.aload_n 0, 1) := by decide +kernel
theorem dX6_copyFrom_71 : decode cX6_copyFrom 71 = .ok (.getfield 30, 3) := by decide +kernel
theorem dX6_copyFrom_74 : decode cX6_copyFrom 74 = .ok (.invokestatic 64, 3) := by decide +kernel
theorem dX6_copyFrom_77 : decode cX6_copyFrom 77 = .ok (.aload_n 0, 1) := by decide +kernel
theorem dX6_copyFrom_78 : decode cX6_copyFrom 78 = .ok (.aload_n 1, 1) := by decide +kernel
theorem dX6_copyFrom_79 : decode cX6_copyFrom 79 = .ok (.getfield 39, 3) := by decide +kernel
theorem dX6_copyFrom_82 : decode cX6_copyFrom 82 = .ok (.putfield 39, 3) := by decide +kernel
theorem dX6_copyFrom_85 : decode cX6_copyFrom 85 = .ok (.aload_n 0, 1) := by decide +kernel
theorem dX6_copyFrom_86 : decode cX6_copyFrom 86 = .ok (.aload_n 1, 1) := by decide +kernel
theorem dX6_copyFrom_87 : decode cX6_copyFrom 87 = .ok (.getfield 43, 3) := by decide +kernel
theorem dX6_copyFrom_90 : decode cX6_copyFrom 90 = .ok (.putfield 43, 3) := by decide +kernel
theorem dX6_copyFrom_93 : decode cX6_copyFrom 93 = .ok (.aload_n 0, 1) := by decide +kernel
theorem dX6_copyFrom_94 : decode cX6_copyFrom 94 = .ok (.aload_n 1, 1) := by decide +kernel
theorem dX6_copyFrom_95 : decode cX6_copyFrom 95 = .ok (.getfield 46, 3) := by decide +kernel
theorem dX6_copyFrom_98 : decode cX6_copyFrom 98 = .ok (.putfield 46, 3) := by decide +kernel
theorem dX6_copyFrom_101 : decode cX6_copyFrom 101 = .ok (.aload_n 0, 1) := by decide +kernel
theorem dX6_copyFrom_102 : decode cX6_copyFrom 102 = .ok (.aload_n 1, 1) := by decide +kernel
theorem dX6_copyFrom_103 : decode cX6_copyFrom 103 = .ok (.getfield 49, 3) := by decide +kernel
theorem dX6_copyFrom_106 : decode cX6_copyFrom 106 = .ok (.putfield 49, 3) := by decide +kernel
theorem dX6_copyFrom_109 : decode cX6_copyFrom 109 = .ok (.aload_n 0, 1) := by decide +kernel
theorem dX6_copyFrom_110 : decode cX6_copyFrom 110 = .ok (.aload_n 1, 1) := by decide +kernel
theorem dX6_copyFrom_111 : decode cX6_copyFrom 111 = .ok (.getfield 52, 3) := by decide +kernel
theorem dX6_copyFrom_114 : decode cX6_copyFrom 114 = .ok (.putfield 52, 3) := by decide +kernel
theorem dX6_copyFrom_117 : decode cX6_copyFrom 117 = .ok (.aload_n 0, 1) := by decide +kernel
theorem dX6_copyFrom_118 : decode cX6_copyFrom 118 = .ok (.aload_n 1, 1) := by decide +kernel
theorem dX6_copyFrom_119 : decode cX6_copyFrom 119 = .ok (.getfield 55, 3) := by decide +kernel
theorem dX6_copyFrom_122 : decode cX6_copyFrom 122 = .ok (.putfield 55, 3) := by decide +kernel
theorem dX6_copyFrom_125 : decode cX6_copyFrom 125 = .ok (.aload_n 0, 1) := by decide +kernel
theorem dX6_copyFrom_126 : decode cX6_copyFrom 126 = .ok (.aload_n 1, 1) := by decide +kernel
theorem dX6_copyFrom_127 : decode cX6_copyFrom 127 = .ok (.getfield 58, 3) := by decide +kernel
theorem dX6_copyFrom_130 : decode cX6_copyFrom 130 = .ok (.putfield 58, 3) := by decide +kernel
theorem dX6_copyFrom_133 : decode cX6_copyFrom 133 = .ok (.aload_n 0, 1) := by decide +kernel
theorem dX6_copyFrom_134 : decode cX6_copyFrom 134 = .ok (.aload_n 1, 1) := by decide +kernel
theorem dX6_copyFrom_135 : decode cX6_copyFrom 135 = .ok (.getfield 61, 3) := by decide +kernel
theorem dX6_copyFrom_138 : decode cX6_copyFrom 138 = .ok (.putfield 61, 3) := by decide +kernel
theorem dX6_copyFrom_141 : decode cX6_copyFrom 141 = .ok (.return_, 1) := by decide +kernel
theorem dX6_cost_0 : decode cX6_cost 0 = .ok (.aload_n 0, 1) := by decide +kernel
theorem dX6_cost_1 : decode cX6_cost 1 = .ok (.iload_n 1, 1) := by decide +kernel
theorem dX6_cost_2 : decode cX6_cost 2 = .ok (.invokevirtual 78, 3) := by decide +kernel
theorem dX6_cost_5 : decode cX6_cost 5 = .ok (.ifCond .eq 23, 3) := by decide +kernel
theorem dX6_cost_8 : decode cX6_cost 8 = .ok (.aload_n 0, 1) := by decide +kernel
theorem dX6_cost_9 : decode cX6_cost 9 = .ok (.getfield 9, 3) := by decide +kernel
theorem dX6_cost_12 : decode cX6_cost 12 = .ok (.iload_n 1, 1) := by decide +kernel
theorem dX6_cost_13 : decode cX6_cost 13 = .ok (.iaload, 1) := by decide +kernel
theorem dX6_cost_14 : decode cX6_cost 14 = .ok (.iconst 0, 1) := by decide +kernel
theorem dX6_cost_15 : decode cX6_cost 15 = .ok (.iload_n 2, 1) := by decide +kernel
theorem dX6_cost_16 : decode cX6_cost 16 = .ok (.aload_n 0, 1) := by decide +kernel
theorem dX6_cost_17 : decode cX6_cost 17 = .ok (.getfield 49, 3) := by decide +kernel
theorem dX6_cost_20 : decode cX6_cost 20 = .ok (.isub, 1) := by decide +kernel
theorem dX6_cost_21 : decode cX6_cost 21 = .ok (.invokestatic 68, 3) := by decide +kernel
theorem dX6_cost_24 : decode cX6_cost 24 = .ok (.imul, 1) := by decide +kernel
theorem dX6_cost_25 : decode cX6_cost 25 = .ok (.goto 4, 3) := by decide +kernel
theorem dX6_cost_28 : decode cX6_cost 28 = .ok (.iconst 0, 1) := by decide +kernel
theorem dX6_cost_29 : decode cX6_cost 29 = .ok (.ireturn, 1) := by decide +kernel
theorem dX6_has_0 : decode cX6_has 0 = .ok (.iload_n 1, 1) := by decide +kernel
theorem dX6_has_1 : decode cX6_has 1 = .ok (.ifCond .lt 21, 3) := by decide +kernel
theorem dX6_has_4 : decode cX6_has 4 = .ok (.iload_n 1, 1) := by decide +kernel
theorem dX6_has_5 : decode cX6_has 5 = .ok (.aload_n 0, 1) := by decide +kernel
theorem dX6_has_6 : decode cX6_has 6 = .ok (.getfield 39, 3) := by decide +kernel
theorem dX6_has_9 : decode cX6_has 9 = .ok (.if_icmp .ge 13, 3) := by decide +kernel
theorem dX6_has_12 : decode cX6_has 12 = .ok (.iload_n 1, 1) := by decide +kernel
theorem dX6_has_13 : decode cX6_has 13 = .ok (.bipush 8, 2) := by decide +kernel
theorem dX6_has_15 : decode cX6_has 15 = .ok (.if_icmp .ge 7, 3) := by decide +kernel
theorem dX6_has_18 : decode cX6_has 18 = .ok (.iconst 1, 1) := by decide +kernel
theorem dX6_has_19 : decode cX6_has 19 = .ok (.goto 4, 3) := by decide +kernel
theorem dX6_has_22 : decode cX6_has 22 = .ok (.iconst 0, 1) := by decide +kernel
theorem dX6_has_23 : decode cX6_has 23 = .ok (.ireturn, 1) := by decide +kernel
theorem dX6_holds_0 : decode cX6_holds 0 = .ok (.lconst 0, 1) := by decide +kernel
theorem dX6_holds_1 : decode cX6_holds 1 = .ok (.lstore_n 3, 1) := by decide +kernel
theorem dX6_holds_2 : decode cX6_holds 2 = .ok (.iload_n 1, 1) := by decide +kernel
theorem dX6_holds_3 : decode cX6_holds 3 = .ok (.istore 5, 2) := by decide +kernel
theorem dX6_holds_5 : decode cX6_holds 5 = .ok (.iload 5, 2) := by decide +kernel
theorem dX6_holds_7 : decode cX6_holds 7 = .ok (.ifCond .lt 114, 3) := by decide +kernel
theorem dX6_holds_10 : decode cX6_holds 10 = .ok (.iload 5, 2) := by decide +kernel
theorem dX6_holds_12 : decode cX6_holds 12 = .ok (.iload_n 2, 1) := by decide +kernel
theorem dX6_holds_13 : decode cX6_holds 13 = .ok (.if_icmp .ge 108, 3) := by decide +kernel
theorem dX6_holds_16 : decode cX6_holds 16 = .ok (.iload 5, 2) := by decide +kernel
theorem dX6_holds_18 : decode cX6_holds 18 = .ok (.bipush 120, 2) := by decide +kernel
theorem dX6_holds_20 : decode cX6_holds 20 = .ok (.if_icmp .ge 101, 3) := by decide +kernel
theorem dX6_holds_23 : decode cX6_holds 23 = .ok (.aload_n 0, 1) := by decide +kernel
theorem dX6_holds_24 : decode cX6_holds 24 = .ok (.getfield 30, 3) := by decide +kernel
theorem dX6_holds_27 : decode cX6_holds 27 = .ok (.iload 5, 2) := by decide +kernel
theorem dX6_holds_29 : decode cX6_holds 29 = .ok (.iaload, 1) := by decide +kernel
theorem dX6_holds_30 : decode cX6_holds 30 = .ok (.istore 6, 2) := by decide +kernel
theorem dX6_holds_32 : decode cX6_holds 32 = .ok (.iload 6, 2) := by decide +kernel
theorem dX6_holds_34 : decode cX6_holds 34 = .ok (.iconst 3, 1) := by decide +kernel
theorem dX6_holds_35 : decode cX6_holds 35 = .ok (.iand, 1) := by decide +kernel
theorem dX6_holds_36 : decode cX6_holds 36 = .ok (.tableswitch 59 1 3 #[28, 35, 48], 28) := by decide +kernel
theorem dX6_holds_64 : decode cX6_holds 64 = .ok (.lload_n 3, 1) := by decide +kernel
theorem dX6_holds_65 : decode cX6_holds 65 = .ok (.lconst 1, 1) := by decide +kernel
theorem dX6_holds_66 : decode cX6_holds 66 = .ok (.lxor, 1) := by decide +kernel
theorem dX6_holds_67 : decode cX6_holds 67 = .ok (.lstore_n 3, 1) := by decide +kernel
theorem dX6_holds_68 : decode cX6_holds 68 = .ok (.goto 47, 3) := by decide +kernel
theorem dX6_holds_71 : decode cX6_holds 71 = .ok (.lload_n 3, 1) := by decide +kernel
theorem dX6_holds_72 : decode cX6_holds 72 = .ok (.iconst 1, 1) := by decide +kernel
theorem dX6_holds_73 : decode cX6_holds 73 = .ok (.lshr, 1) := by decide +kernel
theorem dX6_holds_74 : decode cX6_holds 74 = .ok (.lload_n 3, 1) := by decide +kernel
theorem dX6_holds_75 : decode cX6_holds 75 = .ok (.ldc2_w 100, 3) := by decide +kernel
theorem dX6_holds_78 : decode cX6_holds 78 = .ok (.lor, 1) := by decide +kernel
theorem dX6_holds_79 : decode cX6_holds 79 = .ok (.land, 1) := by decide +kernel
theorem dX6_holds_80 : decode cX6_holds 80 = .ok (.lstore_n 3, 1) := by decide +kernel
theorem dX6_holds_81 : decode cX6_holds 81 = .ok (.goto 34, 3) := by decide +kernel
theorem dX6_holds_84 : decode cX6_holds 84 = .ok (.lload_n 3, 1) := by decide +kernel
theorem dX6_holds_85 : decode cX6_holds 85 = .ok (.iconst 1, 1) := by decide +kernel
theorem dX6_holds_86 : decode cX6_holds 86 = .ok (.lshr, 1) := by decide +kernel
theorem dX6_holds_87 : decode cX6_holds 87 = .ok (.lload_n 3, 1) := by decide +kernel
theorem dX6_holds_88 : decode cX6_holds 88 = .ok (.lconst 1, 1) := by decide +kernel
theorem dX6_holds_89 : decode cX6_holds 89 = .ok (.land, 1) := by decide +kernel
theorem dX6_holds_90 : decode cX6_holds 90 = .ok (.lor, 1) := by decide +kernel
theorem dX6_holds_91 : decode cX6_holds 91 = .ok (.lstore_n 3, 1) := by decide +kernel
theorem dX6_holds_92 : decode cX6_holds 92 = .ok (.goto 23, 3) := by decide +kernel
theorem dX6_holds_95 : decode cX6_holds 95 = .ok (.lload_n 3, 1) := by decide +kernel
theorem dX6_holds_96 : decode cX6_holds 96 = .ok (.iconst 1, 1) := by decide +kernel
theorem dX6_holds_97 : decode cX6_holds 97 = .ok (.lshl, 1) := by decide +kernel
theorem dX6_holds_98 : decode cX6_holds 98 = .ok (.aload_n 0, 1) := by decide +kernel
theorem dX6_holds_99 : decode cX6_holds 99 = .ok (.iload 6, 2) := by decide +kernel
theorem dX6_holds_101 : decode cX6_holds 101 = .ok (.invokevirtual 102, 3) := by decide +kernel
theorem dX6_holds_104 : decode cX6_holds 104 = .ok (.ifCond .eq 7, 3) := by decide +kernel
theorem dX6_holds_107 : decode cX6_holds 107 = .ok (.iconst 1, 1) := by decide +kernel
theorem dX6_holds_108 : decode cX6_holds 108 = .ok (.goto 4, 3) := by decide +kernel
theorem dX6_holds_111 : decode cX6_holds 111 = .ok (.iconst 0, 1) := by decide +kernel
theorem dX6_holds_112 : decode cX6_holds 112 = .ok (.i2l, 1) := by decide +kernel
theorem dX6_holds_113 : decode cX6_holds 113 = .ok (.lor, 1) := by decide +kernel
theorem dX6_holds_114 : decode cX6_holds 114 = .ok (.lstore_n 3, 1) := by decide +kernel
theorem dX6_holds_115 : decode cX6_holds 115 = .ok (.iinc 5 1, 3) := by decide +kernel
theorem dX6_holds_118 : decode cX6_holds 118 = .ok (.goto (-113), 3) := by decide +kernel
theorem dX6_holds_121 : decode cX6_holds 121 = .ok (.lload_n 3, 1) := by decide +kernel
theorem dX6_holds_122 : decode cX6_holds 122 = .ok (.lconst 1, 1) := by decide +kernel
theorem dX6_holds_123 : decode cX6_holds 123 = .ok (.land, 1) := by decide +kernel
theorem dX6_holds_124 : decode cX6_holds 124 = .ok (.lconst 1, 1) := by decide +kernel
theorem dX6_holds_125 : decode cX6_holds 125 = .ok (.lcmp, 1) := by decide +kernel
theorem dX6_holds_126 : decode cX6_holds 126 = .ok (.ifCond .ne 7, 3) := by decide +kernel
theorem dX6_holds_129 : decode cX6_holds 129 = .ok (.iconst 1, 1) := by decide +kernel
theorem dX6_holds_130 : decode cX6_holds 130 = .ok (.goto 4, 3) := by decide +kernel
theorem dX6_holds_133 : decode cX6_holds 133 = .ok (.iconst 0, 1) := by decide +kernel
theorem dX6_holds_134 : decode cX6_holds 134 = .ok (.ireturn, 1) := by decide +kernel
theorem dX6_holdsStore_0 : decode cX6_holdsStore 0 = .ok (.iload_n 1, 1) := by decide +kernel
theorem dX6_holdsStore_1 : decode cX6_holdsStore 1 = .ok (.ifCond .lt 15, 3) := by decide +kernel
theorem dX6_holdsStore_4 : decode cX6_holdsStore 4 = .ok (.iload_n 1, 1) := by decide +kernel
theorem dX6_holdsStore_5 : decode cX6_holdsStore 5 = .ok (.aload_n 0, 1) := by decide +kernel
theorem dX6_holdsStore_6 : decode cX6_holdsStore 6 = .ok (.getfield 52, 3) := by decide +kernel
theorem dX6_holdsStore_9 : decode cX6_holdsStore 9 = .ok (.if_icmp .gt 7, 3) := by decide +kernel
theorem dX6_holdsStore_12 : decode cX6_holdsStore 12 = .ok (.iconst 1, 1) := by decide +kernel
theorem dX6_holdsStore_13 : decode cX6_holdsStore 13 = .ok (.goto 4, 3) := by decide +kernel
theorem dX6_holdsStore_16 : decode cX6_holdsStore 16 = .ok (.iconst 0, 1) := by decide +kernel
theorem dX6_holdsStore_17 : decode cX6_holdsStore 17 = .ok (.ireturn, 1) := by decide +kernel
theorem dX6_init_0 : decode cX6_init 0 = .ok (.aload_n 0, 1) := by decide +kernel
theorem dX6_init_1 : decode cX6_init 1 = .ok (.invokespecial 3, 3) := by decide +kernel
theorem dX6_init_4 : decode cX6_init 4 = .ok (.aload_n 0, 1) := by decide +kernel
theorem dX6_init_5 : decode cX6_init 5 = .ok (.bipush 8, 2) := by decide +kernel
theorem dX6_init_7 : decode cX6_init 7 = .ok (.newarray .int, 2) := by decide +kernel
theorem dX6_init_9 : decode cX6_init 9 = .ok (.putfield 9, 3) := by decide +kernel
theorem dX6_init_12 : decode cX6_init 12 = .ok (.aload_n 0, 1) := by decide +kernel
theorem dX6_init_13 : decode cX6_init 13 = .ok (.bipush 8, 2) := by decide +kernel
theorem dX6_init_15 : decode cX6_init 15 = .ok (.newarray .int, 2) := by decide +kernel
theorem dX6_init_17 : decode cX6_init 17 = .ok (.putfield 15, 3) := by decide +kernel
theorem dX6_init_20 : decode cX6_init 20 = .ok (.aload_n 0, 1) := by decide +kernel
theorem dX6_init_21 : decode cX6_init 21 = .ok (.bipush 8, 2) := by decide +kernel
theorem dX6_init_23 : decode cX6_init 23 = .ok (.newarray .int, 2) := by decide +kernel
theorem dX6_init_25 : decode cX6_init 25 = .ok (.putfield 18, 3) := by decide +kernel
theorem dX6_init_28 : decode cX6_init 28 = .ok (.aload_n 0, 1) := by decide +kernel
theorem dX6_init_29 : decode cX6_init 29 = .ok (.bipush 10, 2) := by decide +kernel
theorem dX6_init_31 : decode cX6_init 31 = .ok (.newarray .int, 2) := by decide +kernel
theorem dX6_init_33 : decode cX6_init 33 = .ok (.putfield 21, 3) := by decide +kernel
theorem dX6_init_36 : decode cX6_init 36 = .ok (.aload_n 0, 1) := by decide +kernel
theorem dX6_init_37 : decode cX6_init 37 = .ok (.bipush 14, 2) := by decide +kernel
theorem dX6_init_39 : decode cX6_init 39 = .ok (.newarray .int, 2) := by decide +kernel
theorem dX6_init_41 : decode cX6_init 41 = .ok (.putfield 24, 3) := by decide +kernel
theorem dX6_init_44 : decode cX6_init 44 = .ok (.aload_n 0, 1) := by decide +kernel
theorem dX6_init_45 : decode cX6_init 45 = .ok (.bipush 14, 2) := by decide +kernel
theorem dX6_init_47 : decode cX6_init 47 = .ok (.newarray .int, 2) := by decide +kernel
theorem dX6_init_49 : decode cX6_init 49 = .ok (.putfield 27, 3) := by decide +kernel
theorem dX6_init_52 : decode cX6_init 52 = .ok (.aload_n 0, 1) := by decide +kernel
theorem dX6_init_53 : decode cX6_init 53 = .ok (.bipush 120, 2) := by decide +kernel
theorem dX6_init_55 : decode cX6_init 55 = .ok (.newarray .int, 2) := by decide +kernel
theorem dX6_init_57 : decode cX6_init 57 = .ok (.putfield 30, 3) := by decide +kernel
theorem dX6_init_60 : decode cX6_init 60 = .ok (.aload_n 0, 1) := by decide +kernel
theorem dX6_init_61 : decode cX6_init 61 = .ok (.iconst 5, 1) := by decide +kernel
theorem dX6_init_62 : decode cX6_init 62 = .ok (.newarray .int, 2) := by decide +kernel
theorem dX6_init_64 : decode cX6_init 64 = .ok (.putfield 33, 3) := by decide +kernel
theorem dX6_init_67 : decode cX6_init 67 = .ok (.aload_n 0, 1) := by decide +kernel
theorem dX6_init_68 : decode cX6_init 68 = .ok (.invokevirtual 36, 3) := by decide +kernel
theorem dX6_init_71 : decode cX6_init 71 = .ok (.return_, 1) := by decide +kernel
theorem dX6_reset_0 : decode cX6_reset 0 = .ok (.aload_n 0, 1) := by decide +kernel
theorem dX6_reset_1 : decode cX6_reset 1 = .ok (.iconst 0, 1) := by decide +kernel
theorem dX6_reset_2 : decode cX6_reset 2 = .ok (.putfield 39, 3) := by decide +kernel
theorem dX6_reset_5 : decode cX6_reset 5 = .ok (.aload_n 0, 1) := by decide +kernel
theorem dX6_reset_6 : decode cX6_reset 6 = .ok (.iconst 0, 1) := by decide +kernel
theorem dX6_reset_7 : decode cX6_reset 7 = .ok (.putfield 43, 3) := by decide +kernel
theorem dX6_reset_10 : decode cX6_reset 10 = .ok (.aload_n 0, 1) := by decide +kernel
theorem dX6_reset_11 : decode cX6_reset 11 = .ok (.iconst 0, 1) := by decide +kernel
theorem dX6_reset_12 : decode cX6_reset 12 = .ok (.putfield 46, 3) := by decide +kernel
theorem dX6_reset_15 : decode cX6_reset 15 = .ok (.aload_n 0, 1) := by decide +kernel
theorem dX6_reset_16 : decode cX6_reset 16 = .ok (.iconst 4, 1) := by decide +kernel
theorem dX6_reset_17 : decode cX6_reset 17 = .ok (.putfield 49, 3) := by decide +kernel
theorem dX6_reset_20 : decode cX6_reset 20 = .ok (.aload_n 0, 1) := by decide +kernel
theorem dX6_reset_21 : decode cX6_reset 21 = .ok (.bipush 20, 2) := by decide +kernel
theorem dX6_reset_23 : decode cX6_reset 23 = .ok (.putfield 52, 3) := by decide +kernel
theorem dX6_reset_26 : decode cX6_reset 26 = .ok (.aload_n 0, 1) := by decide +kernel
theorem dX6_reset_27 : decode cX6_reset 27 = .ok (.iconst 5, 1) := by decide +kernel
theorem dX6_reset_28 : decode cX6_reset 28 = .ok (.putfield 55, 3) := by decide +kernel
theorem dX6_reset_31 : decode cX6_reset 31 = .ok (.aload_n 0, 1) := by decide +kernel
theorem dX6_reset_32 : decode cX6_reset 32 = .ok (.iconst 0, 1) := by decide +kernel
theorem dX6_reset_33 : decode cX6_reset 33 = .ok (.putfield 58, 3) := by decide +kernel
theorem dX6_reset_36 : decode cX6_reset 36 = .ok (.aload_n 0, 1) := by decide +kernel
theorem dX6_reset_37 : decode cX6_reset 37 = .ok (.iconst 0, 1) := by decide +kernel
theorem dX6_reset_38 : decode cX6_reset 38 = .ok (.putfield 61, 3) := by decide +kernel
theorem dX6_reset_41 : decode cX6_reset 41 = .ok (.iconst 0, 1) := by decide +kernel
theorem dX6_reset_42 : decode cX6_reset 42 = .ok (.istore_n 1, 1) := by decide +kernel
theorem dX6_reset_43 : decode cX6_reset 43 = .ok (.iload_n 1, 1) := by decide +kernel
theorem dX6_reset_44 : decode cX6_reset 44 = .ok (.aload_n 0, 1) := by decide +kernel
theorem dX6_reset_45 : decode cX6_reset 45 = .ok (.getfield 21, 3) := by decide +kernel
theorem dX6_reset_48 : decode cX6_reset 48 = .ok (.arraylength, 1) := by decide +kernel
theorem dX6_reset_49 : decode cX6_reset 49 = .ok (.if_icmp .ge 17, 3) := by decide +kernel
theorem dX6_reset_52 : decode cX6_reset 52 = .ok (.aload_n 0, 1) := by decide +kernel
theorem dX6_reset_53 : decode cX6_reset 53 = .ok (.getfield 21, 3) := by decide +kernel
theorem dX6_reset_56 : decode cX6_reset 56 = .ok (.iload_n 1, 1) := by decide +kernel
theorem dX6_reset_57 : decode cX6_reset 57 = .ok (.bipush 99, 2) := by decide +kernel
theorem dX6_reset_59 : decode cX6_reset 59 = .ok (.iastore, 1) := by decide +kernel
theorem dX6_reset_60 : decode cX6_reset 60 = .ok (.iinc 1 1, 3) := by decide +kernel
theorem dX6_reset_63 : decode cX6_reset 63 = .ok (.goto (-20), 3) := by decide +kernel
theorem dX6_reset_66 : decode cX6_reset 66 = .ok (.return_, 1) := by decide +kernel
theorem dX6_seconds_0 : decode cX6_seconds 0 = .ok (.aload_n 0, 1) := by decide +kernel
theorem dX6_seconds_1 : decode cX6_seconds 1 = .ok (.iload_n 1, 1) := by decide +kernel
theorem dX6_seconds_2 : decode cX6_seconds 2 = .ok (.iload_n 2, 1) := by decide +kernel
theorem dX6_seconds_3 : decode cX6_seconds 3 = .ok (.iload_n 3, 1) := by decide +kernel
theorem dX6_seconds_4 : decode cX6_seconds 4 = .ok (.invokevirtual 93, 3) := by decide +kernel
theorem dX6_seconds_7 : decode cX6_seconds 7 = .ok (.istore 4, 2) := by decide +kernel
theorem dX6_seconds_9 : decode cX6_seconds 9 = .ok (.aload_n 0, 1) := by decide +kernel
theorem dX6_seconds_10 : decode cX6_seconds 10 = .ok (.iload_n 1, 1) := by decide +kernel
theorem dX6_seconds_11 : decode cX6_seconds 11 = .ok (.invokevirtual 78, 3) := by decide +kernel
theorem dX6_seconds_14 : decode cX6_seconds 14 = .ok (.ifCond .eq 9, 3) := by decide +kernel
theorem dX6_seconds_17 : decode cX6_seconds 17 = .ok (.iload 4, 2) := by decide +kernel
theorem dX6_seconds_19 : decode cX6_seconds 19 = .ok (.iconst 1, 1) := by decide +kernel
theorem dX6_seconds_20 : decode cX6_seconds 20 = .ok (.if_icmp .ge 5, 3) := by decide +kernel
theorem dX6_seconds_23 : decode cX6_seconds 23 = .ok (.iconst 0, 1) := by decide +kernel
theorem dX6_seconds_24 : decode cX6_seconds 24 = .ok (.ireturn, 1) := by decide +kernel
theorem dX6_seconds_25 : decode cX6_seconds 25 = .ok (.bipush 100, 2) := by decide +kernel
theorem dX6_seconds_27 : decode cX6_seconds 27 = .ok (.aload_n 0, 1) := by decide +kernel
theorem dX6_seconds_28 : decode cX6_seconds 28 = .ok (.getfield 9, 3) := by decide +kernel
theorem dX6_seconds_31 : decode cX6_seconds 31 = .ok (.iload_n 1, 1) := by decide +kernel
theorem dX6_seconds_32 : decode cX6_seconds 32 = .ok (.iaload, 1) := by decide +kernel
theorem dX6_seconds_33 : decode cX6_seconds 33 = .ok (.imul, 1) := by decide +kernel
theorem dX6_seconds_34 : decode cX6_seconds 34 = .ok (.iload 4, 2) := by decide +kernel
theorem dX6_seconds_36 : decode cX6_seconds 36 = .ok (.iadd, 1) := by decide +kernel
theorem dX6_seconds_37 : decode cX6_seconds 37 = .ok (.iconst 1, 1) := by decide +kernel
theorem dX6_seconds_38 : decode cX6_seconds 38 = .ok (.isub, 1) := by decide +kernel
theorem dX6_seconds_39 : decode cX6_seconds 39 = .ok (.iload 4, 2) := by decide +kernel
theorem dX6_seconds_41 : decode cX6_seconds 41 = .ok (.idiv, 1) := by decide +kernel
theorem dX6_seconds_42 : decode cX6_seconds 42 = .ok (.ireturn, 1) := by decide +kernel
theorem dX6_setBend_0 : decode cX6_setBend 0 = .ok (.iload_n 1, 1) := by decide +kernel
theorem dX6_setBend_1 : decode cX6_setBend 1 = .ok (.ifCond .lt 23, 3) := by decide +kernel
theorem dX6_setBend_4 : decode cX6_setBend 4 = .ok (.iload_n 1, 1) := by decide +kernel
theorem dX6_setBend_5 : decode cX6_setBend 5 = .ok (.aload_n 0, 1) := by decide +kernel
theorem dX6_setBend_6 : decode cX6_setBend 6 = .ok (.getfield 21, 3) := by decide +kernel
theorem dX6_setBend_9 : decode cX6_setBend 9 = .ok (.arraylength, 1) := by decide +kernel
theorem dX6_setBend_10 : decode cX6_setBend 10 = .ok (.if_icmp .ge 14, 3) := by decide +kernel
theorem dX6_setBend_13 : decode cX6_setBend 13 = .ok (.aload_n 0, 1) := by decide +kernel
theorem dX6_setBend_14 : decode cX6_setBend 14 = .ok (.getfield 21, 3) := by decide +kernel
theorem dX6_setBend_17 : decode cX6_setBend 17 = .ok (.iload_n 1, 1) := by decide +kernel
theorem dX6_setBend_18 : decode cX6_setBend 18 = .ok (.iconst 1, 1) := by decide +kernel
theorem dX6_setBend_19 : decode cX6_setBend 19 = .ok (.iload_n 2, 1) := by decide +kernel
theorem dX6_setBend_20 : decode cX6_setBend 20 = .ok (.invokestatic 68, 3) := by decide +kernel
theorem dX6_setBend_23 : decode cX6_setBend 23 = .ok (.iastore, 1) := by decide +kernel
theorem dX6_setBend_24 : decode cX6_setBend 24 = .ok (.return_, 1) := by decide +kernel
theorem dX6_speed_0 : decode cX6_speed 0 = .ok (.aload_n 0, 1) := by decide +kernel
theorem dX6_speed_1 : decode cX6_speed 1 = .ok (.iload_n 1, 1) := by decide +kernel
theorem dX6_speed_2 : decode cX6_speed 2 = .ok (.invokevirtual 78, 3) := by decide +kernel
theorem dX6_speed_5 : decode cX6_speed 5 = .ok (.ifCond .ne 5, 3) := by decide +kernel
theorem dX6_speed_8 : decode cX6_speed 8 = .ok (.iconst 1, 1) := by decide +kernel
theorem dX6_speed_9 : decode cX6_speed 9 = .ok (.ireturn, 1) := by decide +kernel
theorem dX6_speed_10 : decode cX6_speed 10 = .ok (.bipush 20, 2) := by decide +kernel
theorem dX6_speed_12 : decode cX6_speed 12 = .ok (.iconst 4, 1) := by decide +kernel
theorem dX6_speed_13 : decode cX6_speed 13 = .ok (.iload_n 2, 1) := by decide +kernel
theorem dX6_speed_14 : decode cX6_speed 14 = .ok (.imul, 1) := by decide +kernel
theorem dX6_speed_15 : decode cX6_speed 15 = .ok (.iadd, 1) := by decide +kernel
theorem dX6_speed_16 : decode cX6_speed 16 = .ok (.iconst 5, 1) := by decide +kernel
theorem dX6_speed_17 : decode cX6_speed 17 = .ok (.aload_n 0, 1) := by decide +kernel
theorem dX6_speed_18 : decode cX6_speed 18 = .ok (.getfield 15, 3) := by decide +kernel
theorem dX6_speed_21 : decode cX6_speed 21 = .ok (.iload_n 1, 1) := by decide +kernel
theorem dX6_speed_22 : decode cX6_speed 22 = .ok (.iaload, 1) := by decide +kernel
theorem dX6_speed_23 : decode cX6_speed 23 = .ok (.imul, 1) := by decide +kernel
theorem dX6_speed_24 : decode cX6_speed 24 = .ok (.isub, 1) := by decide +kernel
theorem dX6_speed_25 : decode cX6_speed 25 = .ok (.iconst 2, 1) := by decide +kernel
theorem dX6_speed_26 : decode cX6_speed 26 = .ok (.aload_n 0, 1) := by decide +kernel
theorem dX6_speed_27 : decode cX6_speed 27 = .ok (.getfield 18, 3) := by decide +kernel
theorem dX6_speed_30 : decode cX6_speed 30 = .ok (.iload_n 1, 1) := by decide +kernel
theorem dX6_speed_31 : decode cX6_speed 31 = .ok (.iaload, 1) := by decide +kernel
theorem dX6_speed_32 : decode cX6_speed 32 = .ok (.imul, 1) := by decide +kernel
theorem dX6_speed_33 : decode cX6_speed 33 = .ok (.isub, 1) := by decide +kernel
theorem dX6_speed_34 : decode cX6_speed 34 = .ok (.istore 4, 2) := by decide +kernel
theorem dX6_speed_36 : decode cX6_speed 36 = .ok (.aload_n 0, 1) := by decide +kernel
theorem dX6_speed_37 : decode cX6_speed 37 = .ok (.iload_n 1, 1) := by decide +kernel
theorem dX6_speed_38 : decode cX6_speed 38 = .ok (.iload_n 2, 1) := by decide +kernel
theorem dX6_speed_39 : decode cX6_speed 39 = .ok (.iload_n 3, 1) := by decide +kernel
theorem dX6_speed_40 : decode cX6_speed 40 = .ok (.invokevirtual 82, 3) := by decide +kernel
theorem dX6_speed_43 : decode cX6_speed 43 = .ok (.iconst 0, 1) := by decide +kernel
theorem dX6_speed_44 : decode cX6_speed 44 = .ok (.istore 5, 2) := by decide +kernel
theorem dX6_speed_46 : decode cX6_speed 46 = .ok (.iconst 0, 1) := by decide +kernel
theorem dX6_speed_47 : decode cX6_speed 47 = .ok (.istore 6, 2) := by decide +kernel
theorem dX6_speed_49 : decode cX6_speed 49 = .ok (.iload 6, 2) := by decide +kernel
theorem dX6_speed_51 : decode cX6_speed 51 = .ok (.aload_n 0, 1) := by decide +kernel
theorem dX6_speed_52 : decode cX6_speed 52 = .ok (.getfield 43, 3) := by decide +kernel
theorem dX6_speed_55 : decode cX6_speed 55 = .ok (.if_icmp .ge 53, 3) := by decide +kernel
theorem dX6_speed_58 : decode cX6_speed 58 = .ok (.iload 6, 2) := by decide +kernel
theorem dX6_speed_60 : decode cX6_speed 60 = .ok (.bipush 14, 2) := by decide +kernel
theorem dX6_speed_62 : decode cX6_speed 62 = .ok (.if_icmp .ge 46, 3) := by decide +kernel
theorem dX6_speed_65 : decode cX6_speed 65 = .ok (.aload_n 0, 1) := by decide +kernel
theorem dX6_speed_66 : decode cX6_speed 66 = .ok (.iload 5, 2) := by decide +kernel
theorem dX6_speed_68 : decode cX6_speed 68 = .ok (.aload_n 0, 1) := by decide +kernel
theorem dX6_speed_69 : decode cX6_speed 69 = .ok (.getfield 27, 3) := by decide +kernel
theorem dX6_speed_72 : decode cX6_speed 72 = .ok (.iload 6, 2) := by decide +kernel
theorem dX6_speed_74 : decode cX6_speed 74 = .ok (.iaload, 1) := by decide +kernel
theorem dX6_speed_75 : decode cX6_speed 75 = .ok (.invokevirtual 86, 3) := by decide +kernel
theorem dX6_speed_78 : decode cX6_speed 78 = .ok (.ifCond .eq 15, 3) := by decide +kernel
theorem dX6_speed_81 : decode cX6_speed 81 = .ok (.iload 4, 2) := by decide +kernel
theorem dX6_speed_83 : decode cX6_speed 83 = .ok (.aload_n 0, 1) := by decide +kernel
theorem dX6_speed_84 : decode cX6_speed 84 = .ok (.getfield 24, 3) := by decide +kernel
theorem dX6_speed_87 : decode cX6_speed 87 = .ok (.iload 6, 2) := by decide +kernel
theorem dX6_speed_89 : decode cX6_speed 89 = .ok (.iaload, 1) := by decide +kernel
theorem dX6_speed_90 : decode cX6_speed 90 = .ok (.isub, 1) := by decide +kernel
theorem dX6_speed_91 : decode cX6_speed 91 = .ok (.istore 4, 2) := by decide +kernel
theorem dX6_speed_93 : decode cX6_speed 93 = .ok (.aload_n 0, 1) := by decide +kernel
theorem dX6_speed_94 : decode cX6_speed 94 = .ok (.getfield 27, 3) := by decide +kernel
theorem dX6_speed_97 : decode cX6_speed 97 = .ok (.iload 6, 2) := by decide +kernel
theorem dX6_speed_99 : decode cX6_speed 99 = .ok (.iaload, 1) := by decide +kernel
theorem dX6_speed_100 : decode cX6_speed 100 = .ok (.istore 5, 2) := by decide +kernel
theorem dX6_speed_102 : decode cX6_speed 102 = .ok (.iinc 6 1, 3) := by decide +kernel
theorem dX6_speed_105 : decode cX6_speed 105 = .ok (.goto (-56), 3) := by decide +kernel
theorem dX6_speed_108 : decode cX6_speed 108 = .ok (.iconst 1, 1) := by decide +kernel
theorem dX6_speed_109 : decode cX6_speed 109 = .ok (.aload_n 0, 1) := by decide +kernel
theorem dX6_speed_110 : decode cX6_speed 110 = .ok (.getfield 21, 3) := by decide +kernel
theorem dX6_speed_113 : decode cX6_speed 113 = .ok (.iload_n 1, 1) := by decide +kernel
theorem dX6_speed_114 : decode cX6_speed 114 = .ok (.iaload, 1) := by decide +kernel
theorem dX6_speed_115 : decode cX6_speed 115 = .ok (.iload 4, 2) := by decide +kernel
theorem dX6_speed_117 : decode cX6_speed 117 = .ok (.invokestatic 90, 3) := by decide +kernel
theorem dX6_speed_120 : decode cX6_speed 120 = .ok (.invokestatic 68, 3) := by decide +kernel
theorem dX6_speed_123 : decode cX6_speed 123 = .ok (.ireturn, 1) := by decide +kernel
theorem dX6_tell_0 : decode cX6_tell 0 = .ok (.aload_n 0, 1) := by decide +kernel
theorem dX6_tell_1 : decode cX6_tell 1 = .ok (.iload_n 1, 1) := by decide +kernel
theorem dX6_tell_2 : decode cX6_tell 2 = .ok (.invokevirtual 78, 3) := by decide +kernel
theorem dX6_tell_5 : decode cX6_tell 5 = .ok (.ifCond .ne 4, 3) := by decide +kernel
theorem dX6_tell_8 : decode cX6_tell 8 = .ok (.return_, 1) := by decide +kernel
theorem dX6_tell_9 : decode cX6_tell 9 = .ok (.aload_n 0, 1) := by decide +kernel
theorem dX6_tell_10 : decode cX6_tell 10 = .ok (.getfield 33, 3) := by decide +kernel
theorem dX6_tell_13 : decode cX6_tell 13 = .ok (.iconst 0, 1) := by decide +kernel
theorem dX6_tell_14 : decode cX6_tell 14 = .ok (.iload_n 1, 1) := by decide +kernel
theorem dX6_tell_15 : decode cX6_tell 15 = .ok (.iastore, 1) := by decide +kernel
theorem dX6_tell_16 : decode cX6_tell 16 = .ok (.aload_n 0, 1) := by decide +kernel
theorem dX6_tell_17 : decode cX6_tell 17 = .ok (.getfield 33, 3) := by decide +kernel
theorem dX6_tell_20 : decode cX6_tell 20 = .ok (.iconst 1, 1) := by decide +kernel
theorem dX6_tell_21 : decode cX6_tell 21 = .ok (.iload_n 2, 1) := by decide +kernel
theorem dX6_tell_22 : decode cX6_tell 22 = .ok (.iastore, 1) := by decide +kernel
theorem dX6_tell_23 : decode cX6_tell 23 = .ok (.aload_n 0, 1) := by decide +kernel
theorem dX6_tell_24 : decode cX6_tell 24 = .ok (.getfield 33, 3) := by decide +kernel
theorem dX6_tell_27 : decode cX6_tell 27 = .ok (.iconst 2, 1) := by decide +kernel
theorem dX6_tell_28 : decode cX6_tell 28 = .ok (.aload_n 0, 1) := by decide +kernel
theorem dX6_tell_29 : decode cX6_tell 29 = .ok (.getfield 15, 3) := by decide +kernel
theorem dX6_tell_32 : decode cX6_tell 32 = .ok (.iload_n 1, 1) := by decide +kernel
theorem dX6_tell_33 : decode cX6_tell 33 = .ok (.iaload, 1) := by decide +kernel
theorem dX6_tell_34 : decode cX6_tell 34 = .ok (.iconst 5, 1) := by decide +kernel
theorem dX6_tell_35 : decode cX6_tell 35 = .ok (.iadd, 1) := by decide +kernel
theorem dX6_tell_36 : decode cX6_tell 36 = .ok (.iastore, 1) := by decide +kernel
theorem dX6_tell_37 : decode cX6_tell 37 = .ok (.aload_n 0, 1) := by decide +kernel
theorem dX6_tell_38 : decode cX6_tell 38 = .ok (.getfield 33, 3) := by decide +kernel
theorem dX6_tell_41 : decode cX6_tell 41 = .ok (.iconst 3, 1) := by decide +kernel
theorem dX6_tell_42 : decode cX6_tell 42 = .ok (.aload_n 0, 1) := by decide +kernel
theorem dX6_tell_43 : decode cX6_tell 43 = .ok (.getfield 18, 3) := by decide +kernel
theorem dX6_tell_46 : decode cX6_tell 46 = .ok (.iload_n 1, 1) := by decide +kernel
theorem dX6_tell_47 : decode cX6_tell 47 = .ok (.iaload, 1) := by decide +kernel
theorem dX6_tell_48 : decode cX6_tell 48 = .ok (.iconst 5, 1) := by decide +kernel
theorem dX6_tell_49 : decode cX6_tell 49 = .ok (.iadd, 1) := by decide +kernel
theorem dX6_tell_50 : decode cX6_tell 50 = .ok (.iastore, 1) := by decide +kernel
theorem dX6_tell_51 : decode cX6_tell 51 = .ok (.aload_n 0, 1) := by decide +kernel
theorem dX6_tell_52 : decode cX6_tell 52 = .ok (.getfield 33, 3) := by decide +kernel
theorem dX6_tell_55 : decode cX6_tell 55 = .ok (.iconst 4, 1) := by decide +kernel
theorem dX6_tell_56 : decode cX6_tell 56 = .ok (.iload_n 3, 1) := by decide +kernel
theorem dX6_tell_57 : decode cX6_tell 57 = .ok (.iastore, 1) := by decide +kernel
theorem dX6_tell_58 : decode cX6_tell 58 = .ok (.return_, 1) := by decide +kernel
theorem dX6_testHolds_0 : decode cX6_testHolds 0 = .ok (.iload_n 1, 1) := by decide +kernel
theorem dX6_testHolds_1 : decode cX6_testHolds 1 = .ok (.iconst 2, 1) := by decide +kernel
theorem dX6_testHolds_2 : decode cX6_testHolds 2 = .ok (.ishr, 1) := by decide +kernel
theorem dX6_testHolds_3 : decode cX6_testHolds 3 = .ok (.bipush 7, 2) := by decide +kernel
theorem dX6_testHolds_5 : decode cX6_testHolds 5 = .ok (.iand, 1) := by decide +kernel
theorem dX6_testHolds_6 : decode cX6_testHolds 6 = .ok (.istore_n 2, 1) := by decide +kernel
theorem dX6_testHolds_7 : decode cX6_testHolds 7 = .ok (.iload_n 2, 1) := by decide +kernel
theorem dX6_testHolds_8 : decode cX6_testHolds 8 = .ok (.aload_n 0, 1) := by decide +kernel
theorem dX6_testHolds_9 : decode cX6_testHolds 9 = .ok (.getfield 33, 3) := by decide +kernel
theorem dX6_testHolds_12 : decode cX6_testHolds 12 = .ok (.arraylength, 1) := by decide +kernel
theorem dX6_testHolds_13 : decode cX6_testHolds 13 = .ok (.if_icmp .ge 12, 3) := by decide +kernel
theorem dX6_testHolds_16 : decode cX6_testHolds 16 = .ok (.aload_n 0, 1) := by decide +kernel
theorem dX6_testHolds_17 : decode cX6_testHolds 17 = .ok (.getfield 33, 3) := by decide +kernel
theorem dX6_testHolds_20 : decode cX6_testHolds 20 = .ok (.iload_n 2, 1) := by decide +kernel
theorem dX6_testHolds_21 : decode cX6_testHolds 21 = .ok (.iaload, 1) := by decide +kernel
theorem dX6_testHolds_22 : decode cX6_testHolds 22 = .ok (.goto 4, 3) := by decide +kernel
theorem dX6_testHolds_25 : decode cX6_testHolds 25 = .ok (.iconst 0, 1) := by decide +kernel
theorem dX6_testHolds_26 : decode cX6_testHolds 26 = .ok (.istore_n 3, 1) := by decide +kernel
theorem dX6_testHolds_27 : decode cX6_testHolds 27 = .ok (.iload_n 1, 1) := by decide +kernel
theorem dX6_testHolds_28 : decode cX6_testHolds 28 = .ok (.bipush 7, 2) := by decide +kernel
theorem dX6_testHolds_30 : decode cX6_testHolds 30 = .ok (.ishr, 1) := by decide +kernel
theorem dX6_testHolds_31 : decode cX6_testHolds 31 = .ok (.istore 4, 2) := by decide +kernel
theorem dX6_testHolds_33 : decode cX6_testHolds 33 = .ok (.iload_n 1, 1) := by decide +kernel
theorem dX6_testHolds_34 : decode cX6_testHolds 34 = .ok (.iconst 5, 1) := by decide +kernel
theorem dX6_testHolds_35 : decode cX6_testHolds 35 = .ok (.ishr, 1) := by decide +kernel
theorem dX6_testHolds_36 : decode cX6_testHolds 36 = .ok (.iconst 3, 1) := by decide +kernel
theorem dX6_testHolds_37 : decode cX6_testHolds 37 = .ok (.iand, 1) := by decide +kernel
theorem dX6_testHolds_38 : decode cX6_testHolds 38 = .ok (.lookupswitch 50 #[(0, 26), (1, 38)], 26) := by decide +kernel
theorem dX6_testHolds_64 : decode cX6_testHolds 64 = .ok (.iload_n 3, 1) := by decide +kernel
theorem dX6_testHolds_65 : decode cX6_testHolds 65 = .ok (.iload 4, 2) := by decide +kernel
theorem dX6_testHolds_67 : decode cX6_testHolds 67 = .ok (.if_icmp .ge 7, 3) := by decide +kernel
theorem dX6_testHolds_70 : decode cX6_testHolds 70 = .ok (.iconst 1, 1) := by decide +kernel
theorem dX6_testHolds_71 : decode cX6_testHolds 71 = .ok (.goto 4, 3) := by decide +kernel
theorem dX6_testHolds_74 : decode cX6_testHolds 74 = .ok (.iconst 0, 1) := by decide +kernel
theorem dX6_testHolds_75 : decode cX6_testHolds 75 = .ok (.ireturn, 1) := by decide +kernel
theorem dX6_testHolds_76 : decode cX6_testHolds 76 = .ok (.iload_n 3, 1) := by decide +kernel
theorem dX6_testHolds_77 : decode cX6_testHolds 77 = .ok (.iload 4, 2) := by decide +kernel
theorem dX6_testHolds_79 : decode cX6_testHolds 79 = .ok (.if_icmp .ne 7, 3) := by decide +kernel
theorem dX6_testHolds_82 : decode cX6_testHolds 82 = .ok (.iconst 1, 1) := by decide +kernel
theorem dX6_testHolds_83 : decode cX6_testHolds 83 = .ok (.goto 4, 3) := by decide +kernel
theorem dX6_testHolds_86 : decode cX6_testHolds 86 = .ok (.iconst 0, 1) := by decide +kernel
theorem dX6_testHolds_87 : decode cX6_testHolds 87 = .ok (.ireturn, 1) := by decide +kernel
theorem dX6_testHolds_88 : decode cX6_testHolds 88 = .ok (.iload_n 3, 1) := by decide +kernel
theorem dX6_testHolds_89 : decode cX6_testHolds 89 = .ok (.iload 4, 2) := by decide +kernel
theorem dX6_testHolds_91 : decode cX6_testHolds 91 = .ok (.if_icmp .le 7, 3) := by decide +kernel
theorem dX6_testHolds_94 : decode cX6_testHolds 94 = .ok (.iconst 1, 1) := by decide +kernel
theorem dX6_testHolds_95 : decode cX6_testHolds 95 = .ok (.goto 4, 3) := by decide +kernel
theorem dX6_testHolds_98 : decode cX6_testHolds 98 = .ok (.iconst 0, 1) := by decide +kernel
theorem dX6_testHolds_99 : decode cX6_testHolds 99 = .ok (.ireturn, 1) := by decide +kernel
theorem dX7_addByte_0 : decode cX7_addByte 0 = .ok (.aload_n 0, 1) := by decide +kernel
theorem dX7_addByte_1 : decode cX7_addByte 1 = .ok (.getfield 45, 3) := by decide +kernel
theorem dX7_addByte_4 : decode cX7_addByte 4 = .ok (.ifCond .lt 32, 3) := by decide +kernel
theorem dX7_addByte_7 : decode cX7_addByte 7 = .ok (.aload_n 0, 1) := by decide +kernel
theorem dX7_addByte_8 : decode cX7_addByte 8 = .ok (.getfield 45, 3) := by decide +kernel
theorem dX7_addByte_11 : decode cX7_addByte 11 = .ok (.bipush 120, 2) := by decide +kernel
theorem dX7_addByte_13 : decode cX7_addByte 13 = .ok (.if_icmp .ge 23, 3) := by decide +kernel
theorem dX7_addByte_16 : decode cX7_addByte 16 = .ok (.aload_n 0, 1) := by decide +kernel
theorem dX7_addByte_17 : decode cX7_addByte 17 = .ok (.getfield 9, 3) := by decide +kernel
theorem dX7_addByte_20 : decode cX7_addByte 20 = .ok (.aload_n 0, 1) := by decide +kernel
theorem dX7_addByte_21 : decode cX7_addByte 21 = .ok (.getfield 45, 3) := by decide +kernel
theorem dX7_addByte_24 : decode cX7_addByte 24 = .ok (.iload_n 1, 1) := by decide +kernel
theorem dX7_addByte_25 : decode cX7_addByte 25 = .ok (.iastore, 1) := by decide +kernel
theorem dX7_addByte_26 : decode cX7_addByte 26 = .ok (.aload_n 0, 1) := by decide +kernel
theorem dX7_addByte_27 : decode cX7_addByte 27 = .ok (.dup, 1) := by decide +kernel
theorem dX7_addByte_28 : decode cX7_addByte 28 = .ok (.getfield 45, 3) := by decide +kernel
theorem dX7_addByte_31 : decode cX7_addByte 31 = .ok (.iconst 1, 1) := by decide +kernel
theorem dX7_addByte_32 : decode cX7_addByte 32 = .ok (.iadd, 1) := by decide +kernel
theorem dX7_addByte_33 : decode cX7_addByte 33 = .ok (.putfield 45, 3) := by decide +kernel
theorem dX7_addByte_36 : decode cX7_addByte 36 = .ok (.return_, 1) := by decide +kernel
theorem dX7_addToRow_0 : decode cX7_addToRow 0 = .ok (.aload_n 0, 1) := by decide +kernel
theorem dX7_addToRow_1 : decode cX7_addToRow 1 = .ok (.getfield 55, 3) := by decide +kernel
theorem dX7_addToRow_4 : decode cX7_addToRow 4 = .ok (.ifCond .lt 32, 3) := by decide +kernel
theorem dX7_addToRow_7 : decode cX7_addToRow 7 = .ok (.aload_n 0, 1) := by decide +kernel
theorem dX7_addToRow_8 : decode cX7_addToRow 8 = .ok (.getfield 55, 3) := by decide +kernel
theorem dX7_addToRow_11 : decode cX7_addToRow 11 = .ok (.bipush 8, 2) := by decide +kernel
theorem dX7_addToRow_13 : decode cX7_addToRow 13 = .ok (.if_icmp .ge 23, 3) := by decide +kernel
theorem dX7_addToRow_16 : decode cX7_addToRow 16 = .ok (.aload_n 0, 1) := by decide +kernel
theorem dX7_addToRow_17 : decode cX7_addToRow 17 = .ok (.getfield 31, 3) := by decide +kernel
theorem dX7_addToRow_20 : decode cX7_addToRow 20 = .ok (.aload_n 0, 1) := by decide +kernel
theorem dX7_addToRow_21 : decode cX7_addToRow 21 = .ok (.getfield 55, 3) := by decide +kernel
theorem dX7_addToRow_24 : decode cX7_addToRow 24 = .ok (.iload_n 1, 1) := by decide +kernel
theorem dX7_addToRow_25 : decode cX7_addToRow 25 = .ok (.iastore, 1) := by decide +kernel
theorem dX7_addToRow_26 : decode cX7_addToRow 26 = .ok (.aload_n 0, 1) := by decide +kernel
theorem dX7_addToRow_27 : decode cX7_addToRow 27 = .ok (.dup, 1) := by decide +kernel
theorem dX7_addToRow_28 : decode cX7_addToRow 28 = .ok (.getfield 55, 3) := by decide +kernel
theorem dX7_addToRow_31 : decode cX7_addToRow 31 = .ok (.iconst 1, 1) := by decide +kernel
theorem dX7_addToRow_32 : decode cX7_addToRow 32 = .ok (.iadd, 1) := by decide +kernel
theorem dX7_addToRow_33 : decode cX7_addToRow 33 = .ok (.putfield 55, 3) := by decide +kernel
theorem dX7_addToRow_36 : decode cX7_addToRow 36 = .ok (.return_, 1) := by decide +kernel
theorem dX7_addWay_0 : decode cX7_addWay 0 = .ok (.aload_n 0, 1) := by decide +kernel
theorem dX7_addWay_1 : decode cX7_addWay 1 = .ok (.getfield 52, 3) := by decide +kernel
theorem dX7_addWay_4 : decode cX7_addWay 4 = .ok (.ifCond .lt 12, 3) := by decide +kernel
theorem dX7_addWay_7 : decode cX7_addWay 7 = .ok (.aload_n 0, 1) := by decide +kernel
theorem dX7_addWay_8 : decode cX7_addWay 8 = .ok (.getfield 52, 3) := by decide +kernel
theorem dX7_addWay_11 : decode cX7_addWay 11 = .ok (.bipush 8, 2) := by decide +kernel
theorem dX7_addWay_13 : decode cX7_addWay 13 = .ok (.if_icmp .lt 4, 3) := by decide +kernel
theorem dX7_addWay_16 : decode cX7_addWay 16 = .ok (.return_, 1) := by decide +kernel
theorem dX7_addWay_17 : decode cX7_addWay 17 = .ok (.aload_n 0, 1) := by decide +kernel
theorem dX7_addWay_18 : decode cX7_addWay 18 = .ok (.getfield 24, 3) := by decide +kernel
theorem dX7_addWay_21 : decode cX7_addWay 21 = .ok (.aload_n 0, 1) := by decide +kernel
theorem dX7_addWay_22 : decode cX7_addWay 22 = .ok (.getfield 52, 3) := by decide +kernel
theorem dX7_addWay_25 : decode cX7_addWay 25 = .ok (.aload_n 1, 1) := by decide +kernel
theorem dX7_addWay_26 : decode cX7_addWay 26 = .ok (.aastore, 1) := by decide +kernel
theorem dX7_addWay_27 : decode cX7_addWay 27 = .ok (.iconst 0, 1) := by decide +kernel
theorem dX7_addWay_28 : decode cX7_addWay 28 = .ok (.istore_n 2, 1) := by decide +kernel
theorem dX7_addWay_29 : decode cX7_addWay 29 = .ok (.iload_n 2, 1) := by decide +kernel
theorem dX7_addWay_30 : decode cX7_addWay 30 = .ok (.bipush 8, 2) := by decide +kernel
theorem dX7_addWay_32 : decode cX7_addWay 32 = .ok (.if_icmp .ge 19, 3) := by decide +kernel
theorem dX7_addWay_35 : decode cX7_addWay 35 = .ok (.aload_n 0, 1) := by decide +kernel
theorem dX7_addWay_36 : decode cX7_addWay 36 = .ok (.aload_n 0, 1) := by decide +kernel
theorem dX7_addWay_37 : decode cX7_addWay 37 = .ok (.getfield 52, 3) := by decide +kernel
theorem dX7_addWay_40 : decode cX7_addWay 40 = .ok (.iload_n 2, 1) := by decide +kernel
theorem dX7_addWay_41 : decode cX7_addWay 41 = .ok (.iconst (-1), 1) := by decide +kernel
theorem dX7_addWay_42 : decode cX7_addWay 42 = .ok (.invokevirtual 58, 3) := by decide +kernel
theorem dX7_addWay_45 : decode cX7_addWay 45 = .ok (.iinc 2 1, 3) := by decide +kernel
theorem dX7_addWay_48 : decode cX7_addWay 48 = .ok (.goto (-19), 3) := by decide +kernel
theorem dX7_addWay_51 : decode cX7_addWay 51 = .ok (.aload_n 0, 1) := by decide +kernel
theorem dX7_addWay_52 : decode cX7_addWay 52 = .ok (.dup, 1) := by decide +kernel
theorem dX7_addWay_53 : decode cX7_addWay 53 = .ok (.getfield 52, 3) := by decide +kernel
theorem dX7_addWay_56 : decode cX7_addWay 56 = .ok (.iconst 1, 1) := by decide +kernel
theorem dX7_addWay_57 : decode cX7_addWay 57 = .ok (.iadd, 1) := by decide +kernel
theorem dX7_addWay_58 : decode cX7_addWay 58 = .ok (.putfield 52, 3) := by decide +kernel
theorem dX7_addWay_61 : decode cX7_addWay 61 = .ok (.return_, 1) := by decide +kernel
theorem dX7_began_0 : decode cX7_began 0 = .ok (.aload_n 0, 1) := by decide +kernel
theorem dX7_began_1 : decode cX7_began 1 = .ok (.getfield 62, 3) := by decide +kernel
theorem dX7_began_4 : decode cX7_began 4 = .ok (.ifCond .lt 22, 3) := by decide +kernel
theorem dX7_began_7 : decode cX7_began 7 = .ok (.aload_n 0, 1) := by decide +kernel
theorem dX7_began_8 : decode cX7_began 8 = .ok (.getfield 62, 3) := by decide +kernel
theorem dX7_began_11 : decode cX7_began 11 = .ok (.bipush 20, 2) := by decide +kernel
theorem dX7_began_13 : decode cX7_began 13 = .ok (.if_icmp .ge 13, 3) := by decide +kernel
theorem dX7_began_16 : decode cX7_began 16 = .ok (.aload_n 0, 1) := by decide +kernel
theorem dX7_began_17 : decode cX7_began 17 = .ok (.getfield 34, 3) := by decide +kernel
theorem dX7_began_20 : decode cX7_began 20 = .ok (.aload_n 0, 1) := by decide +kernel
theorem dX7_began_21 : decode cX7_began 21 = .ok (.getfield 62, 3) := by decide +kernel
theorem dX7_began_24 : decode cX7_began 24 = .ok (.iload_n 1, 1) := by decide +kernel
theorem dX7_began_25 : decode cX7_began 25 = .ok (.iastore, 1) := by decide +kernel
theorem dX7_began_26 : decode cX7_began 26 = .ok (.aload_n 0, 1) := by decide +kernel
theorem dX7_began_27 : decode cX7_began 27 = .ok (.dup, 1) := by decide +kernel
theorem dX7_began_28 : decode cX7_began 28 = .ok (.getfield 62, 3) := by decide +kernel
theorem dX7_began_31 : decode cX7_began 31 = .ok (.iconst 1, 1) := by decide +kernel
theorem dX7_began_32 : decode cX7_began 32 = .ok (.iadd, 1) := by decide +kernel
theorem dX7_began_33 : decode cX7_began 33 = .ok (.putfield 62, 3) := by decide +kernel
theorem dX7_began_36 : decode cX7_began 36 = .ok (.return_, 1) := by decide +kernel
theorem dX7_copyFrom_0 : decode cX7_copyFrom 0 = .ok (.aload_n 1, 1) := by decide +kernel
theorem dX7_copyFrom_1 : decode cX7_copyFrom 1 = .ok (.getfield 9, 3) := by decide +kernel
theorem dX7_copyFrom_4 : decode cX7_copyFrom 4 = .ok (.aload_n 0, 1) := by decide +kernel
theorem dX7_copyFrom_5 : decode cX7_copyFrom 5 = .ok (.getfield 9, 3) := by decide +kernel
theorem dX7_copyFrom_8 : decode cX7_copyFrom 8 = .ok (.invokestatic 37, 3) := by decide +kernel
theorem dX7_copyFrom_11 : decode cX7_copyFrom 11 = .ok (.aload_n 0, 1) := by decide +kernel
theorem dX7_copyFrom_12 : decode cX7_copyFrom 12 = .ok (.getfield 18, 3) := by decide +kernel
theorem dX7_copyFrom_15 : decode cX7_copyFrom 15 = .ok (.aload_n 1, 1) := by decide +kernel
theorem dX7_copyFrom_16 : decode cX7_copyFrom 16 = .ok (.getfield 18, 3) := by decide +kernel
theorem dX7_copyFrom_19 : decode cX7_copyFrom 19 = .ok (.invokevirtual 41, 3) := by decide +kernel
theorem dX7_copyFrom_22 : decode cX7_copyFrom 22 = .ok (.iconst 0, 1) := by decide +kernel
theorem dX7_copyFrom_23 : decode cX7_copyFrom 23 = .ok (.istore_n 2, 1) := by decide +kernel
theorem dX7_copyFrom_24 : decode cX7_copyFrom 24 = .ok (.iload_n 2, 1) := by decide +kernel
theorem dX7_copyFrom_25 : decode cX7_copyFrom 25 = .ok (.bipush 8, 2) := by decide +kernel
theorem dX7_copyFrom_27 : decode cX7_copyFrom 27 = .ok (.if_icmp .ge 21, 3) := by decide +kernel
theorem dX7_copyFrom_30 : decode cX7_copyFrom 30 = .ok (.aload_n 0, 1) := by decide +kernel
theorem dX7_copyFrom_31 : decode cX7_copyFrom 31 = .ok (.getfield 24, 3) := by decide +kernel
theorem dX7_copyFrom_34 : decode cX7_copyFrom 34 = .ok (.iload_n 2, 1) := by decide +kernel
theorem dX7_copyFrom_35 : decode cX7_copyFrom 35 = .ok (.aload_n 1, 1) := by decide +kernel
theorem dX7_copyFrom_36 : decode cX7_copyFrom 36 = .ok (.getfield 24, 3) := by decide +kernel
theorem dX7_copyFrom_39 : decode cX7_copyFrom 39 = .ok (.iload_n 2, 1) := by decide +kernel
theorem dX7_copyFrom_40 : decode cX7_copyFrom 40 = .ok (.aaload, 1) := by decide +kernel
theorem dX7_copyFrom_41 : decode cX7_copyFrom 41 = .ok (.aastore, 1) := by decide +kernel
theorem dX7_copyFrom_42 : decode cX7_copyFrom 42 = .ok (.iinc 2 1, 3) := by decide +kernel
theorem dX7_copyFrom_45 : decode cX7_copyFrom 45 = .ok (.goto (-21), 3) := by decide +kernel
theorem dX7_copyFrom_48 : decode cX7_copyFrom 48 = .ok (.aload_n 1, 1) := by decide +kernel
theorem dX7_copyFrom_49 : decode cX7_copyFrom 49 = .ok (.getfield 28, 3) := by decide +kernel
theorem dX7_copyFrom_52 : decode cX7_copyFrom 52 = .ok (.aload_n 0, 1) := by decide +kernel
theorem dX7_copyFrom_53 : decode cX7_copyFrom 53 = .ok (.getfield 28, 3) := by decide +kernel
theorem dX7_copyFrom_56 : decode cX7_copyFrom 56 = .ok (.invokestatic 37, 3) := by decide +kernel
theorem dX7_copyFrom_59 : decode cX7_copyFrom 59 = .ok (.aload_n 1, 1) := by decide +kernel
theorem dX7_copyFrom_60 : decode cX7_copyFrom 60 = .ok (.getfield 31, 3) := by decide +kernel
theorem dX7_copyFrom_63 : decode cX7_copyFrom 63 = .ok (.aload_n 0, 1) := by decide +kernel
theorem dX7_copyFrom_64 : decode cX7_copyFrom 64 = .ok (.getfield 31, 3) := by decide +kernel
theorem dX7_copyFrom_67 : decode cX7_copyFrom 67 = .ok (.invokestatic 37, 3) := by decide +kernel
theorem dX7_copyFrom_70 : decode cX7_copyFrom 70 = .ok (.aload_n 0, 1) := by decide +kernel
theorem dX7_copyFrom_71 : decode cX7_copyFrom 71 = .ok (.aload_n 1, 1) := by decide +kernel
theorem dX7_copyFrom_72 : decode cX7_copyFrom 72 = .ok (.getfield 45, 3) := by decide +kernel
theorem dX7_copyFrom_75 : decode cX7_copyFrom 75 = .ok (.putfield 45, 3) := by decide +kernel
theorem dX7_copyFrom_78 : decode cX7_copyFrom 78 = .ok (.aload_n 0, 1) := by decide +kernel
theorem dX7_copyFrom_79 : decode cX7_copyFrom 79 = .ok (.aload_n 1, 1) := by decide +kernel
theorem dX7_copyFrom_80 : decode cX7_copyFrom 80 = .ok (.getfield 49, 3) := by decide +kernel
theorem dX7_copyFrom_83 : decode cX7_copyFrom 83 = .ok (.putfield 49, 3) := by decide +kernel
theorem dX7_copyFrom_86 : decode cX7_copyFrom 86 = .ok (.aload_n 0, 1) := by decide +kernel
theorem dX7_copyFrom_87 : decode cX7_copyFrom 87 = .ok (.aload_n 1, 1) := by decide +kernel
theorem dX7_copyFrom_88 : decode cX7_copyFrom 88 = .ok (.getfield 52, 3) := by decide +kernel
theorem dX7_copyFrom_91 : decode cX7_copyFrom 91 = .ok (.putfield 52, 3) := by decide +kernel
theorem dX7_copyFrom_94 : decode cX7_copyFrom 94 = .ok (.aload_n 0, 1) := by decide +kernel
theorem dX7_copyFrom_95 : decode cX7_copyFrom 95 = .ok (.aload_n 1, 1) := by decide +kernel
theorem dX7_copyFrom_96 : decode cX7_copyFrom 96 = .ok (.getfield 55, 3) := by decide +kernel
theorem dX7_copyFrom_99 : decode cX7_copyFrom 99 = .ok (.putfield 55, 3) := by decide +kernel
theorem dX7_copyFrom_102 : decode cX7_copyFrom 102 = .ok (.return_, 1) := by decide +kernel
theorem dX7_find_0 : decode cX7_find 0 = .ok (.iload_n 1, 1) := by decide +kernel
theorem dX7_find_1 : decode cX7_find 1 = .ok (.ifCond .lt 26, 3) := by decide +kernel
theorem dX7_find_4 : decode cX7_find 4 = .ok (.iload_n 1, 1) := by decide +kernel
theorem dX7_find_5 : decode cX7_find 5 = .ok (.aload_n 0, 1) := by decide +kernel
theorem dX7_find_6 : decode cX7_find 6 = .ok (.getfield 52, 3) := by decide +kernel
theorem dX7_find_9 : decode cX7_find 9 = .ok (.if_icmp .ge 18, 3) := by decide +kernel
theorem dX7_find_12 : decode cX7_find 12 = .ok (.iload_n 1, 1) := by decide +kernel
theorem dX7_find_13 : decode cX7_find 13 = .ok (.bipush 8, 2) := by decide +kernel
theorem dX7_find_15 : decode cX7_find 15 = .ok (.if_icmp .ge 12, 3) := by decide +kernel
theorem dX7_find_18 : decode cX7_find 18 = .ok (.aload_n 0, 1) := by decide +kernel
theorem dX7_find_19 : decode cX7_find 19 = .ok (.getfield 24, 3) := by decide +kernel
theorem dX7_find_22 : decode cX7_find 22 = .ok (.iload_n 1, 1) := by decide +kernel
theorem dX7_find_23 : decode cX7_find 23 = .ok (.aaload, 1) := by decide +kernel
theorem dX7_find_24 : decode cX7_find 24 = .ok (.goto 4, 3) := by decide +kernel
theorem dX7_find_27 : decode cX7_find 27 = .ok (.aconst_null, 1) := by decide +kernel
theorem dX7_find_28 : decode cX7_find 28 = .ok (.areturn, 1) := by decide +kernel
theorem dX7_init_0 : decode cX7_init 0 = .ok (.aload_n 0, 1) := by decide +kernel
theorem dX7_init_1 : decode cX7_init 1 = .ok (.invokespecial 3, 3) := by decide +kernel
theorem dX7_init_4 : decode cX7_init 4 = .ok (.aload_n 0, 1) := by decide +kernel
theorem dX7_init_5 : decode cX7_init 5 = .ok (.bipush 120, 2) := by decide +kernel
theorem dX7_init_7 : decode cX7_init 7 = .ok (.newarray .int, 2) := by decide +kernel
theorem dX7_init_9 : decode cX7_init 9 = .ok (.putfield 9, 3) := by decide +kernel
theorem dX7_init_12 : decode cX7_init 12 = .ok (.aload_n 0, 1) := by decide +kernel
theorem dX7_init_13 : decode cX7_init 13 = .ok (.new 15, 3) := by decide +kernel
theorem dX7_init_16 : decode cX7_init 16 = .ok (.dup, 1) := by decide +kernel
theorem dX7_init_17 : decode cX7_init 17 = .ok (.invokespecial 17, 3) := by decide +kernel
theorem dX7_init_20 : decode cX7_init 20 = .ok (.putfield 18, 3) := by decide +kernel
theorem dX7_init_23 : decode cX7_init 23 = .ok (.aload_n 0, 1) := by decide +kernel
theorem dX7_init_24 : decode cX7_init 24 = .ok (.bipush 8, 2) := by decide +kernel
theorem dX7_init_26 : decode cX7_init 26 = .ok (.anewarray 22, 3) := by decide +kernel
theorem dX7_init_29 : decode cX7_init 29 = .ok (.putfield 24, 3) := by decide +kernel
theorem dX7_init_32 : decode cX7_init 32 = .ok (.aload_n 0, 1) := by decide +kernel
theorem dX7_init_33 : decode cX7_init 33 = .ok (.bipush 64, 2) := by decide +kernel
theorem dX7_init_35 : decode cX7_init 35 = .ok (.newarray .int, 2) := by decide +kernel
theorem dX7_init_37 : decode cX7_init 37 = .ok (.putfield 28, 3) := by decide +kernel
theorem dX7_init_40 : decode cX7_init 40 = .ok (.aload_n 0, 1) := by decide +kernel
theorem dX7_init_41 : decode cX7_init 41 = .ok (.bipush 8, 2) := by decide +kernel
theorem dX7_init_43 : decode cX7_init 43 = .ok (.newarray .int, 2) := by decide +kernel
theorem dX7_init_45 : decode cX7_init 45 = .ok (.putfield 31, 3) := by decide +kernel
theorem dX7_init_48 : decode cX7_init 48 = .ok (.aload_n 0, 1) := by decide +kernel
theorem dX7_init_49 : decode cX7_init 49 = .ok (.bipush 20, 2) := by decide +kernel
theorem dX7_init_51 : decode cX7_init 51 = .ok (.newarray .int, 2) := by decide +kernel
theorem dX7_init_53 : decode cX7_init 53 = .ok (.putfield 34, 3) := by decide +kernel
theorem dX7_init_56 : decode cX7_init 56 = .ok (.return_, 1) := by decide +kernel
theorem dX7_lineOf_0 : decode cX7_lineOf 0 = .ok (.iload_n 1, 1) := by decide +kernel
theorem dX7_lineOf_1 : decode cX7_lineOf 1 = .ok (.ifCond .lt 19, 3) := by decide +kernel
theorem dX7_lineOf_4 : decode cX7_lineOf 4 = .ok (.iload_n 1, 1) := by decide +kernel
theorem dX7_lineOf_5 : decode cX7_lineOf 5 = .ok (.bipush 8, 2) := by decide +kernel
theorem dX7_lineOf_7 : decode cX7_lineOf 7 = .ok (.if_icmp .ge 13, 3) := by decide +kernel
theorem dX7_lineOf_10 : decode cX7_lineOf 10 = .ok (.iload_n 2, 1) := by decide +kernel
theorem dX7_lineOf_11 : decode cX7_lineOf 11 = .ok (.ifCond .lt 9, 3) := by decide +kernel
theorem dX7_lineOf_14 : decode cX7_lineOf 14 = .ok (.iload_n 2, 1) := by decide +kernel
theorem dX7_lineOf_15 : decode cX7_lineOf 15 = .ok (.bipush 8, 2) := by decide +kernel
theorem dX7_lineOf_17 : decode cX7_lineOf 17 = .ok (.if_icmp .lt 5, 3) := by decide +kernel
theorem dX7_lineOf_20 : decode cX7_lineOf 20 = .ok (.iconst (-1), 1) := by decide +kernel
theorem dX7_lineOf_21 : decode cX7_lineOf 21 = .ok (.ireturn, 1) := by decide +kernel
theorem dX7_lineOf_22 : decode cX7_lineOf 22 = .ok (.aload_n 0, 1) := by decide +kernel
theorem dX7_lineOf_23 : decode cX7_lineOf 23 = .ok (.getfield 28, 3) := by decide +kernel
theorem dX7_lineOf_26 : decode cX7_lineOf 26 = .ok (.iload_n 1, 1) := by decide +kernel
theorem dX7_lineOf_27 : decode cX7_lineOf 27 = .ok (.bipush 8, 2) := by decide +kernel
theorem dX7_lineOf_29 : decode cX7_lineOf 29 = .ok (.imul, 1) := by decide +kernel
theorem dX7_lineOf_30 : decode cX7_lineOf 30 = .ok (.iload_n 2, 1) := by decide +kernel
theorem dX7_lineOf_31 : decode cX7_lineOf 31 = .ok (.iadd, 1) := by decide +kernel
theorem dX7_lineOf_32 : decode cX7_lineOf 32 = .ok (.iaload, 1) := by decide +kernel
theorem dX7_lineOf_33 : decode cX7_lineOf 33 = .ok (.ireturn, 1) := by decide +kernel
theorem dX7_rowEffort_0 : decode cX7_rowEffort 0 = .ok (.iload_n 1, 1) := by decide +kernel
theorem dX7_rowEffort_1 : decode cX7_rowEffort 1 = .ok (.ifCond .lt 18, 3) := by decide +kernel
theorem dX7_rowEffort_4 : decode cX7_rowEffort 4 = .ok (.iload_n 1, 1) := by decide +kernel
theorem dX7_rowEffort_5 : decode cX7_rowEffort 5 = .ok (.bipush 8, 2) := by decide +kernel
theorem dX7_rowEffort_7 : decode cX7_rowEffort 7 = .ok (.if_icmp .ge 12, 3) := by decide +kernel
theorem dX7_rowEffort_10 : decode cX7_rowEffort 10 = .ok (.aload_n 0, 1) := by decide +kernel
theorem dX7_rowEffort_11 : decode cX7_rowEffort 11 = .ok (.getfield 31, 3) := by decide +kernel
theorem dX7_rowEffort_14 : decode cX7_rowEffort 14 = .ok (.iload_n 1, 1) := by decide +kernel
theorem dX7_rowEffort_15 : decode cX7_rowEffort 15 = .ok (.iaload, 1) := by decide +kernel
theorem dX7_rowEffort_16 : decode cX7_rowEffort 16 = .ok (.goto 4, 3) := by decide +kernel
theorem dX7_rowEffort_19 : decode cX7_rowEffort 19 = .ok (.iconst 0, 1) := by decide +kernel
theorem dX7_rowEffort_20 : decode cX7_rowEffort 20 = .ok (.ireturn, 1) := by decide +kernel
theorem dX7_setLine_0 : decode cX7_setLine 0 = .ok (.iload_n 1, 1) := by decide +kernel
theorem dX7_setLine_1 : decode cX7_setLine 1 = .ok (.ifCond .lt 31, 3) := by decide +kernel
theorem dX7_setLine_4 : decode cX7_setLine 4 = .ok (.iload_n 1, 1) := by decide +kernel
theorem dX7_setLine_5 : decode cX7_setLine 5 = .ok (.bipush 8, 2) := by decide +kernel
theorem dX7_setLine_7 : decode cX7_setLine 7 = .ok (.if_icmp .ge 25, 3) := by decide +kernel
theorem dX7_setLine_10 : decode cX7_setLine 10 = .ok (.iload_n 2, 1) := by decide +kernel
theorem dX7_setLine_11 : decode cX7_setLine 11 = .ok (.ifCond .lt 21, 3) := by decide +kernel
theorem dX7_setLine_14 : decode cX7_setLine 14 = .ok (.iload_n 2, 1) := by decide +kernel
theorem dX7_setLine_15 : decode cX7_setLine 15 = .ok (.bipush 8, 2) := by decide +kernel
theorem dX7_setLine_17 : decode cX7_setLine 17 = .ok (.if_icmp .ge 15, 3) := by decide +kernel
theorem dX7_setLine_20 : decode cX7_setLine 20 = .ok (.aload_n 0, 1) := by decide +kernel
theorem dX7_setLine_21 : decode cX7_setLine 21 = .ok (.getfield 28, 3) := by decide +kernel
theorem dX7_setLine_24 : decode cX7_setLine 24 = .ok (.iload_n 1, 1) := by decide +kernel
theorem dX7_setLine_25 : decode cX7_setLine 25 = .ok (.bipush 8, 2) := by decide +kernel
theorem dX7_setLine_27 : decode cX7_setLine 27 = .ok (.imul, 1) := by decide +kernel
theorem dX7_setLine_28 : decode cX7_setLine 28 = .ok (.iload_n 2, 1) := by decide +kernel
theorem dX7_setLine_29 : decode cX7_setLine 29 = .ok (.iadd, 1) := by decide +kernel
theorem dX7_setLine_30 : decode cX7_setLine 30 = .ok (.iload_n 3, 1) := by decide +kernel
theorem dX7_setLine_31 : decode cX7_setLine 31 = .ok (.iastore, 1) := by decide +kernel
theorem dX7_setLine_32 : decode cX7_setLine 32 = .ok (.return_, 1) := by decide +kernel
theorem dX8_init_0 : decode cX8_init 0 = .ok (.aload_n 0, 1) := by decide +kernel
theorem dX8_init_1 : decode cX8_init 1 = .ok (.iload_n 1, 1) := by decide +kernel
theorem dX8_init_2 : decode cX8_init 2 = .ok (.iload_n 2, 1) := by decide +kernel
theorem dX8_init_3 : decode cX8_init 3 = .ok (.invokespecial 1, 3) := by decide +kernel
theorem dX8_init_6 : decode cX8_init 6 = .ok (.return_, 1) := by decide +kernel
theorem dX8_spends_0 : decode cX8_spends 0 = .ok (.aload_n 1, 1) := by decide +kernel
theorem dX8_spends_1 : decode cX8_spends 1 = .ok (.bipush 21, 2) := by decide +kernel
theorem dX8_spends_3 : decode cX8_spends 3 = .ok (.invokevirtual 30, 3) := by decide +kernel
theorem dX8_spends_6 : decode cX8_spends 6 = .ok (.aload_n 0, 1) := by decide +kernel
theorem dX8_spends_7 : decode cX8_spends 7 = .ok (.aload_n 1, 1) := by decide +kernel
theorem dX8_spends_8 : decode cX8_spends 8 = .ok (.iload_n 2, 1) := by decide +kernel
theorem dX8_spends_9 : decode cX8_spends 9 = .ok (.invokespecial 34, 3) := by decide +kernel
theorem dX8_spends_12 : decode cX8_spends 12 = .ok (.ineg, 1) := by decide +kernel
theorem dX8_spends_13 : decode cX8_spends 13 = .ok (.ireturn, 1) := by decide +kernel
theorem dX8_wants_0 : decode cX8_wants 0 = .ok (.aload_n 1, 1) := by decide +kernel
theorem dX8_wants_1 : decode cX8_wants 1 = .ok (.getfield 7, 3) := by decide +kernel
theorem dX8_wants_4 : decode cX8_wants 4 = .ok (.astore 5, 2) := by decide +kernel
theorem dX8_wants_6 : decode cX8_wants 6 = .ok (.aload 5, 2) := by decide +kernel
theorem dX8_wants_8 : decode cX8_wants 8 = .ok (.iload_n 3, 1) := by decide +kernel
theorem dX8_wants_9 : decode cX8_wants 9 = .ok (.invokevirtual 13, 3) := by decide +kernel
theorem dX8_wants_12 : decode cX8_wants 12 = .ok (.ifCond .ne 9, 3) := by decide +kernel
theorem dX8_wants_15 : decode cX8_wants 15 = .ok (.aload 5, 2) := by decide +kernel
theorem dX8_wants_17 : decode cX8_wants 17 = .ok (.getfield 19, 3) := by decide +kernel
theorem dX8_wants_20 : decode cX8_wants 20 = .ok (.ireturn, 1) := by decide +kernel
theorem dX8_wants_21 : decode cX8_wants 21 = .ok (.aload 5, 2) := by decide +kernel
theorem dX8_wants_23 : decode cX8_wants 23 = .ok (.getfield 19, 3) := by decide +kernel
theorem dX8_wants_26 : decode cX8_wants 26 = .ok (.aload 5, 2) := by decide +kernel
theorem dX8_wants_28 : decode cX8_wants 28 = .ok (.getfield 23, 3) := by decide +kernel
theorem dX8_wants_31 : decode cX8_wants 31 = .ok (.iload_n 3, 1) := by decide +kernel
theorem dX8_wants_32 : decode cX8_wants 32 = .ok (.iaload, 1) := by decide +kernel
theorem dX8_wants_33 : decode cX8_wants 33 = .ok (.iadd, 1) := by decide +kernel
theorem dX8_wants_34 : decode cX8_wants 34 = .ok (.aload 5, 2) := by decide +kernel
theorem dX8_wants_36 : decode cX8_wants 36 = .ok (.getfield 27, 3) := by decide +kernel
theorem dX8_wants_39 : decode cX8_wants 39 = .ok (.iload_n 3, 1) := by decide +kernel
theorem dX8_wants_40 : decode cX8_wants 40 = .ok (.iaload, 1) := by decide +kernel
theorem dX8_wants_41 : decode cX8_wants 41 = .ok (.ifCond .le 7, 3) := by decide +kernel
theorem dX8_wants_44 : decode cX8_wants 44 = .ok (.iconst 1, 1) := by decide +kernel
theorem dX8_wants_45 : decode cX8_wants 45 = .ok (.goto 4, 3) := by decide +kernel
theorem dX8_wants_48 : decode cX8_wants 48 = .ok (.iconst 0, 1) := by decide +kernel
theorem dX8_wants_49 : decode cX8_wants 49 = .ok (.iadd, 1) := by decide +kernel
theorem dX8_wants_50 : decode cX8_wants 50 = .ok (.ireturn, 1) := by decide +kernel
theorem dX9_init_0 : decode cX9_init 0 = .ok (.aload_n 0, 1) := by decide +kernel
theorem dX9_init_1 : decode cX9_init 1 = .ok (.iload_n 1, 1) := by decide +kernel
theorem dX9_init_2 : decode cX9_init 2 = .ok (.iload_n 2, 1) := by decide +kernel
theorem dX9_init_3 : decode cX9_init 3 = .ok (.invokespecial 1, 3) := by decide +kernel
theorem dX9_init_6 : decode cX9_init 6 = .ok (.return_, 1) := by decide +kernel
theorem dX9_spends_0 : decode cX9_spends 0 = .ok (.aload_n 1, 1) := by decide +kernel
theorem dX9_spends_1 : decode cX9_spends 1 = .ok (.bipush 61, 2) := by decide +kernel
theorem dX9_spends_3 : decode cX9_spends 3 = .ok (.invokevirtual 23, 3) := by decide +kernel
theorem dX9_spends_6 : decode cX9_spends 6 = .ok (.aload_n 0, 1) := by decide +kernel
theorem dX9_spends_7 : decode cX9_spends 7 = .ok (.aload_n 1, 1) := by decide +kernel
theorem dX9_spends_8 : decode cX9_spends 8 = .ok (.iload_n 2, 1) := by decide +kernel
theorem dX9_spends_9 : decode cX9_spends 9 = .ok (.invokespecial 27, 3) := by decide +kernel
theorem dX9_spends_12 : decode cX9_spends 12 = .ok (.aload_n 0, 1) := by decide +kernel
theorem dX9_spends_13 : decode cX9_spends 13 = .ok (.getfield 31, 3) := by decide +kernel
theorem dX9_spends_16 : decode cX9_spends 16 = .ok (.iadd, 1) := by decide +kernel
theorem dX9_spends_17 : decode cX9_spends 17 = .ok (.ireturn, 1) := by decide +kernel
theorem dX9_wants_0 : decode cX9_wants 0 = .ok (.aload_n 1, 1) := by decide +kernel
theorem dX9_wants_1 : decode cX9_wants 1 = .ok (.aload_n 0, 1) := by decide +kernel
theorem dX9_wants_2 : decode cX9_wants 2 = .ok (.getfield 7, 3) := by decide +kernel
theorem dX9_wants_5 : decode cX9_wants 5 = .ok (.iload_n 3, 1) := by decide +kernel
theorem dX9_wants_6 : decode cX9_wants 6 = .ok (.invokevirtual 13, 3) := by decide +kernel
theorem dX9_wants_9 : decode cX9_wants 9 = .ok (.istore 5, 2) := by decide +kernel
theorem dX9_wants_11 : decode cX9_wants 11 = .ok (.iload 5, 2) := by decide +kernel
theorem dX9_wants_13 : decode cX9_wants 13 = .ok (.ifCond .ge 15, 3) := by decide +kernel
theorem dX9_wants_16 : decode cX9_wants 16 = .ok (.aload_n 0, 1) := by decide +kernel
theorem dX9_wants_17 : decode cX9_wants 17 = .ok (.aload_n 1, 1) := by decide +kernel
theorem dX9_wants_18 : decode cX9_wants 18 = .ok (.aload_n 2, 1) := by decide +kernel
theorem dX9_wants_19 : decode cX9_wants 19 = .ok (.iload_n 3, 1) := by decide +kernel
theorem dX9_wants_20 : decode cX9_wants 20 = .ok (.iload 4, 2) := by decide +kernel
theorem dX9_wants_22 : decode cX9_wants 22 = .ok (.invokespecial 19, 3) := by decide +kernel
theorem dX9_wants_25 : decode cX9_wants 25 = .ok (.goto 5, 3) := by decide +kernel
theorem dX9_wants_28 : decode cX9_wants 28 = .ok (.iload 5, 2) := by decide +kernel
theorem dX9_wants_30 : decode cX9_wants 30 = .ok (.ireturn, 1) := by decide +kernel
