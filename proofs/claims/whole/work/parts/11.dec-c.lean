theorem dX12_act_0 : decode cX12_act 0 = .ok (.aload_n 0, 1) := by decide +kernel
theorem dX12_act_1 : decode cX12_act 1 = .ok (.iconst 0, 1) := by decide +kernel
theorem dX12_act_2 : decode cX12_act 2 = .ok (.putfield 244, 3) := by decide +kernel
theorem dX12_act_5 : decode cX12_act 5 = .ok (.aload_n 0, 1) := by decide +kernel
theorem dX12_act_6 : decode cX12_act 6 = .ok (.iload_n 1, 1) := by decide +kernel
theorem dX12_act_7 : decode cX12_act 7 = .ok (.invokevirtual 188, 3) := by decide +kernel
theorem dX12_act_10 : decode cX12_act 10 = .ok (.ifCond .eq 12, 3) := by decide +kernel
theorem dX12_act_13 : decode cX12_act 13 = .ok (.iload_n 2, 1) := by decide +kernel
theorem dX12_act_14 : decode cX12_act 14 = .ok (.iconst 0, 1) := by decide +kernel
theorem dX12_act_15 : decode cX12_act 15 = .ok (.iconst 2, 1) := by decide +kernel
theorem dX12_act_16 : decode cX12_act 16 = .ok (.invokestatic 44, 3) := by decide +kernel
theorem dX12_act_19 : decode cX12_act 19 = .ok (.ifCond .ne 5, 3) := by decide +kernel
theorem dX12_act_22 : decode cX12_act 22 = .ok (.iconst 0, 1) := by decide +kernel
theorem dX12_act_23 : decode cX12_act 23 = .ok (.ireturn, 1) := by decide +kernel
theorem dX12_act_24 : decode cX12_act 24 = .ok (.aload_n 0, 1) := by decide +kernel
theorem dX12_act_25 : decode cX12_act 25 = .ok (.aload_n 0, 1) := by decide +kernel
theorem dX12_act_26 : decode cX12_act 26 = .ok (.getfield 9, 3) := by decide +kernel
theorem dX12_act_29 : decode cX12_act 29 = .ok (.sipush 130, 3) := by decide +kernel
theorem dX12_act_32 : decode cX12_act 32 = .ok (.iload_n 1, 1) := by decide +kernel
theorem dX12_act_33 : decode cX12_act 33 = .ok (.iadd, 1) := by decide +kernel
theorem dX12_act_34 : decode cX12_act 34 = .ok (.iaload, 1) := by decide +kernel
theorem dX12_act_35 : decode cX12_act 35 = .ok (.putfield 256, 3) := by decide +kernel
theorem dX12_act_38 : decode cX12_act 38 = .ok (.aload_n 0, 1) := by decide +kernel
theorem dX12_act_39 : decode cX12_act 39 = .ok (.iload_n 1, 1) := by decide +kernel
theorem dX12_act_40 : decode cX12_act 40 = .ok (.putfield 250, 3) := by decide +kernel
theorem dX12_act_43 : decode cX12_act 43 = .ok (.aload_n 0, 1) := by decide +kernel
theorem dX12_act_44 : decode cX12_act 44 = .ok (.aload_n 0, 1) := by decide +kernel
theorem dX12_act_45 : decode cX12_act 45 = .ok (.getfield 9, 3) := by decide +kernel
theorem dX12_act_48 : decode cX12_act 48 = .ok (.sipush 138, 3) := by decide +kernel
theorem dX12_act_51 : decode cX12_act 51 = .ok (.iload_n 1, 1) := by decide +kernel
theorem dX12_act_52 : decode cX12_act 52 = .ok (.iadd, 1) := by decide +kernel
theorem dX12_act_53 : decode cX12_act 53 = .ok (.iaload, 1) := by decide +kernel
theorem dX12_act_54 : decode cX12_act 54 = .ok (.putfield 269, 3) := by decide +kernel
theorem dX12_act_57 : decode cX12_act 57 = .ok (.iload_n 2, 1) := by decide +kernel
theorem dX12_act_58 : decode cX12_act 58 = .ok (.ifCond .ne 11, 3) := by decide +kernel
theorem dX12_act_61 : decode cX12_act 61 = .ok (.aload_n 0, 1) := by decide +kernel
theorem dX12_act_62 : decode cX12_act 62 = .ok (.iload_n 3, 1) := by decide +kernel
theorem dX12_act_63 : decode cX12_act 63 = .ok (.invokevirtual 266, 3) := by decide +kernel
theorem dX12_act_66 : decode cX12_act 66 = .ok (.goto 21, 3) := by decide +kernel
theorem dX12_act_69 : decode cX12_act 69 = .ok (.iload_n 2, 1) := by decide +kernel
theorem dX12_act_70 : decode cX12_act 70 = .ok (.iconst 1, 1) := by decide +kernel
theorem dX12_act_71 : decode cX12_act 71 = .ok (.if_icmp .ne 11, 3) := by decide +kernel
theorem dX12_act_74 : decode cX12_act 74 = .ok (.aload_n 0, 1) := by decide +kernel
theorem dX12_act_75 : decode cX12_act 75 = .ok (.iload_n 3, 1) := by decide +kernel
theorem dX12_act_76 : decode cX12_act 76 = .ok (.invokevirtual 278, 3) := by decide +kernel
theorem dX12_act_79 : decode cX12_act 79 = .ok (.goto 8, 3) := by decide +kernel
theorem dX12_act_82 : decode cX12_act 82 = .ok (.aload_n 0, 1) := by decide +kernel
theorem dX12_act_83 : decode cX12_act 83 = .ok (.iload_n 3, 1) := by decide +kernel
theorem dX12_act_84 : decode cX12_act 84 = .ok (.invokevirtual 284, 3) := by decide +kernel
theorem dX12_act_87 : decode cX12_act 87 = .ok (.ireturn, 1) := by decide +kernel
theorem dX12_among_0 : decode cX12_among 0 = .ok (.iconst 0, 1) := by decide +kernel
theorem dX12_among_1 : decode cX12_among 1 = .ok (.istore_n 2, 1) := by decide +kernel
theorem dX12_among_2 : decode cX12_among 2 = .ok (.iload_n 2, 1) := by decide +kernel
theorem dX12_among_3 : decode cX12_among 3 = .ok (.aload_n 1, 1) := by decide +kernel
theorem dX12_among_4 : decode cX12_among 4 = .ok (.invokevirtual 74, 3) := by decide +kernel
theorem dX12_among_7 : decode cX12_among 7 = .ok (.if_icmp .ge 33, 3) := by decide +kernel
theorem dX12_among_10 : decode cX12_among 10 = .ok (.aload_n 0, 1) := by decide +kernel
theorem dX12_among_11 : decode cX12_among 11 = .ok (.invokevirtual 71, 3) := by decide +kernel
theorem dX12_among_14 : decode cX12_among 14 = .ok (.aload_n 1, 1) := by decide +kernel
theorem dX12_among_15 : decode cX12_among 15 = .ok (.iload_n 2, 1) := by decide +kernel
theorem dX12_among_16 : decode cX12_among 16 = .ok (.invokevirtual 79, 3) := by decide +kernel
theorem dX12_among_19 : decode cX12_among 19 = .ok (.if_icmp .ne 15, 3) := by decide +kernel
theorem dX12_among_22 : decode cX12_among 22 = .ok (.aload_n 0, 1) := by decide +kernel
theorem dX12_among_23 : decode cX12_among 23 = .ok (.dup, 1) := by decide +kernel
theorem dX12_among_24 : decode cX12_among 24 = .ok (.getfield 61, 3) := by decide +kernel
theorem dX12_among_27 : decode cX12_among 27 = .ok (.iconst 1, 1) := by decide +kernel
theorem dX12_among_28 : decode cX12_among 28 = .ok (.iadd, 1) := by decide +kernel
theorem dX12_among_29 : decode cX12_among 29 = .ok (.putfield 61, 3) := by decide +kernel
theorem dX12_among_32 : decode cX12_among 32 = .ok (.iload_n 2, 1) := by decide +kernel
theorem dX12_among_33 : decode cX12_among 33 = .ok (.ireturn, 1) := by decide +kernel
theorem dX12_among_34 : decode cX12_among 34 = .ok (.iinc 2 1, 3) := by decide +kernel
theorem dX12_among_37 : decode cX12_among 37 = .ok (.goto (-35), 3) := by decide +kernel
theorem dX12_among_40 : decode cX12_among 40 = .ok (.iconst (-1), 1) := by decide +kernel
theorem dX12_among_41 : decode cX12_among 41 = .ok (.ireturn, 1) := by decide +kernel
theorem dX12_as_0 : decode cX12_as 0 = .ok (.aload_n 0, 1) := by decide +kernel
theorem dX12_as_1 : decode cX12_as 1 = .ok (.iload_n 1, 1) := by decide +kernel
theorem dX12_as_2 : decode cX12_as 2 = .ok (.invokevirtual 188, 3) := by decide +kernel
theorem dX12_as_5 : decode cX12_as 5 = .ok (.ifCond .eq 13, 3) := by decide +kernel
theorem dX12_as_8 : decode cX12_as 8 = .ok (.iload_n 2, 1) := by decide +kernel
theorem dX12_as_9 : decode cX12_as 9 = .ok (.iconst 0, 1) := by decide +kernel
theorem dX12_as_10 : decode cX12_as 10 = .ok (.bipush 6, 2) := by decide +kernel
theorem dX12_as_12 : decode cX12_as 12 = .ok (.invokestatic 44, 3) := by decide +kernel
theorem dX12_as_15 : decode cX12_as 15 = .ok (.ifCond .ne 5, 3) := by decide +kernel
theorem dX12_as_18 : decode cX12_as 18 = .ok (.iconst (-1), 1) := by decide +kernel
theorem dX12_as_19 : decode cX12_as 19 = .ok (.ireturn, 1) := by decide +kernel
theorem dX12_as_20 : decode cX12_as 20 = .ok (.aload_n 0, 1) := by decide +kernel
theorem dX12_as_21 : decode cX12_as 21 = .ok (.getfield 9, 3) := by decide +kernel
theorem dX12_as_24 : decode cX12_as 24 = .ok (.sipush 130, 3) := by decide +kernel
theorem dX12_as_27 : decode cX12_as 27 = .ok (.iload_n 1, 1) := by decide +kernel
theorem dX12_as_28 : decode cX12_as 28 = .ok (.iadd, 1) := by decide +kernel
theorem dX12_as_29 : decode cX12_as 29 = .ok (.iaload, 1) := by decide +kernel
theorem dX12_as_30 : decode cX12_as 30 = .ok (.iload_n 2, 1) := by decide +kernel
theorem dX12_as_31 : decode cX12_as 31 = .ok (.invokestatic 262, 3) := by decide +kernel
theorem dX12_as_34 : decode cX12_as 34 = .ok (.ifCond .eq 16, 3) := by decide +kernel
theorem dX12_as_37 : decode cX12_as 37 = .ok (.aload_n 0, 1) := by decide +kernel
theorem dX12_as_38 : decode cX12_as 38 = .ok (.getfield 9, 3) := by decide +kernel
theorem dX12_as_41 : decode cX12_as 41 = .ok (.sipush 138, 3) := by decide +kernel
theorem dX12_as_44 : decode cX12_as 44 = .ok (.iload_n 1, 1) := by decide +kernel
theorem dX12_as_45 : decode cX12_as 45 = .ok (.iadd, 1) := by decide +kernel
theorem dX12_as_46 : decode cX12_as 46 = .ok (.iaload, 1) := by decide +kernel
theorem dX12_as_47 : decode cX12_as 47 = .ok (.goto 5, 3) := by decide +kernel
theorem dX12_as_50 : decode cX12_as 50 = .ok (.bipush (-6), 2) := by decide +kernel
theorem dX12_as_52 : decode cX12_as 52 = .ok (.ireturn, 1) := by decide +kernel
theorem dX12_bar_0 : decode cX12_bar 0 = .ok (.aload_n 0, 1) := by decide +kernel
theorem dX12_bar_1 : decode cX12_bar 1 = .ok (.sipush 223, 3) := by decide +kernel
theorem dX12_bar_4 : decode cX12_bar 4 = .ok (.iconst 4, 1) := by decide +kernel
theorem dX12_bar_5 : decode cX12_bar 5 = .ok (.invokevirtual 52, 3) := by decide +kernel
theorem dX12_bar_8 : decode cX12_bar 8 = .ok (.ireturn, 1) := by decide +kernel
theorem dX12_behind_0 : decode cX12_behind 0 = .ok (.iload_n 2, 1) := by decide +kernel
theorem dX12_behind_1 : decode cX12_behind 1 = .ok (.aload_n 0, 1) := by decide +kernel
theorem dX12_behind_2 : decode cX12_behind 2 = .ok (.invokevirtual 166, 3) := by decide +kernel
theorem dX12_behind_5 : decode cX12_behind 5 = .ok (.if_icmp .le 18, 3) := by decide +kernel
theorem dX12_behind_8 : decode cX12_behind 8 = .ok (.iload_n 3, 1) := by decide +kernel
theorem dX12_behind_9 : decode cX12_behind 9 = .ok (.aload_n 0, 1) := by decide +kernel
theorem dX12_behind_10 : decode cX12_behind 10 = .ok (.iload_n 1, 1) := by decide +kernel
theorem dX12_behind_11 : decode cX12_behind 11 = .ok (.invokevirtual 155, 3) := by decide +kernel
theorem dX12_behind_14 : decode cX12_behind 14 = .ok (.iload_n 2, 1) := by decide +kernel
theorem dX12_behind_15 : decode cX12_behind 15 = .ok (.aload_n 0, 1) := by decide +kernel
theorem dX12_behind_16 : decode cX12_behind 16 = .ok (.invokevirtual 166, 3) := by decide +kernel
theorem dX12_behind_19 : decode cX12_behind 19 = .ok (.isub, 1) := by decide +kernel
theorem dX12_behind_20 : decode cX12_behind 20 = .ok (.imul, 1) := by decide +kernel
theorem dX12_behind_21 : decode cX12_behind 21 = .ok (.isub, 1) := by decide +kernel
theorem dX12_behind_22 : decode cX12_behind 22 = .ok (.ireturn, 1) := by decide +kernel
theorem dX12_behind_23 : decode cX12_behind 23 = .ok (.iload_n 3, 1) := by decide +kernel
theorem dX12_behind_24 : decode cX12_behind 24 = .ok (.aload_n 0, 1) := by decide +kernel
theorem dX12_behind_25 : decode cX12_behind 25 = .ok (.iload_n 1, 1) := by decide +kernel
theorem dX12_behind_26 : decode cX12_behind 26 = .ok (.invokevirtual 155, 3) := by decide +kernel
theorem dX12_behind_29 : decode cX12_behind 29 = .ok (.aload_n 0, 1) := by decide +kernel
theorem dX12_behind_30 : decode cX12_behind 30 = .ok (.invokevirtual 166, 3) := by decide +kernel
theorem dX12_behind_33 : decode cX12_behind 33 = .ok (.iload_n 2, 1) := by decide +kernel
theorem dX12_behind_34 : decode cX12_behind 34 = .ok (.isub, 1) := by decide +kernel
theorem dX12_behind_35 : decode cX12_behind 35 = .ok (.imul, 1) := by decide +kernel
theorem dX12_behind_36 : decode cX12_behind 36 = .ok (.aload_n 0, 1) := by decide +kernel
theorem dX12_behind_37 : decode cX12_behind 37 = .ok (.sipush 233, 3) := by decide +kernel
theorem dX12_behind_40 : decode cX12_behind 40 = .ok (.iconst 5, 1) := by decide +kernel
theorem dX12_behind_41 : decode cX12_behind 41 = .ok (.invokevirtual 52, 3) := by decide +kernel
theorem dX12_behind_44 : decode cX12_behind 44 = .ok (.imul, 1) := by decide +kernel
theorem dX12_behind_45 : decode cX12_behind 45 = .ok (.bipush 10, 2) := by decide +kernel
theorem dX12_behind_47 : decode cX12_behind 47 = .ok (.idiv, 1) := by decide +kernel
theorem dX12_behind_48 : decode cX12_behind 48 = .ok (.iadd, 1) := by decide +kernel
theorem dX12_behind_49 : decode cX12_behind 49 = .ok (.istore 4, 2) := by decide +kernel
theorem dX12_behind_51 : decode cX12_behind 51 = .ok (.iload 4, 2) := by decide +kernel
theorem dX12_behind_53 : decode cX12_behind 53 = .ok (.aload_n 0, 1) := by decide +kernel
theorem dX12_behind_54 : decode cX12_behind 54 = .ok (.invokevirtual 56, 3) := by decide +kernel
theorem dX12_behind_57 : decode cX12_behind 57 = .ok (.if_icmp .le 10, 3) := by decide +kernel
theorem dX12_behind_60 : decode cX12_behind 60 = .ok (.aload_n 0, 1) := by decide +kernel
theorem dX12_behind_61 : decode cX12_behind 61 = .ok (.invokevirtual 56, 3) := by decide +kernel
theorem dX12_behind_64 : decode cX12_behind 64 = .ok (.goto 5, 3) := by decide +kernel
theorem dX12_behind_67 : decode cX12_behind 67 = .ok (.iload 4, 2) := by decide +kernel
theorem dX12_behind_69 : decode cX12_behind 69 = .ok (.ireturn, 1) := by decide +kernel
theorem dX12_bend_0 : decode cX12_bend 0 = .ok (.aload_n 0, 1) := by decide +kernel
theorem dX12_bend_1 : decode cX12_bend 1 = .ok (.getfield 9, 3) := by decide +kernel
theorem dX12_bend_4 : decode cX12_bend 4 = .ok (.sipush 363, 3) := by decide +kernel
theorem dX12_bend_7 : decode cX12_bend 7 = .ok (.bipush 10, 2) := by decide +kernel
theorem dX12_bend_9 : decode cX12_bend 9 = .ok (.aload_n 0, 1) := by decide +kernel
theorem dX12_bend_10 : decode cX12_bend 10 = .ok (.getfield 9, 3) := by decide +kernel
theorem dX12_bend_13 : decode cX12_bend 13 = .ok (.iconst 4, 1) := by decide +kernel
theorem dX12_bend_14 : decode cX12_bend 14 = .ok (.iaload, 1) := by decide +kernel
theorem dX12_bend_15 : decode cX12_bend 15 = .ok (.imul, 1) := by decide +kernel
theorem dX12_bend_16 : decode cX12_bend 16 = .ok (.iadd, 1) := by decide +kernel
theorem dX12_bend_17 : decode cX12_bend 17 = .ok (.iload_n 1, 1) := by decide +kernel
theorem dX12_bend_18 : decode cX12_bend 18 = .ok (.iadd, 1) := by decide +kernel
theorem dX12_bend_19 : decode cX12_bend 19 = .ok (.iaload, 1) := by decide +kernel
theorem dX12_bend_20 : decode cX12_bend 20 = .ok (.istore_n 2, 1) := by decide +kernel
theorem dX12_bend_21 : decode cX12_bend 21 = .ok (.iload_n 2, 1) := by decide +kernel
theorem dX12_bend_22 : decode cX12_bend 22 = .ok (.ifCond .ne 7, 3) := by decide +kernel
theorem dX12_bend_25 : decode cX12_bend 25 = .ok (.iconst 1, 1) := by decide +kernel
theorem dX12_bend_26 : decode cX12_bend 26 = .ok (.goto 4, 3) := by decide +kernel
theorem dX12_bend_29 : decode cX12_bend 29 = .ok (.iload_n 2, 1) := by decide +kernel
theorem dX12_bend_30 : decode cX12_bend 30 = .ok (.ireturn, 1) := by decide +kernel
theorem dX12_by_0 : decode cX12_by 0 = .ok (.iload_n 1, 1) := by decide +kernel
theorem dX12_by_1 : decode cX12_by 1 = .ok (.iconst 0, 1) := by decide +kernel
theorem dX12_by_2 : decode cX12_by 2 = .ok (.sipush 1023, 3) := by decide +kernel
theorem dX12_by_5 : decode cX12_by 5 = .ok (.invokestatic 44, 3) := by decide +kernel
theorem dX12_by_8 : decode cX12_by 8 = .ok (.ifCond .ne 6, 3) := by decide +kernel
theorem dX12_by_11 : decode cX12_by 11 = .ok (.bipush (-2), 2) := by decide +kernel
theorem dX12_by_13 : decode cX12_by 13 = .ok (.ireturn, 1) := by decide +kernel
theorem dX12_by_14 : decode cX12_by 14 = .ok (.aload_n 0, 1) := by decide +kernel
theorem dX12_by_15 : decode cX12_by 15 = .ok (.invokevirtual 48, 3) := by decide +kernel
theorem dX12_by_18 : decode cX12_by 18 = .ok (.ifCond .ne 8, 3) := by decide +kernel
theorem dX12_by_21 : decode cX12_by 21 = .ok (.bipush (-3), 2) := by decide +kernel
theorem dX12_by_23 : decode cX12_by 23 = .ok (.goto 8, 3) := by decide +kernel
theorem dX12_by_26 : decode cX12_by 26 = .ok (.aload_n 0, 1) := by decide +kernel
theorem dX12_by_27 : decode cX12_by 27 = .ok (.iload_n 1, 1) := by decide +kernel
theorem dX12_by_28 : decode cX12_by 28 = .ok (.invokevirtual 241, 3) := by decide +kernel
theorem dX12_by_31 : decode cX12_by 31 = .ok (.ireturn, 1) := by decide +kernel
theorem dX12_clauseHere_0 : decode cX12_clauseHere 0 = .ok (.aload_n 0, 1) := by decide +kernel
theorem dX12_clauseHere_1 : decode cX12_clauseHere 1 = .ok (.invokevirtual 71, 3) := by decide +kernel
theorem dX12_clauseHere_4 : decode cX12_clauseHere 4 = .ok (.lookupswitch 126 #[(98, 59), (101, 66), (104, 112), (112, 52), (115, 98)], 52) := by decide +kernel
theorem dX12_clauseHere_56 : decode cX12_clauseHere 56 = .ok (.aload_n 0, 1) := by decide +kernel
theorem dX12_clauseHere_57 : decode cX12_clauseHere 57 = .ok (.invokevirtual 136, 3) := by decide +kernel
theorem dX12_clauseHere_60 : decode cX12_clauseHere 60 = .ok (.goto 75, 3) := by decide +kernel
theorem dX12_clauseHere_63 : decode cX12_clauseHere 63 = .ok (.aload_n 0, 1) := by decide +kernel
theorem dX12_clauseHere_64 : decode cX12_clauseHere 64 = .ok (.invokevirtual 139, 3) := by decide +kernel
theorem dX12_clauseHere_67 : decode cX12_clauseHere 67 = .ok (.goto 68, 3) := by decide +kernel
theorem dX12_clauseHere_70 : decode cX12_clauseHere 70 = .ok (.aload_n 0, 1) := by decide +kernel
theorem dX12_clauseHere_71 : decode cX12_clauseHere 71 = .ok (.ldc 142, 2) := by decide +kernel
theorem dX12_clauseHere_73 : decode cX12_clauseHere 73 = .ok (.invokevirtual 118, 3) := by decide +kernel
theorem dX12_clauseHere_76 : decode cX12_clauseHere 76 = .ok (.aload_n 0, 1) := by decide +kernel
theorem dX12_clauseHere_77 : decode cX12_clauseHere 77 = .ok (.invokevirtual 110, 3) := by decide +kernel
theorem dX12_clauseHere_80 : decode cX12_clauseHere 80 = .ok (.istore_n 1, 1) := by decide +kernel
theorem dX12_clauseHere_81 : decode cX12_clauseHere 81 = .ok (.aload_n 0, 1) := by decide +kernel
theorem dX12_clauseHere_82 : decode cX12_clauseHere 82 = .ok (.bipush 32, 2) := by decide +kernel
theorem dX12_clauseHere_84 : decode cX12_clauseHere 84 = .ok (.invokevirtual 83, 3) := by decide +kernel
theorem dX12_clauseHere_87 : decode cX12_clauseHere 87 = .ok (.aload_n 0, 1) := by decide +kernel
theorem dX12_clauseHere_88 : decode cX12_clauseHere 88 = .ok (.invokevirtual 99, 3) := by decide +kernel
theorem dX12_clauseHere_91 : decode cX12_clauseHere 91 = .ok (.aload_n 0, 1) := by decide +kernel
theorem dX12_clauseHere_92 : decode cX12_clauseHere 92 = .ok (.bipush (-10), 2) := by decide +kernel
theorem dX12_clauseHere_94 : decode cX12_clauseHere 94 = .ok (.iload_n 1, 1) := by decide +kernel
theorem dX12_clauseHere_95 : decode cX12_clauseHere 95 = .ok (.isub, 1) := by decide +kernel
theorem dX12_clauseHere_96 : decode cX12_clauseHere 96 = .ok (.invokevirtual 96, 3) := by decide +kernel
theorem dX12_clauseHere_99 : decode cX12_clauseHere 99 = .ok (.goto 36, 3) := by decide +kernel
theorem dX12_clauseHere_102 : decode cX12_clauseHere 102 = .ok (.aload_n 0, 1) := by decide +kernel
theorem dX12_clauseHere_103 : decode cX12_clauseHere 103 = .ok (.sipush 228, 3) := by decide +kernel
theorem dX12_clauseHere_106 : decode cX12_clauseHere 106 = .ok (.ldc 144, 2) := by decide +kernel
theorem dX12_clauseHere_108 : decode cX12_clauseHere 108 = .ok (.bipush 60, 2) := by decide +kernel
theorem dX12_clauseHere_110 : decode cX12_clauseHere 110 = .ok (.invokevirtual 130, 3) := by decide +kernel
theorem dX12_clauseHere_113 : decode cX12_clauseHere 113 = .ok (.goto 22, 3) := by decide +kernel
theorem dX12_clauseHere_116 : decode cX12_clauseHere 116 = .ok (.aload_n 0, 1) := by decide +kernel
theorem dX12_clauseHere_117 : decode cX12_clauseHere 117 = .ok (.sipush 238, 3) := by decide +kernel
theorem dX12_clauseHere_120 : decode cX12_clauseHere 120 = .ok (.ldc 146, 2) := by decide +kernel
theorem dX12_clauseHere_122 : decode cX12_clauseHere 122 = .ok (.bipush 10, 2) := by decide +kernel
theorem dX12_clauseHere_124 : decode cX12_clauseHere 124 = .ok (.invokevirtual 130, 3) := by decide +kernel
theorem dX12_clauseHere_127 : decode cX12_clauseHere 127 = .ok (.goto 8, 3) := by decide +kernel
theorem dX12_clauseHere_130 : decode cX12_clauseHere 130 = .ok (.aload_n 0, 1) := by decide +kernel
theorem dX12_clauseHere_131 : decode cX12_clauseHere 131 = .ok (.iconst 1, 1) := by decide +kernel
theorem dX12_clauseHere_132 : decode cX12_clauseHere 132 = .ok (.putfield 67, 3) := by decide +kernel
theorem dX12_clauseHere_135 : decode cX12_clauseHere 135 = .ok (.return_, 1) := by decide +kernel
theorem dX12_clauseOfB_0 : decode cX12_clauseOfB 0 = .ok (.aload_n 0, 1) := by decide +kernel
theorem dX12_clauseOfB_1 : decode cX12_clauseOfB 1 = .ok (.bipush 98, 2) := by decide +kernel
theorem dX12_clauseOfB_3 : decode cX12_clauseOfB 3 = .ok (.invokevirtual 83, 3) := by decide +kernel
theorem dX12_clauseOfB_6 : decode cX12_clauseOfB 6 = .ok (.aload_n 0, 1) := by decide +kernel
theorem dX12_clauseOfB_7 : decode cX12_clauseOfB 7 = .ok (.invokevirtual 71, 3) := by decide +kernel
theorem dX12_clauseOfB_10 : decode cX12_clauseOfB 10 = .ok (.bipush 101, 2) := by decide +kernel
theorem dX12_clauseOfB_12 : decode cX12_clauseOfB 12 = .ok (.if_icmp .ne 53, 3) := by decide +kernel
theorem dX12_clauseOfB_15 : decode cX12_clauseOfB 15 = .ok (.aload_n 0, 1) := by decide +kernel
theorem dX12_clauseOfB_16 : decode cX12_clauseOfB 16 = .ok (.ldc 126, 2) := by decide +kernel
theorem dX12_clauseOfB_18 : decode cX12_clauseOfB 18 = .ok (.invokevirtual 118, 3) := by decide +kernel
theorem dX12_clauseOfB_21 : decode cX12_clauseOfB 21 = .ok (.aload_n 0, 1) := by decide +kernel
theorem dX12_clauseOfB_22 : decode cX12_clauseOfB 22 = .ok (.iconst 0, 1) := by decide +kernel
theorem dX12_clauseOfB_23 : decode cX12_clauseOfB 23 = .ok (.invokevirtual 122, 3) := by decide +kernel
theorem dX12_clauseOfB_26 : decode cX12_clauseOfB 26 = .ok (.istore_n 1, 1) := by decide +kernel
theorem dX12_clauseOfB_27 : decode cX12_clauseOfB 27 = .ok (.aload_n 0, 1) := by decide +kernel
theorem dX12_clauseOfB_28 : decode cX12_clauseOfB 28 = .ok (.bipush 32, 2) := by decide +kernel
theorem dX12_clauseOfB_30 : decode cX12_clauseOfB 30 = .ok (.invokevirtual 83, 3) := by decide +kernel
theorem dX12_clauseOfB_33 : decode cX12_clauseOfB 33 = .ok (.aload_n 0, 1) := by decide +kernel
theorem dX12_clauseOfB_34 : decode cX12_clauseOfB 34 = .ok (.invokevirtual 110, 3) := by decide +kernel
theorem dX12_clauseOfB_37 : decode cX12_clauseOfB 37 = .ok (.istore_n 2, 1) := by decide +kernel
theorem dX12_clauseOfB_38 : decode cX12_clauseOfB 38 = .ok (.aload_n 0, 1) := by decide +kernel
theorem dX12_clauseOfB_39 : decode cX12_clauseOfB 39 = .ok (.getfield 67, 3) := by decide +kernel
theorem dX12_clauseOfB_42 : decode cX12_clauseOfB 42 = .ok (.ifCond .ne 22, 3) := by decide +kernel
theorem dX12_clauseOfB_45 : decode cX12_clauseOfB 45 = .ok (.aload_n 0, 1) := by decide +kernel
theorem dX12_clauseOfB_46 : decode cX12_clauseOfB 46 = .ok (.getfield 9, 3) := by decide +kernel
theorem dX12_clauseOfB_49 : decode cX12_clauseOfB 49 = .ok (.sipush 363, 3) := by decide +kernel
theorem dX12_clauseOfB_52 : decode cX12_clauseOfB 52 = .ok (.bipush 10, 2) := by decide +kernel
theorem dX12_clauseOfB_54 : decode cX12_clauseOfB 54 = .ok (.aload_n 0, 1) := by decide +kernel
theorem dX12_clauseOfB_55 : decode cX12_clauseOfB 55 = .ok (.getfield 87, 3) := by decide +kernel
theorem dX12_clauseOfB_58 : decode cX12_clauseOfB 58 = .ok (.imul, 1) := by decide +kernel
theorem dX12_clauseOfB_59 : decode cX12_clauseOfB 59 = .ok (.iadd, 1) := by decide +kernel
theorem dX12_clauseOfB_60 : decode cX12_clauseOfB 60 = .ok (.iload_n 1, 1) := by decide +kernel
theorem dX12_clauseOfB_61 : decode cX12_clauseOfB 61 = .ok (.iadd, 1) := by decide +kernel
theorem dX12_clauseOfB_62 : decode cX12_clauseOfB 62 = .ok (.iload_n 2, 1) := by decide +kernel
theorem dX12_clauseOfB_63 : decode cX12_clauseOfB 63 = .ok (.iastore, 1) := by decide +kernel
theorem dX12_clauseOfB_64 : decode cX12_clauseOfB 64 = .ok (.return_, 1) := by decide +kernel
theorem dX12_clauseOfB_65 : decode cX12_clauseOfB 65 = .ok (.aload_n 0, 1) := by decide +kernel
theorem dX12_clauseOfB_66 : decode cX12_clauseOfB 66 = .ok (.bipush 97, 2) := by decide +kernel
theorem dX12_clauseOfB_68 : decode cX12_clauseOfB 68 = .ok (.invokevirtual 83, 3) := by decide +kernel
theorem dX12_clauseOfB_71 : decode cX12_clauseOfB 71 = .ok (.aload_n 0, 1) := by decide +kernel
theorem dX12_clauseOfB_72 : decode cX12_clauseOfB 72 = .ok (.invokevirtual 71, 3) := by decide +kernel
theorem dX12_clauseOfB_75 : decode cX12_clauseOfB 75 = .ok (.bipush 114, 2) := by decide +kernel
theorem dX12_clauseOfB_77 : decode cX12_clauseOfB 77 = .ok (.if_icmp .ne 17, 3) := by decide +kernel
theorem dX12_clauseOfB_80 : decode cX12_clauseOfB 80 = .ok (.aload_n 0, 1) := by decide +kernel
theorem dX12_clauseOfB_81 : decode cX12_clauseOfB 81 = .ok (.sipush 223, 3) := by decide +kernel
theorem dX12_clauseOfB_84 : decode cX12_clauseOfB 84 = .ok (.ldc 128, 2) := by decide +kernel
theorem dX12_clauseOfB_86 : decode cX12_clauseOfB 86 = .ok (.bipush 9, 2) := by decide +kernel
theorem dX12_clauseOfB_88 : decode cX12_clauseOfB 88 = .ok (.invokevirtual 130, 3) := by decide +kernel
theorem dX12_clauseOfB_91 : decode cX12_clauseOfB 91 = .ok (.goto 14, 3) := by decide +kernel
theorem dX12_clauseOfB_94 : decode cX12_clauseOfB 94 = .ok (.aload_n 0, 1) := by decide +kernel
theorem dX12_clauseOfB_95 : decode cX12_clauseOfB 95 = .ok (.sipush 233, 3) := by decide +kernel
theorem dX12_clauseOfB_98 : decode cX12_clauseOfB 98 = .ok (.ldc 134, 2) := by decide +kernel
theorem dX12_clauseOfB_100 : decode cX12_clauseOfB 100 = .ok (.bipush 99, 2) := by decide +kernel
theorem dX12_clauseOfB_102 : decode cX12_clauseOfB 102 = .ok (.invokevirtual 130, 3) := by decide +kernel
theorem dX12_clauseOfB_105 : decode cX12_clauseOfB 105 = .ok (.return_, 1) := by decide +kernel
theorem dX12_count_0 : decode cX12_count 0 = .ok (.iload_n 1, 1) := by decide +kernel
theorem dX12_count_1 : decode cX12_count 1 = .ok (.tableswitch 77 0 5 #[39, 44, 51, 58, 65, 72], 39) := by decide +kernel
theorem dX12_count_40 : decode cX12_count 40 = .ok (.aload_n 0, 1) := by decide +kernel
theorem dX12_count_41 : decode cX12_count 41 = .ok (.invokevirtual 48, 3) := by decide +kernel
theorem dX12_count_44 : decode cX12_count 44 = .ok (.ireturn, 1) := by decide +kernel
theorem dX12_count_45 : decode cX12_count 45 = .ok (.aload_n 0, 1) := by decide +kernel
theorem dX12_count_46 : decode cX12_count 46 = .ok (.getfield 9, 3) := by decide +kernel
theorem dX12_count_49 : decode cX12_count 49 = .ok (.iconst 0, 1) := by decide +kernel
theorem dX12_count_50 : decode cX12_count 50 = .ok (.iaload, 1) := by decide +kernel
theorem dX12_count_51 : decode cX12_count 51 = .ok (.ireturn, 1) := by decide +kernel
theorem dX12_count_52 : decode cX12_count 52 = .ok (.aload_n 0, 1) := by decide +kernel
theorem dX12_count_53 : decode cX12_count 53 = .ok (.getfield 9, 3) := by decide +kernel
theorem dX12_count_56 : decode cX12_count 56 = .ok (.iconst 1, 1) := by decide +kernel
theorem dX12_count_57 : decode cX12_count 57 = .ok (.iaload, 1) := by decide +kernel
theorem dX12_count_58 : decode cX12_count 58 = .ok (.ireturn, 1) := by decide +kernel
theorem dX12_count_59 : decode cX12_count 59 = .ok (.aload_n 0, 1) := by decide +kernel
theorem dX12_count_60 : decode cX12_count 60 = .ok (.getfield 9, 3) := by decide +kernel
theorem dX12_count_63 : decode cX12_count 63 = .ok (.iconst 2, 1) := by decide +kernel
theorem dX12_count_64 : decode cX12_count 64 = .ok (.iaload, 1) := by decide +kernel
theorem dX12_count_65 : decode cX12_count 65 = .ok (.ireturn, 1) := by decide +kernel
theorem dX12_count_66 : decode cX12_count 66 = .ok (.aload_n 0, 1) := by decide +kernel
theorem dX12_count_67 : decode cX12_count 67 = .ok (.getfield 9, 3) := by decide +kernel
theorem dX12_count_70 : decode cX12_count 70 = .ok (.iconst 3, 1) := by decide +kernel
theorem dX12_count_71 : decode cX12_count 71 = .ok (.iaload, 1) := by decide +kernel
theorem dX12_count_72 : decode cX12_count 72 = .ok (.ireturn, 1) := by decide +kernel
theorem dX12_count_73 : decode cX12_count 73 = .ok (.aload_n 0, 1) := by decide +kernel
theorem dX12_count_74 : decode cX12_count 74 = .ok (.getfield 244, 3) := by decide +kernel
theorem dX12_count_77 : decode cX12_count 77 = .ok (.ireturn, 1) := by decide +kernel
theorem dX12_count_78 : decode cX12_count 78 = .ok (.iconst (-1), 1) := by decide +kernel
theorem dX12_count_79 : decode cX12_count 79 = .ok (.ireturn, 1) := by decide +kernel
theorem dX12_count1_0 : decode cX12_count1 0 = .ok (.iconst 0, 1) := by decide +kernel
theorem dX12_count1_1 : decode cX12_count1 1 = .ok (.istore_n 1, 1) := by decide +kernel
theorem dX12_count1_2 : decode cX12_count1 2 = .ok (.iconst 0, 1) := by decide +kernel
theorem dX12_count1_3 : decode cX12_count1 3 = .ok (.istore_n 2, 1) := by decide +kernel
theorem dX12_count1_4 : decode cX12_count1 4 = .ok (.iload_n 2, 1) := by decide +kernel
theorem dX12_count1_5 : decode cX12_count1 5 = .ok (.bipush 10, 2) := by decide +kernel
theorem dX12_count1_7 : decode cX12_count1 7 = .ok (.if_icmp .ge 17, 3) := by decide +kernel
theorem dX12_count1_10 : decode cX12_count1 10 = .ok (.iload_n 1, 1) := by decide +kernel
theorem dX12_count1_11 : decode cX12_count1 11 = .ok (.iload_n 0, 1) := by decide +kernel
theorem dX12_count1_12 : decode cX12_count1 12 = .ok (.iload_n 2, 1) := by decide +kernel
theorem dX12_count1_13 : decode cX12_count1 13 = .ok (.ishr, 1) := by decide +kernel
theorem dX12_count1_14 : decode cX12_count1 14 = .ok (.iconst 1, 1) := by decide +kernel
theorem dX12_count1_15 : decode cX12_count1 15 = .ok (.iand, 1) := by decide +kernel
theorem dX12_count1_16 : decode cX12_count1 16 = .ok (.iadd, 1) := by decide +kernel
theorem dX12_count1_17 : decode cX12_count1 17 = .ok (.istore_n 1, 1) := by decide +kernel
theorem dX12_count1_18 : decode cX12_count1 18 = .ok (.iinc 2 1, 3) := by decide +kernel
theorem dX12_count1_21 : decode cX12_count1 21 = .ok (.goto (-17), 3) := by decide +kernel
theorem dX12_count1_24 : decode cX12_count1 24 = .ok (.iload_n 1, 1) := by decide +kernel
theorem dX12_count1_25 : decode cX12_count1 25 = .ok (.ireturn, 1) := by decide +kernel
theorem dX12_counts_0 : decode cX12_counts 0 = .ok (.iload_n 1, 1) := by decide +kernel
theorem dX12_counts_1 : decode cX12_counts 1 = .ok (.ifCond .ne 7, 3) := by decide +kernel
theorem dX12_counts_4 : decode cX12_counts 4 = .ok (.iload_n 0, 1) := by decide +kernel
theorem dX12_counts_5 : decode cX12_counts 5 = .ok (.goto 15, 3) := by decide +kernel
theorem dX12_counts_8 : decode cX12_counts 8 = .ok (.iload_n 0, 1) := by decide +kernel
theorem dX12_counts_9 : decode cX12_counts 9 = .ok (.iconst 2, 1) := by decide +kernel
theorem dX12_counts_10 : decode cX12_counts 10 = .ok (.if_icmp .ge 7, 3) := by decide +kernel
theorem dX12_counts_13 : decode cX12_counts 13 = .ok (.iconst 0, 1) := by decide +kernel
theorem dX12_counts_14 : decode cX12_counts 14 = .ok (.goto 6, 3) := by decide +kernel
theorem dX12_counts_17 : decode cX12_counts 17 = .ok (.iload_n 0, 1) := by decide +kernel
theorem dX12_counts_18 : decode cX12_counts 18 = .ok (.iconst 2, 1) := by decide +kernel
theorem dX12_counts_19 : decode cX12_counts 19 = .ok (.isub, 1) := by decide +kernel
theorem dX12_counts_20 : decode cX12_counts 20 = .ok (.ireturn, 1) := by decide +kernel
theorem dX12_divisor_0 : decode cX12_divisor 0 = .ok (.lload_n 0, 1) := by decide +kernel
theorem dX12_divisor_1 : decode cX12_divisor 1 = .ok (.lstore 4, 2) := by decide +kernel
theorem dX12_divisor_3 : decode cX12_divisor 3 = .ok (.lload_n 2, 1) := by decide +kernel
theorem dX12_divisor_4 : decode cX12_divisor 4 = .ok (.lstore 6, 2) := by decide +kernel
theorem dX12_divisor_6 : decode cX12_divisor 6 = .ok (.lload 6, 2) := by decide +kernel
theorem dX12_divisor_8 : decode cX12_divisor 8 = .ok (.lconst 0, 1) := by decide +kernel
theorem dX12_divisor_9 : decode cX12_divisor 9 = .ok (.lcmp, 1) := by decide +kernel
theorem dX12_divisor_10 : decode cX12_divisor 10 = .ok (.ifCond .eq 21, 3) := by decide +kernel
theorem dX12_divisor_13 : decode cX12_divisor 13 = .ok (.lload 4, 2) := by decide +kernel
theorem dX12_divisor_15 : decode cX12_divisor 15 = .ok (.lload 6, 2) := by decide +kernel
theorem dX12_divisor_17 : decode cX12_divisor 17 = .ok (.lrem, 1) := by decide +kernel
theorem dX12_divisor_18 : decode cX12_divisor 18 = .ok (.lstore 8, 2) := by decide +kernel
theorem dX12_divisor_20 : decode cX12_divisor 20 = .ok (.lload 6, 2) := by decide +kernel
theorem dX12_divisor_22 : decode cX12_divisor 22 = .ok (.lstore 4, 2) := by decide +kernel
theorem dX12_divisor_24 : decode cX12_divisor 24 = .ok (.lload 8, 2) := by decide +kernel
theorem dX12_divisor_26 : decode cX12_divisor 26 = .ok (.lstore 6, 2) := by decide +kernel
theorem dX12_divisor_28 : decode cX12_divisor 28 = .ok (.goto (-22), 3) := by decide +kernel
theorem dX12_divisor_31 : decode cX12_divisor 31 = .ok (.lload 4, 2) := by decide +kernel
theorem dX12_divisor_33 : decode cX12_divisor 33 = .ok (.lreturn, 1) := by decide +kernel
theorem dX12_easeOf_0 : decode cX12_easeOf 0 = .ok (.iconst 0, 1) := by decide +kernel
theorem dX12_easeOf_1 : decode cX12_easeOf 1 = .ok (.istore_n 1, 1) := by decide +kernel
theorem dX12_easeOf_2 : decode cX12_easeOf 2 = .ok (.iconst 0, 1) := by decide +kernel
theorem dX12_easeOf_3 : decode cX12_easeOf 3 = .ok (.istore_n 2, 1) := by decide +kernel
theorem dX12_easeOf_4 : decode cX12_easeOf 4 = .ok (.sipush 418, 3) := by decide +kernel
theorem dX12_easeOf_7 : decode cX12_easeOf 7 = .ok (.sipush 140, 3) := by decide +kernel
theorem dX12_easeOf_10 : decode cX12_easeOf 10 = .ok (.aload_n 0, 1) := by decide +kernel
theorem dX12_easeOf_11 : decode cX12_easeOf 11 = .ok (.getfield 9, 3) := by decide +kernel
theorem dX12_easeOf_14 : decode cX12_easeOf 14 = .ok (.iconst 4, 1) := by decide +kernel
theorem dX12_easeOf_15 : decode cX12_easeOf 15 = .ok (.iaload, 1) := by decide +kernel
theorem dX12_easeOf_16 : decode cX12_easeOf 16 = .ok (.imul, 1) := by decide +kernel
theorem dX12_easeOf_17 : decode cX12_easeOf 17 = .ok (.iadd, 1) := by decide +kernel
theorem dX12_easeOf_18 : decode cX12_easeOf 18 = .ok (.istore_n 3, 1) := by decide +kernel
theorem dX12_easeOf_19 : decode cX12_easeOf 19 = .ok (.iload_n 3, 1) := by decide +kernel
theorem dX12_easeOf_20 : decode cX12_easeOf 20 = .ok (.istore 4, 2) := by decide +kernel
theorem dX12_easeOf_22 : decode cX12_easeOf 22 = .ok (.iload 4, 2) := by decide +kernel
theorem dX12_easeOf_24 : decode cX12_easeOf 24 = .ok (.iload_n 3, 1) := by decide +kernel
theorem dX12_easeOf_25 : decode cX12_easeOf 25 = .ok (.aload_n 0, 1) := by decide +kernel
theorem dX12_easeOf_26 : decode cX12_easeOf 26 = .ok (.getfield 9, 3) := by decide +kernel
theorem dX12_easeOf_29 : decode cX12_easeOf 29 = .ok (.sipush 413, 3) := by decide +kernel
theorem dX12_easeOf_32 : decode cX12_easeOf 32 = .ok (.aload_n 0, 1) := by decide +kernel
theorem dX12_easeOf_33 : decode cX12_easeOf 33 = .ok (.getfield 9, 3) := by decide +kernel
theorem dX12_easeOf_36 : decode cX12_easeOf 36 = .ok (.iconst 4, 1) := by decide +kernel
theorem dX12_easeOf_37 : decode cX12_easeOf 37 = .ok (.iaload, 1) := by decide +kernel
theorem dX12_easeOf_38 : decode cX12_easeOf 38 = .ok (.iadd, 1) := by decide +kernel
theorem dX12_easeOf_39 : decode cX12_easeOf 39 = .ok (.iaload, 1) := by decide +kernel
theorem dX12_easeOf_40 : decode cX12_easeOf 40 = .ok (.iadd, 1) := by decide +kernel
theorem dX12_easeOf_41 : decode cX12_easeOf 41 = .ok (.if_icmp .ge 253, 3) := by decide +kernel
theorem dX12_easeOf_44 : decode cX12_easeOf 44 = .ok (.aload_n 0, 1) := by decide +kernel
theorem dX12_easeOf_45 : decode cX12_easeOf 45 = .ok (.getfield 9, 3) := by decide +kernel
theorem dX12_easeOf_48 : decode cX12_easeOf 48 = .ok (.iload 4, 2) := by decide +kernel
theorem dX12_easeOf_50 : decode cX12_easeOf 50 = .ok (.iaload, 1) := by decide +kernel
theorem dX12_easeOf_51 : decode cX12_easeOf 51 = .ok (.istore 5, 2) := by decide +kernel
theorem dX12_easeOf_53 : decode cX12_easeOf 53 = .ok (.iload 5, 2) := by decide +kernel
theorem dX12_easeOf_55 : decode cX12_easeOf 55 = .ok (.ifCond .lt 96, 3) := by decide +kernel
theorem dX12_easeOf_58 : decode cX12_easeOf 58 = .ok (.aload_n 0, 1) := by decide +kernel
theorem dX12_easeOf_59 : decode cX12_easeOf 59 = .ok (.getfield 18, 3) := by decide +kernel
theorem dX12_easeOf_62 : decode cX12_easeOf 62 = .ok (.iload 5, 2) := by decide +kernel
theorem dX12_easeOf_64 : decode cX12_easeOf 64 = .ok (.bipush 8, 2) := by decide +kernel
theorem dX12_easeOf_66 : decode cX12_easeOf 66 = .ok (.irem, 1) := by decide +kernel
theorem dX12_easeOf_67 : decode cX12_easeOf 67 = .ok (.iaload, 1) := by decide +kernel
theorem dX12_easeOf_68 : decode cX12_easeOf 68 = .ok (.istore 6, 2) := by decide +kernel
theorem dX12_easeOf_70 : decode cX12_easeOf 70 = .ok (.iload 5, 2) := by decide +kernel
theorem dX12_easeOf_72 : decode cX12_easeOf 72 = .ok (.bipush 8, 2) := by decide +kernel
theorem dX12_easeOf_74 : decode cX12_easeOf 74 = .ok (.idiv, 1) := by decide +kernel
theorem dX12_easeOf_75 : decode cX12_easeOf 75 = .ok (.iconst 4, 1) := by decide +kernel
theorem dX12_easeOf_76 : decode cX12_easeOf 76 = .ok (.irem, 1) := by decide +kernel
theorem dX12_easeOf_77 : decode cX12_easeOf 77 = .ok (.istore 7, 2) := by decide +kernel
theorem dX12_easeOf_79 : decode cX12_easeOf 79 = .ok (.iload 5, 2) := by decide +kernel
theorem dX12_easeOf_81 : decode cX12_easeOf 81 = .ok (.bipush 32, 2) := by decide +kernel
theorem dX12_easeOf_83 : decode cX12_easeOf 83 = .ok (.idiv, 1) := by decide +kernel
theorem dX12_easeOf_84 : decode cX12_easeOf 84 = .ok (.istore 8, 2) := by decide +kernel
theorem dX12_easeOf_86 : decode cX12_easeOf 86 = .ok (.aload_n 0, 1) := by decide +kernel
theorem dX12_easeOf_87 : decode cX12_easeOf 87 = .ok (.getfield 21, 3) := by decide +kernel
theorem dX12_easeOf_90 : decode cX12_easeOf 90 = .ok (.iload_n 2, 1) := by decide +kernel
theorem dX12_easeOf_91 : decode cX12_easeOf 91 = .ok (.iload 7, 2) := by decide +kernel
theorem dX12_easeOf_93 : decode cX12_easeOf 93 = .ok (.ifCond .ne 18, 3) := by decide +kernel
theorem dX12_easeOf_96 : decode cX12_easeOf 96 = .ok (.iload 6, 2) := by decide +kernel
theorem dX12_easeOf_98 : decode cX12_easeOf 98 = .ok (.iload 8, 2) := by decide +kernel
theorem dX12_easeOf_100 : decode cX12_easeOf 100 = .ok (.if_icmp .ge 7, 3) := by decide +kernel
theorem dX12_easeOf_103 : decode cX12_easeOf 103 = .ok (.iconst 1, 1) := by decide +kernel
theorem dX12_easeOf_104 : decode cX12_easeOf 104 = .ok (.goto 40, 3) := by decide +kernel
theorem dX12_easeOf_107 : decode cX12_easeOf 107 = .ok (.iconst 0, 1) := by decide +kernel
theorem dX12_easeOf_108 : decode cX12_easeOf 108 = .ok (.goto 36, 3) := by decide +kernel
theorem dX12_easeOf_111 : decode cX12_easeOf 111 = .ok (.iload 7, 2) := by decide +kernel
theorem dX12_easeOf_113 : decode cX12_easeOf 113 = .ok (.iconst 1, 1) := by decide +kernel
theorem dX12_easeOf_114 : decode cX12_easeOf 114 = .ok (.if_icmp .ne 18, 3) := by decide +kernel
theorem dX12_easeOf_117 : decode cX12_easeOf 117 = .ok (.iload 6, 2) := by decide +kernel
theorem dX12_easeOf_119 : decode cX12_easeOf 119 = .ok (.iload 8, 2) := by decide +kernel
theorem dX12_easeOf_121 : decode cX12_easeOf 121 = .ok (.if_icmp .ne 7, 3) := by decide +kernel
theorem dX12_easeOf_124 : decode cX12_easeOf 124 = .ok (.iconst 1, 1) := by decide +kernel
theorem dX12_easeOf_125 : decode cX12_easeOf 125 = .ok (.goto 19, 3) := by decide +kernel
theorem dX12_easeOf_128 : decode cX12_easeOf 128 = .ok (.iconst 0, 1) := by decide +kernel
theorem dX12_easeOf_129 : decode cX12_easeOf 129 = .ok (.goto 15, 3) := by decide +kernel
theorem dX12_easeOf_132 : decode cX12_easeOf 132 = .ok (.iload 6, 2) := by decide +kernel
theorem dX12_easeOf_134 : decode cX12_easeOf 134 = .ok (.iload 8, 2) := by decide +kernel
theorem dX12_easeOf_136 : decode cX12_easeOf 136 = .ok (.if_icmp .le 7, 3) := by decide +kernel
theorem dX12_easeOf_139 : decode cX12_easeOf 139 = .ok (.iconst 1, 1) := by decide +kernel
theorem dX12_easeOf_140 : decode cX12_easeOf 140 = .ok (.goto 4, 3) := by decide +kernel
theorem dX12_easeOf_143 : decode cX12_easeOf 143 = .ok (.iconst 0, 1) := by decide +kernel
theorem dX12_easeOf_144 : decode cX12_easeOf 144 = .ok (.bastore, 1) := by decide +kernel
theorem dX12_easeOf_145 : decode cX12_easeOf 145 = .ok (.iinc 2 1, 3) := by decide +kernel
theorem dX12_easeOf_148 : decode cX12_easeOf 148 = .ok (.goto 140, 3) := by decide +kernel
theorem dX12_easeOf_151 : decode cX12_easeOf 151 = .ok (.iload 5, 2) := by decide +kernel
theorem dX12_easeOf_153 : decode cX12_easeOf 153 = .ok (.iconst (-1), 1) := by decide +kernel
theorem dX12_easeOf_154 : decode cX12_easeOf 154 = .ok (.if_icmp .ne 30, 3) := by decide +kernel
theorem dX12_easeOf_157 : decode cX12_easeOf 157 = .ok (.aload_n 0, 1) := by decide +kernel
theorem dX12_easeOf_158 : decode cX12_easeOf 158 = .ok (.getfield 21, 3) := by decide +kernel
theorem dX12_easeOf_161 : decode cX12_easeOf 161 = .ok (.iload_n 2, 1) := by decide +kernel
theorem dX12_easeOf_162 : decode cX12_easeOf 162 = .ok (.iconst 1, 1) := by decide +kernel
theorem dX12_easeOf_163 : decode cX12_easeOf 163 = .ok (.isub, 1) := by decide +kernel
theorem dX12_easeOf_164 : decode cX12_easeOf 164 = .ok (.aload_n 0, 1) := by decide +kernel
theorem dX12_easeOf_165 : decode cX12_easeOf 165 = .ok (.getfield 21, 3) := by decide +kernel
theorem dX12_easeOf_168 : decode cX12_easeOf 168 = .ok (.iload_n 2, 1) := by decide +kernel
theorem dX12_easeOf_169 : decode cX12_easeOf 169 = .ok (.iconst 1, 1) := by decide +kernel
theorem dX12_easeOf_170 : decode cX12_easeOf 170 = .ok (.isub, 1) := by decide +kernel
theorem dX12_easeOf_171 : decode cX12_easeOf 171 = .ok (.baload, 1) := by decide +kernel
theorem dX12_easeOf_172 : decode cX12_easeOf 172 = .ok (.ifCond .ne 7, 3) := by decide +kernel
theorem dX12_easeOf_175 : decode cX12_easeOf 175 = .ok (.iconst 1, 1) := by decide +kernel
theorem dX12_easeOf_176 : decode cX12_easeOf 176 = .ok (.goto 4, 3) := by decide +kernel
theorem dX12_easeOf_179 : decode cX12_easeOf 179 = .ok (.iconst 0, 1) := by decide +kernel
theorem dX12_easeOf_180 : decode cX12_easeOf 180 = .ok (.bastore, 1) := by decide +kernel
theorem dX12_easeOf_181 : decode cX12_easeOf 181 = .ok (.goto 107, 3) := by decide +kernel
theorem dX12_easeOf_184 : decode cX12_easeOf 184 = .ok (.iload 5, 2) := by decide +kernel
theorem dX12_easeOf_186 : decode cX12_easeOf 186 = .ok (.bipush (-10), 2) := by decide +kernel
theorem dX12_easeOf_188 : decode cX12_easeOf 188 = .ok (.if_icmp .le 77, 3) := by decide +kernel
theorem dX12_easeOf_191 : decode cX12_easeOf 191 = .ok (.iinc 2 (-1), 3) := by decide +kernel
theorem dX12_easeOf_194 : decode cX12_easeOf 194 = .ok (.aload_n 0, 1) := by decide +kernel
theorem dX12_easeOf_195 : decode cX12_easeOf 195 = .ok (.getfield 21, 3) := by decide +kernel
theorem dX12_easeOf_198 : decode cX12_easeOf 198 = .ok (.iload_n 2, 1) := by decide +kernel
theorem dX12_easeOf_199 : decode cX12_easeOf 199 = .ok (.iconst 1, 1) := by decide +kernel
theorem dX12_easeOf_200 : decode cX12_easeOf 200 = .ok (.isub, 1) := by decide +kernel
theorem dX12_easeOf_201 : decode cX12_easeOf 201 = .ok (.iload 5, 2) := by decide +kernel
theorem dX12_easeOf_203 : decode cX12_easeOf 203 = .ok (.bipush (-2), 2) := by decide +kernel
theorem dX12_easeOf_205 : decode cX12_easeOf 205 = .ok (.if_icmp .ne 31, 3) := by decide +kernel
theorem dX12_easeOf_208 : decode cX12_easeOf 208 = .ok (.aload_n 0, 1) := by decide +kernel
theorem dX12_easeOf_209 : decode cX12_easeOf 209 = .ok (.getfield 21, 3) := by decide +kernel
theorem dX12_easeOf_212 : decode cX12_easeOf 212 = .ok (.iload_n 2, 1) := by decide +kernel
theorem dX12_easeOf_213 : decode cX12_easeOf 213 = .ok (.iconst 1, 1) := by decide +kernel
theorem dX12_easeOf_214 : decode cX12_easeOf 214 = .ok (.isub, 1) := by decide +kernel
theorem dX12_easeOf_215 : decode cX12_easeOf 215 = .ok (.baload, 1) := by decide +kernel
theorem dX12_easeOf_216 : decode cX12_easeOf 216 = .ok (.ifCond .eq 16, 3) := by decide +kernel
theorem dX12_easeOf_219 : decode cX12_easeOf 219 = .ok (.aload_n 0, 1) := by decide +kernel
theorem dX12_easeOf_220 : decode cX12_easeOf 220 = .ok (.getfield 21, 3) := by decide +kernel
theorem dX12_easeOf_223 : decode cX12_easeOf 223 = .ok (.iload_n 2, 1) := by decide +kernel
theorem dX12_easeOf_224 : decode cX12_easeOf 224 = .ok (.baload, 1) := by decide +kernel
theorem dX12_easeOf_225 : decode cX12_easeOf 225 = .ok (.ifCond .eq 7, 3) := by decide +kernel
theorem dX12_easeOf_228 : decode cX12_easeOf 228 = .ok (.iconst 1, 1) := by decide +kernel
theorem dX12_easeOf_229 : decode cX12_easeOf 229 = .ok (.goto 32, 3) := by decide +kernel
theorem dX12_easeOf_232 : decode cX12_easeOf 232 = .ok (.iconst 0, 1) := by decide +kernel
theorem dX12_easeOf_233 : decode cX12_easeOf 233 = .ok (.goto 28, 3) := by decide +kernel
theorem dX12_easeOf_236 : decode cX12_easeOf 236 = .ok (.aload_n 0, 1) := by decide +kernel
theorem dX12_easeOf_237 : decode cX12_easeOf 237 = .ok (.getfield 21, 3) := by decide +kernel
theorem dX12_easeOf_240 : decode cX12_easeOf 240 = .ok (.iload_n 2, 1) := by decide +kernel
theorem dX12_easeOf_241 : decode cX12_easeOf 241 = .ok (.iconst 1, 1) := by decide +kernel
theorem dX12_easeOf_242 : decode cX12_easeOf 242 = .ok (.isub, 1) := by decide +kernel
theorem dX12_easeOf_243 : decode cX12_easeOf 243 = .ok (.baload, 1) := by decide +kernel
theorem dX12_easeOf_244 : decode cX12_easeOf 244 = .ok (.ifCond .ne 12, 3) := by decide +kernel
theorem dX12_easeOf_247 : decode cX12_easeOf 247 = .ok (.aload_n 0, 1) := by decide +kernel
theorem dX12_easeOf_248 : decode cX12_easeOf 248 = .ok (.getfield 21, 3) := by decide +kernel
theorem dX12_easeOf_251 : decode cX12_easeOf 251 = .ok (.iload_n 2, 1) := by decide +kernel
theorem dX12_easeOf_252 : decode cX12_easeOf 252 = .ok (.baload, 1) := by decide +kernel
theorem dX12_easeOf_253 : decode cX12_easeOf 253 = .ok (.ifCond .eq 7, 3) := by decide +kernel
theorem dX12_easeOf_256 : decode cX12_easeOf 256 = .ok (.iconst 1, 1) := by decide +kernel
theorem dX12_easeOf_257 : decode cX12_easeOf 257 = .ok (.goto 4, 3) := by decide +kernel
theorem dX12_easeOf_260 : decode cX12_easeOf 260 = .ok (.iconst 0, 1) := by decide +kernel
theorem dX12_easeOf_261 : decode cX12_easeOf 261 = .ok (.bastore, 1) := by decide +kernel
theorem dX12_easeOf_262 : decode cX12_easeOf 262 = .ok (.goto 26, 3) := by decide +kernel
theorem dX12_easeOf_265 : decode cX12_easeOf 265 = .ok (.iconst 0, 1) := by decide +kernel
theorem dX12_easeOf_266 : decode cX12_easeOf 266 = .ok (.istore_n 2, 1) := by decide +kernel
theorem dX12_easeOf_267 : decode cX12_easeOf 267 = .ok (.iload_n 1, 1) := by decide +kernel
theorem dX12_easeOf_268 : decode cX12_easeOf 268 = .ok (.aload_n 0, 1) := by decide +kernel
theorem dX12_easeOf_269 : decode cX12_easeOf 269 = .ok (.getfield 21, 3) := by decide +kernel
theorem dX12_easeOf_272 : decode cX12_easeOf 272 = .ok (.iconst 0, 1) := by decide +kernel
theorem dX12_easeOf_273 : decode cX12_easeOf 273 = .ok (.baload, 1) := by decide +kernel
theorem dX12_easeOf_274 : decode cX12_easeOf 274 = .ok (.ifCond .eq 11, 3) := by decide +kernel
theorem dX12_easeOf_277 : decode cX12_easeOf 277 = .ok (.bipush (-10), 2) := by decide +kernel
theorem dX12_easeOf_279 : decode cX12_easeOf 279 = .ok (.iload 5, 2) := by decide +kernel
theorem dX12_easeOf_281 : decode cX12_easeOf 281 = .ok (.isub, 1) := by decide +kernel
theorem dX12_easeOf_282 : decode cX12_easeOf 282 = .ok (.goto 4, 3) := by decide +kernel
theorem dX12_easeOf_285 : decode cX12_easeOf 285 = .ok (.iconst 0, 1) := by decide +kernel
theorem dX12_easeOf_286 : decode cX12_easeOf 286 = .ok (.iadd, 1) := by decide +kernel
theorem dX12_easeOf_287 : decode cX12_easeOf 287 = .ok (.istore_n 1, 1) := by decide +kernel
theorem dX12_easeOf_288 : decode cX12_easeOf 288 = .ok (.iinc 4 1, 3) := by decide +kernel
theorem dX12_easeOf_291 : decode cX12_easeOf 291 = .ok (.goto (-269), 3) := by decide +kernel
theorem dX12_easeOf_294 : decode cX12_easeOf 294 = .ok (.iload_n 1, 1) := by decide +kernel
theorem dX12_easeOf_295 : decode cX12_easeOf 295 = .ok (.ireturn, 1) := by decide +kernel
theorem dX12_emits_0 : decode cX12_emits 0 = .ok (.aload_n 0, 1) := by decide +kernel
theorem dX12_emits_1 : decode cX12_emits 1 = .ok (.getfield 67, 3) := by decide +kernel
theorem dX12_emits_4 : decode cX12_emits 4 = .ok (.ifCond .ne 52, 3) := by decide +kernel
theorem dX12_emits_7 : decode cX12_emits 7 = .ok (.aload_n 0, 1) := by decide +kernel
theorem dX12_emits_8 : decode cX12_emits 8 = .ok (.getfield 9, 3) := by decide +kernel
theorem dX12_emits_11 : decode cX12_emits 11 = .ok (.sipush 418, 3) := by decide +kernel
theorem dX12_emits_14 : decode cX12_emits 14 = .ok (.sipush 140, 3) := by decide +kernel
theorem dX12_emits_17 : decode cX12_emits 17 = .ok (.aload_n 0, 1) := by decide +kernel
theorem dX12_emits_18 : decode cX12_emits 18 = .ok (.getfield 87, 3) := by decide +kernel
theorem dX12_emits_21 : decode cX12_emits 21 = .ok (.imul, 1) := by decide +kernel
theorem dX12_emits_22 : decode cX12_emits 22 = .ok (.iadd, 1) := by decide +kernel
theorem dX12_emits_23 : decode cX12_emits 23 = .ok (.aload_n 0, 1) := by decide +kernel
theorem dX12_emits_24 : decode cX12_emits 24 = .ok (.getfield 9, 3) := by decide +kernel
theorem dX12_emits_27 : decode cX12_emits 27 = .ok (.sipush 413, 3) := by decide +kernel
theorem dX12_emits_30 : decode cX12_emits 30 = .ok (.aload_n 0, 1) := by decide +kernel
theorem dX12_emits_31 : decode cX12_emits 31 = .ok (.getfield 87, 3) := by decide +kernel
theorem dX12_emits_34 : decode cX12_emits 34 = .ok (.iadd, 1) := by decide +kernel
theorem dX12_emits_35 : decode cX12_emits 35 = .ok (.iaload, 1) := by decide +kernel
theorem dX12_emits_36 : decode cX12_emits 36 = .ok (.iadd, 1) := by decide +kernel
theorem dX12_emits_37 : decode cX12_emits 37 = .ok (.iload_n 1, 1) := by decide +kernel
theorem dX12_emits_38 : decode cX12_emits 38 = .ok (.iastore, 1) := by decide +kernel
theorem dX12_emits_39 : decode cX12_emits 39 = .ok (.aload_n 0, 1) := by decide +kernel
theorem dX12_emits_40 : decode cX12_emits 40 = .ok (.getfield 9, 3) := by decide +kernel
theorem dX12_emits_43 : decode cX12_emits 43 = .ok (.sipush 413, 3) := by decide +kernel
theorem dX12_emits_46 : decode cX12_emits 46 = .ok (.aload_n 0, 1) := by decide +kernel
theorem dX12_emits_47 : decode cX12_emits 47 = .ok (.getfield 87, 3) := by decide +kernel
theorem dX12_emits_50 : decode cX12_emits 50 = .ok (.iadd, 1) := by decide +kernel
theorem dX12_emits_51 : decode cX12_emits 51 = .ok (.dup2, 1) := by decide +kernel
theorem dX12_emits_52 : decode cX12_emits 52 = .ok (.iaload, 1) := by decide +kernel
theorem dX12_emits_53 : decode cX12_emits 53 = .ok (.iconst 1, 1) := by decide +kernel
theorem dX12_emits_54 : decode cX12_emits 54 = .ok (.iadd, 1) := by decide +kernel
theorem dX12_emits_55 : decode cX12_emits 55 = .ok (.iastore, 1) := by decide +kernel
theorem dX12_emits_56 : decode cX12_emits 56 = .ok (.return_, 1) := by decide +kernel
theorem dX12_evenGoes_0 : decode cX12_evenGoes 0 = .ok (.aload_n 0, 1) := by decide +kernel
theorem dX12_evenGoes_1 : decode cX12_evenGoes 1 = .ok (.bipush 11, 2) := by decide +kernel
theorem dX12_evenGoes_3 : decode cX12_evenGoes 3 = .ok (.invokevirtual 247, 3) := by decide +kernel
theorem dX12_evenGoes_6 : decode cX12_evenGoes 6 = .ok (.aload_n 0, 1) := by decide +kernel
theorem dX12_evenGoes_7 : decode cX12_evenGoes 7 = .ok (.iload_n 1, 1) := by decide +kernel
theorem dX12_evenGoes_8 : decode cX12_evenGoes 8 = .ok (.iconst 3, 1) := by decide +kernel
theorem dX12_evenGoes_9 : decode cX12_evenGoes 9 = .ok (.imul, 1) := by decide +kernel
theorem dX12_evenGoes_10 : decode cX12_evenGoes 10 = .ok (.invokevirtual 253, 3) := by decide +kernel
theorem dX12_evenGoes_13 : decode cX12_evenGoes 13 = .ok (.ireturn, 1) := by decide +kernel
theorem dX12_every_0 : decode cX12_every 0 = .ok (.aload_n 0, 1) := by decide +kernel
theorem dX12_every_1 : decode cX12_every 1 = .ok (.invokevirtual 93, 3) := by decide +kernel
theorem dX12_every_4 : decode cX12_every 4 = .ok (.aload_n 0, 1) := by decide +kernel
theorem dX12_every_5 : decode cX12_every 5 = .ok (.getfield 67, 3) := by decide +kernel
theorem dX12_every_8 : decode cX12_every 8 = .ok (.ifCond .ne 35, 3) := by decide +kernel
theorem dX12_every_11 : decode cX12_every 11 = .ok (.aload_n 0, 1) := by decide +kernel
theorem dX12_every_12 : decode cX12_every 12 = .ok (.invokevirtual 71, 3) := by decide +kernel
theorem dX12_every_15 : decode cX12_every 15 = .ok (.bipush 38, 2) := by decide +kernel
theorem dX12_every_17 : decode cX12_every 17 = .ok (.if_icmp .ne 26, 3) := by decide +kernel
theorem dX12_every_20 : decode cX12_every 20 = .ok (.aload_n 0, 1) := by decide +kernel
theorem dX12_every_21 : decode cX12_every 21 = .ok (.dup, 1) := by decide +kernel
theorem dX12_every_22 : decode cX12_every 22 = .ok (.getfield 61, 3) := by decide +kernel
theorem dX12_every_25 : decode cX12_every 25 = .ok (.iconst 1, 1) := by decide +kernel
theorem dX12_every_26 : decode cX12_every 26 = .ok (.iadd, 1) := by decide +kernel
theorem dX12_every_27 : decode cX12_every 27 = .ok (.putfield 61, 3) := by decide +kernel
theorem dX12_every_30 : decode cX12_every 30 = .ok (.aload_n 0, 1) := by decide +kernel
theorem dX12_every_31 : decode cX12_every 31 = .ok (.invokevirtual 93, 3) := by decide +kernel
theorem dX12_every_34 : decode cX12_every 34 = .ok (.aload_n 0, 1) := by decide +kernel
theorem dX12_every_35 : decode cX12_every 35 = .ok (.bipush (-2), 2) := by decide +kernel
theorem dX12_every_37 : decode cX12_every 37 = .ok (.invokevirtual 96, 3) := by decide +kernel
theorem dX12_every_40 : decode cX12_every 40 = .ok (.goto (-36), 3) := by decide +kernel
theorem dX12_every_43 : decode cX12_every 43 = .ok (.return_, 1) := by decide +kernel
theorem dX12_factor_0 : decode cX12_factor 0 = .ok (.aload_n 0, 1) := by decide +kernel
theorem dX12_factor_1 : decode cX12_factor 1 = .ok (.getfield 67, 3) := by decide +kernel
theorem dX12_factor_4 : decode cX12_factor 4 = .ok (.ifCond .eq 4, 3) := by decide +kernel
theorem dX12_factor_7 : decode cX12_factor 7 = .ok (.return_, 1) := by decide +kernel
theorem dX12_factor_8 : decode cX12_factor 8 = .ok (.aload_n 0, 1) := by decide +kernel
theorem dX12_factor_9 : decode cX12_factor 9 = .ok (.invokevirtual 71, 3) := by decide +kernel
theorem dX12_factor_12 : decode cX12_factor 12 = .ok (.istore_n 1, 1) := by decide +kernel
theorem dX12_factor_13 : decode cX12_factor 13 = .ok (.iload_n 1, 1) := by decide +kernel
theorem dX12_factor_14 : decode cX12_factor 14 = .ok (.bipush 33, 2) := by decide +kernel
theorem dX12_factor_16 : decode cX12_factor 16 = .ok (.if_icmp .eq 9, 3) := by decide +kernel
theorem dX12_factor_19 : decode cX12_factor 19 = .ok (.iload_n 1, 1) := by decide +kernel
theorem dX12_factor_20 : decode cX12_factor 20 = .ok (.bipush 40, 2) := by decide +kernel
theorem dX12_factor_22 : decode cX12_factor 22 = .ok (.if_icmp .ne 90, 3) := by decide +kernel
theorem dX12_factor_25 : decode cX12_factor 25 = .ok (.aload_n 0, 1) := by decide +kernel
theorem dX12_factor_26 : decode cX12_factor 26 = .ok (.aload_n 0, 1) := by decide +kernel
theorem dX12_factor_27 : decode cX12_factor 27 = .ok (.getfield 90, 3) := by decide +kernel
theorem dX12_factor_30 : decode cX12_factor 30 = .ok (.iconst 5, 1) := by decide +kernel
theorem dX12_factor_31 : decode cX12_factor 31 = .ok (.if_icmp .ne 7, 3) := by decide +kernel
theorem dX12_factor_34 : decode cX12_factor 34 = .ok (.iconst 1, 1) := by decide +kernel
theorem dX12_factor_35 : decode cX12_factor 35 = .ok (.goto 4, 3) := by decide +kernel
theorem dX12_factor_38 : decode cX12_factor 38 = .ok (.iconst 0, 1) := by decide +kernel
theorem dX12_factor_39 : decode cX12_factor 39 = .ok (.putfield 67, 3) := by decide +kernel
theorem dX12_factor_42 : decode cX12_factor 42 = .ok (.aload_n 0, 1) := by decide +kernel
theorem dX12_factor_43 : decode cX12_factor 43 = .ok (.dup, 1) := by decide +kernel
theorem dX12_factor_44 : decode cX12_factor 44 = .ok (.getfield 90, 3) := by decide +kernel
theorem dX12_factor_47 : decode cX12_factor 47 = .ok (.iconst 1, 1) := by decide +kernel
theorem dX12_factor_48 : decode cX12_factor 48 = .ok (.iadd, 1) := by decide +kernel
theorem dX12_factor_49 : decode cX12_factor 49 = .ok (.putfield 90, 3) := by decide +kernel
theorem dX12_factor_52 : decode cX12_factor 52 = .ok (.aload_n 0, 1) := by decide +kernel
theorem dX12_factor_53 : decode cX12_factor 53 = .ok (.dup, 1) := by decide +kernel
theorem dX12_factor_54 : decode cX12_factor 54 = .ok (.getfield 61, 3) := by decide +kernel
theorem dX12_factor_57 : decode cX12_factor 57 = .ok (.aload_n 0, 1) := by decide +kernel
theorem dX12_factor_58 : decode cX12_factor 58 = .ok (.getfield 67, 3) := by decide +kernel
theorem dX12_factor_61 : decode cX12_factor 61 = .ok (.ifCond .eq 7, 3) := by decide +kernel
theorem dX12_factor_64 : decode cX12_factor 64 = .ok (.iconst 0, 1) := by decide +kernel
theorem dX12_factor_65 : decode cX12_factor 65 = .ok (.goto 4, 3) := by decide +kernel
theorem dX12_factor_68 : decode cX12_factor 68 = .ok (.iconst 1, 1) := by decide +kernel
theorem dX12_factor_69 : decode cX12_factor 69 = .ok (.iadd, 1) := by decide +kernel
theorem dX12_factor_70 : decode cX12_factor 70 = .ok (.putfield 61, 3) := by decide +kernel
theorem dX12_factor_73 : decode cX12_factor 73 = .ok (.iload_n 1, 1) := by decide +kernel
theorem dX12_factor_74 : decode cX12_factor 74 = .ok (.bipush 33, 2) := by decide +kernel
theorem dX12_factor_76 : decode cX12_factor 76 = .ok (.if_icmp .ne 15, 3) := by decide +kernel
theorem dX12_factor_79 : decode cX12_factor 79 = .ok (.aload_n 0, 1) := by decide +kernel
theorem dX12_factor_80 : decode cX12_factor 80 = .ok (.invokevirtual 93, 3) := by decide +kernel
theorem dX12_factor_83 : decode cX12_factor 83 = .ok (.aload_n 0, 1) := by decide +kernel
theorem dX12_factor_84 : decode cX12_factor 84 = .ok (.iconst (-1), 1) := by decide +kernel
theorem dX12_factor_85 : decode cX12_factor 85 = .ok (.invokevirtual 96, 3) := by decide +kernel
theorem dX12_factor_88 : decode cX12_factor 88 = .ok (.goto 13, 3) := by decide +kernel
theorem dX12_factor_91 : decode cX12_factor 91 = .ok (.aload_n 0, 1) := by decide +kernel
theorem dX12_factor_92 : decode cX12_factor 92 = .ok (.invokevirtual 99, 3) := by decide +kernel
theorem dX12_factor_95 : decode cX12_factor 95 = .ok (.aload_n 0, 1) := by decide +kernel
theorem dX12_factor_96 : decode cX12_factor 96 = .ok (.bipush 41, 2) := by decide +kernel
theorem dX12_factor_98 : decode cX12_factor 98 = .ok (.invokevirtual 83, 3) := by decide +kernel
theorem dX12_factor_101 : decode cX12_factor 101 = .ok (.aload_n 0, 1) := by decide +kernel
theorem dX12_factor_102 : decode cX12_factor 102 = .ok (.dup, 1) := by decide +kernel
theorem dX12_factor_103 : decode cX12_factor 103 = .ok (.getfield 90, 3) := by decide +kernel
theorem dX12_factor_106 : decode cX12_factor 106 = .ok (.iconst 1, 1) := by decide +kernel
theorem dX12_factor_107 : decode cX12_factor 107 = .ok (.isub, 1) := by decide +kernel
theorem dX12_factor_108 : decode cX12_factor 108 = .ok (.putfield 90, 3) := by decide +kernel
theorem dX12_factor_111 : decode cX12_factor 111 = .ok (.return_, 1) := by decide +kernel
theorem dX12_factor_112 : decode cX12_factor 112 = .ok (.aload_n 0, 1) := by decide +kernel
theorem dX12_factor_113 : decode cX12_factor 113 = .ok (.ldc 102, 2) := by decide +kernel
theorem dX12_factor_115 : decode cX12_factor 115 = .ok (.invokevirtual 104, 3) := by decide +kernel
theorem dX12_factor_118 : decode cX12_factor 118 = .ok (.istore_n 2, 1) := by decide +kernel
theorem dX12_factor_119 : decode cX12_factor 119 = .ok (.aload_n 0, 1) := by decide +kernel
theorem dX12_factor_120 : decode cX12_factor 120 = .ok (.iload_n 2, 1) := by decide +kernel
theorem dX12_factor_121 : decode cX12_factor 121 = .ok (.iconst (-1), 1) := by decide +kernel
theorem dX12_factor_122 : decode cX12_factor 122 = .ok (.if_icmp .ne 7, 3) := by decide +kernel
theorem dX12_factor_125 : decode cX12_factor 125 = .ok (.iconst 1, 1) := by decide +kernel
theorem dX12_factor_126 : decode cX12_factor 126 = .ok (.goto 4, 3) := by decide +kernel
theorem dX12_factor_129 : decode cX12_factor 129 = .ok (.iconst 0, 1) := by decide +kernel
theorem dX12_factor_130 : decode cX12_factor 130 = .ok (.putfield 67, 3) := by decide +kernel
theorem dX12_factor_133 : decode cX12_factor 133 = .ok (.aload_n 0, 1) := by decide +kernel
theorem dX12_factor_134 : decode cX12_factor 134 = .ok (.getfield 67, 3) := by decide +kernel
theorem dX12_factor_137 : decode cX12_factor 137 = .ok (.ifCond .eq 7, 3) := by decide +kernel
theorem dX12_factor_140 : decode cX12_factor 140 = .ok (.iconst 0, 1) := by decide +kernel
theorem dX12_factor_141 : decode cX12_factor 141 = .ok (.goto 9, 3) := by decide +kernel
theorem dX12_factor_144 : decode cX12_factor 144 = .ok (.aload_n 0, 1) := by decide +kernel
theorem dX12_factor_145 : decode cX12_factor 145 = .ok (.ldc 108, 2) := by decide +kernel
theorem dX12_factor_147 : decode cX12_factor 147 = .ok (.invokevirtual 104, 3) := by decide +kernel
theorem dX12_factor_150 : decode cX12_factor 150 = .ok (.istore_n 3, 1) := by decide +kernel
theorem dX12_factor_151 : decode cX12_factor 151 = .ok (.aload_n 0, 1) := by decide +kernel
theorem dX12_factor_152 : decode cX12_factor 152 = .ok (.aload_n 0, 1) := by decide +kernel
theorem dX12_factor_153 : decode cX12_factor 153 = .ok (.getfield 67, 3) := by decide +kernel
theorem dX12_factor_156 : decode cX12_factor 156 = .ok (.ifCond .ne 8, 3) := by decide +kernel
theorem dX12_factor_159 : decode cX12_factor 159 = .ok (.iload_n 3, 1) := by decide +kernel
theorem dX12_factor_160 : decode cX12_factor 160 = .ok (.iconst (-1), 1) := by decide +kernel
theorem dX12_factor_161 : decode cX12_factor 161 = .ok (.if_icmp .ne 7, 3) := by decide +kernel
theorem dX12_factor_164 : decode cX12_factor 164 = .ok (.iconst 1, 1) := by decide +kernel
theorem dX12_factor_165 : decode cX12_factor 165 = .ok (.goto 4, 3) := by decide +kernel
theorem dX12_factor_168 : decode cX12_factor 168 = .ok (.iconst 0, 1) := by decide +kernel
theorem dX12_factor_169 : decode cX12_factor 169 = .ok (.putfield 67, 3) := by decide +kernel
theorem dX12_factor_172 : decode cX12_factor 172 = .ok (.aload_n 0, 1) := by decide +kernel
theorem dX12_factor_173 : decode cX12_factor 173 = .ok (.invokevirtual 110, 3) := by decide +kernel
theorem dX12_factor_176 : decode cX12_factor 176 = .ok (.istore 4, 2) := by decide +kernel
theorem dX12_factor_178 : decode cX12_factor 178 = .ok (.aload_n 0, 1) := by decide +kernel
theorem dX12_factor_179 : decode cX12_factor 179 = .ok (.iload_n 2, 1) := by decide +kernel
theorem dX12_factor_180 : decode cX12_factor 180 = .ok (.bipush 8, 2) := by decide +kernel
theorem dX12_factor_182 : decode cX12_factor 182 = .ok (.iload_n 3, 1) := by decide +kernel
theorem dX12_factor_183 : decode cX12_factor 183 = .ok (.imul, 1) := by decide +kernel
theorem dX12_factor_184 : decode cX12_factor 184 = .ok (.iadd, 1) := by decide +kernel
theorem dX12_factor_185 : decode cX12_factor 185 = .ok (.bipush 32, 2) := by decide +kernel
theorem dX12_factor_187 : decode cX12_factor 187 = .ok (.iload 4, 2) := by decide +kernel
theorem dX12_factor_189 : decode cX12_factor 189 = .ok (.imul, 1) := by decide +kernel
theorem dX12_factor_190 : decode cX12_factor 190 = .ok (.iadd, 1) := by decide +kernel
theorem dX12_factor_191 : decode cX12_factor 191 = .ok (.invokevirtual 96, 3) := by decide +kernel
theorem dX12_factor_194 : decode cX12_factor 194 = .ok (.return_, 1) := by decide +kernel
theorem dX12_feed_0 : decode cX12_feed 0 = .ok (.iload_n 3, 1) := by decide +kernel
theorem dX12_feed_1 : decode cX12_feed 1 = .ok (.iconst 1, 1) := by decide +kernel
theorem dX12_feed_2 : decode cX12_feed 2 = .ok (.bipush 8, 2) := by decide +kernel
theorem dX12_feed_4 : decode cX12_feed 4 = .ok (.invokestatic 44, 3) := by decide +kernel
theorem dX12_feed_7 : decode cX12_feed 7 = .ok (.ifCond .ne 6, 3) := by decide +kernel
theorem dX12_feed_10 : decode cX12_feed 10 = .ok (.bipush (-2), 2) := by decide +kernel
theorem dX12_feed_12 : decode cX12_feed 12 = .ok (.ireturn, 1) := by decide +kernel
theorem dX12_feed_13 : decode cX12_feed 13 = .ok (.aload_n 0, 1) := by decide +kernel
theorem dX12_feed_14 : decode cX12_feed 14 = .ok (.getfield 9, 3) := by decide +kernel
theorem dX12_feed_17 : decode cX12_feed 17 = .ok (.iconst 3, 1) := by decide +kernel
theorem dX12_feed_18 : decode cX12_feed 18 = .ok (.iaload, 1) := by decide +kernel
theorem dX12_feed_19 : decode cX12_feed 19 = .ok (.iload_n 3, 1) := by decide +kernel
theorem dX12_feed_20 : decode cX12_feed 20 = .ok (.iadd, 1) := by decide +kernel
theorem dX12_feed_21 : decode cX12_feed 21 = .ok (.bipush 120, 2) := by decide +kernel
theorem dX12_feed_23 : decode cX12_feed 23 = .ok (.if_icmp .le 6, 3) := by decide +kernel
theorem dX12_feed_26 : decode cX12_feed 26 = .ok (.bipush (-4), 2) := by decide +kernel
theorem dX12_feed_28 : decode cX12_feed 28 = .ok (.ireturn, 1) := by decide +kernel
theorem dX12_feed_29 : decode cX12_feed 29 = .ok (.iload_n 3, 1) := by decide +kernel
theorem dX12_feed_30 : decode cX12_feed 30 = .ok (.iconst 1, 1) := by decide +kernel
theorem dX12_feed_31 : decode cX12_feed 31 = .ok (.isub, 1) := by decide +kernel
theorem dX12_feed_32 : decode cX12_feed 32 = .ok (.istore 4, 2) := by decide +kernel
theorem dX12_feed_34 : decode cX12_feed 34 = .ok (.iload 4, 2) := by decide +kernel
theorem dX12_feed_36 : decode cX12_feed 36 = .ok (.ifCond .lt 45, 3) := by decide +kernel
theorem dX12_feed_39 : decode cX12_feed 39 = .ok (.aload_n 0, 1) := by decide +kernel
theorem dX12_feed_40 : decode cX12_feed 40 = .ok (.getfield 9, 3) := by decide +kernel
theorem dX12_feed_43 : decode cX12_feed 43 = .ok (.bipush 10, 2) := by decide +kernel
theorem dX12_feed_45 : decode cX12_feed 45 = .ok (.aload_n 0, 1) := by decide +kernel
theorem dX12_feed_46 : decode cX12_feed 46 = .ok (.getfield 9, 3) := by decide +kernel
theorem dX12_feed_49 : decode cX12_feed 49 = .ok (.iconst 3, 1) := by decide +kernel
theorem dX12_feed_50 : decode cX12_feed 50 = .ok (.iaload, 1) := by decide +kernel
theorem dX12_feed_51 : decode cX12_feed 51 = .ok (.iadd, 1) := by decide +kernel
theorem dX12_feed_52 : decode cX12_feed 52 = .ok (.lload_n 1, 1) := by decide +kernel
theorem dX12_feed_53 : decode cX12_feed 53 = .ok (.bipush 8, 2) := by decide +kernel
theorem dX12_feed_55 : decode cX12_feed 55 = .ok (.iload 4, 2) := by decide +kernel
theorem dX12_feed_57 : decode cX12_feed 57 = .ok (.imul, 1) := by decide +kernel
theorem dX12_feed_58 : decode cX12_feed 58 = .ok (.lshr, 1) := by decide +kernel
theorem dX12_feed_59 : decode cX12_feed 59 = .ok (.ldc2_w 59, 3) := by decide +kernel
theorem dX12_feed_62 : decode cX12_feed 62 = .ok (.land, 1) := by decide +kernel
theorem dX12_feed_63 : decode cX12_feed 63 = .ok (.l2i, 1) := by decide +kernel
theorem dX12_feed_64 : decode cX12_feed 64 = .ok (.iastore, 1) := by decide +kernel
theorem dX12_feed_65 : decode cX12_feed 65 = .ok (.aload_n 0, 1) := by decide +kernel
theorem dX12_feed_66 : decode cX12_feed 66 = .ok (.getfield 9, 3) := by decide +kernel
theorem dX12_feed_69 : decode cX12_feed 69 = .ok (.iconst 3, 1) := by decide +kernel
theorem dX12_feed_70 : decode cX12_feed 70 = .ok (.dup2, 1) := by decide +kernel
theorem dX12_feed_71 : decode cX12_feed 71 = .ok (.iaload, 1) := by decide +kernel
theorem dX12_feed_72 : decode cX12_feed 72 = .ok (.iconst 1, 1) := by decide +kernel
theorem dX12_feed_73 : decode cX12_feed 73 = .ok (.iadd, 1) := by decide +kernel
theorem dX12_feed_74 : decode cX12_feed 74 = .ok (.iastore, 1) := by decide +kernel
theorem dX12_feed_75 : decode cX12_feed 75 = .ok (.iinc 4 (-1), 3) := by decide +kernel
theorem dX12_feed_78 : decode cX12_feed 78 = .ok (.goto (-44), 3) := by decide +kernel
theorem dX12_feed_81 : decode cX12_feed 81 = .ok (.aload_n 0, 1) := by decide +kernel
theorem dX12_feed_82 : decode cX12_feed 82 = .ok (.getfield 9, 3) := by decide +kernel
theorem dX12_feed_85 : decode cX12_feed 85 = .ok (.iconst 3, 1) := by decide +kernel
theorem dX12_feed_86 : decode cX12_feed 86 = .ok (.iaload, 1) := by decide +kernel
theorem dX12_feed_87 : decode cX12_feed 87 = .ok (.ireturn, 1) := by decide +kernel
theorem dX12_figure_0 : decode cX12_figure 0 = .ok (.aload_n 0, 1) := by decide +kernel
theorem dX12_figure_1 : decode cX12_figure 1 = .ok (.aload_n 0, 1) := by decide +kernel
theorem dX12_figure_2 : decode cX12_figure 2 = .ok (.getfield 67, 3) := by decide +kernel
theorem dX12_figure_5 : decode cX12_figure 5 = .ok (.ifCond .ne 19, 3) := by decide +kernel
theorem dX12_figure_8 : decode cX12_figure 8 = .ok (.aload_n 0, 1) := by decide +kernel
theorem dX12_figure_9 : decode cX12_figure 9 = .ok (.invokevirtual 71, 3) := by decide +kernel
theorem dX12_figure_12 : decode cX12_figure 12 = .ok (.bipush 48, 2) := by decide +kernel
theorem dX12_figure_14 : decode cX12_figure 14 = .ok (.iload_n 1, 1) := by decide +kernel
theorem dX12_figure_15 : decode cX12_figure 15 = .ok (.iadd, 1) := by decide +kernel
theorem dX12_figure_16 : decode cX12_figure 16 = .ok (.bipush 57, 2) := by decide +kernel
theorem dX12_figure_18 : decode cX12_figure 18 = .ok (.invokestatic 44, 3) := by decide +kernel
theorem dX12_figure_21 : decode cX12_figure 21 = .ok (.ifCond .ne 7, 3) := by decide +kernel
theorem dX12_figure_24 : decode cX12_figure 24 = .ok (.iconst 1, 1) := by decide +kernel
theorem dX12_figure_25 : decode cX12_figure 25 = .ok (.goto 4, 3) := by decide +kernel
theorem dX12_figure_28 : decode cX12_figure 28 = .ok (.iconst 0, 1) := by decide +kernel
theorem dX12_figure_29 : decode cX12_figure 29 = .ok (.putfield 67, 3) := by decide +kernel
theorem dX12_figure_32 : decode cX12_figure 32 = .ok (.aload_n 0, 1) := by decide +kernel
theorem dX12_figure_33 : decode cX12_figure 33 = .ok (.getfield 67, 3) := by decide +kernel
theorem dX12_figure_36 : decode cX12_figure 36 = .ok (.ifCond .eq 7, 3) := by decide +kernel
theorem dX12_figure_39 : decode cX12_figure 39 = .ok (.iconst 0, 1) := by decide +kernel
theorem dX12_figure_40 : decode cX12_figure 40 = .ok (.goto 10, 3) := by decide +kernel
theorem dX12_figure_43 : decode cX12_figure 43 = .ok (.aload_n 0, 1) := by decide +kernel
theorem dX12_figure_44 : decode cX12_figure 44 = .ok (.invokevirtual 71, 3) := by decide +kernel
theorem dX12_figure_47 : decode cX12_figure 47 = .ok (.bipush 48, 2) := by decide +kernel
theorem dX12_figure_49 : decode cX12_figure 49 = .ok (.isub, 1) := by decide +kernel
theorem dX12_figure_50 : decode cX12_figure 50 = .ok (.istore_n 2, 1) := by decide +kernel
theorem dX12_figure_51 : decode cX12_figure 51 = .ok (.aload_n 0, 1) := by decide +kernel
theorem dX12_figure_52 : decode cX12_figure 52 = .ok (.dup, 1) := by decide +kernel
theorem dX12_figure_53 : decode cX12_figure 53 = .ok (.getfield 61, 3) := by decide +kernel
theorem dX12_figure_56 : decode cX12_figure 56 = .ok (.aload_n 0, 1) := by decide +kernel
theorem dX12_figure_57 : decode cX12_figure 57 = .ok (.getfield 67, 3) := by decide +kernel
theorem dX12_figure_60 : decode cX12_figure 60 = .ok (.ifCond .eq 7, 3) := by decide +kernel
theorem dX12_figure_63 : decode cX12_figure 63 = .ok (.iconst 0, 1) := by decide +kernel
theorem dX12_figure_64 : decode cX12_figure 64 = .ok (.goto 4, 3) := by decide +kernel
theorem dX12_figure_67 : decode cX12_figure 67 = .ok (.iconst 1, 1) := by decide +kernel
theorem dX12_figure_68 : decode cX12_figure 68 = .ok (.iadd, 1) := by decide +kernel
theorem dX12_figure_69 : decode cX12_figure 69 = .ok (.putfield 61, 3) := by decide +kernel
theorem dX12_figure_72 : decode cX12_figure 72 = .ok (.iload_n 2, 1) := by decide +kernel
theorem dX12_figure_73 : decode cX12_figure 73 = .ok (.ireturn, 1) := by decide +kernel
theorem dX12_figures_0 : decode cX12_figures 0 = .ok (.aload_n 0, 1) := by decide +kernel
theorem dX12_figures_1 : decode cX12_figures 1 = .ok (.aload_n 0, 1) := by decide +kernel
theorem dX12_figures_2 : decode cX12_figures 2 = .ok (.getfield 67, 3) := by decide +kernel
theorem dX12_figures_5 : decode cX12_figures 5 = .ok (.ifCond .ne 17, 3) := by decide +kernel
theorem dX12_figures_8 : decode cX12_figures 8 = .ok (.aload_n 0, 1) := by decide +kernel
theorem dX12_figures_9 : decode cX12_figures 9 = .ok (.invokevirtual 71, 3) := by decide +kernel
theorem dX12_figures_12 : decode cX12_figures 12 = .ok (.bipush 48, 2) := by decide +kernel
theorem dX12_figures_14 : decode cX12_figures 14 = .ok (.bipush 57, 2) := by decide +kernel
theorem dX12_figures_16 : decode cX12_figures 16 = .ok (.invokestatic 44, 3) := by decide +kernel
theorem dX12_figures_19 : decode cX12_figures 19 = .ok (.ifCond .ne 7, 3) := by decide +kernel
theorem dX12_figures_22 : decode cX12_figures 22 = .ok (.iconst 1, 1) := by decide +kernel
theorem dX12_figures_23 : decode cX12_figures 23 = .ok (.goto 4, 3) := by decide +kernel
theorem dX12_figures_26 : decode cX12_figures 26 = .ok (.iconst 0, 1) := by decide +kernel
theorem dX12_figures_27 : decode cX12_figures 27 = .ok (.putfield 67, 3) := by decide +kernel
theorem dX12_figures_30 : decode cX12_figures 30 = .ok (.iconst 0, 1) := by decide +kernel
theorem dX12_figures_31 : decode cX12_figures 31 = .ok (.istore_n 1, 1) := by decide +kernel
theorem dX12_figures_32 : decode cX12_figures 32 = .ok (.iconst 0, 1) := by decide +kernel
theorem dX12_figures_33 : decode cX12_figures 33 = .ok (.istore_n 2, 1) := by decide +kernel
theorem dX12_figures_34 : decode cX12_figures 34 = .ok (.iload_n 2, 1) := by decide +kernel
theorem dX12_figures_35 : decode cX12_figures 35 = .ok (.iconst 2, 1) := by decide +kernel
theorem dX12_figures_36 : decode cX12_figures 36 = .ok (.if_icmp .ge 61, 3) := by decide +kernel
theorem dX12_figures_39 : decode cX12_figures 39 = .ok (.aload_n 0, 1) := by decide +kernel
theorem dX12_figures_40 : decode cX12_figures 40 = .ok (.getfield 67, 3) := by decide +kernel
theorem dX12_figures_43 : decode cX12_figures 43 = .ok (.ifCond .ne 54, 3) := by decide +kernel
theorem dX12_figures_46 : decode cX12_figures 46 = .ok (.aload_n 0, 1) := by decide +kernel
theorem dX12_figures_47 : decode cX12_figures 47 = .ok (.invokevirtual 71, 3) := by decide +kernel
theorem dX12_figures_50 : decode cX12_figures 50 = .ok (.bipush 48, 2) := by decide +kernel
theorem dX12_figures_52 : decode cX12_figures 52 = .ok (.bipush 57, 2) := by decide +kernel
theorem dX12_figures_54 : decode cX12_figures 54 = .ok (.invokestatic 44, 3) := by decide +kernel
theorem dX12_figures_57 : decode cX12_figures 57 = .ok (.ifCond .eq 40, 3) := by decide +kernel
theorem dX12_figures_60 : decode cX12_figures 60 = .ok (.iload_n 2, 1) := by decide +kernel
theorem dX12_figures_61 : decode cX12_figures 61 = .ok (.ifCond .eq 7, 3) := by decide +kernel
theorem dX12_figures_64 : decode cX12_figures 64 = .ok (.iload_n 1, 1) := by decide +kernel
theorem dX12_figures_65 : decode cX12_figures 65 = .ok (.ifCond .le 32, 3) := by decide +kernel
theorem dX12_figures_68 : decode cX12_figures 68 = .ok (.bipush 10, 2) := by decide +kernel
theorem dX12_figures_70 : decode cX12_figures 70 = .ok (.iload_n 1, 1) := by decide +kernel
theorem dX12_figures_71 : decode cX12_figures 71 = .ok (.imul, 1) := by decide +kernel
theorem dX12_figures_72 : decode cX12_figures 72 = .ok (.aload_n 0, 1) := by decide +kernel
theorem dX12_figures_73 : decode cX12_figures 73 = .ok (.invokevirtual 71, 3) := by decide +kernel
theorem dX12_figures_76 : decode cX12_figures 76 = .ok (.iadd, 1) := by decide +kernel
theorem dX12_figures_77 : decode cX12_figures 77 = .ok (.bipush 48, 2) := by decide +kernel
theorem dX12_figures_79 : decode cX12_figures 79 = .ok (.isub, 1) := by decide +kernel
theorem dX12_figures_80 : decode cX12_figures 80 = .ok (.istore_n 1, 1) := by decide +kernel
theorem dX12_figures_81 : decode cX12_figures 81 = .ok (.aload_n 0, 1) := by decide +kernel
theorem dX12_figures_82 : decode cX12_figures 82 = .ok (.dup, 1) := by decide +kernel
theorem dX12_figures_83 : decode cX12_figures 83 = .ok (.getfield 61, 3) := by decide +kernel
theorem dX12_figures_86 : decode cX12_figures 86 = .ok (.iconst 1, 1) := by decide +kernel
theorem dX12_figures_87 : decode cX12_figures 87 = .ok (.iadd, 1) := by decide +kernel
theorem dX12_figures_88 : decode cX12_figures 88 = .ok (.putfield 61, 3) := by decide +kernel
theorem dX12_figures_91 : decode cX12_figures 91 = .ok (.iinc 2 1, 3) := by decide +kernel
theorem dX12_figures_94 : decode cX12_figures 94 = .ok (.goto (-60), 3) := by decide +kernel
theorem dX12_figures_97 : decode cX12_figures 97 = .ok (.iload_n 1, 1) := by decide +kernel
theorem dX12_figures_98 : decode cX12_figures 98 = .ok (.ireturn, 1) := by decide +kernel
theorem dX12_gears_0 : decode cX12_gears 0 = .ok (.iload_n 2, 1) := by decide +kernel
theorem dX12_gears_1 : decode cX12_gears 1 = .ok (.iconst 0, 1) := by decide +kernel
theorem dX12_gears_2 : decode cX12_gears 2 = .ok (.iconst 1, 1) := by decide +kernel
theorem dX12_gears_3 : decode cX12_gears 3 = .ok (.invokestatic 44, 3) := by decide +kernel
theorem dX12_gears_6 : decode cX12_gears 6 = .ok (.ifCond .ne 5, 3) := by decide +kernel
theorem dX12_gears_9 : decode cX12_gears 9 = .ok (.iconst (-1), 1) := by decide +kernel
theorem dX12_gears_10 : decode cX12_gears 10 = .ok (.ireturn, 1) := by decide +kernel
theorem dX12_gears_11 : decode cX12_gears 11 = .ok (.iload_n 1, 1) := by decide +kernel
theorem dX12_gears_12 : decode cX12_gears 12 = .ok (.iconst 1, 1) := by decide +kernel
theorem dX12_gears_13 : decode cX12_gears 13 = .ok (.iconst 4, 1) := by decide +kernel
theorem dX12_gears_14 : decode cX12_gears 14 = .ok (.invokestatic 44, 3) := by decide +kernel
theorem dX12_gears_17 : decode cX12_gears 17 = .ok (.ifCond .ne 6, 3) := by decide +kernel
theorem dX12_gears_20 : decode cX12_gears 20 = .ok (.bipush (-2), 2) := by decide +kernel
theorem dX12_gears_22 : decode cX12_gears 22 = .ok (.ireturn, 1) := by decide +kernel
theorem dX12_gears_23 : decode cX12_gears 23 = .ok (.aload_n 0, 1) := by decide +kernel
theorem dX12_gears_24 : decode cX12_gears 24 = .ok (.invokevirtual 48, 3) := by decide +kernel
theorem dX12_gears_27 : decode cX12_gears 27 = .ok (.ifCond .ne 6, 3) := by decide +kernel
theorem dX12_gears_30 : decode cX12_gears 30 = .ok (.bipush (-3), 2) := by decide +kernel
theorem dX12_gears_32 : decode cX12_gears 32 = .ok (.ireturn, 1) := by decide +kernel
theorem dX12_gears_33 : decode cX12_gears 33 = .ok (.iconst (-1), 1) := by decide +kernel
theorem dX12_gears_34 : decode cX12_gears 34 = .ok (.istore_n 3, 1) := by decide +kernel
theorem dX12_gears_35 : decode cX12_gears 35 = .ok (.iconst 0, 1) := by decide +kernel
theorem dX12_gears_36 : decode cX12_gears 36 = .ok (.istore 4, 2) := by decide +kernel
theorem dX12_gears_38 : decode cX12_gears 38 = .ok (.iconst 1, 1) := by decide +kernel
theorem dX12_gears_39 : decode cX12_gears 39 = .ok (.istore 5, 2) := by decide +kernel
theorem dX12_gears_41 : decode cX12_gears 41 = .ok (.iload 5, 2) := by decide +kernel
theorem dX12_gears_43 : decode cX12_gears 43 = .ok (.iload_n 1, 1) := by decide +kernel
theorem dX12_gears_44 : decode cX12_gears 44 = .ok (.if_icmp .gt 89, 3) := by decide +kernel
theorem dX12_gears_47 : decode cX12_gears 47 = .ok (.iconst 1, 1) := by decide +kernel
theorem dX12_gears_48 : decode cX12_gears 48 = .ok (.istore 6, 2) := by decide +kernel
theorem dX12_gears_50 : decode cX12_gears 50 = .ok (.iload 6, 2) := by decide +kernel
theorem dX12_gears_52 : decode cX12_gears 52 = .ok (.sipush 1024, 3) := by decide +kernel
theorem dX12_gears_55 : decode cX12_gears 55 = .ok (.if_icmp .ge 72, 3) := by decide +kernel
theorem dX12_gears_58 : decode cX12_gears 58 = .ok (.iload 6, 2) := by decide +kernel
theorem dX12_gears_60 : decode cX12_gears 60 = .ok (.invokestatic 238, 3) := by decide +kernel
theorem dX12_gears_63 : decode cX12_gears 63 = .ok (.iload 5, 2) := by decide +kernel
theorem dX12_gears_65 : decode cX12_gears 65 = .ok (.if_icmp .ne 56, 3) := by decide +kernel
theorem dX12_gears_68 : decode cX12_gears 68 = .ok (.aload_n 0, 1) := by decide +kernel
theorem dX12_gears_69 : decode cX12_gears 69 = .ok (.iload 6, 2) := by decide +kernel
theorem dX12_gears_71 : decode cX12_gears 71 = .ok (.invokevirtual 241, 3) := by decide +kernel
theorem dX12_gears_74 : decode cX12_gears 74 = .ok (.istore 7, 2) := by decide +kernel
theorem dX12_gears_76 : decode cX12_gears 76 = .ok (.iload_n 3, 1) := by decide +kernel
theorem dX12_gears_77 : decode cX12_gears 77 = .ok (.iconst (-1), 1) := by decide +kernel
theorem dX12_gears_78 : decode cX12_gears 78 = .ok (.if_icmp .eq 10, 3) := by decide +kernel
theorem dX12_gears_81 : decode cX12_gears 81 = .ok (.iload 7, 2) := by decide +kernel
theorem dX12_gears_83 : decode cX12_gears 83 = .ok (.iload 4, 2) := by decide +kernel
theorem dX12_gears_85 : decode cX12_gears 85 = .ok (.if_icmp .ge 7, 3) := by decide +kernel
theorem dX12_gears_88 : decode cX12_gears 88 = .ok (.iconst 1, 1) := by decide +kernel
theorem dX12_gears_89 : decode cX12_gears 89 = .ok (.goto 4, 3) := by decide +kernel
theorem dX12_gears_92 : decode cX12_gears 92 = .ok (.iconst 0, 1) := by decide +kernel
theorem dX12_gears_93 : decode cX12_gears 93 = .ok (.istore 8, 2) := by decide +kernel
theorem dX12_gears_95 : decode cX12_gears 95 = .ok (.iload 8, 2) := by decide +kernel
theorem dX12_gears_97 : decode cX12_gears 97 = .ok (.ifCond .eq 8, 3) := by decide +kernel
theorem dX12_gears_100 : decode cX12_gears 100 = .ok (.iload 6, 2) := by decide +kernel
theorem dX12_gears_102 : decode cX12_gears 102 = .ok (.goto 4, 3) := by decide +kernel
theorem dX12_gears_105 : decode cX12_gears 105 = .ok (.iload_n 3, 1) := by decide +kernel
theorem dX12_gears_106 : decode cX12_gears 106 = .ok (.istore_n 3, 1) := by decide +kernel
theorem dX12_gears_107 : decode cX12_gears 107 = .ok (.iload 8, 2) := by decide +kernel
theorem dX12_gears_109 : decode cX12_gears 109 = .ok (.ifCond .eq 8, 3) := by decide +kernel
theorem dX12_gears_112 : decode cX12_gears 112 = .ok (.iload 7, 2) := by decide +kernel
theorem dX12_gears_114 : decode cX12_gears 114 = .ok (.goto 5, 3) := by decide +kernel
theorem dX12_gears_117 : decode cX12_gears 117 = .ok (.iload 4, 2) := by decide +kernel
theorem dX12_gears_119 : decode cX12_gears 119 = .ok (.istore 4, 2) := by decide +kernel
theorem dX12_gears_121 : decode cX12_gears 121 = .ok (.iinc 6 2, 3) := by decide +kernel
theorem dX12_gears_124 : decode cX12_gears 124 = .ok (.goto (-74), 3) := by decide +kernel
theorem dX12_gears_127 : decode cX12_gears 127 = .ok (.iinc 5 1, 3) := by decide +kernel
theorem dX12_gears_130 : decode cX12_gears 130 = .ok (.goto (-89), 3) := by decide +kernel
theorem dX12_gears_133 : decode cX12_gears 133 = .ok (.iload_n 2, 1) := by decide +kernel
theorem dX12_gears_134 : decode cX12_gears 134 = .ok (.ifCond .ne 7, 3) := by decide +kernel
theorem dX12_gears_137 : decode cX12_gears 137 = .ok (.iload_n 3, 1) := by decide +kernel
theorem dX12_gears_138 : decode cX12_gears 138 = .ok (.goto 5, 3) := by decide +kernel
theorem dX12_gears_141 : decode cX12_gears 141 = .ok (.iload 4, 2) := by decide +kernel
theorem dX12_gears_143 : decode cX12_gears 143 = .ok (.ireturn, 1) := by decide +kernel
theorem dX12_goesActs_0 : decode cX12_goesActs 0 = .ok (.aload_n 0, 1) := by decide +kernel
theorem dX12_goesActs_1 : decode cX12_goesActs 1 = .ok (.getfield 256, 3) := by decide +kernel
theorem dX12_goesActs_4 : decode cX12_goesActs 4 = .ok (.iconst 4, 1) := by decide +kernel
theorem dX12_goesActs_5 : decode cX12_goesActs 5 = .ok (.if_icmp .ne 20, 3) := by decide +kernel
theorem dX12_goesActs_8 : decode cX12_goesActs 8 = .ok (.aload_n 0, 1) := by decide +kernel
theorem dX12_goesActs_9 : decode cX12_goesActs 9 = .ok (.bipush 51, 2) := by decide +kernel
theorem dX12_goesActs_11 : decode cX12_goesActs 11 = .ok (.invokevirtual 247, 3) := by decide +kernel
theorem dX12_goesActs_14 : decode cX12_goesActs 14 = .ok (.aload_n 0, 1) := by decide +kernel
theorem dX12_goesActs_15 : decode cX12_goesActs 15 = .ok (.iload_n 1, 1) := by decide +kernel
theorem dX12_goesActs_16 : decode cX12_goesActs 16 = .ok (.invokevirtual 259, 3) := by decide +kernel
theorem dX12_goesActs_19 : decode cX12_goesActs 19 = .ok (.aload_n 0, 1) := by decide +kernel
theorem dX12_goesActs_20 : decode cX12_goesActs 20 = .ok (.getfield 250, 3) := by decide +kernel
theorem dX12_goesActs_23 : decode cX12_goesActs 23 = .ok (.ixor, 1) := by decide +kernel
theorem dX12_goesActs_24 : decode cX12_goesActs 24 = .ok (.ireturn, 1) := by decide +kernel
theorem dX12_goesActs_25 : decode cX12_goesActs 25 = .ok (.aload_n 0, 1) := by decide +kernel
theorem dX12_goesActs_26 : decode cX12_goesActs 26 = .ok (.getfield 256, 3) := by decide +kernel
theorem dX12_goesActs_29 : decode cX12_goesActs 29 = .ok (.iconst 1, 1) := by decide +kernel
theorem dX12_goesActs_30 : decode cX12_goesActs 30 = .ok (.invokestatic 262, 3) := by decide +kernel
theorem dX12_goesActs_33 : decode cX12_goesActs 33 = .ok (.ifCond .eq 11, 3) := by decide +kernel
theorem dX12_goesActs_36 : decode cX12_goesActs 36 = .ok (.aload_n 0, 1) := by decide +kernel
theorem dX12_goesActs_37 : decode cX12_goesActs 37 = .ok (.iload_n 1, 1) := by decide +kernel
theorem dX12_goesActs_38 : decode cX12_goesActs 38 = .ok (.invokevirtual 259, 3) := by decide +kernel
theorem dX12_goesActs_41 : decode cX12_goesActs 41 = .ok (.goto 8, 3) := by decide +kernel
theorem dX12_goesActs_44 : decode cX12_goesActs 44 = .ok (.aload_n 0, 1) := by decide +kernel
theorem dX12_goesActs_45 : decode cX12_goesActs 45 = .ok (.iload_n 1, 1) := by decide +kernel
theorem dX12_goesActs_46 : decode cX12_goesActs 46 = .ok (.invokevirtual 253, 3) := by decide +kernel
theorem dX12_goesActs_49 : decode cX12_goesActs 49 = .ok (.ireturn, 1) := by decide +kernel
theorem dX12_heats_0 : decode cX12_heats 0 = .ok (.aload_n 0, 1) := by decide +kernel
theorem dX12_heats_1 : decode cX12_heats 1 = .ok (.sipush 1023, 3) := by decide +kernel
theorem dX12_heats_4 : decode cX12_heats 4 = .ok (.invokevirtual 185, 3) := by decide +kernel
theorem dX12_heats_7 : decode cX12_heats 7 = .ok (.aload_n 0, 1) := by decide +kernel
theorem dX12_heats_8 : decode cX12_heats 8 = .ok (.lconst 0, 1) := by decide +kernel
theorem dX12_heats_9 : decode cX12_heats 9 = .ok (.putfield 211, 3) := by decide +kernel
theorem dX12_heats_12 : decode cX12_heats 12 = .ok (.aload_n 0, 1) := by decide +kernel
theorem dX12_heats_13 : decode cX12_heats 13 = .ok (.lconst 0, 1) := by decide +kernel
theorem dX12_heats_14 : decode cX12_heats 14 = .ok (.putfield 215, 3) := by decide +kernel
theorem dX12_heats_17 : decode cX12_heats 17 = .ok (.aload_n 0, 1) := by decide +kernel
theorem dX12_heats_18 : decode cX12_heats 18 = .ok (.iload_n 1, 1) := by decide +kernel
theorem dX12_heats_19 : decode cX12_heats 19 = .ok (.iconst 0, 1) := by decide +kernel
theorem dX12_heats_20 : decode cX12_heats 20 = .ok (.aload_n 0, 1) := by decide +kernel
theorem dX12_heats_21 : decode cX12_heats 21 = .ok (.invokevirtual 56, 3) := by decide +kernel
theorem dX12_heats_24 : decode cX12_heats 24 = .ok (.iconst 0, 1) := by decide +kernel
theorem dX12_heats_25 : decode cX12_heats 25 = .ok (.lconst 1, 1) := by decide +kernel
theorem dX12_heats_26 : decode cX12_heats 26 = .ok (.iload_n 2, 1) := by decide +kernel
theorem dX12_heats_27 : decode cX12_heats 27 = .ok (.invokevirtual 218, 3) := by decide +kernel
theorem dX12_heats_30 : decode cX12_heats 30 = .ok (.return_, 1) := by decide +kernel
theorem dX12_here_0 : decode cX12_here 0 = .ok (.aload_n 0, 1) := by decide +kernel
theorem dX12_here_1 : decode cX12_here 1 = .ok (.getfield 61, 3) := by decide +kernel
theorem dX12_here_4 : decode cX12_here 4 = .ok (.aload_n 0, 1) := by decide +kernel
theorem dX12_here_5 : decode cX12_here 5 = .ok (.getfield 64, 3) := by decide +kernel
theorem dX12_here_8 : decode cX12_here 8 = .ok (.if_icmp .ge 18, 3) := by decide +kernel
theorem dX12_here_11 : decode cX12_here 11 = .ok (.aload_n 0, 1) := by decide +kernel
theorem dX12_here_12 : decode cX12_here 12 = .ok (.getfield 9, 3) := by decide +kernel
theorem dX12_here_15 : decode cX12_here 15 = .ok (.bipush 10, 2) := by decide +kernel
theorem dX12_here_17 : decode cX12_here 17 = .ok (.aload_n 0, 1) := by decide +kernel
theorem dX12_here_18 : decode cX12_here 18 = .ok (.getfield 61, 3) := by decide +kernel
theorem dX12_here_21 : decode cX12_here 21 = .ok (.iadd, 1) := by decide +kernel
theorem dX12_here_22 : decode cX12_here 22 = .ok (.iaload, 1) := by decide +kernel
theorem dX12_here_23 : decode cX12_here 23 = .ok (.goto 4, 3) := by decide +kernel
theorem dX12_here_26 : decode cX12_here 26 = .ok (.iconst (-1), 1) := by decide +kernel
theorem dX12_here_27 : decode cX12_here 27 = .ok (.ireturn, 1) := by decide +kernel
theorem dX12_hots_0 : decode cX12_hots 0 = .ok (.iload_n 2, 1) := by decide +kernel
theorem dX12_hots_1 : decode cX12_hots 1 = .ok (.aload_n 0, 1) := by decide +kernel
theorem dX12_hots_2 : decode cX12_hots 2 = .ok (.invokevirtual 48, 3) := by decide +kernel
theorem dX12_hots_5 : decode cX12_hots 5 = .ok (.if_icmp .ne 41, 3) := by decide +kernel
theorem dX12_hots_8 : decode cX12_hots 8 = .ok (.aload_n 0, 1) := by decide +kernel
theorem dX12_hots_9 : decode cX12_hots 9 = .ok (.dup, 1) := by decide +kernel
theorem dX12_hots_10 : decode cX12_hots 10 = .ok (.getfield 211, 3) := by decide +kernel
theorem dX12_hots_13 : decode cX12_hots 13 = .ok (.lload 5, 2) := by decide +kernel
theorem dX12_hots_15 : decode cX12_hots 15 = .ok (.iload 4, 2) := by decide +kernel
theorem dX12_hots_17 : decode cX12_hots 17 = .ok (.i2l, 1) := by decide +kernel
theorem dX12_hots_18 : decode cX12_hots 18 = .ok (.lmul, 1) := by decide +kernel
theorem dX12_hots_19 : decode cX12_hots 19 = .ok (.ladd, 1) := by decide +kernel
theorem dX12_hots_20 : decode cX12_hots 20 = .ok (.putfield 211, 3) := by decide +kernel
theorem dX12_hots_23 : decode cX12_hots 23 = .ok (.aload_n 0, 1) := by decide +kernel
theorem dX12_hots_24 : decode cX12_hots 24 = .ok (.dup, 1) := by decide +kernel
theorem dX12_hots_25 : decode cX12_hots 25 = .ok (.getfield 215, 3) := by decide +kernel
theorem dX12_hots_28 : decode cX12_hots 28 = .ok (.iload 4, 2) := by decide +kernel
theorem dX12_hots_30 : decode cX12_hots 30 = .ok (.iload 7, 2) := by decide +kernel
theorem dX12_hots_32 : decode cX12_hots 32 = .ok (.if_icmp .gt 8, 3) := by decide +kernel
theorem dX12_hots_35 : decode cX12_hots 35 = .ok (.lload 5, 2) := by decide +kernel
theorem dX12_hots_37 : decode cX12_hots 37 = .ok (.goto 4, 3) := by decide +kernel
theorem dX12_hots_40 : decode cX12_hots 40 = .ok (.lconst 0, 1) := by decide +kernel
theorem dX12_hots_41 : decode cX12_hots 41 = .ok (.ladd, 1) := by decide +kernel
theorem dX12_hots_42 : decode cX12_hots 42 = .ok (.putfield 215, 3) := by decide +kernel
theorem dX12_hots_45 : decode cX12_hots 45 = .ok (.return_, 1) := by decide +kernel
theorem dX12_hots_46 : decode cX12_hots 46 = .ok (.aload_n 0, 1) := by decide +kernel
theorem dX12_hots_47 : decode cX12_hots 47 = .ok (.sipush 238, 3) := by decide +kernel
theorem dX12_hots_50 : decode cX12_hots 50 = .ok (.iconst 0, 1) := by decide +kernel
theorem dX12_hots_51 : decode cX12_hots 51 = .ok (.invokevirtual 52, 3) := by decide +kernel
theorem dX12_hots_54 : decode cX12_hots 54 = .ok (.istore 8, 2) := by decide +kernel
theorem dX12_hots_56 : decode cX12_hots 56 = .ok (.aload_n 0, 1) := by decide +kernel
theorem dX12_hots_57 : decode cX12_hots 57 = .ok (.iload_n 1, 1) := by decide +kernel
theorem dX12_hots_58 : decode cX12_hots 58 = .ok (.iload_n 2, 1) := by decide +kernel
theorem dX12_hots_59 : decode cX12_hots 59 = .ok (.iload_n 3, 1) := by decide +kernel
theorem dX12_hots_60 : decode cX12_hots 60 = .ok (.invokevirtual 197, 3) := by decide +kernel
theorem dX12_hots_63 : decode cX12_hots 63 = .ok (.istore 9, 2) := by decide +kernel
theorem dX12_hots_65 : decode cX12_hots 65 = .ok (.aload_n 0, 1) := by decide +kernel
theorem dX12_hots_66 : decode cX12_hots 66 = .ok (.iload_n 2, 1) := by decide +kernel
theorem dX12_hots_67 : decode cX12_hots 67 = .ok (.iload 9, 2) := by decide +kernel
theorem dX12_hots_69 : decode cX12_hots 69 = .ok (.iload_n 3, 1) := by decide +kernel
theorem dX12_hots_70 : decode cX12_hots 70 = .ok (.invokevirtual 179, 3) := by decide +kernel
theorem dX12_hots_73 : decode cX12_hots 73 = .ok (.istore 10, 2) := by decide +kernel
theorem dX12_hots_75 : decode cX12_hots 75 = .ok (.iload 8, 2) := by decide +kernel
theorem dX12_hots_77 : decode cX12_hots 77 = .ok (.bipush 10, 2) := by decide +kernel
theorem dX12_hots_79 : decode cX12_hots 79 = .ok (.if_icmp .ge 35, 3) := by decide +kernel
theorem dX12_hots_82 : decode cX12_hots 82 = .ok (.aload_n 0, 1) := by decide +kernel
theorem dX12_hots_83 : decode cX12_hots 83 = .ok (.iload_n 1, 1) := by decide +kernel
theorem dX12_hots_84 : decode cX12_hots 84 = .ok (.iload_n 2, 1) := by decide +kernel
theorem dX12_hots_85 : decode cX12_hots 85 = .ok (.iconst 1, 1) := by decide +kernel
theorem dX12_hots_86 : decode cX12_hots 86 = .ok (.iadd, 1) := by decide +kernel
theorem dX12_hots_87 : decode cX12_hots 87 = .ok (.aload_n 0, 1) := by decide +kernel
theorem dX12_hots_88 : decode cX12_hots 88 = .ok (.iload_n 2, 1) := by decide +kernel
theorem dX12_hots_89 : decode cX12_hots 89 = .ok (.iload 9, 2) := by decide +kernel
theorem dX12_hots_91 : decode cX12_hots 91 = .ok (.iload_n 3, 1) := by decide +kernel
theorem dX12_hots_92 : decode cX12_hots 92 = .ok (.invokevirtual 182, 3) := by decide +kernel
theorem dX12_hots_95 : decode cX12_hots 95 = .ok (.iload 4, 2) := by decide +kernel
theorem dX12_hots_97 : decode cX12_hots 97 = .ok (.iload 10, 2) := by decide +kernel
theorem dX12_hots_99 : decode cX12_hots 99 = .ok (.iadd, 1) := by decide +kernel
theorem dX12_hots_100 : decode cX12_hots 100 = .ok (.lload 5, 2) := by decide +kernel
theorem dX12_hots_102 : decode cX12_hots 102 = .ok (.bipush 10, 2) := by decide +kernel
theorem dX12_hots_104 : decode cX12_hots 104 = .ok (.iload 8, 2) := by decide +kernel
theorem dX12_hots_106 : decode cX12_hots 106 = .ok (.isub, 1) := by decide +kernel
theorem dX12_hots_107 : decode cX12_hots 107 = .ok (.i2l, 1) := by decide +kernel
theorem dX12_hots_108 : decode cX12_hots 108 = .ok (.lmul, 1) := by decide +kernel
theorem dX12_hots_109 : decode cX12_hots 109 = .ok (.iload 7, 2) := by decide +kernel
theorem dX12_hots_111 : decode cX12_hots 111 = .ok (.invokevirtual 218, 3) := by decide +kernel
theorem dX12_hots_114 : decode cX12_hots 114 = .ok (.iload 8, 2) := by decide +kernel
theorem dX12_hots_116 : decode cX12_hots 116 = .ok (.ifCond .le 79, 3) := by decide +kernel
theorem dX12_hots_119 : decode cX12_hots 119 = .ok (.iload 9, 2) := by decide +kernel
theorem dX12_hots_121 : decode cX12_hots 121 = .ok (.aload_n 0, 1) := by decide +kernel
theorem dX12_hots_122 : decode cX12_hots 122 = .ok (.invokevirtual 166, 3) := by decide +kernel
theorem dX12_hots_125 : decode cX12_hots 125 = .ok (.if_icmp .le 23, 3) := by decide +kernel
theorem dX12_hots_128 : decode cX12_hots 128 = .ok (.iload_n 3, 1) := by decide +kernel
theorem dX12_hots_129 : decode cX12_hots 129 = .ok (.iconst 2, 1) := by decide +kernel
theorem dX12_hots_130 : decode cX12_hots 130 = .ok (.aload_n 0, 1) := by decide +kernel
theorem dX12_hots_131 : decode cX12_hots 131 = .ok (.iload_n 2, 1) := by decide +kernel
theorem dX12_hots_132 : decode cX12_hots 132 = .ok (.invokevirtual 155, 3) := by decide +kernel
theorem dX12_hots_135 : decode cX12_hots 135 = .ok (.imul, 1) := by decide +kernel
theorem dX12_hots_136 : decode cX12_hots 136 = .ok (.iload 9, 2) := by decide +kernel
theorem dX12_hots_138 : decode cX12_hots 138 = .ok (.aload_n 0, 1) := by decide +kernel
theorem dX12_hots_139 : decode cX12_hots 139 = .ok (.invokevirtual 166, 3) := by decide +kernel
theorem dX12_hots_142 : decode cX12_hots 142 = .ok (.isub, 1) := by decide +kernel
theorem dX12_hots_143 : decode cX12_hots 143 = .ok (.imul, 1) := by decide +kernel
theorem dX12_hots_144 : decode cX12_hots 144 = .ok (.isub, 1) := by decide +kernel
theorem dX12_hots_145 : decode cX12_hots 145 = .ok (.goto 4, 3) := by decide +kernel
theorem dX12_hots_148 : decode cX12_hots 148 = .ok (.iload_n 3, 1) := by decide +kernel
theorem dX12_hots_149 : decode cX12_hots 149 = .ok (.istore 11, 2) := by decide +kernel
theorem dX12_hots_151 : decode cX12_hots 151 = .ok (.aload_n 0, 1) := by decide +kernel
theorem dX12_hots_152 : decode cX12_hots 152 = .ok (.iload_n 1, 1) := by decide +kernel
theorem dX12_hots_153 : decode cX12_hots 153 = .ok (.iload_n 2, 1) := by decide +kernel
theorem dX12_hots_154 : decode cX12_hots 154 = .ok (.iconst 1, 1) := by decide +kernel
theorem dX12_hots_155 : decode cX12_hots 155 = .ok (.iadd, 1) := by decide +kernel
theorem dX12_hots_156 : decode cX12_hots 156 = .ok (.iload 11, 2) := by decide +kernel
theorem dX12_hots_158 : decode cX12_hots 158 = .ok (.ifCond .ge 7, 3) := by decide +kernel
theorem dX12_hots_161 : decode cX12_hots 161 = .ok (.iconst 0, 1) := by decide +kernel
theorem dX12_hots_162 : decode cX12_hots 162 = .ok (.goto 5, 3) := by decide +kernel
theorem dX12_hots_165 : decode cX12_hots 165 = .ok (.iload 11, 2) := by decide +kernel
theorem dX12_hots_167 : decode cX12_hots 167 = .ok (.iload 4, 2) := by decide +kernel
theorem dX12_hots_169 : decode cX12_hots 169 = .ok (.iload 11, 2) := by decide +kernel
theorem dX12_hots_171 : decode cX12_hots 171 = .ok (.ifCond .ge 10, 3) := by decide +kernel
theorem dX12_hots_174 : decode cX12_hots 174 = .ok (.iconst 2, 1) := by decide +kernel
theorem dX12_hots_175 : decode cX12_hots 175 = .ok (.iload 10, 2) := by decide +kernel
theorem dX12_hots_177 : decode cX12_hots 177 = .ok (.imul, 1) := by decide +kernel
theorem dX12_hots_178 : decode cX12_hots 178 = .ok (.goto 5, 3) := by decide +kernel
theorem dX12_hots_181 : decode cX12_hots 181 = .ok (.iload 10, 2) := by decide +kernel
theorem dX12_hots_183 : decode cX12_hots 183 = .ok (.iadd, 1) := by decide +kernel
theorem dX12_hots_184 : decode cX12_hots 184 = .ok (.lload 5, 2) := by decide +kernel
theorem dX12_hots_186 : decode cX12_hots 186 = .ok (.iload 8, 2) := by decide +kernel
theorem dX12_hots_188 : decode cX12_hots 188 = .ok (.i2l, 1) := by decide +kernel
theorem dX12_hots_189 : decode cX12_hots 189 = .ok (.lmul, 1) := by decide +kernel
theorem dX12_hots_190 : decode cX12_hots 190 = .ok (.iload 7, 2) := by decide +kernel
theorem dX12_hots_192 : decode cX12_hots 192 = .ok (.invokevirtual 218, 3) := by decide +kernel
theorem dX12_hots_195 : decode cX12_hots 195 = .ok (.return_, 1) := by decide +kernel
theorem dX12_image_0 : decode cX12_image 0 = .ok (.iconst 0, 1) := by decide +kernel
theorem dX12_image_1 : decode cX12_image 1 = .ok (.istore_n 1, 1) := by decide +kernel
theorem dX12_image_2 : decode cX12_image 2 = .ok (.iload_n 1, 1) := by decide +kernel
theorem dX12_image_3 : decode cX12_image 3 = .ok (.sipush 1118, 3) := by decide +kernel
theorem dX12_image_6 : decode cX12_image 6 = .ok (.if_icmp .ge 21, 3) := by decide +kernel
theorem dX12_image_9 : decode cX12_image 9 = .ok (.aload_n 0, 1) := by decide +kernel
theorem dX12_image_10 : decode cX12_image 10 = .ok (.getfield 15, 3) := by decide +kernel
theorem dX12_image_13 : decode cX12_image 13 = .ok (.iload_n 1, 1) := by decide +kernel
theorem dX12_image_14 : decode cX12_image 14 = .ok (.aload_n 0, 1) := by decide +kernel
theorem dX12_image_15 : decode cX12_image 15 = .ok (.getfield 9, 3) := by decide +kernel
theorem dX12_image_18 : decode cX12_image 18 = .ok (.iload_n 1, 1) := by decide +kernel
theorem dX12_image_19 : decode cX12_image 19 = .ok (.iaload, 1) := by decide +kernel
theorem dX12_image_20 : decode cX12_image 20 = .ok (.iastore, 1) := by decide +kernel
theorem dX12_image_21 : decode cX12_image 21 = .ok (.iinc 1 1, 3) := by decide +kernel
theorem dX12_image_24 : decode cX12_image 24 = .ok (.goto (-22), 3) := by decide +kernel
theorem dX12_image_27 : decode cX12_image 27 = .ok (.aload_n 0, 1) := by decide +kernel
theorem dX12_image_28 : decode cX12_image 28 = .ok (.iconst 1, 1) := by decide +kernel
theorem dX12_image_29 : decode cX12_image 29 = .ok (.putfield 287, 3) := by decide +kernel
theorem dX12_image_32 : decode cX12_image 32 = .ok (.aload_n 0, 1) := by decide +kernel
theorem dX12_image_33 : decode cX12_image 33 = .ok (.getfield 9, 3) := by decide +kernel
theorem dX12_image_36 : decode cX12_image 36 = .ok (.iconst 0, 1) := by decide +kernel
theorem dX12_image_37 : decode cX12_image 37 = .ok (.iaload, 1) := by decide +kernel
theorem dX12_image_38 : decode cX12_image 38 = .ok (.ireturn, 1) := by decide +kernel
theorem dX12_in_0 : decode cX12_in 0 = .ok (.iload_n 0, 1) := by decide +kernel
theorem dX12_in_1 : decode cX12_in 1 = .ok (.iload_n 1, 1) := by decide +kernel
theorem dX12_in_2 : decode cX12_in 2 = .ok (.if_icmp .lt 12, 3) := by decide +kernel
theorem dX12_in_5 : decode cX12_in 5 = .ok (.iload_n 0, 1) := by decide +kernel
theorem dX12_in_6 : decode cX12_in 6 = .ok (.iload_n 2, 1) := by decide +kernel
theorem dX12_in_7 : decode cX12_in 7 = .ok (.if_icmp .gt 7, 3) := by decide +kernel
theorem dX12_in_10 : decode cX12_in 10 = .ok (.iconst 1, 1) := by decide +kernel
theorem dX12_in_11 : decode cX12_in 11 = .ok (.goto 4, 3) := by decide +kernel
theorem dX12_in_14 : decode cX12_in 14 = .ok (.iconst 0, 1) := by decide +kernel
theorem dX12_in_15 : decode cX12_in 15 = .ok (.ireturn, 1) := by decide +kernel
theorem dX12_init_0 : decode cX12_init 0 = .ok (.aload_n 0, 1) := by decide +kernel
theorem dX12_init_1 : decode cX12_init 1 = .ok (.invokespecial 3, 3) := by decide +kernel
theorem dX12_init_4 : decode cX12_init 4 = .ok (.aload_n 0, 1) := by decide +kernel
theorem dX12_init_5 : decode cX12_init 5 = .ok (.sipush 1118, 3) := by decide +kernel
theorem dX12_init_8 : decode cX12_init 8 = .ok (.newarray .int, 2) := by decide +kernel
theorem dX12_init_10 : decode cX12_init 10 = .ok (.putfield 9, 3) := by decide +kernel
theorem dX12_init_13 : decode cX12_init 13 = .ok (.aload_n 0, 1) := by decide +kernel
theorem dX12_init_14 : decode cX12_init 14 = .ok (.sipush 1118, 3) := by decide +kernel
theorem dX12_init_17 : decode cX12_init 17 = .ok (.newarray .int, 2) := by decide +kernel
theorem dX12_init_19 : decode cX12_init 19 = .ok (.putfield 15, 3) := by decide +kernel
theorem dX12_init_22 : decode cX12_init 22 = .ok (.aload_n 0, 1) := by decide +kernel
theorem dX12_init_23 : decode cX12_init 23 = .ok (.iconst 5, 1) := by decide +kernel
theorem dX12_init_24 : decode cX12_init 24 = .ok (.newarray .int, 2) := by decide +kernel
theorem dX12_init_26 : decode cX12_init 26 = .ok (.putfield 18, 3) := by decide +kernel
theorem dX12_init_29 : decode cX12_init 29 = .ok (.aload_n 0, 1) := by decide +kernel
theorem dX12_init_30 : decode cX12_init 30 = .ok (.bipush 64, 2) := by decide +kernel
theorem dX12_init_32 : decode cX12_init 32 = .ok (.newarray .boolean, 2) := by decide +kernel
theorem dX12_init_34 : decode cX12_init 34 = .ok (.putfield 21, 3) := by decide +kernel
theorem dX12_init_37 : decode cX12_init 37 = .ok (.aload_n 0, 1) := by decide +kernel
theorem dX12_init_38 : decode cX12_init 38 = .ok (.sipush 549, 3) := by decide +kernel
theorem dX12_init_41 : decode cX12_init 41 = .ok (.newarray .int, 2) := by decide +kernel
theorem dX12_init_43 : decode cX12_init 43 = .ok (.putfield 25, 3) := by decide +kernel
theorem dX12_init_46 : decode cX12_init 46 = .ok (.aload_n 0, 1) := by decide +kernel
theorem dX12_init_47 : decode cX12_init 47 = .ok (.sipush 549, 3) := by decide +kernel
theorem dX12_init_50 : decode cX12_init 50 = .ok (.newarray .int, 2) := by decide +kernel
theorem dX12_init_52 : decode cX12_init 52 = .ok (.putfield 28, 3) := by decide +kernel
theorem dX12_init_55 : decode cX12_init 55 = .ok (.aload_n 0, 1) := by decide +kernel
theorem dX12_init_56 : decode cX12_init 56 = .ok (.sipush 549, 3) := by decide +kernel
theorem dX12_init_59 : decode cX12_init 59 = .ok (.newarray .int, 2) := by decide +kernel
theorem dX12_init_61 : decode cX12_init 61 = .ok (.putfield 31, 3) := by decide +kernel
theorem dX12_init_64 : decode cX12_init 64 = .ok (.aload_n 0, 1) := by decide +kernel
theorem dX12_init_65 : decode cX12_init 65 = .ok (.bipush 8, 2) := by decide +kernel
theorem dX12_init_67 : decode cX12_init 67 = .ok (.newarray .int, 2) := by decide +kernel
theorem dX12_init_69 : decode cX12_init 69 = .ok (.putfield 34, 3) := by decide +kernel
theorem dX12_init_72 : decode cX12_init 72 = .ok (.aload_n 0, 1) := by decide +kernel
theorem dX12_init_73 : decode cX12_init 73 = .ok (.bipush 20, 2) := by decide +kernel
theorem dX12_init_75 : decode cX12_init 75 = .ok (.newarray .int, 2) := by decide +kernel
theorem dX12_init_77 : decode cX12_init 77 = .ok (.putfield 37, 3) := by decide +kernel
theorem dX12_init_80 : decode cX12_init 80 = .ok (.aload_n 0, 1) := by decide +kernel
theorem dX12_init_81 : decode cX12_init 81 = .ok (.getfield 9, 3) := by decide +kernel
theorem dX12_init_84 : decode cX12_init 84 = .ok (.iconst 4, 1) := by decide +kernel
theorem dX12_init_85 : decode cX12_init 85 = .ok (.iconst (-1), 1) := by decide +kernel
theorem dX12_init_86 : decode cX12_init 86 = .ok (.iastore, 1) := by decide +kernel
theorem dX12_init_87 : decode cX12_init 87 = .ok (.iconst 0, 1) := by decide +kernel
theorem dX12_init_88 : decode cX12_init 88 = .ok (.istore_n 1, 1) := by decide +kernel
theorem dX12_init_89 : decode cX12_init 89 = .ok (.iload_n 1, 1) := by decide +kernel
theorem dX12_init_90 : decode cX12_init 90 = .ok (.bipush 64, 2) := by decide +kernel
theorem dX12_init_92 : decode cX12_init 92 = .ok (.if_icmp .ge 20, 3) := by decide +kernel
theorem dX12_init_95 : decode cX12_init 95 = .ok (.aload_n 0, 1) := by decide +kernel
theorem dX12_init_96 : decode cX12_init 96 = .ok (.getfield 9, 3) := by decide +kernel
theorem dX12_init_99 : decode cX12_init 99 = .ok (.sipush 146, 3) := by decide +kernel
theorem dX12_init_102 : decode cX12_init 102 = .ok (.iload_n 1, 1) := by decide +kernel
theorem dX12_init_103 : decode cX12_init 103 = .ok (.iadd, 1) := by decide +kernel
theorem dX12_init_104 : decode cX12_init 104 = .ok (.iconst (-1), 1) := by decide +kernel
theorem dX12_init_105 : decode cX12_init 105 = .ok (.iastore, 1) := by decide +kernel
theorem dX12_init_106 : decode cX12_init 106 = .ok (.iinc 1 1, 3) := by decide +kernel
theorem dX12_init_109 : decode cX12_init 109 = .ok (.goto (-20), 3) := by decide +kernel
theorem dX12_init_112 : decode cX12_init 112 = .ok (.return_, 1) := by decide +kernel
theorem dX12_isPiece_0 : decode cX12_isPiece 0 = .ok (.iload_n 1, 1) := by decide +kernel
theorem dX12_isPiece_1 : decode cX12_isPiece 1 = .ok (.iconst 0, 1) := by decide +kernel
theorem dX12_isPiece_2 : decode cX12_isPiece 2 = .ok (.aload_n 0, 1) := by decide +kernel
theorem dX12_isPiece_3 : decode cX12_isPiece 3 = .ok (.invokevirtual 48, 3) := by decide +kernel
theorem dX12_isPiece_6 : decode cX12_isPiece 6 = .ok (.iconst 1, 1) := by decide +kernel
theorem dX12_isPiece_7 : decode cX12_isPiece 7 = .ok (.isub, 1) := by decide +kernel
theorem dX12_isPiece_8 : decode cX12_isPiece 8 = .ok (.invokestatic 44, 3) := by decide +kernel
theorem dX12_isPiece_11 : decode cX12_isPiece 11 = .ok (.ireturn, 1) := by decide +kernel
theorem dX12_isStore_0 : decode cX12_isStore 0 = .ok (.iload_n 1, 1) := by decide +kernel
theorem dX12_isStore_1 : decode cX12_isStore 1 = .ok (.iconst 0, 1) := by decide +kernel
theorem dX12_isStore_2 : decode cX12_isStore 2 = .ok (.aload_n 0, 1) := by decide +kernel
theorem dX12_isStore_3 : decode cX12_isStore 3 = .ok (.invokevirtual 56, 3) := by decide +kernel
theorem dX12_isStore_6 : decode cX12_isStore 6 = .ok (.invokestatic 44, 3) := by decide +kernel
theorem dX12_isStore_9 : decode cX12_isStore 9 = .ok (.ireturn, 1) := by decide +kernel
theorem dX12_isUnder_0 : decode cX12_isUnder 0 = .ok (.iload_n 1, 1) := by decide +kernel
theorem dX12_isUnder_1 : decode cX12_isUnder 1 = .ok (.ifCond .eq 33, 3) := by decide +kernel
theorem dX12_isUnder_4 : decode cX12_isUnder 4 = .ok (.iload_n 1, 1) := by decide +kernel
theorem dX12_isUnder_5 : decode cX12_isUnder 5 = .ok (.iload_n 0, 1) := by decide +kernel
theorem dX12_isUnder_6 : decode cX12_isUnder 6 = .ok (.if_icmp .eq 28, 3) := by decide +kernel
theorem dX12_isUnder_9 : decode cX12_isUnder 9 = .ok (.iload_n 1, 1) := by decide +kernel
theorem dX12_isUnder_10 : decode cX12_isUnder 10 = .ok (.iconst 1, 1) := by decide +kernel
theorem dX12_isUnder_11 : decode cX12_isUnder 11 = .ok (.if_icmp .ne 13, 3) := by decide +kernel
theorem dX12_isUnder_14 : decode cX12_isUnder 14 = .ok (.iload_n 0, 1) := by decide +kernel
theorem dX12_isUnder_15 : decode cX12_isUnder 15 = .ok (.iconst 3, 1) := by decide +kernel
theorem dX12_isUnder_16 : decode cX12_isUnder 16 = .ok (.if_icmp .eq 18, 3) := by decide +kernel
theorem dX12_isUnder_19 : decode cX12_isUnder 19 = .ok (.iload_n 0, 1) := by decide +kernel
theorem dX12_isUnder_20 : decode cX12_isUnder 20 = .ok (.iconst 4, 1) := by decide +kernel
theorem dX12_isUnder_21 : decode cX12_isUnder 21 = .ok (.if_icmp .eq 13, 3) := by decide +kernel
theorem dX12_isUnder_24 : decode cX12_isUnder 24 = .ok (.iload_n 1, 1) := by decide +kernel
theorem dX12_isUnder_25 : decode cX12_isUnder 25 = .ok (.iconst 2, 1) := by decide +kernel
theorem dX12_isUnder_26 : decode cX12_isUnder 26 = .ok (.if_icmp .ne 12, 3) := by decide +kernel
theorem dX12_isUnder_29 : decode cX12_isUnder 29 = .ok (.iload_n 0, 1) := by decide +kernel
theorem dX12_isUnder_30 : decode cX12_isUnder 30 = .ok (.iconst 5, 1) := by decide +kernel
theorem dX12_isUnder_31 : decode cX12_isUnder 31 = .ok (.if_icmp .ne 7, 3) := by decide +kernel
theorem dX12_isUnder_34 : decode cX12_isUnder 34 = .ok (.iconst 1, 1) := by decide +kernel
theorem dX12_isUnder_35 : decode cX12_isUnder 35 = .ok (.goto 4, 3) := by decide +kernel
theorem dX12_isUnder_38 : decode cX12_isUnder 38 = .ok (.iconst 0, 1) := by decide +kernel
theorem dX12_isUnder_39 : decode cX12_isUnder 39 = .ok (.ireturn, 1) := by decide +kernel
theorem dX12_isWay_0 : decode cX12_isWay 0 = .ok (.iload_n 1, 1) := by decide +kernel
theorem dX12_isWay_1 : decode cX12_isWay 1 = .ok (.iconst 0, 1) := by decide +kernel
theorem dX12_isWay_2 : decode cX12_isWay 2 = .ok (.aload_n 0, 1) := by decide +kernel
theorem dX12_isWay_3 : decode cX12_isWay 3 = .ok (.getfield 9, 3) := by decide +kernel
theorem dX12_isWay_6 : decode cX12_isWay 6 = .ok (.iconst 0, 1) := by decide +kernel
theorem dX12_isWay_7 : decode cX12_isWay 7 = .ok (.iaload, 1) := by decide +kernel
theorem dX12_isWay_8 : decode cX12_isWay 8 = .ok (.iconst 1, 1) := by decide +kernel
theorem dX12_isWay_9 : decode cX12_isWay 9 = .ok (.isub, 1) := by decide +kernel
theorem dX12_isWay_10 : decode cX12_isWay 10 = .ok (.invokestatic 44, 3) := by decide +kernel
theorem dX12_isWay_13 : decode cX12_isWay 13 = .ok (.ireturn, 1) := by decide +kernel
theorem dX12_judged_0 : decode cX12_judged 0 = .ok (.iload_n 1, 1) := by decide +kernel
theorem dX12_judged_1 : decode cX12_judged 1 = .ok (.iconst 0, 1) := by decide +kernel
theorem dX12_judged_2 : decode cX12_judged 2 = .ok (.iconst 3, 1) := by decide +kernel
theorem dX12_judged_3 : decode cX12_judged 3 = .ok (.invokestatic 44, 3) := by decide +kernel
theorem dX12_judged_6 : decode cX12_judged 6 = .ok (.ifCond .ne 5, 3) := by decide +kernel
theorem dX12_judged_9 : decode cX12_judged 9 = .ok (.iconst (-1), 1) := by decide +kernel
theorem dX12_judged_10 : decode cX12_judged 10 = .ok (.ireturn, 1) := by decide +kernel
theorem dX12_judged_11 : decode cX12_judged 11 = .ok (.aload_n 0, 1) := by decide +kernel
theorem dX12_judged_12 : decode cX12_judged 12 = .ok (.sipush 1023, 3) := by decide +kernel
theorem dX12_judged_15 : decode cX12_judged 15 = .ok (.invokevirtual 185, 3) := by decide +kernel
theorem dX12_judged_18 : decode cX12_judged 18 = .ok (.bipush (-5), 2) := by decide +kernel
theorem dX12_judged_20 : decode cX12_judged 20 = .ok (.istore_n 2, 1) := by decide +kernel
theorem dX12_judged_21 : decode cX12_judged 21 = .ok (.bipush (-5), 2) := by decide +kernel
theorem dX12_judged_23 : decode cX12_judged 23 = .ok (.istore_n 3, 1) := by decide +kernel
theorem dX12_judged_24 : decode cX12_judged 24 = .ok (.bipush (-5), 2) := by decide +kernel
theorem dX12_judged_26 : decode cX12_judged 26 = .ok (.istore 4, 2) := by decide +kernel
theorem dX12_judged_28 : decode cX12_judged 28 = .ok (.iconst 0, 1) := by decide +kernel
theorem dX12_judged_29 : decode cX12_judged 29 = .ok (.istore 5, 2) := by decide +kernel
theorem dX12_judged_31 : decode cX12_judged 31 = .ok (.aload_n 0, 1) := by decide +kernel
theorem dX12_judged_32 : decode cX12_judged 32 = .ok (.invokevirtual 56, 3) := by decide +kernel
theorem dX12_judged_35 : decode cX12_judged 35 = .ok (.istore 6, 2) := by decide +kernel
theorem dX12_judged_37 : decode cX12_judged 37 = .ok (.iconst 0, 1) := by decide +kernel
theorem dX12_judged_38 : decode cX12_judged 38 = .ok (.istore 7, 2) := by decide +kernel
theorem dX12_judged_40 : decode cX12_judged 40 = .ok (.iload 7, 2) := by decide +kernel
theorem dX12_judged_42 : decode cX12_judged 42 = .ok (.aload_n 0, 1) := by decide +kernel
theorem dX12_judged_43 : decode cX12_judged 43 = .ok (.getfield 9, 3) := by decide +kernel
theorem dX12_judged_46 : decode cX12_judged 46 = .ok (.iconst 2, 1) := by decide +kernel
theorem dX12_judged_47 : decode cX12_judged 47 = .ok (.iaload, 1) := by decide +kernel
theorem dX12_judged_48 : decode cX12_judged 48 = .ok (.if_icmp .ge 156, 3) := by decide +kernel
theorem dX12_judged_51 : decode cX12_judged 51 = .ok (.iload 7, 2) := by decide +kernel
theorem dX12_judged_53 : decode cX12_judged 53 = .ok (.aload_n 0, 1) := by decide +kernel
theorem dX12_judged_54 : decode cX12_judged 54 = .ok (.invokevirtual 48, 3) := by decide +kernel
theorem dX12_judged_57 : decode cX12_judged 57 = .ok (.if_icmp .ge 147, 3) := by decide +kernel
theorem dX12_judged_60 : decode cX12_judged 60 = .ok (.iload_n 2, 1) := by decide +kernel
theorem dX12_judged_61 : decode cX12_judged 61 = .ok (.bipush (-5), 2) := by decide +kernel
theorem dX12_judged_63 : decode cX12_judged 63 = .ok (.if_icmp .ne 141, 3) := by decide +kernel
theorem dX12_judged_66 : decode cX12_judged 66 = .ok (.aload_n 0, 1) := by decide +kernel
theorem dX12_judged_67 : decode cX12_judged 67 = .ok (.getfield 9, 3) := by decide +kernel
theorem dX12_judged_70 : decode cX12_judged 70 = .ok (.sipush 210, 3) := by decide +kernel
theorem dX12_judged_73 : decode cX12_judged 73 = .ok (.iload 7, 2) := by decide +kernel
theorem dX12_judged_75 : decode cX12_judged 75 = .ok (.iadd, 1) := by decide +kernel
theorem dX12_judged_76 : decode cX12_judged 76 = .ok (.iaload, 1) := by decide +kernel
theorem dX12_judged_77 : decode cX12_judged 77 = .ok (.istore 8, 2) := by decide +kernel
theorem dX12_judged_79 : decode cX12_judged 79 = .ok (.aload_n 0, 1) := by decide +kernel
theorem dX12_judged_80 : decode cX12_judged 80 = .ok (.iload 7, 2) := by decide +kernel
theorem dX12_judged_82 : decode cX12_judged 82 = .ok (.iload 8, 2) := by decide +kernel
theorem dX12_judged_84 : decode cX12_judged 84 = .ok (.iload 6, 2) := by decide +kernel
theorem dX12_judged_86 : decode cX12_judged 86 = .ok (.invokevirtual 182, 3) := by decide +kernel
theorem dX12_judged_89 : decode cX12_judged 89 = .ok (.istore 9, 2) := by decide +kernel
theorem dX12_judged_91 : decode cX12_judged 91 = .ok (.iload 9, 2) := by decide +kernel
theorem dX12_judged_93 : decode cX12_judged 93 = .ok (.ifCond .ge 9, 3) := by decide +kernel
theorem dX12_judged_96 : decode cX12_judged 96 = .ok (.iload 7, 2) := by decide +kernel
theorem dX12_judged_98 : decode cX12_judged 98 = .ok (.istore_n 2, 1) := by decide +kernel
theorem dX12_judged_99 : decode cX12_judged 99 = .ok (.goto 99, 3) := by decide +kernel
theorem dX12_judged_102 : decode cX12_judged 102 = .ok (.aload_n 0, 1) := by decide +kernel
theorem dX12_judged_103 : decode cX12_judged 103 = .ok (.iload 7, 2) := by decide +kernel
theorem dX12_judged_105 : decode cX12_judged 105 = .ok (.iload 8, 2) := by decide +kernel
theorem dX12_judged_107 : decode cX12_judged 107 = .ok (.iload 6, 2) := by decide +kernel
theorem dX12_judged_109 : decode cX12_judged 109 = .ok (.invokevirtual 179, 3) := by decide +kernel
theorem dX12_judged_112 : decode cX12_judged 112 = .ok (.aload_n 0, 1) := by decide +kernel
theorem dX12_judged_113 : decode cX12_judged 113 = .ok (.getfield 25, 3) := by decide +kernel
theorem dX12_judged_116 : decode cX12_judged 116 = .ok (.bipush 61, 2) := by decide +kernel
theorem dX12_judged_118 : decode cX12_judged 118 = .ok (.iload 7, 2) := by decide +kernel
theorem dX12_judged_120 : decode cX12_judged 120 = .ok (.iconst 1, 1) := by decide +kernel
theorem dX12_judged_121 : decode cX12_judged 121 = .ok (.iadd, 1) := by decide +kernel
theorem dX12_judged_122 : decode cX12_judged 122 = .ok (.imul, 1) := by decide +kernel
theorem dX12_judged_123 : decode cX12_judged 123 = .ok (.iload 9, 2) := by decide +kernel
theorem dX12_judged_125 : decode cX12_judged 125 = .ok (.iadd, 1) := by decide +kernel
theorem dX12_judged_126 : decode cX12_judged 126 = .ok (.iaload, 1) := by decide +kernel
theorem dX12_judged_127 : decode cX12_judged 127 = .ok (.iadd, 1) := by decide +kernel
theorem dX12_judged_128 : decode cX12_judged 128 = .ok (.aload_n 0, 1) := by decide +kernel
theorem dX12_judged_129 : decode cX12_judged 129 = .ok (.getfield 25, 3) := by decide +kernel
theorem dX12_judged_132 : decode cX12_judged 132 = .ok (.bipush 61, 2) := by decide +kernel
theorem dX12_judged_134 : decode cX12_judged 134 = .ok (.iload 7, 2) := by decide +kernel
theorem dX12_judged_136 : decode cX12_judged 136 = .ok (.imul, 1) := by decide +kernel
theorem dX12_judged_137 : decode cX12_judged 137 = .ok (.iload 6, 2) := by decide +kernel
theorem dX12_judged_139 : decode cX12_judged 139 = .ok (.iadd, 1) := by decide +kernel
theorem dX12_judged_140 : decode cX12_judged 140 = .ok (.iaload, 1) := by decide +kernel
theorem dX12_judged_141 : decode cX12_judged 141 = .ok (.isub, 1) := by decide +kernel
theorem dX12_judged_142 : decode cX12_judged 142 = .ok (.istore 10, 2) := by decide +kernel
theorem dX12_judged_144 : decode cX12_judged 144 = .ok (.iload 10, 2) := by decide +kernel
theorem dX12_judged_146 : decode cX12_judged 146 = .ok (.iload 5, 2) := by decide +kernel
theorem dX12_judged_148 : decode cX12_judged 148 = .ok (.if_icmp .le 8, 3) := by decide +kernel
theorem dX12_judged_151 : decode cX12_judged 151 = .ok (.iload 7, 2) := by decide +kernel
theorem dX12_judged_153 : decode cX12_judged 153 = .ok (.goto 5, 3) := by decide +kernel
theorem dX12_judged_156 : decode cX12_judged 156 = .ok (.iload 4, 2) := by decide +kernel
theorem dX12_judged_158 : decode cX12_judged 158 = .ok (.istore 4, 2) := by decide +kernel
theorem dX12_judged_160 : decode cX12_judged 160 = .ok (.iload 10, 2) := by decide +kernel
theorem dX12_judged_162 : decode cX12_judged 162 = .ok (.iload 5, 2) := by decide +kernel
theorem dX12_judged_164 : decode cX12_judged 164 = .ok (.if_icmp .le 8, 3) := by decide +kernel
theorem dX12_judged_167 : decode cX12_judged 167 = .ok (.iload 10, 2) := by decide +kernel
theorem dX12_judged_169 : decode cX12_judged 169 = .ok (.goto 5, 3) := by decide +kernel
theorem dX12_judged_172 : decode cX12_judged 172 = .ok (.iload 5, 2) := by decide +kernel
theorem dX12_judged_174 : decode cX12_judged 174 = .ok (.istore 5, 2) := by decide +kernel
theorem dX12_judged_176 : decode cX12_judged 176 = .ok (.iload_n 3, 1) := by decide +kernel
theorem dX12_judged_177 : decode cX12_judged 177 = .ok (.bipush (-5), 2) := by decide +kernel
theorem dX12_judged_179 : decode cX12_judged 179 = .ok (.if_icmp .ne 13, 3) := by decide +kernel
theorem dX12_judged_182 : decode cX12_judged 182 = .ok (.iload 9, 2) := by decide +kernel
theorem dX12_judged_184 : decode cX12_judged 184 = .ok (.ifCond .ne 8, 3) := by decide +kernel
theorem dX12_judged_187 : decode cX12_judged 187 = .ok (.iload 7, 2) := by decide +kernel
theorem dX12_judged_189 : decode cX12_judged 189 = .ok (.goto 4, 3) := by decide +kernel
theorem dX12_judged_192 : decode cX12_judged 192 = .ok (.iload_n 3, 1) := by decide +kernel
theorem dX12_judged_193 : decode cX12_judged 193 = .ok (.istore_n 3, 1) := by decide +kernel
theorem dX12_judged_194 : decode cX12_judged 194 = .ok (.iload 9, 2) := by decide +kernel
theorem dX12_judged_196 : decode cX12_judged 196 = .ok (.istore 6, 2) := by decide +kernel
theorem dX12_judged_198 : decode cX12_judged 198 = .ok (.iinc 7 1, 3) := by decide +kernel
theorem dX12_judged_201 : decode cX12_judged 201 = .ok (.goto (-161), 3) := by decide +kernel
theorem dX12_judged_204 : decode cX12_judged 204 = .ok (.iload_n 1, 1) := by decide +kernel
theorem dX12_judged_205 : decode cX12_judged 205 = .ok (.ifCond .ne 7, 3) := by decide +kernel
theorem dX12_judged_208 : decode cX12_judged 208 = .ok (.iload_n 2, 1) := by decide +kernel
theorem dX12_judged_209 : decode cX12_judged 209 = .ok (.goto 24, 3) := by decide +kernel
theorem dX12_judged_212 : decode cX12_judged 212 = .ok (.iload_n 1, 1) := by decide +kernel
theorem dX12_judged_213 : decode cX12_judged 213 = .ok (.iconst 1, 1) := by decide +kernel
theorem dX12_judged_214 : decode cX12_judged 214 = .ok (.if_icmp .ne 7, 3) := by decide +kernel
theorem dX12_judged_217 : decode cX12_judged 217 = .ok (.iload_n 3, 1) := by decide +kernel
theorem dX12_judged_218 : decode cX12_judged 218 = .ok (.goto 15, 3) := by decide +kernel
theorem dX12_judged_221 : decode cX12_judged 221 = .ok (.iload_n 1, 1) := by decide +kernel
theorem dX12_judged_222 : decode cX12_judged 222 = .ok (.iconst 2, 1) := by decide +kernel
theorem dX12_judged_223 : decode cX12_judged 223 = .ok (.if_icmp .ne 8, 3) := by decide +kernel
theorem dX12_judged_226 : decode cX12_judged 226 = .ok (.iload 4, 2) := by decide +kernel
theorem dX12_judged_228 : decode cX12_judged 228 = .ok (.goto 5, 3) := by decide +kernel
theorem dX12_judged_231 : decode cX12_judged 231 = .ok (.iload 5, 2) := by decide +kernel
theorem dX12_judged_233 : decode cX12_judged 233 = .ok (.ireturn, 1) := by decide +kernel
theorem dX12_laps_0 : decode cX12_laps 0 = .ok (.aload_n 0, 1) := by decide +kernel
theorem dX12_laps_1 : decode cX12_laps 1 = .ok (.iload_n 1, 1) := by decide +kernel
theorem dX12_laps_2 : decode cX12_laps 2 = .ok (.invokevirtual 188, 3) := by decide +kernel
theorem dX12_laps_5 : decode cX12_laps 5 = .ok (.ifCond .ne 7, 3) := by decide +kernel
theorem dX12_laps_8 : decode cX12_laps 8 = .ok (.sipush (-10001), 3) := by decide +kernel
theorem dX12_laps_11 : decode cX12_laps 11 = .ok (.ireturn, 1) := by decide +kernel
theorem dX12_laps_12 : decode cX12_laps 12 = .ok (.aload_n 0, 1) := by decide +kernel
theorem dX12_laps_13 : decode cX12_laps 13 = .ok (.invokevirtual 48, 3) := by decide +kernel
theorem dX12_laps_16 : decode cX12_laps 16 = .ok (.ifCond .ne 7, 3) := by decide +kernel
theorem dX12_laps_19 : decode cX12_laps 19 = .ok (.sipush (-10002), 3) := by decide +kernel
theorem dX12_laps_22 : decode cX12_laps 22 = .ok (.ireturn, 1) := by decide +kernel
theorem dX12_laps_23 : decode cX12_laps 23 = .ok (.aload_n 0, 1) := by decide +kernel
theorem dX12_laps_24 : decode cX12_laps 24 = .ok (.sipush 1023, 3) := by decide +kernel
theorem dX12_laps_27 : decode cX12_laps 27 = .ok (.invokevirtual 185, 3) := by decide +kernel
theorem dX12_laps_30 : decode cX12_laps 30 = .ok (.aload_n 0, 1) := by decide +kernel
theorem dX12_laps_31 : decode cX12_laps 31 = .ok (.iload_n 1, 1) := by decide +kernel
theorem dX12_laps_32 : decode cX12_laps 32 = .ok (.aload_n 0, 1) := by decide +kernel
theorem dX12_laps_33 : decode cX12_laps 33 = .ok (.invokevirtual 56, 3) := by decide +kernel
theorem dX12_laps_36 : decode cX12_laps 36 = .ok (.iconst 0, 1) := by decide +kernel
theorem dX12_laps_37 : decode cX12_laps 37 = .ok (.iconst 0, 1) := by decide +kernel
theorem dX12_laps_38 : decode cX12_laps 38 = .ok (.invokevirtual 207, 3) := by decide +kernel
theorem dX12_laps_41 : decode cX12_laps 41 = .ok (.istore_n 2, 1) := by decide +kernel
theorem dX12_laps_42 : decode cX12_laps 42 = .ok (.aload_n 0, 1) := by decide +kernel
theorem dX12_laps_43 : decode cX12_laps 43 = .ok (.iload_n 1, 1) := by decide +kernel
theorem dX12_laps_44 : decode cX12_laps 44 = .ok (.aload_n 0, 1) := by decide +kernel
theorem dX12_laps_45 : decode cX12_laps 45 = .ok (.getfield 204, 3) := by decide +kernel
theorem dX12_laps_48 : decode cX12_laps 48 = .ok (.iconst 0, 1) := by decide +kernel
theorem dX12_laps_49 : decode cX12_laps 49 = .ok (.iconst 0, 1) := by decide +kernel
theorem dX12_laps_50 : decode cX12_laps 50 = .ok (.invokevirtual 207, 3) := by decide +kernel
theorem dX12_laps_53 : decode cX12_laps 53 = .ok (.iload_n 2, 1) := by decide +kernel
theorem dX12_laps_54 : decode cX12_laps 54 = .ok (.isub, 1) := by decide +kernel
theorem dX12_laps_55 : decode cX12_laps 55 = .ok (.ireturn, 1) := by decide +kernel
theorem dX12_length_0 : decode cX12_length 0 = .ok (.aload_n 0, 1) := by decide +kernel
theorem dX12_length_1 : decode cX12_length 1 = .ok (.getfield 9, 3) := by decide +kernel
theorem dX12_length_4 : decode cX12_length 4 = .ok (.sipush 243, 3) := by decide +kernel
theorem dX12_length_7 : decode cX12_length 7 = .ok (.bipush 8, 2) := by decide +kernel
theorem dX12_length_9 : decode cX12_length 9 = .ok (.aload_n 0, 1) := by decide +kernel
theorem dX12_length_10 : decode cX12_length 10 = .ok (.getfield 9, 3) := by decide +kernel
theorem dX12_length_13 : decode cX12_length 13 = .ok (.iconst 4, 1) := by decide +kernel
theorem dX12_length_14 : decode cX12_length 14 = .ok (.iaload, 1) := by decide +kernel
theorem dX12_length_15 : decode cX12_length 15 = .ok (.imul, 1) := by decide +kernel
theorem dX12_length_16 : decode cX12_length 16 = .ok (.iadd, 1) := by decide +kernel
theorem dX12_length_17 : decode cX12_length 17 = .ok (.iload_n 1, 1) := by decide +kernel
theorem dX12_length_18 : decode cX12_length 18 = .ok (.iadd, 1) := by decide +kernel
theorem dX12_length_19 : decode cX12_length 19 = .ok (.iaload, 1) := by decide +kernel
theorem dX12_length_20 : decode cX12_length 20 = .ok (.ireturn, 1) := by decide +kernel
theorem dX12_line_0 : decode cX12_line 0 = .ok (.aload_n 0, 1) := by decide +kernel
theorem dX12_line_1 : decode cX12_line 1 = .ok (.iload_n 1, 1) := by decide +kernel
theorem dX12_line_2 : decode cX12_line 2 = .ok (.invokevirtual 188, 3) := by decide +kernel
theorem dX12_line_5 : decode cX12_line 5 = .ok (.ifCond .eq 13, 3) := by decide +kernel
theorem dX12_line_8 : decode cX12_line 8 = .ok (.iload_n 2, 1) := by decide +kernel
theorem dX12_line_9 : decode cX12_line 9 = .ok (.iconst 0, 1) := by decide +kernel
theorem dX12_line_10 : decode cX12_line 10 = .ok (.bipush 7, 2) := by decide +kernel
theorem dX12_line_12 : decode cX12_line 12 = .ok (.invokestatic 44, 3) := by decide +kernel
theorem dX12_line_15 : decode cX12_line 15 = .ok (.ifCond .ne 5, 3) := by decide +kernel
theorem dX12_line_18 : decode cX12_line 18 = .ok (.iconst (-1), 1) := by decide +kernel
theorem dX12_line_19 : decode cX12_line 19 = .ok (.ireturn, 1) := by decide +kernel
theorem dX12_line_20 : decode cX12_line 20 = .ok (.iload_n 3, 1) := by decide +kernel
theorem dX12_line_21 : decode cX12_line 21 = .ok (.iconst (-1), 1) := by decide +kernel
theorem dX12_line_22 : decode cX12_line 22 = .ok (.bipush 9, 2) := by decide +kernel
theorem dX12_line_24 : decode cX12_line 24 = .ok (.invokestatic 44, 3) := by decide +kernel
theorem dX12_line_27 : decode cX12_line 27 = .ok (.ifCond .ne 6, 3) := by decide +kernel
theorem dX12_line_30 : decode cX12_line 30 = .ok (.bipush (-2), 2) := by decide +kernel
theorem dX12_line_32 : decode cX12_line 32 = .ok (.ireturn, 1) := by decide +kernel
theorem dX12_line_33 : decode cX12_line 33 = .ok (.aload_n 0, 1) := by decide +kernel
theorem dX12_line_34 : decode cX12_line 34 = .ok (.getfield 9, 3) := by decide +kernel
theorem dX12_line_37 : decode cX12_line 37 = .ok (.sipush 130, 3) := by decide +kernel
theorem dX12_line_40 : decode cX12_line 40 = .ok (.iload_n 1, 1) := by decide +kernel
theorem dX12_line_41 : decode cX12_line 41 = .ok (.iadd, 1) := by decide +kernel
theorem dX12_line_42 : decode cX12_line 42 = .ok (.iaload, 1) := by decide +kernel
theorem dX12_line_43 : decode cX12_line 43 = .ok (.iconst 5, 1) := by decide +kernel
theorem dX12_line_44 : decode cX12_line 44 = .ok (.if_icmp .eq 6, 3) := by decide +kernel
theorem dX12_line_47 : decode cX12_line 47 = .ok (.bipush (-3), 2) := by decide +kernel
theorem dX12_line_49 : decode cX12_line 49 = .ok (.ireturn, 1) := by decide +kernel
theorem dX12_line_50 : decode cX12_line 50 = .ok (.aload_n 0, 1) := by decide +kernel
theorem dX12_line_51 : decode cX12_line 51 = .ok (.getfield 9, 3) := by decide +kernel
theorem dX12_line_54 : decode cX12_line 54 = .ok (.sipush 146, 3) := by decide +kernel
theorem dX12_line_57 : decode cX12_line 57 = .ok (.bipush 8, 2) := by decide +kernel
theorem dX12_line_59 : decode cX12_line 59 = .ok (.iload_n 1, 1) := by decide +kernel
theorem dX12_line_60 : decode cX12_line 60 = .ok (.imul, 1) := by decide +kernel
theorem dX12_line_61 : decode cX12_line 61 = .ok (.iadd, 1) := by decide +kernel
theorem dX12_line_62 : decode cX12_line 62 = .ok (.iload_n 2, 1) := by decide +kernel
theorem dX12_line_63 : decode cX12_line 63 = .ok (.iadd, 1) := by decide +kernel
theorem dX12_line_64 : decode cX12_line 64 = .ok (.iaload, 1) := by decide +kernel
theorem dX12_line_65 : decode cX12_line 65 = .ok (.istore 4, 2) := by decide +kernel
theorem dX12_line_67 : decode cX12_line 67 = .ok (.aload_n 0, 1) := by decide +kernel
theorem dX12_line_68 : decode cX12_line 68 = .ok (.getfield 9, 3) := by decide +kernel
theorem dX12_line_71 : decode cX12_line 71 = .ok (.sipush 146, 3) := by decide +kernel
theorem dX12_line_74 : decode cX12_line 74 = .ok (.bipush 8, 2) := by decide +kernel
theorem dX12_line_76 : decode cX12_line 76 = .ok (.iload_n 1, 1) := by decide +kernel
theorem dX12_line_77 : decode cX12_line 77 = .ok (.imul, 1) := by decide +kernel
theorem dX12_line_78 : decode cX12_line 78 = .ok (.iadd, 1) := by decide +kernel
theorem dX12_line_79 : decode cX12_line 79 = .ok (.iload_n 2, 1) := by decide +kernel
theorem dX12_line_80 : decode cX12_line 80 = .ok (.iadd, 1) := by decide +kernel
theorem dX12_line_81 : decode cX12_line 81 = .ok (.iload_n 3, 1) := by decide +kernel
theorem dX12_line_82 : decode cX12_line 82 = .ok (.iastore, 1) := by decide +kernel
theorem dX12_line_83 : decode cX12_line 83 = .ok (.iload 4, 2) := by decide +kernel
theorem dX12_line_85 : decode cX12_line 85 = .ok (.iconst (-1), 1) := by decide +kernel
theorem dX12_line_86 : decode cX12_line 86 = .ok (.if_icmp .ne 8, 3) := by decide +kernel
theorem dX12_line_89 : decode cX12_line 89 = .ok (.bipush (-5), 2) := by decide +kernel
theorem dX12_line_91 : decode cX12_line 91 = .ok (.goto 5, 3) := by decide +kernel
theorem dX12_line_94 : decode cX12_line 94 = .ok (.iload 4, 2) := by decide +kernel
theorem dX12_line_96 : decode cX12_line 96 = .ok (.ireturn, 1) := by decide +kernel
theorem dX12_looks_0 : decode cX12_looks 0 = .ok (.aload_n 0, 1) := by decide +kernel
theorem dX12_looks_1 : decode cX12_looks 1 = .ok (.invokevirtual 48, 3) := by decide +kernel
theorem dX12_looks_4 : decode cX12_looks 4 = .ok (.istore_n 2, 1) := by decide +kernel
theorem dX12_looks_5 : decode cX12_looks 5 = .ok (.iconst 0, 1) := by decide +kernel
theorem dX12_looks_6 : decode cX12_looks 6 = .ok (.istore_n 3, 1) := by decide +kernel
theorem dX12_looks_7 : decode cX12_looks 7 = .ok (.iload_n 3, 1) := by decide +kernel
theorem dX12_looks_8 : decode cX12_looks 8 = .ok (.aload_n 0, 1) := by decide +kernel
theorem dX12_looks_9 : decode cX12_looks 9 = .ok (.invokevirtual 56, 3) := by decide +kernel
theorem dX12_looks_12 : decode cX12_looks 12 = .ok (.if_icmp .gt 33, 3) := by decide +kernel
theorem dX12_looks_15 : decode cX12_looks 15 = .ok (.aload_n 0, 1) := by decide +kernel
theorem dX12_looks_16 : decode cX12_looks 16 = .ok (.getfield 25, 3) := by decide +kernel
theorem dX12_looks_19 : decode cX12_looks 19 = .ok (.bipush 61, 2) := by decide +kernel
theorem dX12_looks_21 : decode cX12_looks 21 = .ok (.iload_n 2, 1) := by decide +kernel
theorem dX12_looks_22 : decode cX12_looks 22 = .ok (.imul, 1) := by decide +kernel
theorem dX12_looks_23 : decode cX12_looks 23 = .ok (.iload_n 3, 1) := by decide +kernel
theorem dX12_looks_24 : decode cX12_looks 24 = .ok (.iadd, 1) := by decide +kernel
theorem dX12_looks_25 : decode cX12_looks 25 = .ok (.iconst 0, 1) := by decide +kernel
theorem dX12_looks_26 : decode cX12_looks 26 = .ok (.iastore, 1) := by decide +kernel
theorem dX12_looks_27 : decode cX12_looks 27 = .ok (.aload_n 0, 1) := by decide +kernel
theorem dX12_looks_28 : decode cX12_looks 28 = .ok (.getfield 28, 3) := by decide +kernel
theorem dX12_looks_31 : decode cX12_looks 31 = .ok (.bipush 61, 2) := by decide +kernel
theorem dX12_looks_33 : decode cX12_looks 33 = .ok (.iload_n 2, 1) := by decide +kernel
theorem dX12_looks_34 : decode cX12_looks 34 = .ok (.imul, 1) := by decide +kernel
theorem dX12_looks_35 : decode cX12_looks 35 = .ok (.iload_n 3, 1) := by decide +kernel
theorem dX12_looks_36 : decode cX12_looks 36 = .ok (.iadd, 1) := by decide +kernel
theorem dX12_looks_37 : decode cX12_looks 37 = .ok (.iload_n 3, 1) := by decide +kernel
theorem dX12_looks_38 : decode cX12_looks 38 = .ok (.iastore, 1) := by decide +kernel
theorem dX12_looks_39 : decode cX12_looks 39 = .ok (.iinc 3 1, 3) := by decide +kernel
theorem dX12_looks_42 : decode cX12_looks 42 = .ok (.goto (-35), 3) := by decide +kernel
theorem dX12_looks_45 : decode cX12_looks 45 = .ok (.iload_n 2, 1) := by decide +kernel
theorem dX12_looks_46 : decode cX12_looks 46 = .ok (.iconst 1, 1) := by decide +kernel
theorem dX12_looks_47 : decode cX12_looks 47 = .ok (.isub, 1) := by decide +kernel
theorem dX12_looks_48 : decode cX12_looks 48 = .ok (.istore_n 3, 1) := by decide +kernel
theorem dX12_looks_49 : decode cX12_looks 49 = .ok (.iload_n 3, 1) := by decide +kernel
theorem dX12_looks_50 : decode cX12_looks 50 = .ok (.ifCond .lt 203, 3) := by decide +kernel
theorem dX12_looks_53 : decode cX12_looks 53 = .ok (.iconst 0, 1) := by decide +kernel
theorem dX12_looks_54 : decode cX12_looks 54 = .ok (.istore 4, 2) := by decide +kernel
theorem dX12_looks_56 : decode cX12_looks 56 = .ok (.iload 4, 2) := by decide +kernel
theorem dX12_looks_58 : decode cX12_looks 58 = .ok (.aload_n 0, 1) := by decide +kernel
theorem dX12_looks_59 : decode cX12_looks 59 = .ok (.invokevirtual 56, 3) := by decide +kernel
theorem dX12_looks_62 : decode cX12_looks 62 = .ok (.if_icmp .gt 185, 3) := by decide +kernel
theorem dX12_looks_65 : decode cX12_looks 65 = .ok (.iconst (-1), 1) := by decide +kernel
theorem dX12_looks_66 : decode cX12_looks 66 = .ok (.istore 5, 2) := by decide +kernel
theorem dX12_looks_68 : decode cX12_looks 68 = .ok (.iconst 0, 1) := by decide +kernel
theorem dX12_looks_69 : decode cX12_looks 69 = .ok (.istore 6, 2) := by decide +kernel
theorem dX12_looks_71 : decode cX12_looks 71 = .ok (.iconst 0, 1) := by decide +kernel
theorem dX12_looks_72 : decode cX12_looks 72 = .ok (.istore 7, 2) := by decide +kernel
theorem dX12_looks_74 : decode cX12_looks 74 = .ok (.iconst 0, 1) := by decide +kernel
theorem dX12_looks_75 : decode cX12_looks 75 = .ok (.istore 8, 2) := by decide +kernel
theorem dX12_looks_77 : decode cX12_looks 77 = .ok (.iload 8, 2) := by decide +kernel
theorem dX12_looks_79 : decode cX12_looks 79 = .ok (.bipush 10, 2) := by decide +kernel
theorem dX12_looks_81 : decode cX12_looks 81 = .ok (.if_icmp .ge 118, 3) := by decide +kernel
theorem dX12_looks_84 : decode cX12_looks 84 = .ok (.iload_n 1, 1) := by decide +kernel
theorem dX12_looks_85 : decode cX12_looks 85 = .ok (.iload 8, 2) := by decide +kernel
theorem dX12_looks_87 : decode cX12_looks 87 = .ok (.ishr, 1) := by decide +kernel
theorem dX12_looks_88 : decode cX12_looks 88 = .ok (.iconst 1, 1) := by decide +kernel
theorem dX12_looks_89 : decode cX12_looks 89 = .ok (.iand, 1) := by decide +kernel
theorem dX12_looks_90 : decode cX12_looks 90 = .ok (.iconst 1, 1) := by decide +kernel
theorem dX12_looks_91 : decode cX12_looks 91 = .ok (.if_icmp .ne 15, 3) := by decide +kernel
theorem dX12_looks_94 : decode cX12_looks 94 = .ok (.aload_n 0, 1) := by decide +kernel
theorem dX12_looks_95 : decode cX12_looks 95 = .ok (.iload_n 3, 1) := by decide +kernel
theorem dX12_looks_96 : decode cX12_looks 96 = .ok (.iload 8, 2) := by decide +kernel
theorem dX12_looks_98 : decode cX12_looks 98 = .ok (.iload 4, 2) := by decide +kernel
theorem dX12_looks_100 : decode cX12_looks 100 = .ok (.invokevirtual 182, 3) := by decide +kernel
theorem dX12_looks_103 : decode cX12_looks 103 = .ok (.goto 4, 3) := by decide +kernel
theorem dX12_looks_106 : decode cX12_looks 106 = .ok (.iconst (-1), 1) := by decide +kernel
theorem dX12_looks_107 : decode cX12_looks 107 = .ok (.istore 9, 2) := by decide +kernel
theorem dX12_looks_109 : decode cX12_looks 109 = .ok (.iload 9, 2) := by decide +kernel
theorem dX12_looks_111 : decode cX12_looks 111 = .ok (.ifCond .lt 82, 3) := by decide +kernel
theorem dX12_looks_114 : decode cX12_looks 114 = .ok (.bipush 61, 2) := by decide +kernel
theorem dX12_looks_116 : decode cX12_looks 116 = .ok (.iload_n 3, 1) := by decide +kernel
theorem dX12_looks_117 : decode cX12_looks 117 = .ok (.iconst 1, 1) := by decide +kernel
theorem dX12_looks_118 : decode cX12_looks 118 = .ok (.iadd, 1) := by decide +kernel
theorem dX12_looks_119 : decode cX12_looks 119 = .ok (.imul, 1) := by decide +kernel
theorem dX12_looks_120 : decode cX12_looks 120 = .ok (.iload 9, 2) := by decide +kernel
theorem dX12_looks_122 : decode cX12_looks 122 = .ok (.iadd, 1) := by decide +kernel
theorem dX12_looks_123 : decode cX12_looks 123 = .ok (.istore 10, 2) := by decide +kernel
theorem dX12_looks_125 : decode cX12_looks 125 = .ok (.aload_n 0, 1) := by decide +kernel
theorem dX12_looks_126 : decode cX12_looks 126 = .ok (.iload_n 3, 1) := by decide +kernel
theorem dX12_looks_127 : decode cX12_looks 127 = .ok (.iload 8, 2) := by decide +kernel
theorem dX12_looks_129 : decode cX12_looks 129 = .ok (.iload 4, 2) := by decide +kernel
theorem dX12_looks_131 : decode cX12_looks 131 = .ok (.invokevirtual 179, 3) := by decide +kernel
theorem dX12_looks_134 : decode cX12_looks 134 = .ok (.aload_n 0, 1) := by decide +kernel
theorem dX12_looks_135 : decode cX12_looks 135 = .ok (.getfield 25, 3) := by decide +kernel
theorem dX12_looks_138 : decode cX12_looks 138 = .ok (.iload 10, 2) := by decide +kernel
theorem dX12_looks_140 : decode cX12_looks 140 = .ok (.iaload, 1) := by decide +kernel
theorem dX12_looks_141 : decode cX12_looks 141 = .ok (.iadd, 1) := by decide +kernel
theorem dX12_looks_142 : decode cX12_looks 142 = .ok (.istore 11, 2) := by decide +kernel
theorem dX12_looks_144 : decode cX12_looks 144 = .ok (.iload 5, 2) := by decide +kernel
theorem dX12_looks_146 : decode cX12_looks 146 = .ok (.iconst (-1), 1) := by decide +kernel
theorem dX12_looks_147 : decode cX12_looks 147 = .ok (.if_icmp .eq 29, 3) := by decide +kernel
theorem dX12_looks_150 : decode cX12_looks 150 = .ok (.iload 11, 2) := by decide +kernel
theorem dX12_looks_152 : decode cX12_looks 152 = .ok (.iload 6, 2) := by decide +kernel
theorem dX12_looks_154 : decode cX12_looks 154 = .ok (.if_icmp .lt 22, 3) := by decide +kernel
theorem dX12_looks_157 : decode cX12_looks 157 = .ok (.iload 11, 2) := by decide +kernel
theorem dX12_looks_159 : decode cX12_looks 159 = .ok (.iload 6, 2) := by decide +kernel
theorem dX12_looks_161 : decode cX12_looks 161 = .ok (.if_icmp .ne 32, 3) := by decide +kernel
theorem dX12_looks_164 : decode cX12_looks 164 = .ok (.aload_n 0, 1) := by decide +kernel
theorem dX12_looks_165 : decode cX12_looks 165 = .ok (.getfield 28, 3) := by decide +kernel
theorem dX12_looks_168 : decode cX12_looks 168 = .ok (.iload 10, 2) := by decide +kernel
theorem dX12_looks_170 : decode cX12_looks 170 = .ok (.iaload, 1) := by decide +kernel
theorem dX12_looks_171 : decode cX12_looks 171 = .ok (.iload 7, 2) := by decide +kernel
theorem dX12_looks_173 : decode cX12_looks 173 = .ok (.if_icmp .le 20, 3) := by decide +kernel
theorem dX12_looks_176 : decode cX12_looks 176 = .ok (.iload 8, 2) := by decide +kernel
theorem dX12_looks_178 : decode cX12_looks 178 = .ok (.istore 5, 2) := by decide +kernel
theorem dX12_looks_180 : decode cX12_looks 180 = .ok (.iload 11, 2) := by decide +kernel
theorem dX12_looks_182 : decode cX12_looks 182 = .ok (.istore 6, 2) := by decide +kernel
theorem dX12_looks_184 : decode cX12_looks 184 = .ok (.aload_n 0, 1) := by decide +kernel
theorem dX12_looks_185 : decode cX12_looks 185 = .ok (.getfield 28, 3) := by decide +kernel
theorem dX12_looks_188 : decode cX12_looks 188 = .ok (.iload 10, 2) := by decide +kernel
theorem dX12_looks_190 : decode cX12_looks 190 = .ok (.iaload, 1) := by decide +kernel
theorem dX12_looks_191 : decode cX12_looks 191 = .ok (.istore 7, 2) := by decide +kernel
theorem dX12_looks_193 : decode cX12_looks 193 = .ok (.iinc 8 1, 3) := by decide +kernel
theorem dX12_looks_196 : decode cX12_looks 196 = .ok (.goto (-119), 3) := by decide +kernel
theorem dX12_looks_199 : decode cX12_looks 199 = .ok (.aload_n 0, 1) := by decide +kernel
theorem dX12_looks_200 : decode cX12_looks 200 = .ok (.getfield 25, 3) := by decide +kernel
theorem dX12_looks_203 : decode cX12_looks 203 = .ok (.bipush 61, 2) := by decide +kernel
theorem dX12_looks_205 : decode cX12_looks 205 = .ok (.iload_n 3, 1) := by decide +kernel
theorem dX12_looks_206 : decode cX12_looks 206 = .ok (.imul, 1) := by decide +kernel
theorem dX12_looks_207 : decode cX12_looks 207 = .ok (.iload 4, 2) := by decide +kernel
theorem dX12_looks_209 : decode cX12_looks 209 = .ok (.iadd, 1) := by decide +kernel
theorem dX12_looks_210 : decode cX12_looks 210 = .ok (.iload 6, 2) := by decide +kernel
theorem dX12_looks_212 : decode cX12_looks 212 = .ok (.iastore, 1) := by decide +kernel
theorem dX12_looks_213 : decode cX12_looks 213 = .ok (.aload_n 0, 1) := by decide +kernel
theorem dX12_looks_214 : decode cX12_looks 214 = .ok (.getfield 28, 3) := by decide +kernel
theorem dX12_looks_217 : decode cX12_looks 217 = .ok (.bipush 61, 2) := by decide +kernel
theorem dX12_looks_219 : decode cX12_looks 219 = .ok (.iload_n 3, 1) := by decide +kernel
theorem dX12_looks_220 : decode cX12_looks 220 = .ok (.imul, 1) := by decide +kernel
theorem dX12_looks_221 : decode cX12_looks 221 = .ok (.iload 4, 2) := by decide +kernel
theorem dX12_looks_223 : decode cX12_looks 223 = .ok (.iadd, 1) := by decide +kernel
theorem dX12_looks_224 : decode cX12_looks 224 = .ok (.iload 7, 2) := by decide +kernel
theorem dX12_looks_226 : decode cX12_looks 226 = .ok (.iastore, 1) := by decide +kernel
theorem dX12_looks_227 : decode cX12_looks 227 = .ok (.aload_n 0, 1) := by decide +kernel
theorem dX12_looks_228 : decode cX12_looks 228 = .ok (.getfield 31, 3) := by decide +kernel
theorem dX12_looks_231 : decode cX12_looks 231 = .ok (.bipush 61, 2) := by decide +kernel
theorem dX12_looks_233 : decode cX12_looks 233 = .ok (.iload_n 3, 1) := by decide +kernel
theorem dX12_looks_234 : decode cX12_looks 234 = .ok (.imul, 1) := by decide +kernel
theorem dX12_looks_235 : decode cX12_looks 235 = .ok (.iload 4, 2) := by decide +kernel
theorem dX12_looks_237 : decode cX12_looks 237 = .ok (.iadd, 1) := by decide +kernel
theorem dX12_looks_238 : decode cX12_looks 238 = .ok (.iload 5, 2) := by decide +kernel
theorem dX12_looks_240 : decode cX12_looks 240 = .ok (.iastore, 1) := by decide +kernel
theorem dX12_looks_241 : decode cX12_looks 241 = .ok (.iinc 4 1, 3) := by decide +kernel
theorem dX12_looks_244 : decode cX12_looks 244 = .ok (.goto (-188), 3) := by decide +kernel
theorem dX12_looks_247 : decode cX12_looks 247 = .ok (.iinc 3 (-1), 3) := by decide +kernel
theorem dX12_looks_250 : decode cX12_looks 250 = .ok (.goto (-201), 3) := by decide +kernel
theorem dX12_looks_253 : decode cX12_looks 253 = .ok (.return_, 1) := by decide +kernel
theorem dX12_loses_0 : decode cX12_loses 0 = .ok (.aload_n 0, 1) := by decide +kernel
theorem dX12_loses_1 : decode cX12_loses 1 = .ok (.iload_n 1, 1) := by decide +kernel
theorem dX12_loses_2 : decode cX12_loses 2 = .ok (.invokevirtual 188, 3) := by decide +kernel
theorem dX12_loses_5 : decode cX12_loses 5 = .ok (.ifCond .ne 5, 3) := by decide +kernel
theorem dX12_loses_8 : decode cX12_loses 8 = .ok (.iconst (-1), 1) := by decide +kernel
theorem dX12_loses_9 : decode cX12_loses 9 = .ok (.ireturn, 1) := by decide +kernel
theorem dX12_loses_10 : decode cX12_loses 10 = .ok (.aload_n 0, 1) := by decide +kernel
theorem dX12_loses_11 : decode cX12_loses 11 = .ok (.invokevirtual 48, 3) := by decide +kernel
theorem dX12_loses_14 : decode cX12_loses 14 = .ok (.ifCond .ne 6, 3) := by decide +kernel
theorem dX12_loses_17 : decode cX12_loses 17 = .ok (.bipush (-3), 2) := by decide +kernel
theorem dX12_loses_19 : decode cX12_loses 19 = .ok (.ireturn, 1) := by decide +kernel
theorem dX12_loses_20 : decode cX12_loses 20 = .ok (.aload_n 0, 1) := by decide +kernel
theorem dX12_loses_21 : decode cX12_loses 21 = .ok (.sipush 1023, 3) := by decide +kernel
theorem dX12_loses_24 : decode cX12_loses 24 = .ok (.invokevirtual 185, 3) := by decide +kernel
theorem dX12_loses_27 : decode cX12_loses 27 = .ok (.aload_n 0, 1) := by decide +kernel
theorem dX12_loses_28 : decode cX12_loses 28 = .ok (.iload_n 1, 1) := by decide +kernel
theorem dX12_loses_29 : decode cX12_loses 29 = .ok (.aload_n 0, 1) := by decide +kernel
theorem dX12_loses_30 : decode cX12_loses 30 = .ok (.invokevirtual 56, 3) := by decide +kernel
theorem dX12_loses_33 : decode cX12_loses 33 = .ok (.iconst 0, 1) := by decide +kernel
theorem dX12_loses_34 : decode cX12_loses 34 = .ok (.iconst 0, 1) := by decide +kernel
theorem dX12_loses_35 : decode cX12_loses 35 = .ok (.invokevirtual 207, 3) := by decide +kernel
theorem dX12_loses_38 : decode cX12_loses 38 = .ok (.aload_n 0, 1) := by decide +kernel
theorem dX12_loses_39 : decode cX12_loses 39 = .ok (.getfield 25, 3) := by decide +kernel
theorem dX12_loses_42 : decode cX12_loses 42 = .ok (.aload_n 0, 1) := by decide +kernel
theorem dX12_loses_43 : decode cX12_loses 43 = .ok (.invokevirtual 56, 3) := by decide +kernel
theorem dX12_loses_46 : decode cX12_loses 46 = .ok (.iaload, 1) := by decide +kernel
theorem dX12_loses_47 : decode cX12_loses 47 = .ok (.isub, 1) := by decide +kernel
theorem dX12_loses_48 : decode cX12_loses 48 = .ok (.ireturn, 1) := by decide +kernel
theorem dX12_lowest_0 : decode cX12_lowest 0 = .ok (.lconst 1, 1) := by decide +kernel
theorem dX12_lowest_1 : decode cX12_lowest 1 = .ok (.lstore 4, 2) := by decide +kernel
theorem dX12_lowest_3 : decode cX12_lowest 3 = .ok (.iconst 0, 1) := by decide +kernel
theorem dX12_lowest_4 : decode cX12_lowest 4 = .ok (.istore 6, 2) := by decide +kernel
theorem dX12_lowest_6 : decode cX12_lowest 6 = .ok (.iload 6, 2) := by decide +kernel
theorem dX12_lowest_8 : decode cX12_lowest 8 = .ok (.aload_n 0, 1) := by decide +kernel
theorem dX12_lowest_9 : decode cX12_lowest 9 = .ok (.invokevirtual 48, 3) := by decide +kernel
theorem dX12_lowest_12 : decode cX12_lowest 12 = .ok (.if_icmp .ge 17, 3) := by decide +kernel
theorem dX12_lowest_15 : decode cX12_lowest 15 = .ok (.lload 4, 2) := by decide +kernel
theorem dX12_lowest_17 : decode cX12_lowest 17 = .ok (.ldc2_w 222, 3) := by decide +kernel
theorem dX12_lowest_20 : decode cX12_lowest 20 = .ok (.lmul, 1) := by decide +kernel
theorem dX12_lowest_21 : decode cX12_lowest 21 = .ok (.lstore 4, 2) := by decide +kernel
theorem dX12_lowest_23 : decode cX12_lowest 23 = .ok (.iinc 6 1, 3) := by decide +kernel
theorem dX12_lowest_26 : decode cX12_lowest 26 = .ok (.goto (-20), 3) := by decide +kernel
theorem dX12_lowest_29 : decode cX12_lowest 29 = .ok (.iload_n 3, 1) := by decide +kernel
theorem dX12_lowest_30 : decode cX12_lowest 30 = .ok (.ifCond .ne 7, 3) := by decide +kernel
theorem dX12_lowest_33 : decode cX12_lowest 33 = .ok (.lload_n 1, 1) := by decide +kernel
theorem dX12_lowest_34 : decode cX12_lowest 34 = .ok (.goto 5, 3) := by decide +kernel
theorem dX12_lowest_37 : decode cX12_lowest 37 = .ok (.lload 4, 2) := by decide +kernel
theorem dX12_lowest_39 : decode cX12_lowest 39 = .ok (.lload_n 1, 1) := by decide +kernel
theorem dX12_lowest_40 : decode cX12_lowest 40 = .ok (.lload 4, 2) := by decide +kernel
theorem dX12_lowest_42 : decode cX12_lowest 42 = .ok (.invokestatic 224, 3) := by decide +kernel
theorem dX12_lowest_45 : decode cX12_lowest 45 = .ok (.ldiv, 1) := by decide +kernel
theorem dX12_lowest_46 : decode cX12_lowest 46 = .ok (.lreturn, 1) := by decide +kernel
theorem dX12_mean_0 : decode cX12_mean 0 = .ok (.aload_n 0, 1) := by decide +kernel
theorem dX12_mean_1 : decode cX12_mean 1 = .ok (.iload_n 1, 1) := by decide +kernel
theorem dX12_mean_2 : decode cX12_mean 2 = .ok (.invokevirtual 188, 3) := by decide +kernel
theorem dX12_mean_5 : decode cX12_mean 5 = .ok (.ifCond .eq 19, 3) := by decide +kernel
theorem dX12_mean_8 : decode cX12_mean 8 = .ok (.iload_n 2, 1) := by decide +kernel
theorem dX12_mean_9 : decode cX12_mean 9 = .ok (.iconst 0, 1) := by decide +kernel
theorem dX12_mean_10 : decode cX12_mean 10 = .ok (.iconst 1, 1) := by decide +kernel
theorem dX12_mean_11 : decode cX12_mean 11 = .ok (.invokestatic 44, 3) := by decide +kernel
theorem dX12_mean_14 : decode cX12_mean 14 = .ok (.ifCond .eq 10, 3) := by decide +kernel
theorem dX12_mean_17 : decode cX12_mean 17 = .ok (.aload_n 0, 1) := by decide +kernel
theorem dX12_mean_18 : decode cX12_mean 18 = .ok (.invokevirtual 48, 3) := by decide +kernel
theorem dX12_mean_21 : decode cX12_mean 21 = .ok (.ifCond .ne 7, 3) := by decide +kernel
theorem dX12_mean_24 : decode cX12_mean 24 = .ok (.ldc2_w 228, 3) := by decide +kernel
theorem dX12_mean_27 : decode cX12_mean 27 = .ok (.lreturn, 1) := by decide +kernel
theorem dX12_mean_28 : decode cX12_mean 28 = .ok (.aload_n 0, 1) := by decide +kernel
theorem dX12_mean_29 : decode cX12_mean 29 = .ok (.iload_n 1, 1) := by decide +kernel
theorem dX12_mean_30 : decode cX12_mean 30 = .ok (.iconst 0, 1) := by decide +kernel
theorem dX12_mean_31 : decode cX12_mean 31 = .ok (.invokevirtual 230, 3) := by decide +kernel
theorem dX12_mean_34 : decode cX12_mean 34 = .ok (.aload_n 0, 1) := by decide +kernel
theorem dX12_mean_35 : decode cX12_mean 35 = .ok (.aload_n 0, 1) := by decide +kernel
theorem dX12_mean_36 : decode cX12_mean 36 = .ok (.getfield 211, 3) := by decide +kernel
theorem dX12_mean_39 : decode cX12_mean 39 = .ok (.iload_n 2, 1) := by decide +kernel
theorem dX12_mean_40 : decode cX12_mean 40 = .ok (.invokevirtual 234, 3) := by decide +kernel
theorem dX12_mean_43 : decode cX12_mean 43 = .ok (.lreturn, 1) := by decide +kernel
theorem dX12_most_0 : decode cX12_most 0 = .ok (.aload_n 0, 1) := by decide +kernel
theorem dX12_most_1 : decode cX12_most 1 = .ok (.sipush 228, 3) := by decide +kernel
theorem dX12_most_4 : decode cX12_most 4 = .ok (.bipush 20, 2) := by decide +kernel
theorem dX12_most_6 : decode cX12_most 6 = .ok (.invokevirtual 52, 3) := by decide +kernel
theorem dX12_most_9 : decode cX12_most 9 = .ok (.ireturn, 1) := by decide +kernel
theorem dX12_must_0 : decode cX12_must 0 = .ok (.aload_n 0, 1) := by decide +kernel
theorem dX12_must_1 : decode cX12_must 1 = .ok (.aload_n 0, 1) := by decide +kernel
theorem dX12_must_2 : decode cX12_must 2 = .ok (.getfield 67, 3) := by decide +kernel
theorem dX12_must_5 : decode cX12_must 5 = .ok (.ifCond .ne 11, 3) := by decide +kernel
theorem dX12_must_8 : decode cX12_must 8 = .ok (.aload_n 0, 1) := by decide +kernel
theorem dX12_must_9 : decode cX12_must 9 = .ok (.invokevirtual 71, 3) := by decide +kernel
theorem dX12_must_12 : decode cX12_must 12 = .ok (.iload_n 1, 1) := by decide +kernel
theorem dX12_must_13 : decode cX12_must 13 = .ok (.if_icmp .eq 7, 3) := by decide +kernel
theorem dX12_must_16 : decode cX12_must 16 = .ok (.iconst 1, 1) := by decide +kernel
theorem dX12_must_17 : decode cX12_must 17 = .ok (.goto 4, 3) := by decide +kernel
theorem dX12_must_20 : decode cX12_must 20 = .ok (.iconst 0, 1) := by decide +kernel
theorem dX12_must_21 : decode cX12_must 21 = .ok (.putfield 67, 3) := by decide +kernel
theorem dX12_must_24 : decode cX12_must 24 = .ok (.aload_n 0, 1) := by decide +kernel
theorem dX12_must_25 : decode cX12_must 25 = .ok (.dup, 1) := by decide +kernel
theorem dX12_must_26 : decode cX12_must 26 = .ok (.getfield 61, 3) := by decide +kernel
theorem dX12_must_29 : decode cX12_must 29 = .ok (.aload_n 0, 1) := by decide +kernel
theorem dX12_must_30 : decode cX12_must 30 = .ok (.getfield 67, 3) := by decide +kernel
theorem dX12_must_33 : decode cX12_must 33 = .ok (.ifCond .eq 7, 3) := by decide +kernel
theorem dX12_must_36 : decode cX12_must 36 = .ok (.iconst 0, 1) := by decide +kernel
theorem dX12_must_37 : decode cX12_must 37 = .ok (.goto 4, 3) := by decide +kernel
theorem dX12_must_40 : decode cX12_must 40 = .ok (.iconst 1, 1) := by decide +kernel
theorem dX12_must_41 : decode cX12_must 41 = .ok (.iadd, 1) := by decide +kernel
theorem dX12_must_42 : decode cX12_must 42 = .ok (.putfield 61, 3) := by decide +kernel
theorem dX12_must_45 : decode cX12_must 45 = .ok (.return_, 1) := by decide +kernel
theorem dX12_of_0 : decode cX12_of 0 = .ok (.aload_n 0, 1) := by decide +kernel
theorem dX12_of_1 : decode cX12_of 1 = .ok (.iload_n 1, 1) := by decide +kernel
theorem dX12_of_2 : decode cX12_of 2 = .ok (.invokevirtual 151, 3) := by decide +kernel
theorem dX12_of_5 : decode cX12_of 5 = .ok (.ifCond .ne 5, 3) := by decide +kernel
theorem dX12_of_8 : decode cX12_of 8 = .ok (.iconst (-1), 1) := by decide +kernel
theorem dX12_of_9 : decode cX12_of 9 = .ok (.ireturn, 1) := by decide +kernel
theorem dX12_of_10 : decode cX12_of 10 = .ok (.iload_n 2, 1) := by decide +kernel
theorem dX12_of_11 : decode cX12_of 11 = .ok (.tableswitch 53 0 3 #[29, 35, 41, 47], 29) := by decide +kernel
theorem dX12_of_40 : decode cX12_of 40 = .ok (.aload_n 0, 1) := by decide +kernel
theorem dX12_of_41 : decode cX12_of 41 = .ok (.iload_n 1, 1) := by decide +kernel
theorem dX12_of_42 : decode cX12_of 42 = .ok (.invokevirtual 155, 3) := by decide +kernel
theorem dX12_of_45 : decode cX12_of 45 = .ok (.ireturn, 1) := by decide +kernel
theorem dX12_of_46 : decode cX12_of 46 = .ok (.aload_n 0, 1) := by decide +kernel
theorem dX12_of_47 : decode cX12_of 47 = .ok (.iload_n 1, 1) := by decide +kernel
theorem dX12_of_48 : decode cX12_of 48 = .ok (.invokevirtual 157, 3) := by decide +kernel
theorem dX12_of_51 : decode cX12_of 51 = .ok (.ireturn, 1) := by decide +kernel
theorem dX12_of_52 : decode cX12_of 52 = .ok (.aload_n 0, 1) := by decide +kernel
theorem dX12_of_53 : decode cX12_of 53 = .ok (.iload_n 1, 1) := by decide +kernel
theorem dX12_of_54 : decode cX12_of 54 = .ok (.invokevirtual 160, 3) := by decide +kernel
theorem dX12_of_57 : decode cX12_of 57 = .ok (.ireturn, 1) := by decide +kernel
theorem dX12_of_58 : decode cX12_of 58 = .ok (.aload_n 0, 1) := by decide +kernel
theorem dX12_of_59 : decode cX12_of 59 = .ok (.iload_n 1, 1) := by decide +kernel
theorem dX12_of_60 : decode cX12_of 60 = .ok (.invokevirtual 163, 3) := by decide +kernel
theorem dX12_of_63 : decode cX12_of 63 = .ok (.ireturn, 1) := by decide +kernel
theorem dX12_of_64 : decode cX12_of 64 = .ok (.iconst (-1), 1) := by decide +kernel
theorem dX12_of_65 : decode cX12_of 65 = .ok (.ireturn, 1) := by decide +kernel
theorem dX12_pieceHere_0 : decode cX12_pieceHere 0 = .ok (.aload_n 0, 1) := by decide +kernel
theorem dX12_pieceHere_1 : decode cX12_pieceHere 1 = .ok (.getfield 9, 3) := by decide +kernel
theorem dX12_pieceHere_4 : decode cX12_pieceHere 4 = .ok (.sipush 218, 3) := by decide +kernel
theorem dX12_pieceHere_7 : decode cX12_pieceHere 7 = .ok (.aload_n 0, 1) := by decide +kernel
theorem dX12_pieceHere_8 : decode cX12_pieceHere 8 = .ok (.getfield 87, 3) := by decide +kernel
theorem dX12_pieceHere_11 : decode cX12_pieceHere 11 = .ok (.iadd, 1) := by decide +kernel
theorem dX12_pieceHere_12 : decode cX12_pieceHere 12 = .ok (.iaload, 1) := by decide +kernel
theorem dX12_pieceHere_13 : decode cX12_pieceHere 13 = .ok (.bipush 8, 2) := by decide +kernel
theorem dX12_pieceHere_15 : decode cX12_pieceHere 15 = .ok (.if_icmp .ne 9, 3) := by decide +kernel
theorem dX12_pieceHere_18 : decode cX12_pieceHere 18 = .ok (.aload_n 0, 1) := by decide +kernel
theorem dX12_pieceHere_19 : decode cX12_pieceHere 19 = .ok (.iconst 1, 1) := by decide +kernel
theorem dX12_pieceHere_20 : decode cX12_pieceHere 20 = .ok (.putfield 67, 3) := by decide +kernel
theorem dX12_pieceHere_23 : decode cX12_pieceHere 23 = .ok (.return_, 1) := by decide +kernel
theorem dX12_pieceHere_24 : decode cX12_pieceHere 24 = .ok (.aload_n 0, 1) := by decide +kernel
theorem dX12_pieceHere_25 : decode cX12_pieceHere 25 = .ok (.ldc 116, 2) := by decide +kernel
theorem dX12_pieceHere_27 : decode cX12_pieceHere 27 = .ok (.invokevirtual 118, 3) := by decide +kernel
theorem dX12_pieceHere_30 : decode cX12_pieceHere 30 = .ok (.aload_n 0, 1) := by decide +kernel
theorem dX12_pieceHere_31 : decode cX12_pieceHere 31 = .ok (.iconst 1, 1) := by decide +kernel
theorem dX12_pieceHere_32 : decode cX12_pieceHere 32 = .ok (.invokevirtual 122, 3) := by decide +kernel
theorem dX12_pieceHere_35 : decode cX12_pieceHere 35 = .ok (.istore_n 1, 1) := by decide +kernel
theorem dX12_pieceHere_36 : decode cX12_pieceHere 36 = .ok (.aload_n 0, 1) := by decide +kernel
theorem dX12_pieceHere_37 : decode cX12_pieceHere 37 = .ok (.bipush 32, 2) := by decide +kernel
theorem dX12_pieceHere_39 : decode cX12_pieceHere 39 = .ok (.invokevirtual 83, 3) := by decide +kernel
theorem dX12_pieceHere_42 : decode cX12_pieceHere 42 = .ok (.aload_n 0, 1) := by decide +kernel
theorem dX12_pieceHere_43 : decode cX12_pieceHere 43 = .ok (.iconst 0, 1) := by decide +kernel
theorem dX12_pieceHere_44 : decode cX12_pieceHere 44 = .ok (.invokevirtual 122, 3) := by decide +kernel
theorem dX12_pieceHere_47 : decode cX12_pieceHere 47 = .ok (.istore_n 2, 1) := by decide +kernel
theorem dX12_pieceHere_48 : decode cX12_pieceHere 48 = .ok (.aload_n 0, 1) := by decide +kernel
theorem dX12_pieceHere_49 : decode cX12_pieceHere 49 = .ok (.bipush 32, 2) := by decide +kernel
theorem dX12_pieceHere_51 : decode cX12_pieceHere 51 = .ok (.invokevirtual 83, 3) := by decide +kernel
theorem dX12_pieceHere_54 : decode cX12_pieceHere 54 = .ok (.aload_n 0, 1) := by decide +kernel
theorem dX12_pieceHere_55 : decode cX12_pieceHere 55 = .ok (.iconst 0, 1) := by decide +kernel
theorem dX12_pieceHere_56 : decode cX12_pieceHere 56 = .ok (.invokevirtual 122, 3) := by decide +kernel
theorem dX12_pieceHere_59 : decode cX12_pieceHere 59 = .ok (.istore_n 3, 1) := by decide +kernel
theorem dX12_pieceHere_60 : decode cX12_pieceHere 60 = .ok (.aload_n 0, 1) := by decide +kernel
theorem dX12_pieceHere_61 : decode cX12_pieceHere 61 = .ok (.getfield 67, 3) := by decide +kernel
theorem dX12_pieceHere_64 : decode cX12_pieceHere 64 = .ok (.ifCond .ne 79, 3) := by decide +kernel
theorem dX12_pieceHere_67 : decode cX12_pieceHere 67 = .ok (.bipush 8, 2) := by decide +kernel
theorem dX12_pieceHere_69 : decode cX12_pieceHere 69 = .ok (.aload_n 0, 1) := by decide +kernel
theorem dX12_pieceHere_70 : decode cX12_pieceHere 70 = .ok (.getfield 87, 3) := by decide +kernel
theorem dX12_pieceHere_73 : decode cX12_pieceHere 73 = .ok (.imul, 1) := by decide +kernel
theorem dX12_pieceHere_74 : decode cX12_pieceHere 74 = .ok (.aload_n 0, 1) := by decide +kernel
theorem dX12_pieceHere_75 : decode cX12_pieceHere 75 = .ok (.getfield 9, 3) := by decide +kernel
theorem dX12_pieceHere_78 : decode cX12_pieceHere 78 = .ok (.sipush 218, 3) := by decide +kernel
theorem dX12_pieceHere_81 : decode cX12_pieceHere 81 = .ok (.aload_n 0, 1) := by decide +kernel
theorem dX12_pieceHere_82 : decode cX12_pieceHere 82 = .ok (.getfield 87, 3) := by decide +kernel
theorem dX12_pieceHere_85 : decode cX12_pieceHere 85 = .ok (.iadd, 1) := by decide +kernel
theorem dX12_pieceHere_86 : decode cX12_pieceHere 86 = .ok (.iaload, 1) := by decide +kernel
theorem dX12_pieceHere_87 : decode cX12_pieceHere 87 = .ok (.iadd, 1) := by decide +kernel
theorem dX12_pieceHere_88 : decode cX12_pieceHere 88 = .ok (.istore 4, 2) := by decide +kernel
theorem dX12_pieceHere_90 : decode cX12_pieceHere 90 = .ok (.aload_n 0, 1) := by decide +kernel
theorem dX12_pieceHere_91 : decode cX12_pieceHere 91 = .ok (.getfield 9, 3) := by decide +kernel
theorem dX12_pieceHere_94 : decode cX12_pieceHere 94 = .ok (.sipush 243, 3) := by decide +kernel
theorem dX12_pieceHere_97 : decode cX12_pieceHere 97 = .ok (.iload 4, 2) := by decide +kernel
theorem dX12_pieceHere_99 : decode cX12_pieceHere 99 = .ok (.iadd, 1) := by decide +kernel
theorem dX12_pieceHere_100 : decode cX12_pieceHere 100 = .ok (.iload_n 1, 1) := by decide +kernel
theorem dX12_pieceHere_101 : decode cX12_pieceHere 101 = .ok (.iastore, 1) := by decide +kernel
theorem dX12_pieceHere_102 : decode cX12_pieceHere 102 = .ok (.aload_n 0, 1) := by decide +kernel
theorem dX12_pieceHere_103 : decode cX12_pieceHere 103 = .ok (.getfield 9, 3) := by decide +kernel
theorem dX12_pieceHere_106 : decode cX12_pieceHere 106 = .ok (.sipush 283, 3) := by decide +kernel
theorem dX12_pieceHere_109 : decode cX12_pieceHere 109 = .ok (.iload 4, 2) := by decide +kernel
theorem dX12_pieceHere_111 : decode cX12_pieceHere 111 = .ok (.iadd, 1) := by decide +kernel
theorem dX12_pieceHere_112 : decode cX12_pieceHere 112 = .ok (.iload_n 2, 1) := by decide +kernel
theorem dX12_pieceHere_113 : decode cX12_pieceHere 113 = .ok (.iastore, 1) := by decide +kernel
theorem dX12_pieceHere_114 : decode cX12_pieceHere 114 = .ok (.aload_n 0, 1) := by decide +kernel
theorem dX12_pieceHere_115 : decode cX12_pieceHere 115 = .ok (.getfield 9, 3) := by decide +kernel
theorem dX12_pieceHere_118 : decode cX12_pieceHere 118 = .ok (.sipush 323, 3) := by decide +kernel
theorem dX12_pieceHere_121 : decode cX12_pieceHere 121 = .ok (.iload 4, 2) := by decide +kernel
theorem dX12_pieceHere_123 : decode cX12_pieceHere 123 = .ok (.iadd, 1) := by decide +kernel
theorem dX12_pieceHere_124 : decode cX12_pieceHere 124 = .ok (.iload_n 3, 1) := by decide +kernel
theorem dX12_pieceHere_125 : decode cX12_pieceHere 125 = .ok (.iastore, 1) := by decide +kernel
theorem dX12_pieceHere_126 : decode cX12_pieceHere 126 = .ok (.aload_n 0, 1) := by decide +kernel
theorem dX12_pieceHere_127 : decode cX12_pieceHere 127 = .ok (.getfield 9, 3) := by decide +kernel
theorem dX12_pieceHere_130 : decode cX12_pieceHere 130 = .ok (.sipush 218, 3) := by decide +kernel
theorem dX12_pieceHere_133 : decode cX12_pieceHere 133 = .ok (.aload_n 0, 1) := by decide +kernel
theorem dX12_pieceHere_134 : decode cX12_pieceHere 134 = .ok (.getfield 87, 3) := by decide +kernel
theorem dX12_pieceHere_137 : decode cX12_pieceHere 137 = .ok (.iadd, 1) := by decide +kernel
theorem dX12_pieceHere_138 : decode cX12_pieceHere 138 = .ok (.dup2, 1) := by decide +kernel
theorem dX12_pieceHere_139 : decode cX12_pieceHere 139 = .ok (.iaload, 1) := by decide +kernel
theorem dX12_pieceHere_140 : decode cX12_pieceHere 140 = .ok (.iconst 1, 1) := by decide +kernel
theorem dX12_pieceHere_141 : decode cX12_pieceHere 141 = .ok (.iadd, 1) := by decide +kernel
theorem dX12_pieceHere_142 : decode cX12_pieceHere 142 = .ok (.iastore, 1) := by decide +kernel
theorem dX12_pieceHere_143 : decode cX12_pieceHere 143 = .ok (.return_, 1) := by decide +kernel
theorem dX12_pieces_0 : decode cX12_pieces 0 = .ok (.aload_n 0, 1) := by decide +kernel
theorem dX12_pieces_1 : decode cX12_pieces 1 = .ok (.getfield 9, 3) := by decide +kernel
theorem dX12_pieces_4 : decode cX12_pieces 4 = .ok (.iconst 4, 1) := by decide +kernel
theorem dX12_pieces_5 : decode cX12_pieces 5 = .ok (.iaload, 1) := by decide +kernel
theorem dX12_pieces_6 : decode cX12_pieces 6 = .ok (.iconst (-1), 1) := by decide +kernel
theorem dX12_pieces_7 : decode cX12_pieces 7 = .ok (.if_icmp .ne 7, 3) := by decide +kernel
theorem dX12_pieces_10 : decode cX12_pieces 10 = .ok (.iconst 0, 1) := by decide +kernel
theorem dX12_pieces_11 : decode cX12_pieces 11 = .ok (.goto 18, 3) := by decide +kernel
theorem dX12_pieces_14 : decode cX12_pieces 14 = .ok (.aload_n 0, 1) := by decide +kernel
theorem dX12_pieces_15 : decode cX12_pieces 15 = .ok (.getfield 9, 3) := by decide +kernel
theorem dX12_pieces_18 : decode cX12_pieces 18 = .ok (.sipush 218, 3) := by decide +kernel
theorem dX12_pieces_21 : decode cX12_pieces 21 = .ok (.aload_n 0, 1) := by decide +kernel
theorem dX12_pieces_22 : decode cX12_pieces 22 = .ok (.getfield 9, 3) := by decide +kernel
theorem dX12_pieces_25 : decode cX12_pieces 25 = .ok (.iconst 4, 1) := by decide +kernel
theorem dX12_pieces_26 : decode cX12_pieces 26 = .ok (.iaload, 1) := by decide +kernel
theorem dX12_pieces_27 : decode cX12_pieces 27 = .ok (.iadd, 1) := by decide +kernel
theorem dX12_pieces_28 : decode cX12_pieces 28 = .ok (.iaload, 1) := by decide +kernel
theorem dX12_pieces_29 : decode cX12_pieces 29 = .ok (.ireturn, 1) := by decide +kernel
theorem dX12_plainGoes_0 : decode cX12_plainGoes 0 = .ok (.aload_n 0, 1) := by decide +kernel
theorem dX12_plainGoes_1 : decode cX12_plainGoes 1 = .ok (.iconst 1, 1) := by decide +kernel
theorem dX12_plainGoes_2 : decode cX12_plainGoes 2 = .ok (.invokevirtual 247, 3) := by decide +kernel
theorem dX12_plainGoes_5 : decode cX12_plainGoes 5 = .ok (.iload_n 1, 1) := by decide +kernel
theorem dX12_plainGoes_6 : decode cX12_plainGoes 6 = .ok (.aload_n 0, 1) := by decide +kernel
theorem dX12_plainGoes_7 : decode cX12_plainGoes 7 = .ok (.getfield 250, 3) := by decide +kernel
theorem dX12_plainGoes_10 : decode cX12_plainGoes 10 = .ok (.iadd, 1) := by decide +kernel
theorem dX12_plainGoes_11 : decode cX12_plainGoes 11 = .ok (.ireturn, 1) := by decide +kernel
theorem dX12_plainRests_0 : decode cX12_plainRests 0 = .ok (.aload_n 0, 1) := by decide +kernel
theorem dX12_plainRests_1 : decode cX12_plainRests 1 = .ok (.iconst 3, 1) := by decide +kernel
theorem dX12_plainRests_2 : decode cX12_plainRests 2 = .ok (.invokevirtual 247, 3) := by decide +kernel
theorem dX12_plainRests_5 : decode cX12_plainRests 5 = .ok (.aload_n 0, 1) := by decide +kernel
theorem dX12_plainRests_6 : decode cX12_plainRests 6 = .ok (.iload_n 1, 1) := by decide +kernel
theorem dX12_plainRests_7 : decode cX12_plainRests 7 = .ok (.invokevirtual 278, 3) := by decide +kernel
theorem dX12_plainRests_10 : decode cX12_plainRests 10 = .ok (.iconst 2, 1) := by decide +kernel
theorem dX12_plainRests_11 : decode cX12_plainRests 11 = .ok (.imul, 1) := by decide +kernel
theorem dX12_plainRests_12 : decode cX12_plainRests 12 = .ok (.ireturn, 1) := by decide +kernel
theorem dX12_plainSpends_0 : decode cX12_plainSpends 0 = .ok (.aload_n 0, 1) := by decide +kernel
theorem dX12_plainSpends_1 : decode cX12_plainSpends 1 = .ok (.iconst 2, 1) := by decide +kernel
theorem dX12_plainSpends_2 : decode cX12_plainSpends 2 = .ok (.invokevirtual 247, 3) := by decide +kernel
theorem dX12_plainSpends_5 : decode cX12_plainSpends 5 = .ok (.aload_n 0, 1) := by decide +kernel
theorem dX12_plainSpends_6 : decode cX12_plainSpends 6 = .ok (.iload_n 1, 1) := by decide +kernel
theorem dX12_plainSpends_7 : decode cX12_plainSpends 7 = .ok (.invokevirtual 266, 3) := by decide +kernel
theorem dX12_plainSpends_10 : decode cX12_plainSpends 10 = .ok (.aload_n 0, 1) := by decide +kernel
theorem dX12_plainSpends_11 : decode cX12_plainSpends 11 = .ok (.getfield 269, 3) := by decide +kernel
theorem dX12_plainSpends_14 : decode cX12_plainSpends 14 = .ok (.isub, 1) := by decide +kernel
theorem dX12_plainSpends_15 : decode cX12_plainSpends 15 = .ok (.ireturn, 1) := by decide +kernel
theorem dX12_price_0 : decode cX12_price 0 = .ok (.aload_n 0, 1) := by decide +kernel
theorem dX12_price_1 : decode cX12_price 1 = .ok (.iload_n 1, 1) := by decide +kernel
theorem dX12_price_2 : decode cX12_price 2 = .ok (.invokevirtual 151, 3) := by decide +kernel
theorem dX12_price_5 : decode cX12_price 5 = .ok (.ifCond .ne 5, 3) := by decide +kernel
theorem dX12_price_8 : decode cX12_price 8 = .ok (.iconst (-1), 1) := by decide +kernel
theorem dX12_price_9 : decode cX12_price 9 = .ok (.ireturn, 1) := by decide +kernel
theorem dX12_price_10 : decode cX12_price 10 = .ok (.iload_n 2, 1) := by decide +kernel
theorem dX12_price_11 : decode cX12_price 11 = .ok (.iconst 1, 1) := by decide +kernel
theorem dX12_price_12 : decode cX12_price 12 = .ok (.if_icmp .lt 11, 3) := by decide +kernel
theorem dX12_price_15 : decode cX12_price 15 = .ok (.aload_n 0, 1) := by decide +kernel
theorem dX12_price_16 : decode cX12_price 16 = .ok (.iload_n 2, 1) := by decide +kernel
theorem dX12_price_17 : decode cX12_price 17 = .ok (.invokevirtual 176, 3) := by decide +kernel
theorem dX12_price_20 : decode cX12_price 20 = .ok (.ifCond .ne 6, 3) := by decide +kernel
theorem dX12_price_23 : decode cX12_price 23 = .ok (.bipush (-2), 2) := by decide +kernel
theorem dX12_price_25 : decode cX12_price 25 = .ok (.ireturn, 1) := by decide +kernel
theorem dX12_price_26 : decode cX12_price 26 = .ok (.aload_n 0, 1) := by decide +kernel
theorem dX12_price_27 : decode cX12_price 27 = .ok (.sipush 1023, 3) := by decide +kernel
theorem dX12_price_30 : decode cX12_price 30 = .ok (.invokevirtual 185, 3) := by decide +kernel
theorem dX12_price_33 : decode cX12_price 33 = .ok (.aload_n 0, 1) := by decide +kernel
theorem dX12_price_34 : decode cX12_price 34 = .ok (.getfield 25, 3) := by decide +kernel
theorem dX12_price_37 : decode cX12_price 37 = .ok (.bipush 61, 2) := by decide +kernel
theorem dX12_price_39 : decode cX12_price 39 = .ok (.iload_n 1, 1) := by decide +kernel
theorem dX12_price_40 : decode cX12_price 40 = .ok (.imul, 1) := by decide +kernel
theorem dX12_price_41 : decode cX12_price 41 = .ok (.iload_n 2, 1) := by decide +kernel
theorem dX12_price_42 : decode cX12_price 42 = .ok (.iadd, 1) := by decide +kernel
theorem dX12_price_43 : decode cX12_price 43 = .ok (.iconst 1, 1) := by decide +kernel
theorem dX12_price_44 : decode cX12_price 44 = .ok (.isub, 1) := by decide +kernel
theorem dX12_price_45 : decode cX12_price 45 = .ok (.iaload, 1) := by decide +kernel
theorem dX12_price_46 : decode cX12_price 46 = .ok (.aload_n 0, 1) := by decide +kernel
theorem dX12_price_47 : decode cX12_price 47 = .ok (.getfield 25, 3) := by decide +kernel
theorem dX12_price_50 : decode cX12_price 50 = .ok (.bipush 61, 2) := by decide +kernel
theorem dX12_price_52 : decode cX12_price 52 = .ok (.iload_n 1, 1) := by decide +kernel
theorem dX12_price_53 : decode cX12_price 53 = .ok (.imul, 1) := by decide +kernel
theorem dX12_price_54 : decode cX12_price 54 = .ok (.iload_n 2, 1) := by decide +kernel
theorem dX12_price_55 : decode cX12_price 55 = .ok (.iadd, 1) := by decide +kernel
theorem dX12_price_56 : decode cX12_price 56 = .ok (.iaload, 1) := by decide +kernel
theorem dX12_price_57 : decode cX12_price 57 = .ok (.isub, 1) := by decide +kernel
theorem dX12_price_58 : decode cX12_price 58 = .ok (.ireturn, 1) := by decide +kernel
theorem dX12_restsActs_0 : decode cX12_restsActs 0 = .ok (.aload_n 0, 1) := by decide +kernel
theorem dX12_restsActs_1 : decode cX12_restsActs 1 = .ok (.getfield 256, 3) := by decide +kernel
theorem dX12_restsActs_4 : decode cX12_restsActs 4 = .ok (.bipush 6, 2) := by decide +kernel
theorem dX12_restsActs_6 : decode cX12_restsActs 6 = .ok (.if_icmp .ne 18, 3) := by decide +kernel
theorem dX12_restsActs_9 : decode cX12_restsActs 9 = .ok (.aload_n 0, 1) := by decide +kernel
theorem dX12_restsActs_10 : decode cX12_restsActs 10 = .ok (.bipush 31, 2) := by decide +kernel
theorem dX12_restsActs_12 : decode cX12_restsActs 12 = .ok (.invokevirtual 247, 3) := by decide +kernel
theorem dX12_restsActs_15 : decode cX12_restsActs 15 = .ok (.aload_n 0, 1) := by decide +kernel
theorem dX12_restsActs_16 : decode cX12_restsActs 16 = .ok (.iload_n 1, 1) := by decide +kernel
theorem dX12_restsActs_17 : decode cX12_restsActs 17 = .ok (.invokevirtual 281, 3) := by decide +kernel
theorem dX12_restsActs_20 : decode cX12_restsActs 20 = .ok (.bipush 7, 2) := by decide +kernel
theorem dX12_restsActs_22 : decode cX12_restsActs 22 = .ok (.ixor, 1) := by decide +kernel
theorem dX12_restsActs_23 : decode cX12_restsActs 23 = .ok (.ireturn, 1) := by decide +kernel
theorem dX12_restsActs_24 : decode cX12_restsActs 24 = .ok (.aload_n 0, 1) := by decide +kernel
theorem dX12_restsActs_25 : decode cX12_restsActs 25 = .ok (.getfield 256, 3) := by decide +kernel
theorem dX12_restsActs_28 : decode cX12_restsActs 28 = .ok (.iconst 3, 1) := by decide +kernel
theorem dX12_restsActs_29 : decode cX12_restsActs 29 = .ok (.if_icmp .ne 25, 3) := by decide +kernel
theorem dX12_restsActs_32 : decode cX12_restsActs 32 = .ok (.aload_n 0, 1) := by decide +kernel
theorem dX12_restsActs_33 : decode cX12_restsActs 33 = .ok (.bipush 41, 2) := by decide +kernel
theorem dX12_restsActs_35 : decode cX12_restsActs 35 = .ok (.invokevirtual 247, 3) := by decide +kernel
theorem dX12_restsActs_38 : decode cX12_restsActs 38 = .ok (.aload_n 0, 1) := by decide +kernel
theorem dX12_restsActs_39 : decode cX12_restsActs 39 = .ok (.iload_n 1, 1) := by decide +kernel
theorem dX12_restsActs_40 : decode cX12_restsActs 40 = .ok (.iconst 1, 1) := by decide +kernel
theorem dX12_restsActs_41 : decode cX12_restsActs 41 = .ok (.isub, 1) := by decide +kernel
theorem dX12_restsActs_42 : decode cX12_restsActs 42 = .ok (.invokevirtual 281, 3) := by decide +kernel
theorem dX12_restsActs_45 : decode cX12_restsActs 45 = .ok (.istore_n 2, 1) := by decide +kernel
theorem dX12_restsActs_46 : decode cX12_restsActs 46 = .ok (.iload_n 2, 1) := by decide +kernel
theorem dX12_restsActs_47 : decode cX12_restsActs 47 = .ok (.aload_n 0, 1) := by decide +kernel
theorem dX12_restsActs_48 : decode cX12_restsActs 48 = .ok (.iconst 2, 1) := by decide +kernel
theorem dX12_restsActs_49 : decode cX12_restsActs 49 = .ok (.invokevirtual 266, 3) := by decide +kernel
theorem dX12_restsActs_52 : decode cX12_restsActs 52 = .ok (.iadd, 1) := by decide +kernel
theorem dX12_restsActs_53 : decode cX12_restsActs 53 = .ok (.ireturn, 1) := by decide +kernel
theorem dX12_restsActs_54 : decode cX12_restsActs 54 = .ok (.aload_n 0, 1) := by decide +kernel
theorem dX12_restsActs_55 : decode cX12_restsActs 55 = .ok (.iload_n 1, 1) := by decide +kernel
theorem dX12_restsActs_56 : decode cX12_restsActs 56 = .ok (.invokevirtual 281, 3) := by decide +kernel
theorem dX12_restsActs_59 : decode cX12_restsActs 59 = .ok (.ireturn, 1) := by decide +kernel
theorem dX12_ride_0 : decode cX12_ride 0 = .ok (.aload_n 0, 1) := by decide +kernel
theorem dX12_ride_1 : decode cX12_ride 1 = .ok (.iload_n 1, 1) := by decide +kernel
theorem dX12_ride_2 : decode cX12_ride 2 = .ok (.invokevirtual 188, 3) := by decide +kernel
theorem dX12_ride_5 : decode cX12_ride 5 = .ok (.ifCond .eq 29, 3) := by decide +kernel
theorem dX12_ride_8 : decode cX12_ride 8 = .ok (.iload_n 2, 1) := by decide +kernel
theorem dX12_ride_9 : decode cX12_ride 9 = .ok (.iconst 0, 1) := by decide +kernel
theorem dX12_ride_10 : decode cX12_ride 10 = .ok (.iconst 1, 1) := by decide +kernel
theorem dX12_ride_11 : decode cX12_ride 11 = .ok (.invokestatic 44, 3) := by decide +kernel
theorem dX12_ride_14 : decode cX12_ride 14 = .ok (.ifCond .ne 22, 3) := by decide +kernel
theorem dX12_ride_17 : decode cX12_ride 17 = .ok (.iload_n 2, 1) := by decide +kernel
theorem dX12_ride_18 : decode cX12_ride 18 = .ok (.bipush 10, 2) := by decide +kernel
theorem dX12_ride_20 : decode cX12_ride 20 = .ok (.if_icmp .lt 14, 3) := by decide +kernel
theorem dX12_ride_23 : decode cX12_ride 23 = .ok (.aload_n 0, 1) := by decide +kernel
theorem dX12_ride_24 : decode cX12_ride 24 = .ok (.iload_n 2, 1) := by decide +kernel
theorem dX12_ride_25 : decode cX12_ride 25 = .ok (.bipush 10, 2) := by decide +kernel
theorem dX12_ride_27 : decode cX12_ride 27 = .ok (.isub, 1) := by decide +kernel
theorem dX12_ride_28 : decode cX12_ride 28 = .ok (.invokevirtual 151, 3) := by decide +kernel
theorem dX12_ride_31 : decode cX12_ride 31 = .ok (.ifCond .ne 5, 3) := by decide +kernel
theorem dX12_ride_34 : decode cX12_ride 34 = .ok (.iconst (-1), 1) := by decide +kernel
theorem dX12_ride_35 : decode cX12_ride 35 = .ok (.ireturn, 1) := by decide +kernel
theorem dX12_ride_36 : decode cX12_ride 36 = .ok (.aload_n 0, 1) := by decide +kernel
theorem dX12_ride_37 : decode cX12_ride 37 = .ok (.invokevirtual 48, 3) := by decide +kernel
theorem dX12_ride_40 : decode cX12_ride 40 = .ok (.ifCond .ne 6, 3) := by decide +kernel
theorem dX12_ride_43 : decode cX12_ride 43 = .ok (.bipush (-3), 2) := by decide +kernel
theorem dX12_ride_45 : decode cX12_ride 45 = .ok (.ireturn, 1) := by decide +kernel
theorem dX12_ride_46 : decode cX12_ride 46 = .ok (.aload_n 0, 1) := by decide +kernel
theorem dX12_ride_47 : decode cX12_ride 47 = .ok (.sipush 1023, 3) := by decide +kernel
theorem dX12_ride_50 : decode cX12_ride 50 = .ok (.invokevirtual 185, 3) := by decide +kernel
theorem dX12_ride_53 : decode cX12_ride 53 = .ok (.aload_n 0, 1) := by decide +kernel
theorem dX12_ride_54 : decode cX12_ride 54 = .ok (.iload_n 1, 1) := by decide +kernel
theorem dX12_ride_55 : decode cX12_ride 55 = .ok (.aload_n 0, 1) := by decide +kernel
theorem dX12_ride_56 : decode cX12_ride 56 = .ok (.invokevirtual 56, 3) := by decide +kernel
theorem dX12_ride_59 : decode cX12_ride 59 = .ok (.iconst 0, 1) := by decide +kernel
theorem dX12_ride_60 : decode cX12_ride 60 = .ok (.iconst 0, 1) := by decide +kernel
theorem dX12_ride_61 : decode cX12_ride 61 = .ok (.invokevirtual 207, 3) := by decide +kernel
theorem dX12_ride_64 : decode cX12_ride 64 = .ok (.istore_n 3, 1) := by decide +kernel
theorem dX12_ride_65 : decode cX12_ride 65 = .ok (.iload_n 2, 1) := by decide +kernel
theorem dX12_ride_66 : decode cX12_ride 66 = .ok (.ifCond .ne 7, 3) := by decide +kernel
theorem dX12_ride_69 : decode cX12_ride 69 = .ok (.iload_n 3, 1) := by decide +kernel
theorem dX12_ride_70 : decode cX12_ride 70 = .ok (.goto 24, 3) := by decide +kernel
theorem dX12_ride_73 : decode cX12_ride 73 = .ok (.iload_n 2, 1) := by decide +kernel
theorem dX12_ride_74 : decode cX12_ride 74 = .ok (.iconst 1, 1) := by decide +kernel
theorem dX12_ride_75 : decode cX12_ride 75 = .ok (.if_icmp .ne 10, 3) := by decide +kernel
theorem dX12_ride_78 : decode cX12_ride 78 = .ok (.aload_n 0, 1) := by decide +kernel
theorem dX12_ride_79 : decode cX12_ride 79 = .ok (.getfield 204, 3) := by decide +kernel
theorem dX12_ride_82 : decode cX12_ride 82 = .ok (.goto 12, 3) := by decide +kernel
theorem dX12_ride_85 : decode cX12_ride 85 = .ok (.aload_n 0, 1) := by decide +kernel
theorem dX12_ride_86 : decode cX12_ride 86 = .ok (.getfield 34, 3) := by decide +kernel
theorem dX12_ride_89 : decode cX12_ride 89 = .ok (.iload_n 2, 1) := by decide +kernel
theorem dX12_ride_90 : decode cX12_ride 90 = .ok (.bipush 10, 2) := by decide +kernel
theorem dX12_ride_92 : decode cX12_ride 92 = .ok (.isub, 1) := by decide +kernel
theorem dX12_ride_93 : decode cX12_ride 93 = .ok (.iaload, 1) := by decide +kernel
theorem dX12_ride_94 : decode cX12_ride 94 = .ok (.ireturn, 1) := by decide +kernel
theorem dX12_rideOf_0 : decode cX12_rideOf 0 = .ok (.iload_n 2, 1) := by decide +kernel
theorem dX12_rideOf_1 : decode cX12_rideOf 1 = .ok (.istore 5, 2) := by decide +kernel
theorem dX12_rideOf_3 : decode cX12_rideOf 3 = .ok (.iconst 0, 1) := by decide +kernel
theorem dX12_rideOf_4 : decode cX12_rideOf 4 = .ok (.istore 6, 2) := by decide +kernel
theorem dX12_rideOf_6 : decode cX12_rideOf 6 = .ok (.iconst 0, 1) := by decide +kernel
theorem dX12_rideOf_7 : decode cX12_rideOf 7 = .ok (.istore 7, 2) := by decide +kernel
theorem dX12_rideOf_9 : decode cX12_rideOf 9 = .ok (.iload 7, 2) := by decide +kernel
theorem dX12_rideOf_11 : decode cX12_rideOf 11 = .ok (.aload_n 0, 1) := by decide +kernel
theorem dX12_rideOf_12 : decode cX12_rideOf 12 = .ok (.invokevirtual 48, 3) := by decide +kernel
theorem dX12_rideOf_15 : decode cX12_rideOf 15 = .ok (.if_icmp .ge 75, 3) := by decide +kernel
theorem dX12_rideOf_18 : decode cX12_rideOf 18 = .ok (.iload 7, 2) := by decide +kernel
theorem dX12_rideOf_20 : decode cX12_rideOf 20 = .ok (.iload_n 3, 1) := by decide +kernel
theorem dX12_rideOf_21 : decode cX12_rideOf 21 = .ok (.iload_n 3, 1) := by decide +kernel
theorem dX12_rideOf_22 : decode cX12_rideOf 22 = .ok (.iload 4, 2) := by decide +kernel
theorem dX12_rideOf_24 : decode cX12_rideOf 24 = .ok (.iadd, 1) := by decide +kernel
theorem dX12_rideOf_25 : decode cX12_rideOf 25 = .ok (.iconst 1, 1) := by decide +kernel
theorem dX12_rideOf_26 : decode cX12_rideOf 26 = .ok (.isub, 1) := by decide +kernel
theorem dX12_rideOf_27 : decode cX12_rideOf 27 = .ok (.invokestatic 44, 3) := by decide +kernel
theorem dX12_rideOf_30 : decode cX12_rideOf 30 = .ok (.istore 8, 2) := by decide +kernel
theorem dX12_rideOf_32 : decode cX12_rideOf 32 = .ok (.aload_n 0, 1) := by decide +kernel
theorem dX12_rideOf_33 : decode cX12_rideOf 33 = .ok (.iload_n 1, 1) := by decide +kernel
theorem dX12_rideOf_34 : decode cX12_rideOf 34 = .ok (.iload 7, 2) := by decide +kernel
theorem dX12_rideOf_36 : decode cX12_rideOf 36 = .ok (.iload 5, 2) := by decide +kernel
theorem dX12_rideOf_38 : decode cX12_rideOf 38 = .ok (.invokevirtual 197, 3) := by decide +kernel
theorem dX12_rideOf_41 : decode cX12_rideOf 41 = .ok (.istore 9, 2) := by decide +kernel
theorem dX12_rideOf_43 : decode cX12_rideOf 43 = .ok (.iload 6, 2) := by decide +kernel
theorem dX12_rideOf_45 : decode cX12_rideOf 45 = .ok (.aload_n 0, 1) := by decide +kernel
theorem dX12_rideOf_46 : decode cX12_rideOf 46 = .ok (.iload 7, 2) := by decide +kernel
theorem dX12_rideOf_48 : decode cX12_rideOf 48 = .ok (.iload 9, 2) := by decide +kernel
theorem dX12_rideOf_50 : decode cX12_rideOf 50 = .ok (.iload 5, 2) := by decide +kernel
theorem dX12_rideOf_52 : decode cX12_rideOf 52 = .ok (.invokevirtual 179, 3) := by decide +kernel
theorem dX12_rideOf_55 : decode cX12_rideOf 55 = .ok (.iadd, 1) := by decide +kernel
theorem dX12_rideOf_56 : decode cX12_rideOf 56 = .ok (.istore 6, 2) := by decide +kernel
theorem dX12_rideOf_58 : decode cX12_rideOf 58 = .ok (.aload_n 0, 1) := by decide +kernel
theorem dX12_rideOf_59 : decode cX12_rideOf 59 = .ok (.iload 7, 2) := by decide +kernel
theorem dX12_rideOf_61 : decode cX12_rideOf 61 = .ok (.iload 9, 2) := by decide +kernel
theorem dX12_rideOf_63 : decode cX12_rideOf 63 = .ok (.iload 8, 2) := by decide +kernel
theorem dX12_rideOf_65 : decode cX12_rideOf 65 = .ok (.invokestatic 200, 3) := by decide +kernel
theorem dX12_rideOf_68 : decode cX12_rideOf 68 = .ok (.iload 5, 2) := by decide +kernel
theorem dX12_rideOf_70 : decode cX12_rideOf 70 = .ok (.invokevirtual 182, 3) := by decide +kernel
theorem dX12_rideOf_73 : decode cX12_rideOf 73 = .ok (.istore 5, 2) := by decide +kernel
theorem dX12_rideOf_75 : decode cX12_rideOf 75 = .ok (.aload_n 0, 1) := by decide +kernel
theorem dX12_rideOf_76 : decode cX12_rideOf 76 = .ok (.getfield 34, 3) := by decide +kernel
theorem dX12_rideOf_79 : decode cX12_rideOf 79 = .ok (.iload 7, 2) := by decide +kernel
theorem dX12_rideOf_81 : decode cX12_rideOf 81 = .ok (.iload 9, 2) := by decide +kernel
theorem dX12_rideOf_83 : decode cX12_rideOf 83 = .ok (.iastore, 1) := by decide +kernel
theorem dX12_rideOf_84 : decode cX12_rideOf 84 = .ok (.iinc 7 1, 3) := by decide +kernel
theorem dX12_rideOf_87 : decode cX12_rideOf 87 = .ok (.goto (-78), 3) := by decide +kernel
theorem dX12_rideOf_90 : decode cX12_rideOf 90 = .ok (.aload_n 0, 1) := by decide +kernel
theorem dX12_rideOf_91 : decode cX12_rideOf 91 = .ok (.iload 5, 2) := by decide +kernel
theorem dX12_rideOf_93 : decode cX12_rideOf 93 = .ok (.putfield 204, 3) := by decide +kernel
theorem dX12_rideOf_96 : decode cX12_rideOf 96 = .ok (.iload 6, 2) := by decide +kernel
theorem dX12_rideOf_98 : decode cX12_rideOf 98 = .ok (.ireturn, 1) := by decide +kernel
theorem dX12_rides_0 : decode cX12_rides 0 = .ok (.aload_n 0, 1) := by decide +kernel
theorem dX12_rides_1 : decode cX12_rides 1 = .ok (.iload_n 1, 1) := by decide +kernel
theorem dX12_rides_2 : decode cX12_rides 2 = .ok (.invokevirtual 151, 3) := by decide +kernel
theorem dX12_rides_5 : decode cX12_rides 5 = .ok (.ifCond .eq 13, 3) := by decide +kernel
theorem dX12_rides_8 : decode cX12_rides 8 = .ok (.iload 4, 2) := by decide +kernel
theorem dX12_rides_10 : decode cX12_rides 10 = .ok (.iconst 0, 1) := by decide +kernel
theorem dX12_rides_11 : decode cX12_rides 11 = .ok (.iconst 2, 1) := by decide +kernel
theorem dX12_rides_12 : decode cX12_rides 12 = .ok (.invokestatic 44, 3) := by decide +kernel
theorem dX12_rides_15 : decode cX12_rides 15 = .ok (.ifCond .ne 5, 3) := by decide +kernel
theorem dX12_rides_18 : decode cX12_rides 18 = .ok (.iconst (-1), 1) := by decide +kernel
theorem dX12_rides_19 : decode cX12_rides 19 = .ok (.ireturn, 1) := by decide +kernel
theorem dX12_rides_20 : decode cX12_rides 20 = .ok (.iload_n 2, 1) := by decide +kernel
theorem dX12_rides_21 : decode cX12_rides 21 = .ok (.iconst 0, 1) := by decide +kernel
theorem dX12_rides_22 : decode cX12_rides 22 = .ok (.bipush 9, 2) := by decide +kernel
theorem dX12_rides_24 : decode cX12_rides 24 = .ok (.invokestatic 44, 3) := by decide +kernel
theorem dX12_rides_27 : decode cX12_rides 27 = .ok (.ifCond .eq 11, 3) := by decide +kernel
theorem dX12_rides_30 : decode cX12_rides 30 = .ok (.aload_n 0, 1) := by decide +kernel
theorem dX12_rides_31 : decode cX12_rides 31 = .ok (.iload_n 3, 1) := by decide +kernel
theorem dX12_rides_32 : decode cX12_rides 32 = .ok (.invokevirtual 176, 3) := by decide +kernel
theorem dX12_rides_35 : decode cX12_rides 35 = .ok (.ifCond .ne 6, 3) := by decide +kernel
theorem dX12_rides_38 : decode cX12_rides 38 = .ok (.bipush (-2), 2) := by decide +kernel
theorem dX12_rides_40 : decode cX12_rides 40 = .ok (.ireturn, 1) := by decide +kernel
theorem dX12_rides_41 : decode cX12_rides 41 = .ok (.iload 4, 2) := by decide +kernel
theorem dX12_rides_43 : decode cX12_rides 43 = .ok (.iconst 2, 1) := by decide +kernel
theorem dX12_rides_44 : decode cX12_rides 44 = .ok (.if_icmp .ge 26, 3) := by decide +kernel
theorem dX12_rides_47 : decode cX12_rides 47 = .ok (.iload 4, 2) := by decide +kernel
theorem dX12_rides_49 : decode cX12_rides 49 = .ok (.ifCond .ne 13, 3) := by decide +kernel
theorem dX12_rides_52 : decode cX12_rides 52 = .ok (.aload_n 0, 1) := by decide +kernel
theorem dX12_rides_53 : decode cX12_rides 53 = .ok (.iload_n 1, 1) := by decide +kernel
theorem dX12_rides_54 : decode cX12_rides 54 = .ok (.iload_n 2, 1) := by decide +kernel
theorem dX12_rides_55 : decode cX12_rides 55 = .ok (.iload_n 3, 1) := by decide +kernel
theorem dX12_rides_56 : decode cX12_rides 56 = .ok (.invokevirtual 172, 3) := by decide +kernel
theorem dX12_rides_59 : decode cX12_rides 59 = .ok (.goto 10, 3) := by decide +kernel
theorem dX12_rides_62 : decode cX12_rides 62 = .ok (.aload_n 0, 1) := by decide +kernel
theorem dX12_rides_63 : decode cX12_rides 63 = .ok (.iload_n 1, 1) := by decide +kernel
theorem dX12_rides_64 : decode cX12_rides 64 = .ok (.iload_n 2, 1) := by decide +kernel
theorem dX12_rides_65 : decode cX12_rides 65 = .ok (.iload_n 3, 1) := by decide +kernel
theorem dX12_rides_66 : decode cX12_rides 66 = .ok (.invokevirtual 179, 3) := by decide +kernel
theorem dX12_rides_69 : decode cX12_rides 69 = .ok (.ireturn, 1) := by decide +kernel
theorem dX12_rides_70 : decode cX12_rides 70 = .ok (.aload_n 0, 1) := by decide +kernel
theorem dX12_rides_71 : decode cX12_rides 71 = .ok (.iload_n 1, 1) := by decide +kernel
theorem dX12_rides_72 : decode cX12_rides 72 = .ok (.iload_n 2, 1) := by decide +kernel
theorem dX12_rides_73 : decode cX12_rides 73 = .ok (.iload_n 3, 1) := by decide +kernel
theorem dX12_rides_74 : decode cX12_rides 74 = .ok (.invokevirtual 182, 3) := by decide +kernel
theorem dX12_rides_77 : decode cX12_rides 77 = .ok (.istore 5, 2) := by decide +kernel
theorem dX12_rides_79 : decode cX12_rides 79 = .ok (.iload 5, 2) := by decide +kernel
theorem dX12_rides_81 : decode cX12_rides 81 = .ok (.ifCond .ge 8, 3) := by decide +kernel
theorem dX12_rides_84 : decode cX12_rides 84 = .ok (.bipush (-5), 2) := by decide +kernel
theorem dX12_rides_86 : decode cX12_rides 86 = .ok (.goto 5, 3) := by decide +kernel
theorem dX12_rides_89 : decode cX12_rides 89 = .ok (.iload 5, 2) := by decide +kernel
theorem dX12_rides_91 : decode cX12_rides 91 = .ok (.ireturn, 1) := by decide +kernel
theorem dX12_road_0 : decode cX12_road 0 = .ok (.aload_n 0, 1) := by decide +kernel
theorem dX12_road_1 : decode cX12_road 1 = .ok (.getfield 9, 3) := by decide +kernel
theorem dX12_road_4 : decode cX12_road 4 = .ok (.iconst 1, 1) := by decide +kernel
theorem dX12_road_5 : decode cX12_road 5 = .ok (.iaload, 1) := by decide +kernel
theorem dX12_road_6 : decode cX12_road 6 = .ok (.iconst 5, 1) := by decide +kernel
theorem dX12_road_7 : decode cX12_road 7 = .ok (.if_icmp .ne 6, 3) := by decide +kernel
theorem dX12_road_10 : decode cX12_road 10 = .ok (.bipush (-4), 2) := by decide +kernel
theorem dX12_road_12 : decode cX12_road 12 = .ok (.ireturn, 1) := by decide +kernel
theorem dX12_road_13 : decode cX12_road 13 = .ok (.aload_n 0, 1) := by decide +kernel
theorem dX12_road_14 : decode cX12_road 14 = .ok (.aload_n 0, 1) := by decide +kernel
theorem dX12_road_15 : decode cX12_road 15 = .ok (.getfield 9, 3) := by decide +kernel
theorem dX12_road_18 : decode cX12_road 18 = .ok (.iconst 1, 1) := by decide +kernel
theorem dX12_road_19 : decode cX12_road 19 = .ok (.iaload, 1) := by decide +kernel
theorem dX12_road_20 : decode cX12_road 20 = .ok (.putfield 87, 3) := by decide +kernel
theorem dX12_road_23 : decode cX12_road 23 = .ok (.aload_n 0, 1) := by decide +kernel
theorem dX12_road_24 : decode cX12_road 24 = .ok (.aload_n 0, 1) := by decide +kernel
theorem dX12_road_25 : decode cX12_road 25 = .ok (.getfield 9, 3) := by decide +kernel
theorem dX12_road_28 : decode cX12_road 28 = .ok (.iconst 3, 1) := by decide +kernel
theorem dX12_road_29 : decode cX12_road 29 = .ok (.iaload, 1) := by decide +kernel
theorem dX12_road_30 : decode cX12_road 30 = .ok (.putfield 64, 3) := by decide +kernel
theorem dX12_road_33 : decode cX12_road 33 = .ok (.aload_n 0, 1) := by decide +kernel
theorem dX12_road_34 : decode cX12_road 34 = .ok (.getfield 9, 3) := by decide +kernel
theorem dX12_road_37 : decode cX12_road 37 = .ok (.iconst 3, 1) := by decide +kernel
theorem dX12_road_38 : decode cX12_road 38 = .ok (.iconst 0, 1) := by decide +kernel
theorem dX12_road_39 : decode cX12_road 39 = .ok (.iastore, 1) := by decide +kernel
theorem dX12_road_40 : decode cX12_road 40 = .ok (.aload_n 0, 1) := by decide +kernel
theorem dX12_road_41 : decode cX12_road 41 = .ok (.getfield 9, 3) := by decide +kernel
theorem dX12_road_44 : decode cX12_road 44 = .ok (.sipush 218, 3) := by decide +kernel
theorem dX12_road_47 : decode cX12_road 47 = .ok (.aload_n 0, 1) := by decide +kernel
theorem dX12_road_48 : decode cX12_road 48 = .ok (.getfield 87, 3) := by decide +kernel
theorem dX12_road_51 : decode cX12_road 51 = .ok (.iadd, 1) := by decide +kernel
theorem dX12_road_52 : decode cX12_road 52 = .ok (.iconst 0, 1) := by decide +kernel
theorem dX12_road_53 : decode cX12_road 53 = .ok (.iastore, 1) := by decide +kernel
theorem dX12_road_54 : decode cX12_road 54 = .ok (.aload_n 0, 1) := by decide +kernel
theorem dX12_road_55 : decode cX12_road 55 = .ok (.getfield 9, 3) := by decide +kernel
theorem dX12_road_58 : decode cX12_road 58 = .ok (.sipush 223, 3) := by decide +kernel
theorem dX12_road_61 : decode cX12_road 61 = .ok (.aload_n 0, 1) := by decide +kernel
theorem dX12_road_62 : decode cX12_road 62 = .ok (.getfield 87, 3) := by decide +kernel
theorem dX12_road_65 : decode cX12_road 65 = .ok (.iadd, 1) := by decide +kernel
theorem dX12_road_66 : decode cX12_road 66 = .ok (.iconst 4, 1) := by decide +kernel
theorem dX12_road_67 : decode cX12_road 67 = .ok (.iastore, 1) := by decide +kernel
theorem dX12_road_68 : decode cX12_road 68 = .ok (.aload_n 0, 1) := by decide +kernel
theorem dX12_road_69 : decode cX12_road 69 = .ok (.getfield 9, 3) := by decide +kernel
theorem dX12_road_72 : decode cX12_road 72 = .ok (.sipush 228, 3) := by decide +kernel
theorem dX12_road_75 : decode cX12_road 75 = .ok (.aload_n 0, 1) := by decide +kernel
theorem dX12_road_76 : decode cX12_road 76 = .ok (.getfield 87, 3) := by decide +kernel
theorem dX12_road_79 : decode cX12_road 79 = .ok (.iadd, 1) := by decide +kernel
theorem dX12_road_80 : decode cX12_road 80 = .ok (.bipush 20, 2) := by decide +kernel
theorem dX12_road_82 : decode cX12_road 82 = .ok (.iastore, 1) := by decide +kernel
theorem dX12_road_83 : decode cX12_road 83 = .ok (.aload_n 0, 1) := by decide +kernel
theorem dX12_road_84 : decode cX12_road 84 = .ok (.getfield 9, 3) := by decide +kernel
theorem dX12_road_87 : decode cX12_road 87 = .ok (.sipush 233, 3) := by decide +kernel
theorem dX12_road_90 : decode cX12_road 90 = .ok (.aload_n 0, 1) := by decide +kernel
theorem dX12_road_91 : decode cX12_road 91 = .ok (.getfield 87, 3) := by decide +kernel
theorem dX12_road_94 : decode cX12_road 94 = .ok (.iadd, 1) := by decide +kernel
theorem dX12_road_95 : decode cX12_road 95 = .ok (.iconst 5, 1) := by decide +kernel
theorem dX12_road_96 : decode cX12_road 96 = .ok (.iastore, 1) := by decide +kernel
theorem dX12_road_97 : decode cX12_road 97 = .ok (.aload_n 0, 1) := by decide +kernel
theorem dX12_road_98 : decode cX12_road 98 = .ok (.getfield 9, 3) := by decide +kernel
theorem dX12_road_101 : decode cX12_road 101 = .ok (.sipush 238, 3) := by decide +kernel
theorem dX12_road_104 : decode cX12_road 104 = .ok (.aload_n 0, 1) := by decide +kernel
theorem dX12_road_105 : decode cX12_road 105 = .ok (.getfield 87, 3) := by decide +kernel
theorem dX12_road_108 : decode cX12_road 108 = .ok (.iadd, 1) := by decide +kernel
theorem dX12_road_109 : decode cX12_road 109 = .ok (.iconst 0, 1) := by decide +kernel
theorem dX12_road_110 : decode cX12_road 110 = .ok (.iastore, 1) := by decide +kernel
theorem dX12_road_111 : decode cX12_road 111 = .ok (.aload_n 0, 1) := by decide +kernel
theorem dX12_road_112 : decode cX12_road 112 = .ok (.getfield 9, 3) := by decide +kernel
theorem dX12_road_115 : decode cX12_road 115 = .ok (.sipush 413, 3) := by decide +kernel
theorem dX12_road_118 : decode cX12_road 118 = .ok (.aload_n 0, 1) := by decide +kernel
theorem dX12_road_119 : decode cX12_road 119 = .ok (.getfield 87, 3) := by decide +kernel
theorem dX12_road_122 : decode cX12_road 122 = .ok (.iadd, 1) := by decide +kernel
theorem dX12_road_123 : decode cX12_road 123 = .ok (.iconst 0, 1) := by decide +kernel
theorem dX12_road_124 : decode cX12_road 124 = .ok (.iastore, 1) := by decide +kernel
theorem dX12_road_125 : decode cX12_road 125 = .ok (.iconst 0, 1) := by decide +kernel
theorem dX12_road_126 : decode cX12_road 126 = .ok (.istore_n 1, 1) := by decide +kernel
theorem dX12_road_127 : decode cX12_road 127 = .ok (.iload_n 1, 1) := by decide +kernel
theorem dX12_road_128 : decode cX12_road 128 = .ok (.bipush 10, 2) := by decide +kernel
theorem dX12_road_130 : decode cX12_road 130 = .ok (.if_icmp .ge 29, 3) := by decide +kernel
theorem dX12_road_133 : decode cX12_road 133 = .ok (.aload_n 0, 1) := by decide +kernel
theorem dX12_road_134 : decode cX12_road 134 = .ok (.getfield 9, 3) := by decide +kernel
theorem dX12_road_137 : decode cX12_road 137 = .ok (.sipush 363, 3) := by decide +kernel
theorem dX12_road_140 : decode cX12_road 140 = .ok (.bipush 10, 2) := by decide +kernel
theorem dX12_road_142 : decode cX12_road 142 = .ok (.aload_n 0, 1) := by decide +kernel
theorem dX12_road_143 : decode cX12_road 143 = .ok (.getfield 87, 3) := by decide +kernel
theorem dX12_road_146 : decode cX12_road 146 = .ok (.imul, 1) := by decide +kernel
theorem dX12_road_147 : decode cX12_road 147 = .ok (.iadd, 1) := by decide +kernel
theorem dX12_road_148 : decode cX12_road 148 = .ok (.iload_n 1, 1) := by decide +kernel
theorem dX12_road_149 : decode cX12_road 149 = .ok (.iadd, 1) := by decide +kernel
theorem dX12_road_150 : decode cX12_road 150 = .ok (.bipush 99, 2) := by decide +kernel
theorem dX12_road_152 : decode cX12_road 152 = .ok (.iastore, 1) := by decide +kernel
theorem dX12_road_153 : decode cX12_road 153 = .ok (.iinc 1 1, 3) := by decide +kernel
theorem dX12_road_156 : decode cX12_road 156 = .ok (.goto (-29), 3) := by decide +kernel
theorem dX12_road_159 : decode cX12_road 159 = .ok (.aload_n 0, 1) := by decide +kernel
theorem dX12_road_160 : decode cX12_road 160 = .ok (.iconst 0, 1) := by decide +kernel
theorem dX12_road_161 : decode cX12_road 161 = .ok (.putfield 61, 3) := by decide +kernel
theorem dX12_road_164 : decode cX12_road 164 = .ok (.aload_n 0, 1) := by decide +kernel
theorem dX12_road_165 : decode cX12_road 165 = .ok (.iconst 0, 1) := by decide +kernel
theorem dX12_road_166 : decode cX12_road 166 = .ok (.putfield 67, 3) := by decide +kernel
theorem dX12_road_169 : decode cX12_road 169 = .ok (.aload_n 0, 1) := by decide +kernel
theorem dX12_road_170 : decode cX12_road 170 = .ok (.iconst 0, 1) := by decide +kernel
theorem dX12_road_171 : decode cX12_road 171 = .ok (.putfield 90, 3) := by decide +kernel
theorem dX12_road_174 : decode cX12_road 174 = .ok (.iconst 1, 1) := by decide +kernel
theorem dX12_road_175 : decode cX12_road 175 = .ok (.istore_n 1, 1) := by decide +kernel
theorem dX12_road_176 : decode cX12_road 176 = .ok (.aload_n 0, 1) := by decide +kernel
theorem dX12_road_177 : decode cX12_road 177 = .ok (.invokevirtual 148, 3) := by decide +kernel
theorem dX12_road_180 : decode cX12_road 180 = .ok (.aload_n 0, 1) := by decide +kernel
theorem dX12_road_181 : decode cX12_road 181 = .ok (.getfield 67, 3) := by decide +kernel
theorem dX12_road_184 : decode cX12_road 184 = .ok (.ifCond .ne 38, 3) := by decide +kernel
theorem dX12_road_187 : decode cX12_road 187 = .ok (.iload_n 1, 1) := by decide +kernel
theorem dX12_road_188 : decode cX12_road 188 = .ok (.bipush 14, 2) := by decide +kernel
theorem dX12_road_190 : decode cX12_road 190 = .ok (.if_icmp .ge 32, 3) := by decide +kernel
theorem dX12_road_193 : decode cX12_road 193 = .ok (.aload_n 0, 1) := by decide +kernel
theorem dX12_road_194 : decode cX12_road 194 = .ok (.invokevirtual 71, 3) := by decide +kernel
theorem dX12_road_197 : decode cX12_road 197 = .ok (.bipush 59, 2) := by decide +kernel
theorem dX12_road_199 : decode cX12_road 199 = .ok (.if_icmp .ne 23, 3) := by decide +kernel
theorem dX12_road_202 : decode cX12_road 202 = .ok (.aload_n 0, 1) := by decide +kernel
theorem dX12_road_203 : decode cX12_road 203 = .ok (.dup, 1) := by decide +kernel
theorem dX12_road_204 : decode cX12_road 204 = .ok (.getfield 61, 3) := by decide +kernel
theorem dX12_road_207 : decode cX12_road 207 = .ok (.iconst 1, 1) := by decide +kernel
theorem dX12_road_208 : decode cX12_road 208 = .ok (.iadd, 1) := by decide +kernel
theorem dX12_road_209 : decode cX12_road 209 = .ok (.putfield 61, 3) := by decide +kernel
theorem dX12_road_212 : decode cX12_road 212 = .ok (.aload_n 0, 1) := by decide +kernel
theorem dX12_road_213 : decode cX12_road 213 = .ok (.invokevirtual 148, 3) := by decide +kernel
theorem dX12_road_216 : decode cX12_road 216 = .ok (.iinc 1 1, 3) := by decide +kernel
theorem dX12_road_219 : decode cX12_road 219 = .ok (.goto (-39), 3) := by decide +kernel
theorem dX12_road_222 : decode cX12_road 222 = .ok (.aload_n 0, 1) := by decide +kernel
theorem dX12_road_223 : decode cX12_road 223 = .ok (.getfield 67, 3) := by decide +kernel
theorem dX12_road_226 : decode cX12_road 226 = .ok (.ifCond .ne 30, 3) := by decide +kernel
theorem dX12_road_229 : decode cX12_road 229 = .ok (.aload_n 0, 1) := by decide +kernel
theorem dX12_road_230 : decode cX12_road 230 = .ok (.getfield 61, 3) := by decide +kernel
theorem dX12_road_233 : decode cX12_road 233 = .ok (.aload_n 0, 1) := by decide +kernel
theorem dX12_road_234 : decode cX12_road 234 = .ok (.getfield 64, 3) := by decide +kernel
theorem dX12_road_237 : decode cX12_road 237 = .ok (.if_icmp .ne 19, 3) := by decide +kernel
theorem dX12_road_240 : decode cX12_road 240 = .ok (.aload_n 0, 1) := by decide +kernel
theorem dX12_road_241 : decode cX12_road 241 = .ok (.getfield 9, 3) := by decide +kernel
theorem dX12_road_244 : decode cX12_road 244 = .ok (.sipush 218, 3) := by decide +kernel
theorem dX12_road_247 : decode cX12_road 247 = .ok (.aload_n 0, 1) := by decide +kernel
theorem dX12_road_248 : decode cX12_road 248 = .ok (.getfield 87, 3) := by decide +kernel
theorem dX12_road_251 : decode cX12_road 251 = .ok (.iadd, 1) := by decide +kernel
theorem dX12_road_252 : decode cX12_road 252 = .ok (.iaload, 1) := by decide +kernel
theorem dX12_road_253 : decode cX12_road 253 = .ok (.ifCond .ne 11, 3) := by decide +kernel
theorem dX12_road_256 : decode cX12_road 256 = .ok (.bipush (-10), 2) := by decide +kernel
theorem dX12_road_258 : decode cX12_road 258 = .ok (.aload_n 0, 1) := by decide +kernel
theorem dX12_road_259 : decode cX12_road 259 = .ok (.getfield 61, 3) := by decide +kernel
theorem dX12_road_262 : decode cX12_road 262 = .ok (.isub, 1) := by decide +kernel
theorem dX12_road_263 : decode cX12_road 263 = .ok (.ireturn, 1) := by decide +kernel
theorem dX12_road_264 : decode cX12_road 264 = .ok (.aload_n 0, 1) := by decide +kernel
theorem dX12_road_265 : decode cX12_road 265 = .ok (.getfield 9, 3) := by decide +kernel
theorem dX12_road_268 : decode cX12_road 268 = .ok (.iconst 1, 1) := by decide +kernel
theorem dX12_road_269 : decode cX12_road 269 = .ok (.dup2, 1) := by decide +kernel
theorem dX12_road_270 : decode cX12_road 270 = .ok (.iaload, 1) := by decide +kernel
theorem dX12_road_271 : decode cX12_road 271 = .ok (.iconst 1, 1) := by decide +kernel
theorem dX12_road_272 : decode cX12_road 272 = .ok (.iadd, 1) := by decide +kernel
theorem dX12_road_273 : decode cX12_road 273 = .ok (.iastore, 1) := by decide +kernel
theorem dX12_road_274 : decode cX12_road 274 = .ok (.aload_n 0, 1) := by decide +kernel
theorem dX12_road_275 : decode cX12_road 275 = .ok (.getfield 9, 3) := by decide +kernel
theorem dX12_road_278 : decode cX12_road 278 = .ok (.iconst 4, 1) := by decide +kernel
theorem dX12_road_279 : decode cX12_road 279 = .ok (.aload_n 0, 1) := by decide +kernel
theorem dX12_road_280 : decode cX12_road 280 = .ok (.getfield 87, 3) := by decide +kernel
theorem dX12_road_283 : decode cX12_road 283 = .ok (.iastore, 1) := by decide +kernel
theorem dX12_road_284 : decode cX12_road 284 = .ok (.aload_n 0, 1) := by decide +kernel
theorem dX12_road_285 : decode cX12_road 285 = .ok (.getfield 87, 3) := by decide +kernel
theorem dX12_road_288 : decode cX12_road 288 = .ok (.ireturn, 1) := by decide +kernel
theorem dX12_row_0 : decode cX12_row 0 = .ok (.iload_n 1, 1) := by decide +kernel
theorem dX12_row_1 : decode cX12_row 1 = .ok (.iconst (-1), 1) := by decide +kernel
theorem dX12_row_2 : decode cX12_row 2 = .ok (.if_icmp .ne 12, 3) := by decide +kernel
theorem dX12_row_5 : decode cX12_row 5 = .ok (.aload_n 0, 1) := by decide +kernel
theorem dX12_row_6 : decode cX12_row 6 = .ok (.getfield 9, 3) := by decide +kernel
theorem dX12_row_9 : decode cX12_row 9 = .ok (.iconst 2, 1) := by decide +kernel
theorem dX12_row_10 : decode cX12_row 10 = .ok (.iconst 0, 1) := by decide +kernel
theorem dX12_row_11 : decode cX12_row 11 = .ok (.iastore, 1) := by decide +kernel
theorem dX12_row_12 : decode cX12_row 12 = .ok (.iconst 0, 1) := by decide +kernel
theorem dX12_row_13 : decode cX12_row 13 = .ok (.ireturn, 1) := by decide +kernel
theorem dX12_row_14 : decode cX12_row 14 = .ok (.iload_n 1, 1) := by decide +kernel
theorem dX12_row_15 : decode cX12_row 15 = .ok (.iconst 0, 1) := by decide +kernel
theorem dX12_row_16 : decode cX12_row 16 = .ok (.bipush 9, 2) := by decide +kernel
theorem dX12_row_18 : decode cX12_row 18 = .ok (.invokestatic 44, 3) := by decide +kernel
theorem dX12_row_21 : decode cX12_row 21 = .ok (.ifCond .ne 6, 3) := by decide +kernel
theorem dX12_row_24 : decode cX12_row 24 = .ok (.bipush (-2), 2) := by decide +kernel
theorem dX12_row_26 : decode cX12_row 26 = .ok (.ireturn, 1) := by decide +kernel
theorem dX12_row_27 : decode cX12_row 27 = .ok (.aload_n 0, 1) := by decide +kernel
theorem dX12_row_28 : decode cX12_row 28 = .ok (.getfield 9, 3) := by decide +kernel
theorem dX12_row_31 : decode cX12_row 31 = .ok (.iconst 2, 1) := by decide +kernel
theorem dX12_row_32 : decode cX12_row 32 = .ok (.iaload, 1) := by decide +kernel
theorem dX12_row_33 : decode cX12_row 33 = .ok (.bipush 8, 2) := by decide +kernel
theorem dX12_row_35 : decode cX12_row 35 = .ok (.if_icmp .ne 6, 3) := by decide +kernel
theorem dX12_row_38 : decode cX12_row 38 = .ok (.bipush (-4), 2) := by decide +kernel
theorem dX12_row_40 : decode cX12_row 40 = .ok (.ireturn, 1) := by decide +kernel
theorem dX12_row_41 : decode cX12_row 41 = .ok (.aload_n 0, 1) := by decide +kernel
theorem dX12_row_42 : decode cX12_row 42 = .ok (.getfield 9, 3) := by decide +kernel
theorem dX12_row_45 : decode cX12_row 45 = .ok (.sipush 210, 3) := by decide +kernel
theorem dX12_row_48 : decode cX12_row 48 = .ok (.aload_n 0, 1) := by decide +kernel
theorem dX12_row_49 : decode cX12_row 49 = .ok (.getfield 9, 3) := by decide +kernel
theorem dX12_row_52 : decode cX12_row 52 = .ok (.iconst 2, 1) := by decide +kernel
theorem dX12_row_53 : decode cX12_row 53 = .ok (.iaload, 1) := by decide +kernel
theorem dX12_row_54 : decode cX12_row 54 = .ok (.iadd, 1) := by decide +kernel
theorem dX12_row_55 : decode cX12_row 55 = .ok (.iload_n 1, 1) := by decide +kernel
theorem dX12_row_56 : decode cX12_row 56 = .ok (.iastore, 1) := by decide +kernel
theorem dX12_row_57 : decode cX12_row 57 = .ok (.aload_n 0, 1) := by decide +kernel
theorem dX12_row_58 : decode cX12_row 58 = .ok (.getfield 9, 3) := by decide +kernel
theorem dX12_row_61 : decode cX12_row 61 = .ok (.iconst 2, 1) := by decide +kernel
theorem dX12_row_62 : decode cX12_row 62 = .ok (.dup2, 1) := by decide +kernel
theorem dX12_row_63 : decode cX12_row 63 = .ok (.iaload, 1) := by decide +kernel
theorem dX12_row_64 : decode cX12_row 64 = .ok (.iconst 1, 1) := by decide +kernel
theorem dX12_row_65 : decode cX12_row 65 = .ok (.iadd, 1) := by decide +kernel
theorem dX12_row_66 : decode cX12_row 66 = .ok (.iastore, 1) := by decide +kernel
theorem dX12_row_67 : decode cX12_row 67 = .ok (.aload_n 0, 1) := by decide +kernel
theorem dX12_row_68 : decode cX12_row 68 = .ok (.getfield 9, 3) := by decide +kernel
theorem dX12_row_71 : decode cX12_row 71 = .ok (.iconst 2, 1) := by decide +kernel
theorem dX12_row_72 : decode cX12_row 72 = .ok (.iaload, 1) := by decide +kernel
theorem dX12_row_73 : decode cX12_row 73 = .ok (.ireturn, 1) := by decide +kernel
theorem dX12_runs_0 : decode cX12_runs 0 = .ok (.aload_n 0, 1) := by decide +kernel
theorem dX12_runs_1 : decode cX12_runs 1 = .ok (.getfield 244, 3) := by decide +kernel
theorem dX12_runs_4 : decode cX12_runs 4 = .ok (.bipush 20, 2) := by decide +kernel
theorem dX12_runs_6 : decode cX12_runs 6 = .ok (.if_icmp .ge 13, 3) := by decide +kernel
theorem dX12_runs_9 : decode cX12_runs 9 = .ok (.aload_n 0, 1) := by decide +kernel
theorem dX12_runs_10 : decode cX12_runs 10 = .ok (.getfield 37, 3) := by decide +kernel
theorem dX12_runs_13 : decode cX12_runs 13 = .ok (.aload_n 0, 1) := by decide +kernel
theorem dX12_runs_14 : decode cX12_runs 14 = .ok (.getfield 244, 3) := by decide +kernel
theorem dX12_runs_17 : decode cX12_runs 17 = .ok (.iload_n 1, 1) := by decide +kernel
theorem dX12_runs_18 : decode cX12_runs 18 = .ok (.iastore, 1) := by decide +kernel
theorem dX12_runs_19 : decode cX12_runs 19 = .ok (.aload_n 0, 1) := by decide +kernel
theorem dX12_runs_20 : decode cX12_runs 20 = .ok (.dup, 1) := by decide +kernel
theorem dX12_runs_21 : decode cX12_runs 21 = .ok (.getfield 244, 3) := by decide +kernel
theorem dX12_runs_24 : decode cX12_runs 24 = .ok (.iconst 1, 1) := by decide +kernel
theorem dX12_runs_25 : decode cX12_runs 25 = .ok (.iadd, 1) := by decide +kernel
theorem dX12_runs_26 : decode cX12_runs 26 = .ok (.putfield 244, 3) := by decide +kernel
theorem dX12_runs_29 : decode cX12_runs 29 = .ok (.return_, 1) := by decide +kernel
theorem dX12_secondsBy_0 : decode cX12_secondsBy 0 = .ok (.aload_n 0, 1) := by decide +kernel
theorem dX12_secondsBy_1 : decode cX12_secondsBy 1 = .ok (.iload_n 1, 1) := by decide +kernel
theorem dX12_secondsBy_2 : decode cX12_secondsBy 2 = .ok (.iconst 1, 1) := by decide +kernel
theorem dX12_secondsBy_3 : decode cX12_secondsBy 3 = .ok (.ior, 1) := by decide +kernel
theorem dX12_secondsBy_4 : decode cX12_secondsBy 4 = .ok (.invokevirtual 185, 3) := by decide +kernel
theorem dX12_secondsBy_7 : decode cX12_secondsBy 7 = .ok (.aload_n 0, 1) := by decide +kernel
theorem dX12_secondsBy_8 : decode cX12_secondsBy 8 = .ok (.getfield 25, 3) := by decide +kernel
theorem dX12_secondsBy_11 : decode cX12_secondsBy 11 = .ok (.aload_n 0, 1) := by decide +kernel
theorem dX12_secondsBy_12 : decode cX12_secondsBy 12 = .ok (.invokevirtual 56, 3) := by decide +kernel
theorem dX12_secondsBy_15 : decode cX12_secondsBy 15 = .ok (.iaload, 1) := by decide +kernel
theorem dX12_secondsBy_16 : decode cX12_secondsBy 16 = .ok (.ireturn, 1) := by decide +kernel
theorem dX12_secondsOf_0 : decode cX12_secondsOf 0 = .ok (.aload_n 0, 1) := by decide +kernel
theorem dX12_secondsOf_1 : decode cX12_secondsOf 1 = .ok (.iload_n 1, 1) := by decide +kernel
theorem dX12_secondsOf_2 : decode cX12_secondsOf 2 = .ok (.iload_n 2, 1) := by decide +kernel
theorem dX12_secondsOf_3 : decode cX12_secondsOf 3 = .ok (.iload_n 3, 1) := by decide +kernel
theorem dX12_secondsOf_4 : decode cX12_secondsOf 4 = .ok (.invokevirtual 172, 3) := by decide +kernel
theorem dX12_secondsOf_7 : decode cX12_secondsOf 7 = .ok (.istore 4, 2) := by decide +kernel
theorem dX12_secondsOf_9 : decode cX12_secondsOf 9 = .ok (.bipush 100, 2) := by decide +kernel
theorem dX12_secondsOf_11 : decode cX12_secondsOf 11 = .ok (.aload_n 0, 1) := by decide +kernel
theorem dX12_secondsOf_12 : decode cX12_secondsOf 12 = .ok (.iload_n 1, 1) := by decide +kernel
theorem dX12_secondsOf_13 : decode cX12_secondsOf 13 = .ok (.invokevirtual 155, 3) := by decide +kernel
theorem dX12_secondsOf_16 : decode cX12_secondsOf 16 = .ok (.imul, 1) := by decide +kernel
theorem dX12_secondsOf_17 : decode cX12_secondsOf 17 = .ok (.iload 4, 2) := by decide +kernel
theorem dX12_secondsOf_19 : decode cX12_secondsOf 19 = .ok (.iadd, 1) := by decide +kernel
theorem dX12_secondsOf_20 : decode cX12_secondsOf 20 = .ok (.iconst 1, 1) := by decide +kernel
theorem dX12_secondsOf_21 : decode cX12_secondsOf 21 = .ok (.isub, 1) := by decide +kernel
theorem dX12_secondsOf_22 : decode cX12_secondsOf 22 = .ok (.iload 4, 2) := by decide +kernel
theorem dX12_secondsOf_24 : decode cX12_secondsOf 24 = .ok (.idiv, 1) := by decide +kernel
theorem dX12_secondsOf_25 : decode cX12_secondsOf 25 = .ok (.ireturn, 1) := by decide +kernel
theorem dX12_slope_0 : decode cX12_slope 0 = .ok (.aload_n 0, 1) := by decide +kernel
theorem dX12_slope_1 : decode cX12_slope 1 = .ok (.getfield 9, 3) := by decide +kernel
theorem dX12_slope_4 : decode cX12_slope 4 = .ok (.sipush 283, 3) := by decide +kernel
theorem dX12_slope_7 : decode cX12_slope 7 = .ok (.bipush 8, 2) := by decide +kernel
theorem dX12_slope_9 : decode cX12_slope 9 = .ok (.aload_n 0, 1) := by decide +kernel
theorem dX12_slope_10 : decode cX12_slope 10 = .ok (.getfield 9, 3) := by decide +kernel
theorem dX12_slope_13 : decode cX12_slope 13 = .ok (.iconst 4, 1) := by decide +kernel
theorem dX12_slope_14 : decode cX12_slope 14 = .ok (.iaload, 1) := by decide +kernel
theorem dX12_slope_15 : decode cX12_slope 15 = .ok (.imul, 1) := by decide +kernel
theorem dX12_slope_16 : decode cX12_slope 16 = .ok (.iadd, 1) := by decide +kernel
theorem dX12_slope_17 : decode cX12_slope 17 = .ok (.iload_n 1, 1) := by decide +kernel
theorem dX12_slope_18 : decode cX12_slope 18 = .ok (.iadd, 1) := by decide +kernel
theorem dX12_slope_19 : decode cX12_slope 19 = .ok (.iaload, 1) := by decide +kernel
theorem dX12_slope_20 : decode cX12_slope 20 = .ok (.ireturn, 1) := by decide +kernel
theorem dX12_sloped_0 : decode cX12_sloped 0 = .ok (.aload_n 0, 1) := by decide +kernel
theorem dX12_sloped_1 : decode cX12_sloped 1 = .ok (.invokevirtual 166, 3) := by decide +kernel
theorem dX12_sloped_4 : decode cX12_sloped 4 = .ok (.aload_n 0, 1) := by decide +kernel
theorem dX12_sloped_5 : decode cX12_sloped 5 = .ok (.iload_n 1, 1) := by decide +kernel
theorem dX12_sloped_6 : decode cX12_sloped 6 = .ok (.invokevirtual 157, 3) := by decide +kernel
theorem dX12_sloped_9 : decode cX12_sloped 9 = .ok (.iadd, 1) := by decide +kernel
theorem dX12_sloped_10 : decode cX12_sloped 10 = .ok (.iconst 5, 1) := by decide +kernel
theorem dX12_sloped_11 : decode cX12_sloped 11 = .ok (.isub, 1) := by decide +kernel
theorem dX12_sloped_12 : decode cX12_sloped 12 = .ok (.aload_n 0, 1) := by decide +kernel
theorem dX12_sloped_13 : decode cX12_sloped 13 = .ok (.iload_n 1, 1) := by decide +kernel
theorem dX12_sloped_14 : decode cX12_sloped 14 = .ok (.invokevirtual 160, 3) := by decide +kernel
theorem dX12_sloped_17 : decode cX12_sloped 17 = .ok (.iconst 5, 1) := by decide +kernel
theorem dX12_sloped_18 : decode cX12_sloped 18 = .ok (.if_icmp .le 7, 3) := by decide +kernel
theorem dX12_sloped_21 : decode cX12_sloped 21 = .ok (.iconst 1, 1) := by decide +kernel
theorem dX12_sloped_22 : decode cX12_sloped 22 = .ok (.goto 4, 3) := by decide +kernel
theorem dX12_sloped_25 : decode cX12_sloped 25 = .ok (.iconst 0, 1) := by decide +kernel
theorem dX12_sloped_26 : decode cX12_sloped 26 = .ok (.iadd, 1) := by decide +kernel
theorem dX12_sloped_27 : decode cX12_sloped 27 = .ok (.ireturn, 1) := by decide +kernel
theorem dX12_slopedSpends_0 : decode cX12_slopedSpends 0 = .ok (.aload_n 0, 1) := by decide +kernel
theorem dX12_slopedSpends_1 : decode cX12_slopedSpends 1 = .ok (.bipush 21, 2) := by decide +kernel
theorem dX12_slopedSpends_3 : decode cX12_slopedSpends 3 = .ok (.invokevirtual 247, 3) := by decide +kernel
theorem dX12_slopedSpends_6 : decode cX12_slopedSpends 6 = .ok (.aload_n 0, 1) := by decide +kernel
theorem dX12_slopedSpends_7 : decode cX12_slopedSpends 7 = .ok (.iload_n 1, 1) := by decide +kernel
theorem dX12_slopedSpends_8 : decode cX12_slopedSpends 8 = .ok (.invokevirtual 272, 3) := by decide +kernel
theorem dX12_slopedSpends_11 : decode cX12_slopedSpends 11 = .ok (.ineg, 1) := by decide +kernel
theorem dX12_slopedSpends_12 : decode cX12_slopedSpends 12 = .ok (.ireturn, 1) := by decide +kernel
theorem dX12_some_0 : decode cX12_some 0 = .ok (.aload_n 0, 1) := by decide +kernel
theorem dX12_some_1 : decode cX12_some 1 = .ok (.invokevirtual 113, 3) := by decide +kernel
theorem dX12_some_4 : decode cX12_some 4 = .ok (.aload_n 0, 1) := by decide +kernel
theorem dX12_some_5 : decode cX12_some 5 = .ok (.getfield 67, 3) := by decide +kernel
theorem dX12_some_8 : decode cX12_some 8 = .ok (.ifCond .ne 35, 3) := by decide +kernel
theorem dX12_some_11 : decode cX12_some 11 = .ok (.aload_n 0, 1) := by decide +kernel
theorem dX12_some_12 : decode cX12_some 12 = .ok (.invokevirtual 71, 3) := by decide +kernel
theorem dX12_some_15 : decode cX12_some 15 = .ok (.bipush 124, 2) := by decide +kernel
theorem dX12_some_17 : decode cX12_some 17 = .ok (.if_icmp .ne 26, 3) := by decide +kernel
theorem dX12_some_20 : decode cX12_some 20 = .ok (.aload_n 0, 1) := by decide +kernel
theorem dX12_some_21 : decode cX12_some 21 = .ok (.dup, 1) := by decide +kernel
theorem dX12_some_22 : decode cX12_some 22 = .ok (.getfield 61, 3) := by decide +kernel
theorem dX12_some_25 : decode cX12_some 25 = .ok (.iconst 1, 1) := by decide +kernel
theorem dX12_some_26 : decode cX12_some 26 = .ok (.iadd, 1) := by decide +kernel
theorem dX12_some_27 : decode cX12_some 27 = .ok (.putfield 61, 3) := by decide +kernel
theorem dX12_some_30 : decode cX12_some 30 = .ok (.aload_n 0, 1) := by decide +kernel
theorem dX12_some_31 : decode cX12_some 31 = .ok (.invokevirtual 113, 3) := by decide +kernel
theorem dX12_some_34 : decode cX12_some 34 = .ok (.aload_n 0, 1) := by decide +kernel
theorem dX12_some_35 : decode cX12_some 35 = .ok (.bipush (-3), 2) := by decide +kernel
theorem dX12_some_37 : decode cX12_some 37 = .ok (.invokevirtual 96, 3) := by decide +kernel
theorem dX12_some_40 : decode cX12_some 40 = .ok (.goto (-36), 3) := by decide +kernel
theorem dX12_some_43 : decode cX12_some 43 = .ok (.return_, 1) := by decide +kernel
theorem dX12_soonest_0 : decode cX12_soonest 0 = .ok (.aload_n 0, 1) := by decide +kernel
theorem dX12_soonest_1 : decode cX12_soonest 1 = .ok (.iload_n 1, 1) := by decide +kernel
theorem dX12_soonest_2 : decode cX12_soonest 2 = .ok (.invokevirtual 151, 3) := by decide +kernel
theorem dX12_soonest_5 : decode cX12_soonest 5 = .ok (.ifCond .eq 30, 3) := by decide +kernel
theorem dX12_soonest_8 : decode cX12_soonest 8 = .ok (.iload_n 3, 1) := by decide +kernel
theorem dX12_soonest_9 : decode cX12_soonest 9 = .ok (.iconst 0, 1) := by decide +kernel
theorem dX12_soonest_10 : decode cX12_soonest 10 = .ok (.iconst 1, 1) := by decide +kernel
theorem dX12_soonest_11 : decode cX12_soonest 11 = .ok (.invokestatic 44, 3) := by decide +kernel
theorem dX12_soonest_14 : decode cX12_soonest 14 = .ok (.ifCond .ne 23, 3) := by decide +kernel
theorem dX12_soonest_17 : decode cX12_soonest 17 = .ok (.iload_n 3, 1) := by decide +kernel
theorem dX12_soonest_18 : decode cX12_soonest 18 = .ok (.bipush 10, 2) := by decide +kernel
theorem dX12_soonest_20 : decode cX12_soonest 20 = .ok (.iload_n 1, 1) := by decide +kernel
theorem dX12_soonest_21 : decode cX12_soonest 21 = .ok (.iadd, 1) := by decide +kernel
theorem dX12_soonest_22 : decode cX12_soonest 22 = .ok (.bipush 9, 2) := by decide +kernel
theorem dX12_soonest_24 : decode cX12_soonest 24 = .ok (.aload_n 0, 1) := by decide +kernel
theorem dX12_soonest_25 : decode cX12_soonest 25 = .ok (.invokevirtual 48, 3) := by decide +kernel
theorem dX12_soonest_28 : decode cX12_soonest 28 = .ok (.iadd, 1) := by decide +kernel
theorem dX12_soonest_29 : decode cX12_soonest 29 = .ok (.invokestatic 44, 3) := by decide +kernel
theorem dX12_soonest_32 : decode cX12_soonest 32 = .ok (.ifCond .ne 5, 3) := by decide +kernel
theorem dX12_soonest_35 : decode cX12_soonest 35 = .ok (.iconst (-1), 1) := by decide +kernel
theorem dX12_soonest_36 : decode cX12_soonest 36 = .ok (.ireturn, 1) := by decide +kernel
theorem dX12_soonest_37 : decode cX12_soonest 37 = .ok (.aload_n 0, 1) := by decide +kernel
theorem dX12_soonest_38 : decode cX12_soonest 38 = .ok (.iload_n 2, 1) := by decide +kernel
theorem dX12_soonest_39 : decode cX12_soonest 39 = .ok (.invokevirtual 176, 3) := by decide +kernel
theorem dX12_soonest_42 : decode cX12_soonest 42 = .ok (.ifCond .ne 6, 3) := by decide +kernel
theorem dX12_soonest_45 : decode cX12_soonest 45 = .ok (.bipush (-2), 2) := by decide +kernel
theorem dX12_soonest_47 : decode cX12_soonest 47 = .ok (.ireturn, 1) := by decide +kernel
theorem dX12_soonest_48 : decode cX12_soonest 48 = .ok (.aload_n 0, 1) := by decide +kernel
theorem dX12_soonest_49 : decode cX12_soonest 49 = .ok (.sipush 1023, 3) := by decide +kernel
theorem dX12_soonest_52 : decode cX12_soonest 52 = .ok (.invokevirtual 185, 3) := by decide +kernel
theorem dX12_soonest_55 : decode cX12_soonest 55 = .ok (.iload_n 3, 1) := by decide +kernel
theorem dX12_soonest_56 : decode cX12_soonest 56 = .ok (.iconst 2, 1) := by decide +kernel
theorem dX12_soonest_57 : decode cX12_soonest 57 = .ok (.if_icmp .ge 33, 3) := by decide +kernel
theorem dX12_soonest_60 : decode cX12_soonest 60 = .ok (.iload_n 3, 1) := by decide +kernel
theorem dX12_soonest_61 : decode cX12_soonest 61 = .ok (.ifCond .ne 17, 3) := by decide +kernel
theorem dX12_soonest_64 : decode cX12_soonest 64 = .ok (.aload_n 0, 1) := by decide +kernel
theorem dX12_soonest_65 : decode cX12_soonest 65 = .ok (.getfield 25, 3) := by decide +kernel
theorem dX12_soonest_68 : decode cX12_soonest 68 = .ok (.bipush 61, 2) := by decide +kernel
theorem dX12_soonest_70 : decode cX12_soonest 70 = .ok (.iload_n 1, 1) := by decide +kernel
theorem dX12_soonest_71 : decode cX12_soonest 71 = .ok (.imul, 1) := by decide +kernel
theorem dX12_soonest_72 : decode cX12_soonest 72 = .ok (.iload_n 2, 1) := by decide +kernel
theorem dX12_soonest_73 : decode cX12_soonest 73 = .ok (.iadd, 1) := by decide +kernel
theorem dX12_soonest_74 : decode cX12_soonest 74 = .ok (.iaload, 1) := by decide +kernel
theorem dX12_soonest_75 : decode cX12_soonest 75 = .ok (.goto 14, 3) := by decide +kernel
theorem dX12_soonest_78 : decode cX12_soonest 78 = .ok (.aload_n 0, 1) := by decide +kernel
theorem dX12_soonest_79 : decode cX12_soonest 79 = .ok (.getfield 28, 3) := by decide +kernel
theorem dX12_soonest_82 : decode cX12_soonest 82 = .ok (.bipush 61, 2) := by decide +kernel
theorem dX12_soonest_84 : decode cX12_soonest 84 = .ok (.iload_n 1, 1) := by decide +kernel
theorem dX12_soonest_85 : decode cX12_soonest 85 = .ok (.imul, 1) := by decide +kernel
theorem dX12_soonest_86 : decode cX12_soonest 86 = .ok (.iload_n 2, 1) := by decide +kernel
theorem dX12_soonest_87 : decode cX12_soonest 87 = .ok (.iadd, 1) := by decide +kernel
theorem dX12_soonest_88 : decode cX12_soonest 88 = .ok (.iaload, 1) := by decide +kernel
theorem dX12_soonest_89 : decode cX12_soonest 89 = .ok (.ireturn, 1) := by decide +kernel
theorem dX12_soonest_90 : decode cX12_soonest 90 = .ok (.iload_n 2, 1) := by decide +kernel
theorem dX12_soonest_91 : decode cX12_soonest 91 = .ok (.istore 4, 2) := by decide +kernel
theorem dX12_soonest_93 : decode cX12_soonest 93 = .ok (.iload_n 1, 1) := by decide +kernel
theorem dX12_soonest_94 : decode cX12_soonest 94 = .ok (.istore 5, 2) := by decide +kernel
theorem dX12_soonest_96 : decode cX12_soonest 96 = .ok (.iload 5, 2) := by decide +kernel
theorem dX12_soonest_98 : decode cX12_soonest 98 = .ok (.iload_n 3, 1) := by decide +kernel
theorem dX12_soonest_99 : decode cX12_soonest 99 = .ok (.bipush 10, 2) := by decide +kernel
theorem dX12_soonest_101 : decode cX12_soonest 101 = .ok (.isub, 1) := by decide +kernel
theorem dX12_soonest_102 : decode cX12_soonest 102 = .ok (.if_icmp .ge 32, 3) := by decide +kernel
theorem dX12_soonest_105 : decode cX12_soonest 105 = .ok (.aload_n 0, 1) := by decide +kernel
theorem dX12_soonest_106 : decode cX12_soonest 106 = .ok (.iload 5, 2) := by decide +kernel
theorem dX12_soonest_108 : decode cX12_soonest 108 = .ok (.aload_n 0, 1) := by decide +kernel
theorem dX12_soonest_109 : decode cX12_soonest 109 = .ok (.getfield 31, 3) := by decide +kernel
theorem dX12_soonest_112 : decode cX12_soonest 112 = .ok (.bipush 61, 2) := by decide +kernel
theorem dX12_soonest_114 : decode cX12_soonest 114 = .ok (.iload 5, 2) := by decide +kernel
theorem dX12_soonest_116 : decode cX12_soonest 116 = .ok (.imul, 1) := by decide +kernel
theorem dX12_soonest_117 : decode cX12_soonest 117 = .ok (.iload 4, 2) := by decide +kernel
theorem dX12_soonest_119 : decode cX12_soonest 119 = .ok (.iadd, 1) := by decide +kernel
theorem dX12_soonest_120 : decode cX12_soonest 120 = .ok (.iaload, 1) := by decide +kernel
theorem dX12_soonest_121 : decode cX12_soonest 121 = .ok (.iload 4, 2) := by decide +kernel
theorem dX12_soonest_123 : decode cX12_soonest 123 = .ok (.invokevirtual 182, 3) := by decide +kernel
theorem dX12_soonest_126 : decode cX12_soonest 126 = .ok (.istore 4, 2) := by decide +kernel
theorem dX12_soonest_128 : decode cX12_soonest 128 = .ok (.iinc 5 1, 3) := by decide +kernel
theorem dX12_soonest_131 : decode cX12_soonest 131 = .ok (.goto (-35), 3) := by decide +kernel
theorem dX12_soonest_134 : decode cX12_soonest 134 = .ok (.aload_n 0, 1) := by decide +kernel
theorem dX12_soonest_135 : decode cX12_soonest 135 = .ok (.getfield 31, 3) := by decide +kernel
theorem dX12_soonest_138 : decode cX12_soonest 138 = .ok (.bipush 61, 2) := by decide +kernel
theorem dX12_soonest_140 : decode cX12_soonest 140 = .ok (.iload_n 3, 1) := by decide +kernel
theorem dX12_soonest_141 : decode cX12_soonest 141 = .ok (.bipush 10, 2) := by decide +kernel
theorem dX12_soonest_143 : decode cX12_soonest 143 = .ok (.isub, 1) := by decide +kernel
theorem dX12_soonest_144 : decode cX12_soonest 144 = .ok (.imul, 1) := by decide +kernel
theorem dX12_soonest_145 : decode cX12_soonest 145 = .ok (.iload 4, 2) := by decide +kernel
theorem dX12_soonest_147 : decode cX12_soonest 147 = .ok (.iadd, 1) := by decide +kernel
theorem dX12_soonest_148 : decode cX12_soonest 148 = .ok (.iaload, 1) := by decide +kernel
theorem dX12_soonest_149 : decode cX12_soonest 149 = .ok (.ireturn, 1) := by decide +kernel
theorem dX12_speedOf_0 : decode cX12_speedOf 0 = .ok (.aload_n 0, 1) := by decide +kernel
theorem dX12_speedOf_1 : decode cX12_speedOf 1 = .ok (.getfield 18, 3) := by decide +kernel
theorem dX12_speedOf_4 : decode cX12_speedOf 4 = .ok (.iconst 0, 1) := by decide +kernel
theorem dX12_speedOf_5 : decode cX12_speedOf 5 = .ok (.iload_n 1, 1) := by decide +kernel
theorem dX12_speedOf_6 : decode cX12_speedOf 6 = .ok (.iastore, 1) := by decide +kernel
theorem dX12_speedOf_7 : decode cX12_speedOf 7 = .ok (.aload_n 0, 1) := by decide +kernel
theorem dX12_speedOf_8 : decode cX12_speedOf 8 = .ok (.getfield 18, 3) := by decide +kernel
theorem dX12_speedOf_11 : decode cX12_speedOf 11 = .ok (.iconst 1, 1) := by decide +kernel
theorem dX12_speedOf_12 : decode cX12_speedOf 12 = .ok (.iload_n 2, 1) := by decide +kernel
theorem dX12_speedOf_13 : decode cX12_speedOf 13 = .ok (.iastore, 1) := by decide +kernel
theorem dX12_speedOf_14 : decode cX12_speedOf 14 = .ok (.aload_n 0, 1) := by decide +kernel
theorem dX12_speedOf_15 : decode cX12_speedOf 15 = .ok (.getfield 18, 3) := by decide +kernel
theorem dX12_speedOf_18 : decode cX12_speedOf 18 = .ok (.iconst 2, 1) := by decide +kernel
theorem dX12_speedOf_19 : decode cX12_speedOf 19 = .ok (.aload_n 0, 1) := by decide +kernel
theorem dX12_speedOf_20 : decode cX12_speedOf 20 = .ok (.iload_n 1, 1) := by decide +kernel
theorem dX12_speedOf_21 : decode cX12_speedOf 21 = .ok (.invokevirtual 157, 3) := by decide +kernel
theorem dX12_speedOf_24 : decode cX12_speedOf 24 = .ok (.iastore, 1) := by decide +kernel
theorem dX12_speedOf_25 : decode cX12_speedOf 25 = .ok (.aload_n 0, 1) := by decide +kernel
theorem dX12_speedOf_26 : decode cX12_speedOf 26 = .ok (.getfield 18, 3) := by decide +kernel
theorem dX12_speedOf_29 : decode cX12_speedOf 29 = .ok (.iconst 3, 1) := by decide +kernel
theorem dX12_speedOf_30 : decode cX12_speedOf 30 = .ok (.aload_n 0, 1) := by decide +kernel
theorem dX12_speedOf_31 : decode cX12_speedOf 31 = .ok (.iload_n 1, 1) := by decide +kernel
theorem dX12_speedOf_32 : decode cX12_speedOf 32 = .ok (.invokevirtual 160, 3) := by decide +kernel
theorem dX12_speedOf_35 : decode cX12_speedOf 35 = .ok (.iastore, 1) := by decide +kernel
theorem dX12_speedOf_36 : decode cX12_speedOf 36 = .ok (.aload_n 0, 1) := by decide +kernel
theorem dX12_speedOf_37 : decode cX12_speedOf 37 = .ok (.getfield 18, 3) := by decide +kernel
theorem dX12_speedOf_40 : decode cX12_speedOf 40 = .ok (.iconst 4, 1) := by decide +kernel
theorem dX12_speedOf_41 : decode cX12_speedOf 41 = .ok (.iload_n 3, 1) := by decide +kernel
theorem dX12_speedOf_42 : decode cX12_speedOf 42 = .ok (.iastore, 1) := by decide +kernel
theorem dX12_speedOf_43 : decode cX12_speedOf 43 = .ok (.bipush 20, 2) := by decide +kernel
theorem dX12_speedOf_45 : decode cX12_speedOf 45 = .ok (.iconst 4, 1) := by decide +kernel
theorem dX12_speedOf_46 : decode cX12_speedOf 46 = .ok (.iload_n 2, 1) := by decide +kernel
theorem dX12_speedOf_47 : decode cX12_speedOf 47 = .ok (.imul, 1) := by decide +kernel
theorem dX12_speedOf_48 : decode cX12_speedOf 48 = .ok (.iadd, 1) := by decide +kernel
theorem dX12_speedOf_49 : decode cX12_speedOf 49 = .ok (.iconst 5, 1) := by decide +kernel
theorem dX12_speedOf_50 : decode cX12_speedOf 50 = .ok (.aload_n 0, 1) := by decide +kernel
theorem dX12_speedOf_51 : decode cX12_speedOf 51 = .ok (.iload_n 1, 1) := by decide +kernel
theorem dX12_speedOf_52 : decode cX12_speedOf 52 = .ok (.invokevirtual 157, 3) := by decide +kernel
theorem dX12_speedOf_55 : decode cX12_speedOf 55 = .ok (.iconst 5, 1) := by decide +kernel
theorem dX12_speedOf_56 : decode cX12_speedOf 56 = .ok (.isub, 1) := by decide +kernel
theorem dX12_speedOf_57 : decode cX12_speedOf 57 = .ok (.imul, 1) := by decide +kernel
theorem dX12_speedOf_58 : decode cX12_speedOf 58 = .ok (.isub, 1) := by decide +kernel
theorem dX12_speedOf_59 : decode cX12_speedOf 59 = .ok (.iconst 2, 1) := by decide +kernel
theorem dX12_speedOf_60 : decode cX12_speedOf 60 = .ok (.aload_n 0, 1) := by decide +kernel
theorem dX12_speedOf_61 : decode cX12_speedOf 61 = .ok (.iload_n 1, 1) := by decide +kernel
theorem dX12_speedOf_62 : decode cX12_speedOf 62 = .ok (.invokevirtual 160, 3) := by decide +kernel
theorem dX12_speedOf_65 : decode cX12_speedOf 65 = .ok (.iconst 5, 1) := by decide +kernel
theorem dX12_speedOf_66 : decode cX12_speedOf 66 = .ok (.isub, 1) := by decide +kernel
theorem dX12_speedOf_67 : decode cX12_speedOf 67 = .ok (.imul, 1) := by decide +kernel
theorem dX12_speedOf_68 : decode cX12_speedOf 68 = .ok (.isub, 1) := by decide +kernel
theorem dX12_speedOf_69 : decode cX12_speedOf 69 = .ok (.aload_n 0, 1) := by decide +kernel
theorem dX12_speedOf_70 : decode cX12_speedOf 70 = .ok (.invokevirtual 169, 3) := by decide +kernel
theorem dX12_speedOf_73 : decode cX12_speedOf 73 = .ok (.isub, 1) := by decide +kernel
theorem dX12_speedOf_74 : decode cX12_speedOf 74 = .ok (.istore 4, 2) := by decide +kernel
theorem dX12_speedOf_76 : decode cX12_speedOf 76 = .ok (.iload 4, 2) := by decide +kernel
theorem dX12_speedOf_78 : decode cX12_speedOf 78 = .ok (.aload_n 0, 1) := by decide +kernel
theorem dX12_speedOf_79 : decode cX12_speedOf 79 = .ok (.iload_n 1, 1) := by decide +kernel
theorem dX12_speedOf_80 : decode cX12_speedOf 80 = .ok (.invokevirtual 163, 3) := by decide +kernel
theorem dX12_speedOf_83 : decode cX12_speedOf 83 = .ok (.if_icmp .le 11, 3) := by decide +kernel
theorem dX12_speedOf_86 : decode cX12_speedOf 86 = .ok (.aload_n 0, 1) := by decide +kernel
theorem dX12_speedOf_87 : decode cX12_speedOf 87 = .ok (.iload_n 1, 1) := by decide +kernel
theorem dX12_speedOf_88 : decode cX12_speedOf 88 = .ok (.invokevirtual 163, 3) := by decide +kernel
theorem dX12_speedOf_91 : decode cX12_speedOf 91 = .ok (.goto 5, 3) := by decide +kernel
theorem dX12_speedOf_94 : decode cX12_speedOf 94 = .ok (.iload 4, 2) := by decide +kernel
theorem dX12_speedOf_96 : decode cX12_speedOf 96 = .ok (.istore 4, 2) := by decide +kernel
theorem dX12_speedOf_98 : decode cX12_speedOf 98 = .ok (.iload 4, 2) := by decide +kernel
theorem dX12_speedOf_100 : decode cX12_speedOf 100 = .ok (.iconst 1, 1) := by decide +kernel
theorem dX12_speedOf_101 : decode cX12_speedOf 101 = .ok (.if_icmp .ge 7, 3) := by decide +kernel
theorem dX12_speedOf_104 : decode cX12_speedOf 104 = .ok (.iconst 1, 1) := by decide +kernel
theorem dX12_speedOf_105 : decode cX12_speedOf 105 = .ok (.goto 5, 3) := by decide +kernel
theorem dX12_speedOf_108 : decode cX12_speedOf 108 = .ok (.iload 4, 2) := by decide +kernel
theorem dX12_speedOf_110 : decode cX12_speedOf 110 = .ok (.ireturn, 1) := by decide +kernel
theorem dX12_spells_0 : decode cX12_spells 0 = .ok (.iconst 0, 1) := by decide +kernel
theorem dX12_spells_1 : decode cX12_spells 1 = .ok (.istore_n 2, 1) := by decide +kernel
theorem dX12_spells_2 : decode cX12_spells 2 = .ok (.iload_n 2, 1) := by decide +kernel
theorem dX12_spells_3 : decode cX12_spells 3 = .ok (.aload_n 1, 1) := by decide +kernel
theorem dX12_spells_4 : decode cX12_spells 4 = .ok (.invokevirtual 74, 3) := by decide +kernel
theorem dX12_spells_7 : decode cX12_spells 7 = .ok (.if_icmp .ge 18, 3) := by decide +kernel
theorem dX12_spells_10 : decode cX12_spells 10 = .ok (.aload_n 0, 1) := by decide +kernel
theorem dX12_spells_11 : decode cX12_spells 11 = .ok (.aload_n 1, 1) := by decide +kernel
theorem dX12_spells_12 : decode cX12_spells 12 = .ok (.iload_n 2, 1) := by decide +kernel
theorem dX12_spells_13 : decode cX12_spells 13 = .ok (.invokevirtual 79, 3) := by decide +kernel
theorem dX12_spells_16 : decode cX12_spells 16 = .ok (.invokevirtual 83, 3) := by decide +kernel
theorem dX12_spells_19 : decode cX12_spells 19 = .ok (.iinc 2 1, 3) := by decide +kernel
theorem dX12_spells_22 : decode cX12_spells 22 = .ok (.goto (-20), 3) := by decide +kernel
theorem dX12_spells_25 : decode cX12_spells 25 = .ok (.return_, 1) := by decide +kernel
theorem dX12_spendsActs_0 : decode cX12_spendsActs 0 = .ok (.aload_n 0, 1) := by decide +kernel
theorem dX12_spendsActs_1 : decode cX12_spendsActs 1 = .ok (.getfield 256, 3) := by decide +kernel
theorem dX12_spendsActs_4 : decode cX12_spendsActs 4 = .ok (.iconst 5, 1) := by decide +kernel
theorem dX12_spendsActs_5 : decode cX12_spendsActs 5 = .ok (.if_icmp .ne 20, 3) := by decide +kernel
theorem dX12_spendsActs_8 : decode cX12_spendsActs 8 = .ok (.aload_n 0, 1) := by decide +kernel
theorem dX12_spendsActs_9 : decode cX12_spendsActs 9 = .ok (.bipush 61, 2) := by decide +kernel
theorem dX12_spendsActs_11 : decode cX12_spendsActs 11 = .ok (.invokevirtual 247, 3) := by decide +kernel
theorem dX12_spendsActs_14 : decode cX12_spendsActs 14 = .ok (.aload_n 0, 1) := by decide +kernel
theorem dX12_spendsActs_15 : decode cX12_spendsActs 15 = .ok (.iload_n 1, 1) := by decide +kernel
theorem dX12_spendsActs_16 : decode cX12_spendsActs 16 = .ok (.invokevirtual 275, 3) := by decide +kernel
theorem dX12_spendsActs_19 : decode cX12_spendsActs 19 = .ok (.aload_n 0, 1) := by decide +kernel
theorem dX12_spendsActs_20 : decode cX12_spendsActs 20 = .ok (.getfield 269, 3) := by decide +kernel
theorem dX12_spendsActs_23 : decode cX12_spendsActs 23 = .ok (.iadd, 1) := by decide +kernel
theorem dX12_spendsActs_24 : decode cX12_spendsActs 24 = .ok (.ireturn, 1) := by decide +kernel
theorem dX12_spendsActs_25 : decode cX12_spendsActs 25 = .ok (.aload_n 0, 1) := by decide +kernel
theorem dX12_spendsActs_26 : decode cX12_spendsActs 26 = .ok (.getfield 256, 3) := by decide +kernel
theorem dX12_spendsActs_29 : decode cX12_spendsActs 29 = .ok (.iconst 2, 1) := by decide +kernel
theorem dX12_spendsActs_30 : decode cX12_spendsActs 30 = .ok (.if_icmp .ne 11, 3) := by decide +kernel
theorem dX12_spendsActs_33 : decode cX12_spendsActs 33 = .ok (.aload_n 0, 1) := by decide +kernel
theorem dX12_spendsActs_34 : decode cX12_spendsActs 34 = .ok (.iload_n 1, 1) := by decide +kernel
theorem dX12_spendsActs_35 : decode cX12_spendsActs 35 = .ok (.invokevirtual 275, 3) := by decide +kernel
theorem dX12_spendsActs_38 : decode cX12_spendsActs 38 = .ok (.goto 8, 3) := by decide +kernel
theorem dX12_spendsActs_41 : decode cX12_spendsActs 41 = .ok (.aload_n 0, 1) := by decide +kernel
theorem dX12_spendsActs_42 : decode cX12_spendsActs 42 = .ok (.iload_n 1, 1) := by decide +kernel
theorem dX12_spendsActs_43 : decode cX12_spendsActs 43 = .ok (.invokevirtual 272, 3) := by decide +kernel
theorem dX12_spendsActs_46 : decode cX12_spendsActs 46 = .ok (.ireturn, 1) := by decide +kernel
theorem dX12_sure_0 : decode cX12_sure 0 = .ok (.aload_n 0, 1) := by decide +kernel
theorem dX12_sure_1 : decode cX12_sure 1 = .ok (.iload_n 1, 1) := by decide +kernel
theorem dX12_sure_2 : decode cX12_sure 2 = .ok (.invokevirtual 188, 3) := by decide +kernel
theorem dX12_sure_5 : decode cX12_sure 5 = .ok (.ifCond .eq 30, 3) := by decide +kernel
theorem dX12_sure_8 : decode cX12_sure 8 = .ok (.iload_n 2, 1) := by decide +kernel
theorem dX12_sure_9 : decode cX12_sure 9 = .ok (.iconst 0, 1) := by decide +kernel
theorem dX12_sure_10 : decode cX12_sure 10 = .ok (.sipush 9999, 3) := by decide +kernel
theorem dX12_sure_13 : decode cX12_sure 13 = .ok (.invokestatic 44, 3) := by decide +kernel
theorem dX12_sure_16 : decode cX12_sure 16 = .ok (.ifCond .eq 19, 3) := by decide +kernel
theorem dX12_sure_19 : decode cX12_sure 19 = .ok (.iload_n 3, 1) := by decide +kernel
theorem dX12_sure_20 : decode cX12_sure 20 = .ok (.iconst 0, 1) := by decide +kernel
theorem dX12_sure_21 : decode cX12_sure 21 = .ok (.iconst 1, 1) := by decide +kernel
theorem dX12_sure_22 : decode cX12_sure 22 = .ok (.invokestatic 44, 3) := by decide +kernel
theorem dX12_sure_25 : decode cX12_sure 25 = .ok (.ifCond .eq 10, 3) := by decide +kernel
theorem dX12_sure_28 : decode cX12_sure 28 = .ok (.aload_n 0, 1) := by decide +kernel
theorem dX12_sure_29 : decode cX12_sure 29 = .ok (.invokevirtual 48, 3) := by decide +kernel
theorem dX12_sure_32 : decode cX12_sure 32 = .ok (.ifCond .ne 7, 3) := by decide +kernel
theorem dX12_sure_35 : decode cX12_sure 35 = .ok (.ldc2_w 228, 3) := by decide +kernel
theorem dX12_sure_38 : decode cX12_sure 38 = .ok (.lreturn, 1) := by decide +kernel
theorem dX12_sure_39 : decode cX12_sure 39 = .ok (.aload_n 0, 1) := by decide +kernel
theorem dX12_sure_40 : decode cX12_sure 40 = .ok (.iload_n 1, 1) := by decide +kernel
theorem dX12_sure_41 : decode cX12_sure 41 = .ok (.iload_n 2, 1) := by decide +kernel
theorem dX12_sure_42 : decode cX12_sure 42 = .ok (.invokevirtual 230, 3) := by decide +kernel
theorem dX12_sure_45 : decode cX12_sure 45 = .ok (.aload_n 0, 1) := by decide +kernel
theorem dX12_sure_46 : decode cX12_sure 46 = .ok (.aload_n 0, 1) := by decide +kernel
theorem dX12_sure_47 : decode cX12_sure 47 = .ok (.getfield 215, 3) := by decide +kernel
theorem dX12_sure_50 : decode cX12_sure 50 = .ok (.iload_n 3, 1) := by decide +kernel
theorem dX12_sure_51 : decode cX12_sure 51 = .ok (.invokevirtual 234, 3) := by decide +kernel
theorem dX12_sure_54 : decode cX12_sure 54 = .ok (.lreturn, 1) := by decide +kernel
theorem dX12_takes_0 : decode cX12_takes 0 = .ok (.aload_n 0, 1) := by decide +kernel
theorem dX12_takes_1 : decode cX12_takes 1 = .ok (.iload_n 1, 1) := by decide +kernel
theorem dX12_takes_2 : decode cX12_takes 2 = .ok (.invokevirtual 188, 3) := by decide +kernel
theorem dX12_takes_5 : decode cX12_takes 5 = .ok (.ifCond .eq 11, 3) := by decide +kernel
theorem dX12_takes_8 : decode cX12_takes 8 = .ok (.aload_n 0, 1) := by decide +kernel
theorem dX12_takes_9 : decode cX12_takes 9 = .ok (.iload_n 2, 1) := by decide +kernel
theorem dX12_takes_10 : decode cX12_takes 10 = .ok (.invokevirtual 151, 3) := by decide +kernel
theorem dX12_takes_13 : decode cX12_takes 13 = .ok (.ifCond .ne 5, 3) := by decide +kernel
theorem dX12_takes_16 : decode cX12_takes 16 = .ok (.iconst (-1), 1) := by decide +kernel
theorem dX12_takes_17 : decode cX12_takes 17 = .ok (.ireturn, 1) := by decide +kernel
theorem dX12_takes_18 : decode cX12_takes 18 = .ok (.aload_n 0, 1) := by decide +kernel
theorem dX12_takes_19 : decode cX12_takes 19 = .ok (.iload_n 3, 1) := by decide +kernel
theorem dX12_takes_20 : decode cX12_takes 20 = .ok (.invokevirtual 176, 3) := by decide +kernel
theorem dX12_takes_23 : decode cX12_takes 23 = .ok (.ifCond .ne 6, 3) := by decide +kernel
theorem dX12_takes_26 : decode cX12_takes 26 = .ok (.bipush (-2), 2) := by decide +kernel
theorem dX12_takes_28 : decode cX12_takes 28 = .ok (.ireturn, 1) := by decide +kernel
theorem dX12_takes_29 : decode cX12_takes 29 = .ok (.aload_n 0, 1) := by decide +kernel
theorem dX12_takes_30 : decode cX12_takes 30 = .ok (.sipush 1023, 3) := by decide +kernel
theorem dX12_takes_33 : decode cX12_takes 33 = .ok (.invokevirtual 185, 3) := by decide +kernel
theorem dX12_takes_36 : decode cX12_takes 36 = .ok (.aload_n 0, 1) := by decide +kernel
theorem dX12_takes_37 : decode cX12_takes 37 = .ok (.iload_n 1, 1) := by decide +kernel
theorem dX12_takes_38 : decode cX12_takes 38 = .ok (.iload_n 2, 1) := by decide +kernel
theorem dX12_takes_39 : decode cX12_takes 39 = .ok (.iload_n 3, 1) := by decide +kernel
theorem dX12_takes_40 : decode cX12_takes 40 = .ok (.invokevirtual 197, 3) := by decide +kernel
theorem dX12_takes_43 : decode cX12_takes 43 = .ok (.ireturn, 1) := by decide +kernel
theorem dX12_takesOf_0 : decode cX12_takesOf 0 = .ok (.aload_n 0, 1) := by decide +kernel
theorem dX12_takesOf_1 : decode cX12_takesOf 1 = .ok (.iload_n 1, 1) := by decide +kernel
theorem dX12_takesOf_2 : decode cX12_takesOf 2 = .ok (.iload_n 2, 1) := by decide +kernel
theorem dX12_takesOf_3 : decode cX12_takesOf 3 = .ok (.iload_n 3, 1) := by decide +kernel
theorem dX12_takesOf_4 : decode cX12_takesOf 4 = .ok (.invokevirtual 194, 3) := by decide +kernel
theorem dX12_takesOf_7 : decode cX12_takesOf 7 = .ok (.istore 4, 2) := by decide +kernel
theorem dX12_takesOf_9 : decode cX12_takesOf 9 = .ok (.iload 4, 2) := by decide +kernel
theorem dX12_takesOf_11 : decode cX12_takesOf 11 = .ok (.ifCond .ge 7, 3) := by decide +kernel
theorem dX12_takesOf_14 : decode cX12_takesOf 14 = .ok (.iconst 0, 1) := by decide +kernel
theorem dX12_takesOf_15 : decode cX12_takesOf 15 = .ok (.goto 17, 3) := by decide +kernel
theorem dX12_takesOf_18 : decode cX12_takesOf 18 = .ok (.iload 4, 2) := by decide +kernel
theorem dX12_takesOf_20 : decode cX12_takesOf 20 = .ok (.bipush 9, 2) := by decide +kernel
theorem dX12_takesOf_22 : decode cX12_takesOf 22 = .ok (.if_icmp .le 8, 3) := by decide +kernel
theorem dX12_takesOf_25 : decode cX12_takesOf 25 = .ok (.bipush 9, 2) := by decide +kernel
theorem dX12_takesOf_27 : decode cX12_takesOf 27 = .ok (.goto 5, 3) := by decide +kernel
theorem dX12_takesOf_30 : decode cX12_takesOf 30 = .ok (.iload 4, 2) := by decide +kernel
theorem dX12_takesOf_32 : decode cX12_takesOf 32 = .ok (.istore 4, 2) := by decide +kernel
theorem dX12_takesOf_34 : decode cX12_takesOf 34 = .ok (.aload_n 0, 1) := by decide +kernel
theorem dX12_takesOf_35 : decode cX12_takesOf 35 = .ok (.iload_n 2, 1) := by decide +kernel
theorem dX12_takesOf_36 : decode cX12_takesOf 36 = .ok (.iload 4, 2) := by decide +kernel
theorem dX12_takesOf_38 : decode cX12_takesOf 38 = .ok (.iload_n 3, 1) := by decide +kernel
theorem dX12_takesOf_39 : decode cX12_takesOf 39 = .ok (.invokevirtual 182, 3) := by decide +kernel
theorem dX12_takesOf_42 : decode cX12_takesOf 42 = .ok (.ifCond .ge 9, 3) := by decide +kernel
theorem dX12_takesOf_45 : decode cX12_takesOf 45 = .ok (.iinc 4 (-1), 3) := by decide +kernel
theorem dX12_takesOf_48 : decode cX12_takesOf 48 = .ok (.goto (-14), 3) := by decide +kernel
theorem dX12_takesOf_51 : decode cX12_takesOf 51 = .ok (.iload 4, 2) := by decide +kernel
theorem dX12_takesOf_53 : decode cX12_takesOf 53 = .ok (.ireturn, 1) := by decide +kernel
theorem dX12_tellsHere_0 : decode cX12_tellsHere 0 = .ok (.aload_n 0, 1) := by decide +kernel
theorem dX12_tellsHere_1 : decode cX12_tellsHere 1 = .ok (.aload_n 2, 1) := by decide +kernel
theorem dX12_tellsHere_2 : decode cX12_tellsHere 2 = .ok (.invokevirtual 118, 3) := by decide +kernel
theorem dX12_tellsHere_5 : decode cX12_tellsHere 5 = .ok (.aload_n 0, 1) := by decide +kernel
theorem dX12_tellsHere_6 : decode cX12_tellsHere 6 = .ok (.invokevirtual 110, 3) := by decide +kernel
theorem dX12_tellsHere_9 : decode cX12_tellsHere 9 = .ok (.istore 4, 2) := by decide +kernel
theorem dX12_tellsHere_11 : decode cX12_tellsHere 11 = .ok (.aload_n 0, 1) := by decide +kernel
theorem dX12_tellsHere_12 : decode cX12_tellsHere 12 = .ok (.getfield 67, 3) := by decide +kernel
theorem dX12_tellsHere_15 : decode cX12_tellsHere 15 = .ok (.ifCond .ne 26, 3) := by decide +kernel
theorem dX12_tellsHere_18 : decode cX12_tellsHere 18 = .ok (.aload_n 0, 1) := by decide +kernel
theorem dX12_tellsHere_19 : decode cX12_tellsHere 19 = .ok (.getfield 9, 3) := by decide +kernel
theorem dX12_tellsHere_22 : decode cX12_tellsHere 22 = .ok (.iload_n 1, 1) := by decide +kernel
theorem dX12_tellsHere_23 : decode cX12_tellsHere 23 = .ok (.aload_n 0, 1) := by decide +kernel
theorem dX12_tellsHere_24 : decode cX12_tellsHere 24 = .ok (.getfield 87, 3) := by decide +kernel
theorem dX12_tellsHere_27 : decode cX12_tellsHere 27 = .ok (.iadd, 1) := by decide +kernel
theorem dX12_tellsHere_28 : decode cX12_tellsHere 28 = .ok (.iload 4, 2) := by decide +kernel
theorem dX12_tellsHere_30 : decode cX12_tellsHere 30 = .ok (.iload_n 3, 1) := by decide +kernel
theorem dX12_tellsHere_31 : decode cX12_tellsHere 31 = .ok (.if_icmp .le 7, 3) := by decide +kernel
theorem dX12_tellsHere_34 : decode cX12_tellsHere 34 = .ok (.iload_n 3, 1) := by decide +kernel
theorem dX12_tellsHere_35 : decode cX12_tellsHere 35 = .ok (.goto 5, 3) := by decide +kernel
theorem dX12_tellsHere_38 : decode cX12_tellsHere 38 = .ok (.iload 4, 2) := by decide +kernel
theorem dX12_tellsHere_40 : decode cX12_tellsHere 40 = .ok (.iastore, 1) := by decide +kernel
theorem dX12_tellsHere_41 : decode cX12_tellsHere 41 = .ok (.return_, 1) := by decide +kernel
theorem dX12_tellsOf_0 : decode cX12_tellsOf 0 = .ok (.aload_n 0, 1) := by decide +kernel
theorem dX12_tellsOf_1 : decode cX12_tellsOf 1 = .ok (.getfield 9, 3) := by decide +kernel
theorem dX12_tellsOf_4 : decode cX12_tellsOf 4 = .ok (.iconst 4, 1) := by decide +kernel
theorem dX12_tellsOf_5 : decode cX12_tellsOf 5 = .ok (.iaload, 1) := by decide +kernel
theorem dX12_tellsOf_6 : decode cX12_tellsOf 6 = .ok (.iconst (-1), 1) := by decide +kernel
theorem dX12_tellsOf_7 : decode cX12_tellsOf 7 = .ok (.if_icmp .ne 7, 3) := by decide +kernel
theorem dX12_tellsOf_10 : decode cX12_tellsOf 10 = .ok (.iload_n 2, 1) := by decide +kernel
theorem dX12_tellsOf_11 : decode cX12_tellsOf 11 = .ok (.goto 16, 3) := by decide +kernel
theorem dX12_tellsOf_14 : decode cX12_tellsOf 14 = .ok (.aload_n 0, 1) := by decide +kernel
theorem dX12_tellsOf_15 : decode cX12_tellsOf 15 = .ok (.getfield 9, 3) := by decide +kernel
theorem dX12_tellsOf_18 : decode cX12_tellsOf 18 = .ok (.iload_n 1, 1) := by decide +kernel
theorem dX12_tellsOf_19 : decode cX12_tellsOf 19 = .ok (.aload_n 0, 1) := by decide +kernel
theorem dX12_tellsOf_20 : decode cX12_tellsOf 20 = .ok (.getfield 9, 3) := by decide +kernel
theorem dX12_tellsOf_23 : decode cX12_tellsOf 23 = .ok (.iconst 4, 1) := by decide +kernel
theorem dX12_tellsOf_24 : decode cX12_tellsOf 24 = .ok (.iaload, 1) := by decide +kernel
theorem dX12_tellsOf_25 : decode cX12_tellsOf 25 = .ok (.iadd, 1) := by decide +kernel
theorem dX12_tellsOf_26 : decode cX12_tellsOf 26 = .ok (.iaload, 1) := by decide +kernel
theorem dX12_tellsOf_27 : decode cX12_tellsOf 27 = .ok (.ireturn, 1) := by decide +kernel
theorem dX12_told_0 : decode cX12_told 0 = .ok (.iload_n 1, 1) := by decide +kernel
theorem dX12_told_1 : decode cX12_told 1 = .ok (.tableswitch 68 0 4 #[35, 40, 45, 50, 59], 35) := by decide +kernel
theorem dX12_told_36 : decode cX12_told 36 = .ok (.aload_n 0, 1) := by decide +kernel
theorem dX12_told_37 : decode cX12_told 37 = .ok (.invokevirtual 48, 3) := by decide +kernel
theorem dX12_told_40 : decode cX12_told 40 = .ok (.ireturn, 1) := by decide +kernel
theorem dX12_told_41 : decode cX12_told 41 = .ok (.aload_n 0, 1) := by decide +kernel
theorem dX12_told_42 : decode cX12_told 42 = .ok (.invokevirtual 166, 3) := by decide +kernel
theorem dX12_told_45 : decode cX12_told 45 = .ok (.ireturn, 1) := by decide +kernel
theorem dX12_told_46 : decode cX12_told 46 = .ok (.aload_n 0, 1) := by decide +kernel
theorem dX12_told_47 : decode cX12_told 47 = .ok (.invokevirtual 56, 3) := by decide +kernel
theorem dX12_told_50 : decode cX12_told 50 = .ok (.ireturn, 1) := by decide +kernel
theorem dX12_told_51 : decode cX12_told 51 = .ok (.aload_n 0, 1) := by decide +kernel
theorem dX12_told_52 : decode cX12_told 52 = .ok (.sipush 233, 3) := by decide +kernel
theorem dX12_told_55 : decode cX12_told 55 = .ok (.iconst 5, 1) := by decide +kernel
theorem dX12_told_56 : decode cX12_told 56 = .ok (.invokevirtual 52, 3) := by decide +kernel
theorem dX12_told_59 : decode cX12_told 59 = .ok (.ireturn, 1) := by decide +kernel
theorem dX12_told_60 : decode cX12_told 60 = .ok (.aload_n 0, 1) := by decide +kernel
theorem dX12_told_61 : decode cX12_told 61 = .ok (.sipush 238, 3) := by decide +kernel
theorem dX12_told_64 : decode cX12_told 64 = .ok (.iconst 0, 1) := by decide +kernel
theorem dX12_told_65 : decode cX12_told 65 = .ok (.invokevirtual 52, 3) := by decide +kernel
theorem dX12_told_68 : decode cX12_told 68 = .ok (.ireturn, 1) := by decide +kernel
theorem dX12_told_69 : decode cX12_told 69 = .ok (.iconst (-1), 1) := by decide +kernel
theorem dX12_told_70 : decode cX12_told 70 = .ok (.ireturn, 1) := by decide +kernel
theorem dX12_trace_0 : decode cX12_trace 0 = .ok (.iload_n 1, 1) := by decide +kernel
theorem dX12_trace_1 : decode cX12_trace 1 = .ok (.iconst 0, 1) := by decide +kernel
theorem dX12_trace_2 : decode cX12_trace 2 = .ok (.aload_n 0, 1) := by decide +kernel
theorem dX12_trace_3 : decode cX12_trace 3 = .ok (.getfield 244, 3) := by decide +kernel
theorem dX12_trace_6 : decode cX12_trace 6 = .ok (.bipush 20, 2) := by decide +kernel
theorem dX12_trace_8 : decode cX12_trace 8 = .ok (.if_icmp .ge 10, 3) := by decide +kernel
theorem dX12_trace_11 : decode cX12_trace 11 = .ok (.aload_n 0, 1) := by decide +kernel
theorem dX12_trace_12 : decode cX12_trace 12 = .ok (.getfield 244, 3) := by decide +kernel
theorem dX12_trace_15 : decode cX12_trace 15 = .ok (.goto 5, 3) := by decide +kernel
theorem dX12_trace_18 : decode cX12_trace 18 = .ok (.bipush 20, 2) := by decide +kernel
theorem dX12_trace_20 : decode cX12_trace 20 = .ok (.iconst 1, 1) := by decide +kernel
theorem dX12_trace_21 : decode cX12_trace 21 = .ok (.isub, 1) := by decide +kernel
theorem dX12_trace_22 : decode cX12_trace 22 = .ok (.invokestatic 44, 3) := by decide +kernel
theorem dX12_trace_25 : decode cX12_trace 25 = .ok (.ifCond .eq 12, 3) := by decide +kernel
theorem dX12_trace_28 : decode cX12_trace 28 = .ok (.aload_n 0, 1) := by decide +kernel
theorem dX12_trace_29 : decode cX12_trace 29 = .ok (.getfield 37, 3) := by decide +kernel
theorem dX12_trace_32 : decode cX12_trace 32 = .ok (.iload_n 1, 1) := by decide +kernel
theorem dX12_trace_33 : decode cX12_trace 33 = .ok (.iaload, 1) := by decide +kernel
theorem dX12_trace_34 : decode cX12_trace 34 = .ok (.goto 4, 3) := by decide +kernel
theorem dX12_trace_37 : decode cX12_trace 37 = .ok (.iconst (-1), 1) := by decide +kernel
theorem dX12_trace_38 : decode cX12_trace 38 = .ok (.ireturn, 1) := by decide +kernel
theorem dX12_undo_0 : decode cX12_undo 0 = .ok (.aload_n 0, 1) := by decide +kernel
theorem dX12_undo_1 : decode cX12_undo 1 = .ok (.getfield 287, 3) := by decide +kernel
theorem dX12_undo_4 : decode cX12_undo 4 = .ok (.ifCond .ne 6, 3) := by decide +kernel
theorem dX12_undo_7 : decode cX12_undo 7 = .ok (.bipush (-3), 2) := by decide +kernel
theorem dX12_undo_9 : decode cX12_undo 9 = .ok (.ireturn, 1) := by decide +kernel
theorem dX12_undo_10 : decode cX12_undo 10 = .ok (.iconst 0, 1) := by decide +kernel
theorem dX12_undo_11 : decode cX12_undo 11 = .ok (.istore_n 1, 1) := by decide +kernel
theorem dX12_undo_12 : decode cX12_undo 12 = .ok (.iload_n 1, 1) := by decide +kernel
theorem dX12_undo_13 : decode cX12_undo 13 = .ok (.sipush 1118, 3) := by decide +kernel
theorem dX12_undo_16 : decode cX12_undo 16 = .ok (.if_icmp .ge 21, 3) := by decide +kernel
theorem dX12_undo_19 : decode cX12_undo 19 = .ok (.aload_n 0, 1) := by decide +kernel
theorem dX12_undo_20 : decode cX12_undo 20 = .ok (.getfield 9, 3) := by decide +kernel
theorem dX12_undo_23 : decode cX12_undo 23 = .ok (.iload_n 1, 1) := by decide +kernel
theorem dX12_undo_24 : decode cX12_undo 24 = .ok (.aload_n 0, 1) := by decide +kernel
theorem dX12_undo_25 : decode cX12_undo 25 = .ok (.getfield 15, 3) := by decide +kernel
theorem dX12_undo_28 : decode cX12_undo 28 = .ok (.iload_n 1, 1) := by decide +kernel
theorem dX12_undo_29 : decode cX12_undo 29 = .ok (.iaload, 1) := by decide +kernel
theorem dX12_undo_30 : decode cX12_undo 30 = .ok (.iastore, 1) := by decide +kernel
theorem dX12_undo_31 : decode cX12_undo 31 = .ok (.iinc 1 1, 3) := by decide +kernel
theorem dX12_undo_34 : decode cX12_undo 34 = .ok (.goto (-22), 3) := by decide +kernel
theorem dX12_undo_37 : decode cX12_undo 37 = .ok (.aload_n 0, 1) := by decide +kernel
theorem dX12_undo_38 : decode cX12_undo 38 = .ok (.getfield 9, 3) := by decide +kernel
theorem dX12_undo_41 : decode cX12_undo 41 = .ok (.iconst 0, 1) := by decide +kernel
theorem dX12_undo_42 : decode cX12_undo 42 = .ok (.iaload, 1) := by decide +kernel
theorem dX12_undo_43 : decode cX12_undo 43 = .ok (.ireturn, 1) := by decide +kernel
theorem dX12_wants_0 : decode cX12_wants 0 = .ok (.aload_n 0, 1) := by decide +kernel
theorem dX12_wants_1 : decode cX12_wants 1 = .ok (.getfield 9, 3) := by decide +kernel
theorem dX12_wants_4 : decode cX12_wants 4 = .ok (.sipush 138, 3) := by decide +kernel
theorem dX12_wants_7 : decode cX12_wants 7 = .ok (.iload_n 1, 1) := by decide +kernel
theorem dX12_wants_8 : decode cX12_wants 8 = .ok (.iadd, 1) := by decide +kernel
theorem dX12_wants_9 : decode cX12_wants 9 = .ok (.iaload, 1) := by decide +kernel
theorem dX12_wants_10 : decode cX12_wants 10 = .ok (.istore 4, 2) := by decide +kernel
theorem dX12_wants_12 : decode cX12_wants 12 = .ok (.aload_n 0, 1) := by decide +kernel
theorem dX12_wants_13 : decode cX12_wants 13 = .ok (.getfield 9, 3) := by decide +kernel
theorem dX12_wants_16 : decode cX12_wants 16 = .ok (.sipush 146, 3) := by decide +kernel
theorem dX12_wants_19 : decode cX12_wants 19 = .ok (.bipush 8, 2) := by decide +kernel
theorem dX12_wants_21 : decode cX12_wants 21 = .ok (.iload_n 1, 1) := by decide +kernel
theorem dX12_wants_22 : decode cX12_wants 22 = .ok (.imul, 1) := by decide +kernel
theorem dX12_wants_23 : decode cX12_wants 23 = .ok (.iadd, 1) := by decide +kernel
theorem dX12_wants_24 : decode cX12_wants 24 = .ok (.iload_n 2, 1) := by decide +kernel
theorem dX12_wants_25 : decode cX12_wants 25 = .ok (.iadd, 1) := by decide +kernel
theorem dX12_wants_26 : decode cX12_wants 26 = .ok (.iaload, 1) := by decide +kernel
theorem dX12_wants_27 : decode cX12_wants 27 = .ok (.istore 5, 2) := by decide +kernel
theorem dX12_wants_29 : decode cX12_wants 29 = .ok (.aload_n 0, 1) := by decide +kernel
theorem dX12_wants_30 : decode cX12_wants 30 = .ok (.getfield 9, 3) := by decide +kernel
theorem dX12_wants_33 : decode cX12_wants 33 = .ok (.sipush 130, 3) := by decide +kernel
theorem dX12_wants_36 : decode cX12_wants 36 = .ok (.iload_n 1, 1) := by decide +kernel
theorem dX12_wants_37 : decode cX12_wants 37 = .ok (.iadd, 1) := by decide +kernel
theorem dX12_wants_38 : decode cX12_wants 38 = .ok (.iaload, 1) := by decide +kernel
theorem dX12_wants_39 : decode cX12_wants 39 = .ok (.tableswitch 122 1 6 #[37, 40, 46, 58, 88, 105], 37) := by decide +kernel
theorem dX12_wants_76 : decode cX12_wants 76 = .ok (.iload 4, 2) := by decide +kernel
theorem dX12_wants_78 : decode cX12_wants 78 = .ok (.ireturn, 1) := by decide +kernel
theorem dX12_wants_79 : decode cX12_wants 79 = .ok (.aload_n 0, 1) := by decide +kernel
theorem dX12_wants_80 : decode cX12_wants 80 = .ok (.iload_n 2, 1) := by decide +kernel
theorem dX12_wants_81 : decode cX12_wants 81 = .ok (.invokevirtual 191, 3) := by decide +kernel
theorem dX12_wants_84 : decode cX12_wants 84 = .ok (.ireturn, 1) := by decide +kernel
theorem dX12_wants_85 : decode cX12_wants 85 = .ok (.aload_n 0, 1) := by decide +kernel
theorem dX12_wants_86 : decode cX12_wants 86 = .ok (.getfield 31, 3) := by decide +kernel
theorem dX12_wants_89 : decode cX12_wants 89 = .ok (.bipush 61, 2) := by decide +kernel
theorem dX12_wants_91 : decode cX12_wants 91 = .ok (.iload_n 2, 1) := by decide +kernel
theorem dX12_wants_92 : decode cX12_wants 92 = .ok (.imul, 1) := by decide +kernel
theorem dX12_wants_93 : decode cX12_wants 93 = .ok (.iload_n 3, 1) := by decide +kernel
theorem dX12_wants_94 : decode cX12_wants 94 = .ok (.iadd, 1) := by decide +kernel
theorem dX12_wants_95 : decode cX12_wants 95 = .ok (.iaload, 1) := by decide +kernel
theorem dX12_wants_96 : decode cX12_wants 96 = .ok (.ireturn, 1) := by decide +kernel
theorem dX12_wants_97 : decode cX12_wants 97 = .ok (.iload_n 3, 1) := by decide +kernel
theorem dX12_wants_98 : decode cX12_wants 98 = .ok (.aload_n 0, 1) := by decide +kernel
theorem dX12_wants_99 : decode cX12_wants 99 = .ok (.invokevirtual 48, 3) := by decide +kernel
theorem dX12_wants_102 : decode cX12_wants 102 = .ok (.imul, 1) := by decide +kernel
theorem dX12_wants_103 : decode cX12_wants 103 = .ok (.aload_n 0, 1) := by decide +kernel
theorem dX12_wants_104 : decode cX12_wants 104 = .ok (.invokevirtual 56, 3) := by decide +kernel
theorem dX12_wants_107 : decode cX12_wants 107 = .ok (.aload_n 0, 1) := by decide +kernel
theorem dX12_wants_108 : decode cX12_wants 108 = .ok (.invokevirtual 48, 3) := by decide +kernel
theorem dX12_wants_111 : decode cX12_wants 111 = .ok (.iload_n 2, 1) := by decide +kernel
theorem dX12_wants_112 : decode cX12_wants 112 = .ok (.isub, 1) := by decide +kernel
theorem dX12_wants_113 : decode cX12_wants 113 = .ok (.imul, 1) := by decide +kernel
theorem dX12_wants_114 : decode cX12_wants 114 = .ok (.if_icmp .ge 10, 3) := by decide +kernel
theorem dX12_wants_117 : decode cX12_wants 117 = .ok (.aload_n 0, 1) := by decide +kernel
theorem dX12_wants_118 : decode cX12_wants 118 = .ok (.invokevirtual 166, 3) := by decide +kernel
theorem dX12_wants_121 : decode cX12_wants 121 = .ok (.goto 5, 3) := by decide +kernel
theorem dX12_wants_124 : decode cX12_wants 124 = .ok (.iload 4, 2) := by decide +kernel
theorem dX12_wants_126 : decode cX12_wants 126 = .ok (.ireturn, 1) := by decide +kernel
theorem dX12_wants_127 : decode cX12_wants 127 = .ok (.iload 5, 2) := by decide +kernel
theorem dX12_wants_129 : decode cX12_wants 129 = .ok (.iconst (-1), 1) := by decide +kernel
theorem dX12_wants_130 : decode cX12_wants 130 = .ok (.if_icmp .ne 11, 3) := by decide +kernel
theorem dX12_wants_133 : decode cX12_wants 133 = .ok (.aload_n 0, 1) := by decide +kernel
theorem dX12_wants_134 : decode cX12_wants 134 = .ok (.iload_n 2, 1) := by decide +kernel
theorem dX12_wants_135 : decode cX12_wants 135 = .ok (.invokevirtual 191, 3) := by decide +kernel
theorem dX12_wants_138 : decode cX12_wants 138 = .ok (.goto 5, 3) := by decide +kernel
theorem dX12_wants_141 : decode cX12_wants 141 = .ok (.iload 5, 2) := by decide +kernel
theorem dX12_wants_143 : decode cX12_wants 143 = .ok (.ireturn, 1) := by decide +kernel
theorem dX12_wants_144 : decode cX12_wants 144 = .ok (.aload_n 0, 1) := by decide +kernel
theorem dX12_wants_145 : decode cX12_wants 145 = .ok (.invokevirtual 166, 3) := by decide +kernel
theorem dX12_wants_148 : decode cX12_wants 148 = .ok (.iload_n 2, 1) := by decide +kernel
theorem dX12_wants_149 : decode cX12_wants 149 = .ok (.iload 4, 2) := by decide +kernel
theorem dX12_wants_151 : decode cX12_wants 151 = .ok (.if_icmp .lt 7, 3) := by decide +kernel
theorem dX12_wants_154 : decode cX12_wants 154 = .ok (.iconst 2, 1) := by decide +kernel
theorem dX12_wants_155 : decode cX12_wants 155 = .ok (.goto 4, 3) := by decide +kernel
theorem dX12_wants_158 : decode cX12_wants 158 = .ok (.iconst 0, 1) := by decide +kernel
theorem dX12_wants_159 : decode cX12_wants 159 = .ok (.iadd, 1) := by decide +kernel
theorem dX12_wants_160 : decode cX12_wants 160 = .ok (.ireturn, 1) := by decide +kernel
theorem dX12_wants_161 : decode cX12_wants 161 = .ok (.aload_n 0, 1) := by decide +kernel
theorem dX12_wants_162 : decode cX12_wants 162 = .ok (.invokevirtual 166, 3) := by decide +kernel
theorem dX12_wants_165 : decode cX12_wants 165 = .ok (.ireturn, 1) := by decide +kernel
theorem dX12_way_0 : decode cX12_way 0 = .ok (.iload_n 1, 1) := by decide +kernel
theorem dX12_way_1 : decode cX12_way 1 = .ok (.iconst 0, 1) := by decide +kernel
theorem dX12_way_2 : decode cX12_way 2 = .ok (.bipush 6, 2) := by decide +kernel
theorem dX12_way_4 : decode cX12_way 4 = .ok (.invokestatic 44, 3) := by decide +kernel
theorem dX12_way_7 : decode cX12_way 7 = .ok (.ifCond .ne 5, 3) := by decide +kernel
theorem dX12_way_10 : decode cX12_way 10 = .ok (.iconst (-1), 1) := by decide +kernel
theorem dX12_way_11 : decode cX12_way 11 = .ok (.ireturn, 1) := by decide +kernel
theorem dX12_way_12 : decode cX12_way 12 = .ok (.iload_n 2, 1) := by decide +kernel
theorem dX12_way_13 : decode cX12_way 13 = .ok (.iconst 0, 1) := by decide +kernel
theorem dX12_way_14 : decode cX12_way 14 = .ok (.bipush 9, 2) := by decide +kernel
theorem dX12_way_16 : decode cX12_way 16 = .ok (.invokestatic 44, 3) := by decide +kernel
theorem dX12_way_19 : decode cX12_way 19 = .ok (.ifCond .ne 6, 3) := by decide +kernel
theorem dX12_way_22 : decode cX12_way 22 = .ok (.bipush (-2), 2) := by decide +kernel
theorem dX12_way_24 : decode cX12_way 24 = .ok (.ireturn, 1) := by decide +kernel
theorem dX12_way_25 : decode cX12_way 25 = .ok (.aload_n 0, 1) := by decide +kernel
theorem dX12_way_26 : decode cX12_way 26 = .ok (.getfield 9, 3) := by decide +kernel
theorem dX12_way_29 : decode cX12_way 29 = .ok (.iconst 0, 1) := by decide +kernel
theorem dX12_way_30 : decode cX12_way 30 = .ok (.iaload, 1) := by decide +kernel
theorem dX12_way_31 : decode cX12_way 31 = .ok (.bipush 8, 2) := by decide +kernel
theorem dX12_way_33 : decode cX12_way 33 = .ok (.if_icmp .ne 6, 3) := by decide +kernel
theorem dX12_way_36 : decode cX12_way 36 = .ok (.bipush (-4), 2) := by decide +kernel
theorem dX12_way_38 : decode cX12_way 38 = .ok (.ireturn, 1) := by decide +kernel
theorem dX12_way_39 : decode cX12_way 39 = .ok (.aload_n 0, 1) := by decide +kernel
theorem dX12_way_40 : decode cX12_way 40 = .ok (.getfield 9, 3) := by decide +kernel
theorem dX12_way_43 : decode cX12_way 43 = .ok (.iconst 0, 1) := by decide +kernel
theorem dX12_way_44 : decode cX12_way 44 = .ok (.iaload, 1) := by decide +kernel
theorem dX12_way_45 : decode cX12_way 45 = .ok (.istore_n 3, 1) := by decide +kernel
theorem dX12_way_46 : decode cX12_way 46 = .ok (.aload_n 0, 1) := by decide +kernel
theorem dX12_way_47 : decode cX12_way 47 = .ok (.getfield 9, 3) := by decide +kernel
theorem dX12_way_50 : decode cX12_way 50 = .ok (.sipush 130, 3) := by decide +kernel
theorem dX12_way_53 : decode cX12_way 53 = .ok (.iload_n 3, 1) := by decide +kernel
theorem dX12_way_54 : decode cX12_way 54 = .ok (.iadd, 1) := by decide +kernel
theorem dX12_way_55 : decode cX12_way 55 = .ok (.iload_n 1, 1) := by decide +kernel
theorem dX12_way_56 : decode cX12_way 56 = .ok (.iastore, 1) := by decide +kernel
theorem dX12_way_57 : decode cX12_way 57 = .ok (.aload_n 0, 1) := by decide +kernel
theorem dX12_way_58 : decode cX12_way 58 = .ok (.getfield 9, 3) := by decide +kernel
theorem dX12_way_61 : decode cX12_way 61 = .ok (.sipush 138, 3) := by decide +kernel
theorem dX12_way_64 : decode cX12_way 64 = .ok (.iload_n 3, 1) := by decide +kernel
theorem dX12_way_65 : decode cX12_way 65 = .ok (.iadd, 1) := by decide +kernel
theorem dX12_way_66 : decode cX12_way 66 = .ok (.iload_n 2, 1) := by decide +kernel
theorem dX12_way_67 : decode cX12_way 67 = .ok (.iastore, 1) := by decide +kernel
theorem dX12_way_68 : decode cX12_way 68 = .ok (.iconst 0, 1) := by decide +kernel
theorem dX12_way_69 : decode cX12_way 69 = .ok (.istore 4, 2) := by decide +kernel
theorem dX12_way_71 : decode cX12_way 71 = .ok (.iload 4, 2) := by decide +kernel
theorem dX12_way_73 : decode cX12_way 73 = .ok (.bipush 8, 2) := by decide +kernel
theorem dX12_way_75 : decode cX12_way 75 = .ok (.if_icmp .ge 26, 3) := by decide +kernel
theorem dX12_way_78 : decode cX12_way 78 = .ok (.aload_n 0, 1) := by decide +kernel
theorem dX12_way_79 : decode cX12_way 79 = .ok (.getfield 9, 3) := by decide +kernel
theorem dX12_way_82 : decode cX12_way 82 = .ok (.sipush 146, 3) := by decide +kernel
theorem dX12_way_85 : decode cX12_way 85 = .ok (.bipush 8, 2) := by decide +kernel
theorem dX12_way_87 : decode cX12_way 87 = .ok (.iload_n 3, 1) := by decide +kernel
theorem dX12_way_88 : decode cX12_way 88 = .ok (.imul, 1) := by decide +kernel
theorem dX12_way_89 : decode cX12_way 89 = .ok (.iadd, 1) := by decide +kernel
theorem dX12_way_90 : decode cX12_way 90 = .ok (.iload 4, 2) := by decide +kernel
theorem dX12_way_92 : decode cX12_way 92 = .ok (.iadd, 1) := by decide +kernel
theorem dX12_way_93 : decode cX12_way 93 = .ok (.iconst (-1), 1) := by decide +kernel
theorem dX12_way_94 : decode cX12_way 94 = .ok (.iastore, 1) := by decide +kernel
theorem dX12_way_95 : decode cX12_way 95 = .ok (.iinc 4 1, 3) := by decide +kernel
theorem dX12_way_98 : decode cX12_way 98 = .ok (.goto (-27), 3) := by decide +kernel
theorem dX12_way_101 : decode cX12_way 101 = .ok (.aload_n 0, 1) := by decide +kernel
theorem dX12_way_102 : decode cX12_way 102 = .ok (.getfield 9, 3) := by decide +kernel
theorem dX12_way_105 : decode cX12_way 105 = .ok (.iconst 0, 1) := by decide +kernel
theorem dX12_way_106 : decode cX12_way 106 = .ok (.dup2, 1) := by decide +kernel
theorem dX12_way_107 : decode cX12_way 107 = .ok (.iaload, 1) := by decide +kernel
theorem dX12_way_108 : decode cX12_way 108 = .ok (.iconst 1, 1) := by decide +kernel
theorem dX12_way_109 : decode cX12_way 109 = .ok (.iadd, 1) := by decide +kernel
theorem dX12_way_110 : decode cX12_way 110 = .ok (.iastore, 1) := by decide +kernel
theorem dX12_way_111 : decode cX12_way 111 = .ok (.iload_n 3, 1) := by decide +kernel
theorem dX12_way_112 : decode cX12_way 112 = .ok (.ireturn, 1) := by decide +kernel
theorem dX12_wheel_0 : decode cX12_wheel 0 = .ok (.aload_n 0, 1) := by decide +kernel
theorem dX12_wheel_1 : decode cX12_wheel 1 = .ok (.iload_n 1, 1) := by decide +kernel
theorem dX12_wheel_2 : decode cX12_wheel 2 = .ok (.invokevirtual 188, 3) := by decide +kernel
theorem dX12_wheel_5 : decode cX12_wheel 5 = .ok (.ifCond .eq 12, 3) := by decide +kernel
theorem dX12_wheel_8 : decode cX12_wheel 8 = .ok (.iload_n 3, 1) := by decide +kernel
theorem dX12_wheel_9 : decode cX12_wheel 9 = .ok (.iconst 0, 1) := by decide +kernel
theorem dX12_wheel_10 : decode cX12_wheel 10 = .ok (.iconst 1, 1) := by decide +kernel
theorem dX12_wheel_11 : decode cX12_wheel 11 = .ok (.invokestatic 44, 3) := by decide +kernel
theorem dX12_wheel_14 : decode cX12_wheel 14 = .ok (.ifCond .ne 5, 3) := by decide +kernel
theorem dX12_wheel_17 : decode cX12_wheel 17 = .ok (.iconst (-1), 1) := by decide +kernel
theorem dX12_wheel_18 : decode cX12_wheel 18 = .ok (.ireturn, 1) := by decide +kernel
theorem dX12_wheel_19 : decode cX12_wheel 19 = .ok (.iload_n 2, 1) := by decide +kernel
theorem dX12_wheel_20 : decode cX12_wheel 20 = .ok (.iconst 1, 1) := by decide +kernel
theorem dX12_wheel_21 : decode cX12_wheel 21 = .ok (.bipush 8, 2) := by decide +kernel
theorem dX12_wheel_23 : decode cX12_wheel 23 = .ok (.invokestatic 44, 3) := by decide +kernel
theorem dX12_wheel_26 : decode cX12_wheel 26 = .ok (.ifCond .ne 6, 3) := by decide +kernel
theorem dX12_wheel_29 : decode cX12_wheel 29 = .ok (.bipush (-2), 2) := by decide +kernel
theorem dX12_wheel_31 : decode cX12_wheel 31 = .ok (.ireturn, 1) := by decide +kernel
theorem dX12_wheel_32 : decode cX12_wheel 32 = .ok (.aload_n 0, 1) := by decide +kernel
theorem dX12_wheel_33 : decode cX12_wheel 33 = .ok (.invokevirtual 48, 3) := by decide +kernel
theorem dX12_wheel_36 : decode cX12_wheel 36 = .ok (.ifCond .ne 6, 3) := by decide +kernel
theorem dX12_wheel_39 : decode cX12_wheel 39 = .ok (.bipush (-3), 2) := by decide +kernel
theorem dX12_wheel_41 : decode cX12_wheel 41 = .ok (.ireturn, 1) := by decide +kernel
theorem dX12_wheel_42 : decode cX12_wheel 42 = .ok (.iload_n 2, 1) := by decide +kernel
theorem dX12_wheel_43 : decode cX12_wheel 43 = .ok (.aload_n 0, 1) := by decide +kernel
theorem dX12_wheel_44 : decode cX12_wheel 44 = .ok (.invokevirtual 48, 3) := by decide +kernel
theorem dX12_wheel_47 : decode cX12_wheel 47 = .ok (.if_icmp .le 6, 3) := by decide +kernel
theorem dX12_wheel_50 : decode cX12_wheel 50 = .ok (.bipush (-5), 2) := by decide +kernel
theorem dX12_wheel_52 : decode cX12_wheel 52 = .ok (.ireturn, 1) := by decide +kernel
theorem dX12_wheel_53 : decode cX12_wheel 53 = .ok (.aload_n 0, 1) := by decide +kernel
theorem dX12_wheel_54 : decode cX12_wheel 54 = .ok (.sipush 1023, 3) := by decide +kernel
theorem dX12_wheel_57 : decode cX12_wheel 57 = .ok (.invokevirtual 185, 3) := by decide +kernel
theorem dX12_wheel_60 : decode cX12_wheel 60 = .ok (.aload_n 0, 1) := by decide +kernel
theorem dX12_wheel_61 : decode cX12_wheel 61 = .ok (.iload_n 1, 1) := by decide +kernel
theorem dX12_wheel_62 : decode cX12_wheel 62 = .ok (.aload_n 0, 1) := by decide +kernel
theorem dX12_wheel_63 : decode cX12_wheel 63 = .ok (.invokevirtual 56, 3) := by decide +kernel
theorem dX12_wheel_66 : decode cX12_wheel 66 = .ok (.iconst 0, 1) := by decide +kernel
theorem dX12_wheel_67 : decode cX12_wheel 67 = .ok (.iconst 0, 1) := by decide +kernel
theorem dX12_wheel_68 : decode cX12_wheel 68 = .ok (.invokevirtual 207, 3) := by decide +kernel
theorem dX12_wheel_71 : decode cX12_wheel 71 = .ok (.istore 4, 2) := by decide +kernel
theorem dX12_wheel_73 : decode cX12_wheel 73 = .ok (.iconst (-1), 1) := by decide +kernel
theorem dX12_wheel_74 : decode cX12_wheel 74 = .ok (.istore 5, 2) := by decide +kernel
theorem dX12_wheel_76 : decode cX12_wheel 76 = .ok (.iconst 0, 1) := by decide +kernel
theorem dX12_wheel_77 : decode cX12_wheel 77 = .ok (.istore 6, 2) := by decide +kernel
theorem dX12_wheel_79 : decode cX12_wheel 79 = .ok (.iconst 0, 1) := by decide +kernel
theorem dX12_wheel_80 : decode cX12_wheel 80 = .ok (.istore 7, 2) := by decide +kernel
theorem dX12_wheel_82 : decode cX12_wheel 82 = .ok (.iload 7, 2) := by decide +kernel
theorem dX12_wheel_84 : decode cX12_wheel 84 = .ok (.iload_n 2, 1) := by decide +kernel
theorem dX12_wheel_85 : decode cX12_wheel 85 = .ok (.iadd, 1) := by decide +kernel
theorem dX12_wheel_86 : decode cX12_wheel 86 = .ok (.aload_n 0, 1) := by decide +kernel
theorem dX12_wheel_87 : decode cX12_wheel 87 = .ok (.invokevirtual 48, 3) := by decide +kernel
theorem dX12_wheel_90 : decode cX12_wheel 90 = .ok (.if_icmp .gt 71, 3) := by decide +kernel
theorem dX12_wheel_93 : decode cX12_wheel 93 = .ok (.aload_n 0, 1) := by decide +kernel
theorem dX12_wheel_94 : decode cX12_wheel 94 = .ok (.iload_n 1, 1) := by decide +kernel
theorem dX12_wheel_95 : decode cX12_wheel 95 = .ok (.aload_n 0, 1) := by decide +kernel
theorem dX12_wheel_96 : decode cX12_wheel 96 = .ok (.invokevirtual 56, 3) := by decide +kernel
theorem dX12_wheel_99 : decode cX12_wheel 99 = .ok (.iload 7, 2) := by decide +kernel
theorem dX12_wheel_101 : decode cX12_wheel 101 = .ok (.iload_n 2, 1) := by decide +kernel
theorem dX12_wheel_102 : decode cX12_wheel 102 = .ok (.invokevirtual 207, 3) := by decide +kernel
theorem dX12_wheel_105 : decode cX12_wheel 105 = .ok (.istore 8, 2) := by decide +kernel
theorem dX12_wheel_107 : decode cX12_wheel 107 = .ok (.iload 5, 2) := by decide +kernel
theorem dX12_wheel_109 : decode cX12_wheel 109 = .ok (.iconst (-1), 1) := by decide +kernel
theorem dX12_wheel_110 : decode cX12_wheel 110 = .ok (.if_icmp .eq 10, 3) := by decide +kernel
theorem dX12_wheel_113 : decode cX12_wheel 113 = .ok (.iload 8, 2) := by decide +kernel
theorem dX12_wheel_115 : decode cX12_wheel 115 = .ok (.iload 6, 2) := by decide +kernel
theorem dX12_wheel_117 : decode cX12_wheel 117 = .ok (.if_icmp .ge 7, 3) := by decide +kernel
theorem dX12_wheel_120 : decode cX12_wheel 120 = .ok (.iconst 1, 1) := by decide +kernel
theorem dX12_wheel_121 : decode cX12_wheel 121 = .ok (.goto 4, 3) := by decide +kernel
theorem dX12_wheel_124 : decode cX12_wheel 124 = .ok (.iconst 0, 1) := by decide +kernel
theorem dX12_wheel_125 : decode cX12_wheel 125 = .ok (.istore 9, 2) := by decide +kernel
theorem dX12_wheel_127 : decode cX12_wheel 127 = .ok (.iload 9, 2) := by decide +kernel
theorem dX12_wheel_129 : decode cX12_wheel 129 = .ok (.ifCond .eq 8, 3) := by decide +kernel
theorem dX12_wheel_132 : decode cX12_wheel 132 = .ok (.iload 7, 2) := by decide +kernel
theorem dX12_wheel_134 : decode cX12_wheel 134 = .ok (.goto 5, 3) := by decide +kernel
theorem dX12_wheel_137 : decode cX12_wheel 137 = .ok (.iload 5, 2) := by decide +kernel
theorem dX12_wheel_139 : decode cX12_wheel 139 = .ok (.istore 5, 2) := by decide +kernel
theorem dX12_wheel_141 : decode cX12_wheel 141 = .ok (.iload 9, 2) := by decide +kernel
theorem dX12_wheel_143 : decode cX12_wheel 143 = .ok (.ifCond .eq 8, 3) := by decide +kernel
theorem dX12_wheel_146 : decode cX12_wheel 146 = .ok (.iload 8, 2) := by decide +kernel
theorem dX12_wheel_148 : decode cX12_wheel 148 = .ok (.goto 5, 3) := by decide +kernel
theorem dX12_wheel_151 : decode cX12_wheel 151 = .ok (.iload 6, 2) := by decide +kernel
theorem dX12_wheel_153 : decode cX12_wheel 153 = .ok (.istore 6, 2) := by decide +kernel
theorem dX12_wheel_155 : decode cX12_wheel 155 = .ok (.iinc 7 1, 3) := by decide +kernel
theorem dX12_wheel_158 : decode cX12_wheel 158 = .ok (.goto (-76), 3) := by decide +kernel
theorem dX12_wheel_161 : decode cX12_wheel 161 = .ok (.iload_n 3, 1) := by decide +kernel
theorem dX12_wheel_162 : decode cX12_wheel 162 = .ok (.ifCond .ne 8, 3) := by decide +kernel
theorem dX12_wheel_165 : decode cX12_wheel 165 = .ok (.iload 5, 2) := by decide +kernel
theorem dX12_wheel_167 : decode cX12_wheel 167 = .ok (.goto 8, 3) := by decide +kernel
theorem dX12_wheel_170 : decode cX12_wheel 170 = .ok (.iload 4, 2) := by decide +kernel
theorem dX12_wheel_172 : decode cX12_wheel 172 = .ok (.iload 6, 2) := by decide +kernel
theorem dX12_wheel_174 : decode cX12_wheel 174 = .ok (.isub, 1) := by decide +kernel
theorem dX12_wheel_175 : decode cX12_wheel 175 = .ok (.ireturn, 1) := by decide +kernel
theorem dX12_wind_0 : decode cX12_wind 0 = .ok (.aload_n 0, 1) := by decide +kernel
theorem dX12_wind_1 : decode cX12_wind 1 = .ok (.getfield 9, 3) := by decide +kernel
theorem dX12_wind_4 : decode cX12_wind 4 = .ok (.sipush 323, 3) := by decide +kernel
theorem dX12_wind_7 : decode cX12_wind 7 = .ok (.bipush 8, 2) := by decide +kernel
theorem dX12_wind_9 : decode cX12_wind 9 = .ok (.aload_n 0, 1) := by decide +kernel
theorem dX12_wind_10 : decode cX12_wind 10 = .ok (.getfield 9, 3) := by decide +kernel
theorem dX12_wind_13 : decode cX12_wind 13 = .ok (.iconst 4, 1) := by decide +kernel
theorem dX12_wind_14 : decode cX12_wind 14 = .ok (.iaload, 1) := by decide +kernel
theorem dX12_wind_15 : decode cX12_wind 15 = .ok (.imul, 1) := by decide +kernel
theorem dX12_wind_16 : decode cX12_wind 16 = .ok (.iadd, 1) := by decide +kernel
theorem dX12_wind_17 : decode cX12_wind 17 = .ok (.iload_n 1, 1) := by decide +kernel
theorem dX12_wind_18 : decode cX12_wind 18 = .ok (.iadd, 1) := by decide +kernel
theorem dX12_wind_19 : decode cX12_wind 19 = .ok (.iaload, 1) := by decide +kernel
theorem dX12_wind_20 : decode cX12_wind 20 = .ok (.ireturn, 1) := by decide +kernel
