theorem dX11_act_0 : decode cX11_act 0 = .ok (.aload_n 0, 1) := by decide +kernel
theorem dX11_act_1 : decode cX11_act 1 = .ok (.getfield 12, 3) := by decide +kernel
theorem dX11_act_4 : decode cX11_act 4 = .ok (.iconst 0, 1) := by decide +kernel
theorem dX11_act_5 : decode cX11_act 5 = .ok (.putfield 231, 3) := by decide +kernel
theorem dX11_act_8 : decode cX11_act 8 = .ok (.aload_n 0, 1) := by decide +kernel
theorem dX11_act_9 : decode cX11_act 9 = .ok (.getfield 12, 3) := by decide +kernel
theorem dX11_act_12 : decode cX11_act 12 = .ok (.iload_n 1, 1) := by decide +kernel
theorem dX11_act_13 : decode cX11_act 13 = .ok (.invokevirtual 144, 3) := by decide +kernel
theorem dX11_act_16 : decode cX11_act 16 = .ok (.astore 4, 2) := by decide +kernel
theorem dX11_act_18 : decode cX11_act 18 = .ok (.aload 4, 2) := by decide +kernel
theorem dX11_act_20 : decode cX11_act 20 = .ok (.ifnonnull 5, 3) := by decide +kernel
theorem dX11_act_23 : decode cX11_act 23 = .ok (.iconst 0, 1) := by decide +kernel
theorem dX11_act_24 : decode cX11_act 24 = .ok (.ireturn, 1) := by decide +kernel
theorem dX11_act_25 : decode cX11_act 25 = .ok (.iload_n 2, 1) := by decide +kernel
theorem dX11_act_26 : decode cX11_act 26 = .ok (.tableswitch 59 0 2 #[26, 37, 48], 26) := by decide +kernel
theorem dX11_act_52 : decode cX11_act 52 = .ok (.aload 4, 2) := by decide +kernel
theorem dX11_act_54 : decode cX11_act 54 = .ok (.aload_n 0, 1) := by decide +kernel
theorem dX11_act_55 : decode cX11_act 55 = .ok (.getfield 12, 3) := by decide +kernel
theorem dX11_act_58 : decode cX11_act 58 = .ok (.iload_n 3, 1) := by decide +kernel
theorem dX11_act_59 : decode cX11_act 59 = .ok (.invokevirtual 234, 3) := by decide +kernel
theorem dX11_act_62 : decode cX11_act 62 = .ok (.ireturn, 1) := by decide +kernel
theorem dX11_act_63 : decode cX11_act 63 = .ok (.aload 4, 2) := by decide +kernel
theorem dX11_act_65 : decode cX11_act 65 = .ok (.aload_n 0, 1) := by decide +kernel
theorem dX11_act_66 : decode cX11_act 66 = .ok (.getfield 12, 3) := by decide +kernel
theorem dX11_act_69 : decode cX11_act 69 = .ok (.iload_n 3, 1) := by decide +kernel
theorem dX11_act_70 : decode cX11_act 70 = .ok (.invokevirtual 240, 3) := by decide +kernel
theorem dX11_act_73 : decode cX11_act 73 = .ok (.ireturn, 1) := by decide +kernel
theorem dX11_act_74 : decode cX11_act 74 = .ok (.aload 4, 2) := by decide +kernel
theorem dX11_act_76 : decode cX11_act 76 = .ok (.aload_n 0, 1) := by decide +kernel
theorem dX11_act_77 : decode cX11_act 77 = .ok (.getfield 12, 3) := by decide +kernel
theorem dX11_act_80 : decode cX11_act 80 = .ok (.iload_n 3, 1) := by decide +kernel
theorem dX11_act_81 : decode cX11_act 81 = .ok (.invokevirtual 243, 3) := by decide +kernel
theorem dX11_act_84 : decode cX11_act 84 = .ok (.ireturn, 1) := by decide +kernel
theorem dX11_act_85 : decode cX11_act 85 = .ok (.iconst 0, 1) := by decide +kernel
theorem dX11_act_86 : decode cX11_act 86 = .ok (.ireturn, 1) := by decide +kernel
theorem dX11_as_0 : decode cX11_as 0 = .ok (.aload_n 0, 1) := by decide +kernel
theorem dX11_as_1 : decode cX11_as 1 = .ok (.getfield 12, 3) := by decide +kernel
theorem dX11_as_4 : decode cX11_as 4 = .ok (.iload_n 1, 1) := by decide +kernel
theorem dX11_as_5 : decode cX11_as 5 = .ok (.invokevirtual 144, 3) := by decide +kernel
theorem dX11_as_8 : decode cX11_as 8 = .ok (.astore_n 3, 1) := by decide +kernel
theorem dX11_as_9 : decode cX11_as 9 = .ok (.aload_n 3, 1) := by decide +kernel
theorem dX11_as_10 : decode cX11_as 10 = .ok (.ifnull 13, 3) := by decide +kernel
theorem dX11_as_13 : decode cX11_as 13 = .ok (.iload_n 2, 1) := by decide +kernel
theorem dX11_as_14 : decode cX11_as 14 = .ok (.ifCond .lt 9, 3) := by decide +kernel
theorem dX11_as_17 : decode cX11_as 17 = .ok (.iload_n 2, 1) := by decide +kernel
theorem dX11_as_18 : decode cX11_as 18 = .ok (.bipush 6, 2) := by decide +kernel
theorem dX11_as_20 : decode cX11_as 20 = .ok (.if_icmp .le 5, 3) := by decide +kernel
theorem dX11_as_23 : decode cX11_as 23 = .ok (.iconst (-1), 1) := by decide +kernel
theorem dX11_as_24 : decode cX11_as 24 = .ok (.ireturn, 1) := by decide +kernel
theorem dX11_as_25 : decode cX11_as 25 = .ok (.aload_n 3, 1) := by decide +kernel
theorem dX11_as_26 : decode cX11_as 26 = .ok (.iload_n 2, 1) := by decide +kernel
theorem dX11_as_27 : decode cX11_as 27 = .ok (.invokestatic 249, 3) := by decide +kernel
theorem dX11_as_30 : decode cX11_as 30 = .ok (.ifCond .eq 10, 3) := by decide +kernel
theorem dX11_as_33 : decode cX11_as 33 = .ok (.aload_n 3, 1) := by decide +kernel
theorem dX11_as_34 : decode cX11_as 34 = .ok (.getfield 253, 3) := by decide +kernel
theorem dX11_as_37 : decode cX11_as 37 = .ok (.goto 5, 3) := by decide +kernel
theorem dX11_as_40 : decode cX11_as 40 = .ok (.bipush (-6), 2) := by decide +kernel
theorem dX11_as_42 : decode cX11_as 42 = .ok (.ireturn, 1) := by decide +kernel
theorem dX11_by_0 : decode cX11_by 0 = .ok (.iload_n 1, 1) := by decide +kernel
theorem dX11_by_1 : decode cX11_by 1 = .ok (.ifCond .lt 10, 3) := by decide +kernel
theorem dX11_by_4 : decode cX11_by 4 = .ok (.iload_n 1, 1) := by decide +kernel
theorem dX11_by_5 : decode cX11_by 5 = .ok (.sipush 1024, 3) := by decide +kernel
theorem dX11_by_8 : decode cX11_by 8 = .ok (.if_icmp .lt 6, 3) := by decide +kernel
theorem dX11_by_11 : decode cX11_by 11 = .ok (.bipush (-2), 2) := by decide +kernel
theorem dX11_by_13 : decode cX11_by 13 = .ok (.ireturn, 1) := by decide +kernel
theorem dX11_by_14 : decode cX11_by 14 = .ok (.aload_n 0, 1) := by decide +kernel
theorem dX11_by_15 : decode cX11_by 15 = .ok (.getfield 12, 3) := by decide +kernel
theorem dX11_by_18 : decode cX11_by 18 = .ok (.getfield 70, 3) := by decide +kernel
theorem dX11_by_21 : decode cX11_by 21 = .ok (.getfield 102, 3) := by decide +kernel
theorem dX11_by_24 : decode cX11_by 24 = .ok (.ifCond .ne 6, 3) := by decide +kernel
theorem dX11_by_27 : decode cX11_by 27 = .ok (.bipush (-3), 2) := by decide +kernel
theorem dX11_by_29 : decode cX11_by 29 = .ok (.ireturn, 1) := by decide +kernel
theorem dX11_by_30 : decode cX11_by 30 = .ok (.aload_n 0, 1) := by decide +kernel
theorem dX11_by_31 : decode cX11_by 31 = .ok (.getfield 31, 3) := by decide +kernel
theorem dX11_by_34 : decode cX11_by 34 = .ok (.aload_n 0, 1) := by decide +kernel
theorem dX11_by_35 : decode cX11_by 35 = .ok (.getfield 12, 3) := by decide +kernel
theorem dX11_by_38 : decode cX11_by 38 = .ok (.getfield 70, 3) := by decide +kernel
theorem dX11_by_41 : decode cX11_by 41 = .ok (.invokevirtual 158, 3) := by decide +kernel
theorem dX11_by_44 : decode cX11_by 44 = .ok (.aload_n 0, 1) := by decide +kernel
theorem dX11_by_45 : decode cX11_by 45 = .ok (.getfield 31, 3) := by decide +kernel
theorem dX11_by_48 : decode cX11_by 48 = .ok (.iload_n 1, 1) := by decide +kernel
theorem dX11_by_49 : decode cX11_by 49 = .ok (.iconst 1, 1) := by decide +kernel
theorem dX11_by_50 : decode cX11_by 50 = .ok (.ior, 1) := by decide +kernel
theorem dX11_by_51 : decode cX11_by 51 = .ok (.invokevirtual 223, 3) := by decide +kernel
theorem dX11_by_54 : decode cX11_by 54 = .ok (.ireturn, 1) := by decide +kernel
theorem dX11_commonDivisor_0 : decode cX11_commonDivisor 0 = .ok (.lload_n 0, 1) := by decide +kernel
theorem dX11_commonDivisor_1 : decode cX11_commonDivisor 1 = .ok (.lstore 4, 2) := by decide +kernel
theorem dX11_commonDivisor_3 : decode cX11_commonDivisor 3 = .ok (.lload_n 2, 1) := by decide +kernel
theorem dX11_commonDivisor_4 : decode cX11_commonDivisor 4 = .ok (.lstore 6, 2) := by decide +kernel
theorem dX11_commonDivisor_6 : decode cX11_commonDivisor 6 = .ok (.iconst 0, 1) := by decide +kernel
theorem dX11_commonDivisor_7 : decode cX11_commonDivisor 7 = .ok (.istore 8, 2) := by decide +kernel
theorem dX11_commonDivisor_9 : decode cX11_commonDivisor 9 = .ok (.iload 8, 2) := by decide +kernel
theorem dX11_commonDivisor_11 : decode cX11_commonDivisor 11 = .ok (.sipush 1000, 3) := by decide +kernel
theorem dX11_commonDivisor_14 : decode cX11_commonDivisor 14 = .ok (.if_icmp .ge 31, 3) := by decide +kernel
theorem dX11_commonDivisor_17 : decode cX11_commonDivisor 17 = .ok (.lload 6, 2) := by decide +kernel
theorem dX11_commonDivisor_19 : decode cX11_commonDivisor 19 = .ok (.lconst 0, 1) := by decide +kernel
theorem dX11_commonDivisor_20 : decode cX11_commonDivisor 20 = .ok (.lcmp, 1) := by decide +kernel
theorem dX11_commonDivisor_21 : decode cX11_commonDivisor 21 = .ok (.ifCond .eq 24, 3) := by decide +kernel
theorem dX11_commonDivisor_24 : decode cX11_commonDivisor 24 = .ok (.lload 4, 2) := by decide +kernel
theorem dX11_commonDivisor_26 : decode cX11_commonDivisor 26 = .ok (.lload 6, 2) := by decide +kernel
theorem dX11_commonDivisor_28 : decode cX11_commonDivisor 28 = .ok (.lrem, 1) := by decide +kernel
theorem dX11_commonDivisor_29 : decode cX11_commonDivisor 29 = .ok (.lstore 9, 2) := by decide +kernel
theorem dX11_commonDivisor_31 : decode cX11_commonDivisor 31 = .ok (.lload 6, 2) := by decide +kernel
theorem dX11_commonDivisor_33 : decode cX11_commonDivisor 33 = .ok (.lstore 4, 2) := by decide +kernel
theorem dX11_commonDivisor_35 : decode cX11_commonDivisor 35 = .ok (.lload 9, 2) := by decide +kernel
theorem dX11_commonDivisor_37 : decode cX11_commonDivisor 37 = .ok (.lstore 6, 2) := by decide +kernel
theorem dX11_commonDivisor_39 : decode cX11_commonDivisor 39 = .ok (.iinc 8 1, 3) := by decide +kernel
theorem dX11_commonDivisor_42 : decode cX11_commonDivisor 42 = .ok (.goto (-33), 3) := by decide +kernel
theorem dX11_commonDivisor_45 : decode cX11_commonDivisor 45 = .ok (.lload 4, 2) := by decide +kernel
theorem dX11_commonDivisor_47 : decode cX11_commonDivisor 47 = .ok (.lreturn, 1) := by decide +kernel
theorem dX11_copyRow_0 : decode cX11_copyRow 0 = .ok (.iconst 0, 1) := by decide +kernel
theorem dX11_copyRow_1 : decode cX11_copyRow 1 = .ok (.istore_n 2, 1) := by decide +kernel
theorem dX11_copyRow_2 : decode cX11_copyRow 2 = .ok (.iload_n 2, 1) := by decide +kernel
theorem dX11_copyRow_3 : decode cX11_copyRow 3 = .ok (.aload_n 0, 1) := by decide +kernel
theorem dX11_copyRow_4 : decode cX11_copyRow 4 = .ok (.arraylength, 1) := by decide +kernel
theorem dX11_copyRow_5 : decode cX11_copyRow 5 = .ok (.if_icmp .ge 21, 3) := by decide +kernel
theorem dX11_copyRow_8 : decode cX11_copyRow 8 = .ok (.iload_n 2, 1) := by decide +kernel
theorem dX11_copyRow_9 : decode cX11_copyRow 9 = .ok (.aload_n 1, 1) := by decide +kernel
theorem dX11_copyRow_10 : decode cX11_copyRow 10 = .ok (.arraylength, 1) := by decide +kernel
theorem dX11_copyRow_11 : decode cX11_copyRow 11 = .ok (.if_icmp .ge 15, 3) := by decide +kernel
theorem dX11_copyRow_14 : decode cX11_copyRow 14 = .ok (.aload_n 1, 1) := by decide +kernel
theorem dX11_copyRow_15 : decode cX11_copyRow 15 = .ok (.iload_n 2, 1) := by decide +kernel
theorem dX11_copyRow_16 : decode cX11_copyRow 16 = .ok (.aload_n 0, 1) := by decide +kernel
theorem dX11_copyRow_17 : decode cX11_copyRow 17 = .ok (.iload_n 2, 1) := by decide +kernel
theorem dX11_copyRow_18 : decode cX11_copyRow 18 = .ok (.iaload, 1) := by decide +kernel
theorem dX11_copyRow_19 : decode cX11_copyRow 19 = .ok (.iastore, 1) := by decide +kernel
theorem dX11_copyRow_20 : decode cX11_copyRow 20 = .ok (.iinc 2 1, 3) := by decide +kernel
theorem dX11_copyRow_23 : decode cX11_copyRow 23 = .ok (.goto (-21), 3) := by decide +kernel
theorem dX11_copyRow_26 : decode cX11_copyRow 26 = .ok (.return_, 1) := by decide +kernel
theorem dX11_count_0 : decode cX11_count 0 = .ok (.iload_n 1, 1) := by decide +kernel
theorem dX11_count_1 : decode cX11_count 1 = .ok (.tableswitch 90 0 5 #[39, 50, 58, 66, 74, 82], 39) := by decide +kernel
theorem dX11_count_40 : decode cX11_count 40 = .ok (.aload_n 0, 1) := by decide +kernel
theorem dX11_count_41 : decode cX11_count 41 = .ok (.getfield 12, 3) := by decide +kernel
theorem dX11_count_44 : decode cX11_count 44 = .ok (.getfield 70, 3) := by decide +kernel
theorem dX11_count_47 : decode cX11_count 47 = .ok (.getfield 102, 3) := by decide +kernel
theorem dX11_count_50 : decode cX11_count 50 = .ok (.ireturn, 1) := by decide +kernel
theorem dX11_count_51 : decode cX11_count 51 = .ok (.aload_n 0, 1) := by decide +kernel
theorem dX11_count_52 : decode cX11_count 52 = .ok (.getfield 12, 3) := by decide +kernel
theorem dX11_count_55 : decode cX11_count 55 = .ok (.getfield 133, 3) := by decide +kernel
theorem dX11_count_58 : decode cX11_count 58 = .ok (.ireturn, 1) := by decide +kernel
theorem dX11_count_59 : decode cX11_count 59 = .ok (.aload_n 0, 1) := by decide +kernel
theorem dX11_count_60 : decode cX11_count 60 = .ok (.getfield 12, 3) := by decide +kernel
theorem dX11_count_63 : decode cX11_count 63 = .ok (.getfield 57, 3) := by decide +kernel
theorem dX11_count_66 : decode cX11_count 66 = .ok (.ireturn, 1) := by decide +kernel
theorem dX11_count_67 : decode cX11_count 67 = .ok (.aload_n 0, 1) := by decide +kernel
theorem dX11_count_68 : decode cX11_count 68 = .ok (.getfield 12, 3) := by decide +kernel
theorem dX11_count_71 : decode cX11_count 71 = .ok (.getfield 187, 3) := by decide +kernel
theorem dX11_count_74 : decode cX11_count 74 = .ok (.ireturn, 1) := by decide +kernel
theorem dX11_count_75 : decode cX11_count 75 = .ok (.aload_n 0, 1) := by decide +kernel
theorem dX11_count_76 : decode cX11_count 76 = .ok (.getfield 12, 3) := by decide +kernel
theorem dX11_count_79 : decode cX11_count 79 = .ok (.getfield 49, 3) := by decide +kernel
theorem dX11_count_82 : decode cX11_count 82 = .ok (.ireturn, 1) := by decide +kernel
theorem dX11_count_83 : decode cX11_count 83 = .ok (.aload_n 0, 1) := by decide +kernel
theorem dX11_count_84 : decode cX11_count 84 = .ok (.getfield 12, 3) := by decide +kernel
theorem dX11_count_87 : decode cX11_count 87 = .ok (.getfield 231, 3) := by decide +kernel
theorem dX11_count_90 : decode cX11_count 90 = .ok (.ireturn, 1) := by decide +kernel
theorem dX11_count_91 : decode cX11_count 91 = .ok (.iconst (-1), 1) := by decide +kernel
theorem dX11_count_92 : decode cX11_count 92 = .ok (.ireturn, 1) := by decide +kernel
theorem dX11_countedRow_0 : decode cX11_countedRow 0 = .ok (.aload_n 0, 1) := by decide +kernel
theorem dX11_countedRow_1 : decode cX11_countedRow 1 = .ok (.getfield 12, 3) := by decide +kernel
theorem dX11_countedRow_4 : decode cX11_countedRow 4 = .ok (.getfield 187, 3) := by decide +kernel
theorem dX11_countedRow_7 : decode cX11_countedRow 7 = .ok (.aload_n 0, 1) := by decide +kernel
theorem dX11_countedRow_8 : decode cX11_countedRow 8 = .ok (.getfield 12, 3) := by decide +kernel
theorem dX11_countedRow_11 : decode cX11_countedRow 11 = .ok (.getfield 70, 3) := by decide +kernel
theorem dX11_countedRow_14 : decode cX11_countedRow 14 = .ok (.getfield 102, 3) := by decide +kernel
theorem dX11_countedRow_17 : decode cX11_countedRow 17 = .ok (.invokestatic 286, 3) := by decide +kernel
theorem dX11_countedRow_20 : decode cX11_countedRow 20 = .ok (.ireturn, 1) := by decide +kernel
theorem dX11_effortOf_0 : decode cX11_effortOf 0 = .ok (.aload_n 1, 1) := by decide +kernel
theorem dX11_effortOf_1 : decode cX11_effortOf 1 = .ok (.aload_n 0, 1) := by decide +kernel
theorem dX11_effortOf_2 : decode cX11_effortOf 2 = .ok (.getfield 12, 3) := by decide +kernel
theorem dX11_effortOf_5 : decode cX11_effortOf 5 = .ok (.aload_n 0, 1) := by decide +kernel
theorem dX11_effortOf_6 : decode cX11_effortOf 6 = .ok (.getfield 31, 3) := by decide +kernel
theorem dX11_effortOf_9 : decode cX11_effortOf 9 = .ok (.iload_n 2, 1) := by decide +kernel
theorem dX11_effortOf_10 : decode cX11_effortOf 10 = .ok (.iload_n 3, 1) := by decide +kernel
theorem dX11_effortOf_11 : decode cX11_effortOf 11 = .ok (.invokevirtual 282, 3) := by decide +kernel
theorem dX11_effortOf_14 : decode cX11_effortOf 14 = .ok (.istore 4, 2) := by decide +kernel
theorem dX11_effortOf_16 : decode cX11_effortOf 16 = .ok (.iload 4, 2) := by decide +kernel
theorem dX11_effortOf_18 : decode cX11_effortOf 18 = .ok (.bipush 9, 2) := by decide +kernel
theorem dX11_effortOf_20 : decode cX11_effortOf 20 = .ok (.invokestatic 286, 3) := by decide +kernel
theorem dX11_effortOf_23 : decode cX11_effortOf 23 = .ok (.istore 5, 2) := by decide +kernel
theorem dX11_effortOf_25 : decode cX11_effortOf 25 = .ok (.iload 5, 2) := by decide +kernel
theorem dX11_effortOf_27 : decode cX11_effortOf 27 = .ok (.ifCond .le 29, 3) := by decide +kernel
theorem dX11_effortOf_30 : decode cX11_effortOf 30 = .ok (.aload_n 0, 1) := by decide +kernel
theorem dX11_effortOf_31 : decode cX11_effortOf 31 = .ok (.getfield 12, 3) := by decide +kernel
theorem dX11_effortOf_34 : decode cX11_effortOf 34 = .ok (.getfield 70, 3) := by decide +kernel
theorem dX11_effortOf_37 : decode cX11_effortOf 37 = .ok (.iload_n 2, 1) := by decide +kernel
theorem dX11_effortOf_38 : decode cX11_effortOf 38 = .ok (.iload 5, 2) := by decide +kernel
theorem dX11_effortOf_40 : decode cX11_effortOf 40 = .ok (.iload_n 3, 1) := by decide +kernel
theorem dX11_effortOf_41 : decode cX11_effortOf 41 = .ok (.invokevirtual 130, 3) := by decide +kernel
theorem dX11_effortOf_44 : decode cX11_effortOf 44 = .ok (.ifCond .lt 6, 3) := by decide +kernel
theorem dX11_effortOf_47 : decode cX11_effortOf 47 = .ok (.iload 5, 2) := by decide +kernel
theorem dX11_effortOf_49 : decode cX11_effortOf 49 = .ok (.ireturn, 1) := by decide +kernel
theorem dX11_effortOf_50 : decode cX11_effortOf 50 = .ok (.iinc 5 (-1), 3) := by decide +kernel
theorem dX11_effortOf_53 : decode cX11_effortOf 53 = .ok (.goto (-28), 3) := by decide +kernel
theorem dX11_effortOf_56 : decode cX11_effortOf 56 = .ok (.iconst 0, 1) := by decide +kernel
theorem dX11_effortOf_57 : decode cX11_effortOf 57 = .ok (.ireturn, 1) := by decide +kernel
theorem dX11_feed_0 : decode cX11_feed 0 = .ok (.iload_n 3, 1) := by decide +kernel
theorem dX11_feed_1 : decode cX11_feed 1 = .ok (.iconst 1, 1) := by decide +kernel
theorem dX11_feed_2 : decode cX11_feed 2 = .ok (.if_icmp .lt 9, 3) := by decide +kernel
theorem dX11_feed_5 : decode cX11_feed 5 = .ok (.iload_n 3, 1) := by decide +kernel
theorem dX11_feed_6 : decode cX11_feed 6 = .ok (.bipush 8, 2) := by decide +kernel
theorem dX11_feed_8 : decode cX11_feed 8 = .ok (.if_icmp .le 6, 3) := by decide +kernel
theorem dX11_feed_11 : decode cX11_feed 11 = .ok (.bipush (-2), 2) := by decide +kernel
theorem dX11_feed_13 : decode cX11_feed 13 = .ok (.ireturn, 1) := by decide +kernel
theorem dX11_feed_14 : decode cX11_feed 14 = .ok (.aload_n 0, 1) := by decide +kernel
theorem dX11_feed_15 : decode cX11_feed 15 = .ok (.getfield 12, 3) := by decide +kernel
theorem dX11_feed_18 : decode cX11_feed 18 = .ok (.getfield 49, 3) := by decide +kernel
theorem dX11_feed_21 : decode cX11_feed 21 = .ok (.iload_n 3, 1) := by decide +kernel
theorem dX11_feed_22 : decode cX11_feed 22 = .ok (.iadd, 1) := by decide +kernel
theorem dX11_feed_23 : decode cX11_feed 23 = .ok (.bipush 120, 2) := by decide +kernel
theorem dX11_feed_25 : decode cX11_feed 25 = .ok (.if_icmp .le 6, 3) := by decide +kernel
theorem dX11_feed_28 : decode cX11_feed 28 = .ok (.bipush (-4), 2) := by decide +kernel
theorem dX11_feed_30 : decode cX11_feed 30 = .ok (.ireturn, 1) := by decide +kernel
theorem dX11_feed_31 : decode cX11_feed 31 = .ok (.iload_n 3, 1) := by decide +kernel
theorem dX11_feed_32 : decode cX11_feed 32 = .ok (.iconst 1, 1) := by decide +kernel
theorem dX11_feed_33 : decode cX11_feed 33 = .ok (.isub, 1) := by decide +kernel
theorem dX11_feed_34 : decode cX11_feed 34 = .ok (.istore 4, 2) := by decide +kernel
theorem dX11_feed_36 : decode cX11_feed 36 = .ok (.iload 4, 2) := by decide +kernel
theorem dX11_feed_38 : decode cX11_feed 38 = .ok (.ifCond .lt 28, 3) := by decide +kernel
theorem dX11_feed_41 : decode cX11_feed 41 = .ok (.aload_n 0, 1) := by decide +kernel
theorem dX11_feed_42 : decode cX11_feed 42 = .ok (.getfield 12, 3) := by decide +kernel
theorem dX11_feed_45 : decode cX11_feed 45 = .ok (.lload_n 1, 1) := by decide +kernel
theorem dX11_feed_46 : decode cX11_feed 46 = .ok (.bipush 8, 2) := by decide +kernel
theorem dX11_feed_48 : decode cX11_feed 48 = .ok (.iload 4, 2) := by decide +kernel
theorem dX11_feed_50 : decode cX11_feed 50 = .ok (.imul, 1) := by decide +kernel
theorem dX11_feed_51 : decode cX11_feed 51 = .ok (.lushr, 1) := by decide +kernel
theorem dX11_feed_52 : decode cX11_feed 52 = .ok (.l2i, 1) := by decide +kernel
theorem dX11_feed_53 : decode cX11_feed 53 = .ok (.sipush 255, 3) := by decide +kernel
theorem dX11_feed_56 : decode cX11_feed 56 = .ok (.iand, 1) := by decide +kernel
theorem dX11_feed_57 : decode cX11_feed 57 = .ok (.invokevirtual 53, 3) := by decide +kernel
theorem dX11_feed_60 : decode cX11_feed 60 = .ok (.iinc 4 (-1), 3) := by decide +kernel
theorem dX11_feed_63 : decode cX11_feed 63 = .ok (.goto (-27), 3) := by decide +kernel
theorem dX11_feed_66 : decode cX11_feed 66 = .ok (.aload_n 0, 1) := by decide +kernel
theorem dX11_feed_67 : decode cX11_feed 67 = .ok (.getfield 12, 3) := by decide +kernel
theorem dX11_feed_70 : decode cX11_feed 70 = .ok (.getfield 49, 3) := by decide +kernel
theorem dX11_feed_73 : decode cX11_feed 73 = .ok (.ireturn, 1) := by decide +kernel
theorem dX11_firstEmpty_0 : decode cX11_firstEmpty 0 = .ok (.aload_n 0, 1) := by decide +kernel
theorem dX11_firstEmpty_1 : decode cX11_firstEmpty 1 = .ok (.invokevirtual 294, 3) := by decide +kernel
theorem dX11_firstEmpty_4 : decode cX11_firstEmpty 4 = .ok (.istore_n 1, 1) := by decide +kernel
theorem dX11_firstEmpty_5 : decode cX11_firstEmpty 5 = .ok (.aload_n 0, 1) := by decide +kernel
theorem dX11_firstEmpty_6 : decode cX11_firstEmpty 6 = .ok (.getfield 12, 3) := by decide +kernel
theorem dX11_firstEmpty_9 : decode cX11_firstEmpty 9 = .ok (.getfield 70, 3) := by decide +kernel
theorem dX11_firstEmpty_12 : decode cX11_firstEmpty 12 = .ok (.getfield 108, 3) := by decide +kernel
theorem dX11_firstEmpty_15 : decode cX11_firstEmpty 15 = .ok (.istore_n 2, 1) := by decide +kernel
theorem dX11_firstEmpty_16 : decode cX11_firstEmpty 16 = .ok (.iconst 0, 1) := by decide +kernel
theorem dX11_firstEmpty_17 : decode cX11_firstEmpty 17 = .ok (.istore_n 3, 1) := by decide +kernel
theorem dX11_firstEmpty_18 : decode cX11_firstEmpty 18 = .ok (.iload_n 3, 1) := by decide +kernel
theorem dX11_firstEmpty_19 : decode cX11_firstEmpty 19 = .ok (.iload_n 1, 1) := by decide +kernel
theorem dX11_firstEmpty_20 : decode cX11_firstEmpty 20 = .ok (.if_icmp .ge 40, 3) := by decide +kernel
theorem dX11_firstEmpty_23 : decode cX11_firstEmpty 23 = .ok (.iload_n 2, 1) := by decide +kernel
theorem dX11_firstEmpty_24 : decode cX11_firstEmpty 24 = .ok (.ifCond .lt 36, 3) := by decide +kernel
theorem dX11_firstEmpty_27 : decode cX11_firstEmpty 27 = .ok (.aload_n 0, 1) := by decide +kernel
theorem dX11_firstEmpty_28 : decode cX11_firstEmpty 28 = .ok (.getfield 12, 3) := by decide +kernel
theorem dX11_firstEmpty_31 : decode cX11_firstEmpty 31 = .ok (.getfield 70, 3) := by decide +kernel
theorem dX11_firstEmpty_34 : decode cX11_firstEmpty 34 = .ok (.iload_n 3, 1) := by decide +kernel
theorem dX11_firstEmpty_35 : decode cX11_firstEmpty 35 = .ok (.aload_n 0, 1) := by decide +kernel
theorem dX11_firstEmpty_36 : decode cX11_firstEmpty 36 = .ok (.getfield 12, 3) := by decide +kernel
theorem dX11_firstEmpty_39 : decode cX11_firstEmpty 39 = .ok (.iload_n 3, 1) := by decide +kernel
theorem dX11_firstEmpty_40 : decode cX11_firstEmpty 40 = .ok (.invokevirtual 297, 3) := by decide +kernel
theorem dX11_firstEmpty_43 : decode cX11_firstEmpty 43 = .ok (.iload_n 2, 1) := by decide +kernel
theorem dX11_firstEmpty_44 : decode cX11_firstEmpty 44 = .ok (.invokevirtual 130, 3) := by decide +kernel
theorem dX11_firstEmpty_47 : decode cX11_firstEmpty 47 = .ok (.istore_n 2, 1) := by decide +kernel
theorem dX11_firstEmpty_48 : decode cX11_firstEmpty 48 = .ok (.iload_n 2, 1) := by decide +kernel
theorem dX11_firstEmpty_49 : decode cX11_firstEmpty 49 = .ok (.ifCond .ne 5, 3) := by decide +kernel
theorem dX11_firstEmpty_52 : decode cX11_firstEmpty 52 = .ok (.iload_n 3, 1) := by decide +kernel
theorem dX11_firstEmpty_53 : decode cX11_firstEmpty 53 = .ok (.ireturn, 1) := by decide +kernel
theorem dX11_firstEmpty_54 : decode cX11_firstEmpty 54 = .ok (.iinc 3 1, 3) := by decide +kernel
theorem dX11_firstEmpty_57 : decode cX11_firstEmpty 57 = .ok (.goto (-39), 3) := by decide +kernel
theorem dX11_firstEmpty_60 : decode cX11_firstEmpty 60 = .ok (.bipush (-5), 2) := by decide +kernel
theorem dX11_firstEmpty_62 : decode cX11_firstEmpty 62 = .ok (.ireturn, 1) := by decide +kernel
theorem dX11_firstThatCannotBe_0 : decode cX11_firstThatCannotBe 0 = .ok (.aload_n 0, 1) := by decide +kernel
theorem dX11_firstThatCannotBe_1 : decode cX11_firstThatCannotBe 1 = .ok (.invokevirtual 294, 3) := by decide +kernel
theorem dX11_firstThatCannotBe_4 : decode cX11_firstThatCannotBe 4 = .ok (.istore_n 1, 1) := by decide +kernel
theorem dX11_firstThatCannotBe_5 : decode cX11_firstThatCannotBe 5 = .ok (.aload_n 0, 1) := by decide +kernel
theorem dX11_firstThatCannotBe_6 : decode cX11_firstThatCannotBe 6 = .ok (.getfield 12, 3) := by decide +kernel
theorem dX11_firstThatCannotBe_9 : decode cX11_firstThatCannotBe 9 = .ok (.getfield 70, 3) := by decide +kernel
theorem dX11_firstThatCannotBe_12 : decode cX11_firstThatCannotBe 12 = .ok (.getfield 108, 3) := by decide +kernel
theorem dX11_firstThatCannotBe_15 : decode cX11_firstThatCannotBe 15 = .ok (.istore_n 2, 1) := by decide +kernel
theorem dX11_firstThatCannotBe_16 : decode cX11_firstThatCannotBe 16 = .ok (.iconst 0, 1) := by decide +kernel
theorem dX11_firstThatCannotBe_17 : decode cX11_firstThatCannotBe 17 = .ok (.istore_n 3, 1) := by decide +kernel
theorem dX11_firstThatCannotBe_18 : decode cX11_firstThatCannotBe 18 = .ok (.iload_n 3, 1) := by decide +kernel
theorem dX11_firstThatCannotBe_19 : decode cX11_firstThatCannotBe 19 = .ok (.iload_n 1, 1) := by decide +kernel
theorem dX11_firstThatCannotBe_20 : decode cX11_firstThatCannotBe 20 = .ok (.if_icmp .ge 36, 3) := by decide +kernel
theorem dX11_firstThatCannotBe_23 : decode cX11_firstThatCannotBe 23 = .ok (.aload_n 0, 1) := by decide +kernel
theorem dX11_firstThatCannotBe_24 : decode cX11_firstThatCannotBe 24 = .ok (.getfield 12, 3) := by decide +kernel
theorem dX11_firstThatCannotBe_27 : decode cX11_firstThatCannotBe 27 = .ok (.getfield 70, 3) := by decide +kernel
theorem dX11_firstThatCannotBe_30 : decode cX11_firstThatCannotBe 30 = .ok (.iload_n 3, 1) := by decide +kernel
theorem dX11_firstThatCannotBe_31 : decode cX11_firstThatCannotBe 31 = .ok (.aload_n 0, 1) := by decide +kernel
theorem dX11_firstThatCannotBe_32 : decode cX11_firstThatCannotBe 32 = .ok (.getfield 12, 3) := by decide +kernel
theorem dX11_firstThatCannotBe_35 : decode cX11_firstThatCannotBe 35 = .ok (.iload_n 3, 1) := by decide +kernel
theorem dX11_firstThatCannotBe_36 : decode cX11_firstThatCannotBe 36 = .ok (.invokevirtual 297, 3) := by decide +kernel
theorem dX11_firstThatCannotBe_39 : decode cX11_firstThatCannotBe 39 = .ok (.iload_n 2, 1) := by decide +kernel
theorem dX11_firstThatCannotBe_40 : decode cX11_firstThatCannotBe 40 = .ok (.invokevirtual 130, 3) := by decide +kernel
theorem dX11_firstThatCannotBe_43 : decode cX11_firstThatCannotBe 43 = .ok (.istore_n 2, 1) := by decide +kernel
theorem dX11_firstThatCannotBe_44 : decode cX11_firstThatCannotBe 44 = .ok (.iload_n 2, 1) := by decide +kernel
theorem dX11_firstThatCannotBe_45 : decode cX11_firstThatCannotBe 45 = .ok (.ifCond .ge 5, 3) := by decide +kernel
theorem dX11_firstThatCannotBe_48 : decode cX11_firstThatCannotBe 48 = .ok (.iload_n 3, 1) := by decide +kernel
theorem dX11_firstThatCannotBe_49 : decode cX11_firstThatCannotBe 49 = .ok (.ireturn, 1) := by decide +kernel
theorem dX11_firstThatCannotBe_50 : decode cX11_firstThatCannotBe 50 = .ok (.iinc 3 1, 3) := by decide +kernel
theorem dX11_firstThatCannotBe_53 : decode cX11_firstThatCannotBe 53 = .ok (.goto (-35), 3) := by decide +kernel
theorem dX11_firstThatCannotBe_56 : decode cX11_firstThatCannotBe 56 = .ok (.bipush (-5), 2) := by decide +kernel
theorem dX11_firstThatCannotBe_58 : decode cX11_firstThatCannotBe 58 = .ok (.ireturn, 1) := by decide +kernel
theorem dX11_fraction_0 : decode cX11_fraction 0 = .ok (.lconst 1, 1) := by decide +kernel
theorem dX11_fraction_1 : decode cX11_fraction 1 = .ok (.lstore 4, 2) := by decide +kernel
theorem dX11_fraction_3 : decode cX11_fraction 3 = .ok (.iconst 0, 1) := by decide +kernel
theorem dX11_fraction_4 : decode cX11_fraction 4 = .ok (.istore 6, 2) := by decide +kernel
theorem dX11_fraction_6 : decode cX11_fraction 6 = .ok (.iload 6, 2) := by decide +kernel
theorem dX11_fraction_8 : decode cX11_fraction 8 = .ok (.aload_n 0, 1) := by decide +kernel
theorem dX11_fraction_9 : decode cX11_fraction 9 = .ok (.getfield 12, 3) := by decide +kernel
theorem dX11_fraction_12 : decode cX11_fraction 12 = .ok (.getfield 70, 3) := by decide +kernel
theorem dX11_fraction_15 : decode cX11_fraction 15 = .ok (.getfield 102, 3) := by decide +kernel
theorem dX11_fraction_18 : decode cX11_fraction 18 = .ok (.if_icmp .ge 17, 3) := by decide +kernel
theorem dX11_fraction_21 : decode cX11_fraction 21 = .ok (.lload 4, 2) := by decide +kernel
theorem dX11_fraction_23 : decode cX11_fraction 23 = .ok (.ldc2_w 306, 3) := by decide +kernel
theorem dX11_fraction_26 : decode cX11_fraction 26 = .ok (.lmul, 1) := by decide +kernel
theorem dX11_fraction_27 : decode cX11_fraction 27 = .ok (.lstore 4, 2) := by decide +kernel
theorem dX11_fraction_29 : decode cX11_fraction 29 = .ok (.iinc 6 1, 3) := by decide +kernel
theorem dX11_fraction_32 : decode cX11_fraction 32 = .ok (.goto (-26), 3) := by decide +kernel
theorem dX11_fraction_35 : decode cX11_fraction 35 = .ok (.lload_n 1, 1) := by decide +kernel
theorem dX11_fraction_36 : decode cX11_fraction 36 = .ok (.lload 4, 2) := by decide +kernel
theorem dX11_fraction_38 : decode cX11_fraction 38 = .ok (.invokestatic 308, 3) := by decide +kernel
theorem dX11_fraction_41 : decode cX11_fraction 41 = .ok (.lstore 6, 2) := by decide +kernel
theorem dX11_fraction_43 : decode cX11_fraction 43 = .ok (.lload 6, 2) := by decide +kernel
theorem dX11_fraction_45 : decode cX11_fraction 45 = .ok (.lconst 1, 1) := by decide +kernel
theorem dX11_fraction_46 : decode cX11_fraction 46 = .ok (.lcmp, 1) := by decide +kernel
theorem dX11_fraction_47 : decode cX11_fraction 47 = .ok (.ifCond .ge 7, 3) := by decide +kernel
theorem dX11_fraction_50 : decode cX11_fraction 50 = .ok (.ldc2_w 204, 3) := by decide +kernel
theorem dX11_fraction_53 : decode cX11_fraction 53 = .ok (.lreturn, 1) := by decide +kernel
theorem dX11_fraction_54 : decode cX11_fraction 54 = .ok (.iload_n 3, 1) := by decide +kernel
theorem dX11_fraction_55 : decode cX11_fraction 55 = .ok (.ifCond .ne 10, 3) := by decide +kernel
theorem dX11_fraction_58 : decode cX11_fraction 58 = .ok (.lload_n 1, 1) := by decide +kernel
theorem dX11_fraction_59 : decode cX11_fraction 59 = .ok (.lload 6, 2) := by decide +kernel
theorem dX11_fraction_61 : decode cX11_fraction 61 = .ok (.ldiv, 1) := by decide +kernel
theorem dX11_fraction_62 : decode cX11_fraction 62 = .ok (.goto 8, 3) := by decide +kernel
theorem dX11_fraction_65 : decode cX11_fraction 65 = .ok (.lload 4, 2) := by decide +kernel
theorem dX11_fraction_67 : decode cX11_fraction 67 = .ok (.lload 6, 2) := by decide +kernel
theorem dX11_fraction_69 : decode cX11_fraction 69 = .ok (.ldiv, 1) := by decide +kernel
theorem dX11_fraction_70 : decode cX11_fraction 70 = .ok (.lreturn, 1) := by decide +kernel
theorem dX11_gears_0 : decode cX11_gears 0 = .ok (.iload_n 2, 1) := by decide +kernel
theorem dX11_gears_1 : decode cX11_gears 1 = .ok (.ifCond .lt 8, 3) := by decide +kernel
theorem dX11_gears_4 : decode cX11_gears 4 = .ok (.iload_n 2, 1) := by decide +kernel
theorem dX11_gears_5 : decode cX11_gears 5 = .ok (.iconst 1, 1) := by decide +kernel
theorem dX11_gears_6 : decode cX11_gears 6 = .ok (.if_icmp .le 5, 3) := by decide +kernel
theorem dX11_gears_9 : decode cX11_gears 9 = .ok (.iconst (-1), 1) := by decide +kernel
theorem dX11_gears_10 : decode cX11_gears 10 = .ok (.ireturn, 1) := by decide +kernel
theorem dX11_gears_11 : decode cX11_gears 11 = .ok (.iload_n 1, 1) := by decide +kernel
theorem dX11_gears_12 : decode cX11_gears 12 = .ok (.iconst 1, 1) := by decide +kernel
theorem dX11_gears_13 : decode cX11_gears 13 = .ok (.if_icmp .lt 8, 3) := by decide +kernel
theorem dX11_gears_16 : decode cX11_gears 16 = .ok (.iload_n 1, 1) := by decide +kernel
theorem dX11_gears_17 : decode cX11_gears 17 = .ok (.iconst 4, 1) := by decide +kernel
theorem dX11_gears_18 : decode cX11_gears 18 = .ok (.if_icmp .le 6, 3) := by decide +kernel
theorem dX11_gears_21 : decode cX11_gears 21 = .ok (.bipush (-2), 2) := by decide +kernel
theorem dX11_gears_23 : decode cX11_gears 23 = .ok (.ireturn, 1) := by decide +kernel
theorem dX11_gears_24 : decode cX11_gears 24 = .ok (.aload_n 0, 1) := by decide +kernel
theorem dX11_gears_25 : decode cX11_gears 25 = .ok (.getfield 12, 3) := by decide +kernel
theorem dX11_gears_28 : decode cX11_gears 28 = .ok (.getfield 70, 3) := by decide +kernel
theorem dX11_gears_31 : decode cX11_gears 31 = .ok (.getfield 102, 3) := by decide +kernel
theorem dX11_gears_34 : decode cX11_gears 34 = .ok (.ifCond .ne 6, 3) := by decide +kernel
theorem dX11_gears_37 : decode cX11_gears 37 = .ok (.bipush (-3), 2) := by decide +kernel
theorem dX11_gears_39 : decode cX11_gears 39 = .ok (.ireturn, 1) := by decide +kernel
theorem dX11_gears_40 : decode cX11_gears 40 = .ok (.aload_n 0, 1) := by decide +kernel
theorem dX11_gears_41 : decode cX11_gears 41 = .ok (.getfield 31, 3) := by decide +kernel
theorem dX11_gears_44 : decode cX11_gears 44 = .ok (.aload_n 0, 1) := by decide +kernel
theorem dX11_gears_45 : decode cX11_gears 45 = .ok (.getfield 12, 3) := by decide +kernel
theorem dX11_gears_48 : decode cX11_gears 48 = .ok (.getfield 70, 3) := by decide +kernel
theorem dX11_gears_51 : decode cX11_gears 51 = .ok (.invokevirtual 158, 3) := by decide +kernel
theorem dX11_gears_54 : decode cX11_gears 54 = .ok (.aload_n 0, 1) := by decide +kernel
theorem dX11_gears_55 : decode cX11_gears 55 = .ok (.getfield 31, 3) := by decide +kernel
theorem dX11_gears_58 : decode cX11_gears 58 = .ok (.invokevirtual 214, 3) := by decide +kernel
theorem dX11_gears_61 : decode cX11_gears 61 = .ok (.iload_n 2, 1) := by decide +kernel
theorem dX11_gears_62 : decode cX11_gears 62 = .ok (.ifCond .ne 15, 3) := by decide +kernel
theorem dX11_gears_65 : decode cX11_gears 65 = .ok (.aload_n 0, 1) := by decide +kernel
theorem dX11_gears_66 : decode cX11_gears 66 = .ok (.getfield 31, 3) := by decide +kernel
theorem dX11_gears_69 : decode cX11_gears 69 = .ok (.getfield 217, 3) := by decide +kernel
theorem dX11_gears_72 : decode cX11_gears 72 = .ok (.iload_n 1, 1) := by decide +kernel
theorem dX11_gears_73 : decode cX11_gears 73 = .ok (.iaload, 1) := by decide +kernel
theorem dX11_gears_74 : decode cX11_gears 74 = .ok (.goto 12, 3) := by decide +kernel
theorem dX11_gears_77 : decode cX11_gears 77 = .ok (.aload_n 0, 1) := by decide +kernel
theorem dX11_gears_78 : decode cX11_gears 78 = .ok (.getfield 31, 3) := by decide +kernel
theorem dX11_gears_81 : decode cX11_gears 81 = .ok (.getfield 220, 3) := by decide +kernel
theorem dX11_gears_84 : decode cX11_gears 84 = .ok (.iload_n 1, 1) := by decide +kernel
theorem dX11_gears_85 : decode cX11_gears 85 = .ok (.iaload, 1) := by decide +kernel
theorem dX11_gears_86 : decode cX11_gears 86 = .ok (.ireturn, 1) := by decide +kernel
theorem dX11_go_0 : decode cX11_go 0 = .ok (.aload_n 0, 1) := by decide +kernel
theorem dX11_go_1 : decode cX11_go 1 = .ok (.aload_n 1, 1) := by decide +kernel
theorem dX11_go_2 : decode cX11_go 2 = .ok (.aload_n 0, 1) := by decide +kernel
theorem dX11_go_3 : decode cX11_go 3 = .ok (.getfield 12, 3) := by decide +kernel
theorem dX11_go_6 : decode cX11_go 6 = .ok (.getfield 70, 3) := by decide +kernel
theorem dX11_go_9 : decode cX11_go 9 = .ok (.getfield 108, 3) := by decide +kernel
theorem dX11_go_12 : decode cX11_go 12 = .ok (.iconst 0, 1) := by decide +kernel
theorem dX11_go_13 : decode cX11_go 13 = .ok (.iconst 0, 1) := by decide +kernel
theorem dX11_go_14 : decode cX11_go 14 = .ok (.invokevirtual 227, 3) := by decide +kernel
theorem dX11_go_17 : decode cX11_go 17 = .ok (.return_, 1) := by decide +kernel
theorem dX11_goFrom_0 : decode cX11_goFrom 0 = .ok (.aload_n 0, 1) := by decide +kernel
theorem dX11_goFrom_1 : decode cX11_goFrom 1 = .ok (.getfield 12, 3) := by decide +kernel
theorem dX11_goFrom_4 : decode cX11_goFrom 4 = .ok (.getfield 70, 3) := by decide +kernel
theorem dX11_goFrom_7 : decode cX11_goFrom 7 = .ok (.astore 5, 2) := by decide +kernel
theorem dX11_goFrom_9 : decode cX11_goFrom 9 = .ok (.aload_n 0, 1) := by decide +kernel
theorem dX11_goFrom_10 : decode cX11_goFrom 10 = .ok (.iconst 0, 1) := by decide +kernel
theorem dX11_goFrom_11 : decode cX11_goFrom 11 = .ok (.putfield 172, 3) := by decide +kernel
theorem dX11_goFrom_14 : decode cX11_goFrom 14 = .ok (.aload_n 0, 1) := by decide +kernel
theorem dX11_goFrom_15 : decode cX11_goFrom 15 = .ok (.iload_n 2, 1) := by decide +kernel
theorem dX11_goFrom_16 : decode cX11_goFrom 16 = .ok (.putfield 175, 3) := by decide +kernel
theorem dX11_goFrom_19 : decode cX11_goFrom 19 = .ok (.iconst 0, 1) := by decide +kernel
theorem dX11_goFrom_20 : decode cX11_goFrom 20 = .ok (.istore 6, 2) := by decide +kernel
theorem dX11_goFrom_22 : decode cX11_goFrom 22 = .ok (.iload 6, 2) := by decide +kernel
theorem dX11_goFrom_24 : decode cX11_goFrom 24 = .ok (.aload 5, 2) := by decide +kernel
theorem dX11_goFrom_26 : decode cX11_goFrom 26 = .ok (.getfield 102, 3) := by decide +kernel
theorem dX11_goFrom_29 : decode cX11_goFrom 29 = .ok (.if_icmp .ge 113, 3) := by decide +kernel
theorem dX11_goFrom_32 : decode cX11_goFrom 32 = .ok (.iload 6, 2) := by decide +kernel
theorem dX11_goFrom_34 : decode cX11_goFrom 34 = .ok (.bipush 8, 2) := by decide +kernel
theorem dX11_goFrom_36 : decode cX11_goFrom 36 = .ok (.if_icmp .ge 106, 3) := by decide +kernel
theorem dX11_goFrom_39 : decode cX11_goFrom 39 = .ok (.aload_n 0, 1) := by decide +kernel
theorem dX11_goFrom_40 : decode cX11_goFrom 40 = .ok (.aload_n 1, 1) := by decide +kernel
theorem dX11_goFrom_41 : decode cX11_goFrom 41 = .ok (.iload 6, 2) := by decide +kernel
theorem dX11_goFrom_43 : decode cX11_goFrom 43 = .ok (.aload_n 0, 1) := by decide +kernel
theorem dX11_goFrom_44 : decode cX11_goFrom 44 = .ok (.getfield 175, 3) := by decide +kernel
theorem dX11_goFrom_47 : decode cX11_goFrom 47 = .ok (.invokevirtual 161, 3) := by decide +kernel
theorem dX11_goFrom_50 : decode cX11_goFrom 50 = .ok (.istore 7, 2) := by decide +kernel
theorem dX11_goFrom_52 : decode cX11_goFrom 52 = .ok (.iload 6, 2) := by decide +kernel
theorem dX11_goFrom_54 : decode cX11_goFrom 54 = .ok (.iload_n 3, 1) := by decide +kernel
theorem dX11_goFrom_55 : decode cX11_goFrom 55 = .ok (.if_icmp .lt 14, 3) := by decide +kernel
theorem dX11_goFrom_58 : decode cX11_goFrom 58 = .ok (.iload 6, 2) := by decide +kernel
theorem dX11_goFrom_60 : decode cX11_goFrom 60 = .ok (.iload 4, 2) := by decide +kernel
theorem dX11_goFrom_62 : decode cX11_goFrom 62 = .ok (.if_icmp .ge 7, 3) := by decide +kernel
theorem dX11_goFrom_65 : decode cX11_goFrom 65 = .ok (.iconst 1, 1) := by decide +kernel
theorem dX11_goFrom_66 : decode cX11_goFrom 66 = .ok (.goto 4, 3) := by decide +kernel
theorem dX11_goFrom_69 : decode cX11_goFrom 69 = .ok (.iconst 0, 1) := by decide +kernel
theorem dX11_goFrom_70 : decode cX11_goFrom 70 = .ok (.istore 8, 2) := by decide +kernel
theorem dX11_goFrom_72 : decode cX11_goFrom 72 = .ok (.aload_n 0, 1) := by decide +kernel
theorem dX11_goFrom_73 : decode cX11_goFrom 73 = .ok (.getfield 35, 3) := by decide +kernel
theorem dX11_goFrom_76 : decode cX11_goFrom 76 = .ok (.iload 6, 2) := by decide +kernel
theorem dX11_goFrom_78 : decode cX11_goFrom 78 = .ok (.iload 7, 2) := by decide +kernel
theorem dX11_goFrom_80 : decode cX11_goFrom 80 = .ok (.iastore, 1) := by decide +kernel
theorem dX11_goFrom_81 : decode cX11_goFrom 81 = .ok (.aload_n 0, 1) := by decide +kernel
theorem dX11_goFrom_82 : decode cX11_goFrom 82 = .ok (.dup, 1) := by decide +kernel
theorem dX11_goFrom_83 : decode cX11_goFrom 83 = .ok (.getfield 172, 3) := by decide +kernel
theorem dX11_goFrom_86 : decode cX11_goFrom 86 = .ok (.aload 5, 2) := by decide +kernel
theorem dX11_goFrom_88 : decode cX11_goFrom 88 = .ok (.iload 6, 2) := by decide +kernel
theorem dX11_goFrom_90 : decode cX11_goFrom 90 = .ok (.iload 7, 2) := by decide +kernel
theorem dX11_goFrom_92 : decode cX11_goFrom 92 = .ok (.aload_n 0, 1) := by decide +kernel
theorem dX11_goFrom_93 : decode cX11_goFrom 93 = .ok (.getfield 175, 3) := by decide +kernel
theorem dX11_goFrom_96 : decode cX11_goFrom 96 = .ok (.invokevirtual 127, 3) := by decide +kernel
theorem dX11_goFrom_99 : decode cX11_goFrom 99 = .ok (.iadd, 1) := by decide +kernel
theorem dX11_goFrom_100 : decode cX11_goFrom 100 = .ok (.putfield 172, 3) := by decide +kernel
theorem dX11_goFrom_103 : decode cX11_goFrom 103 = .ok (.aload_n 0, 1) := by decide +kernel
theorem dX11_goFrom_104 : decode cX11_goFrom 104 = .ok (.aload 5, 2) := by decide +kernel
theorem dX11_goFrom_106 : decode cX11_goFrom 106 = .ok (.iload 6, 2) := by decide +kernel
theorem dX11_goFrom_108 : decode cX11_goFrom 108 = .ok (.iload 8, 2) := by decide +kernel
theorem dX11_goFrom_110 : decode cX11_goFrom 110 = .ok (.ifCond .eq 14, 3) := by decide +kernel
theorem dX11_goFrom_113 : decode cX11_goFrom 113 = .ok (.iconst 0, 1) := by decide +kernel
theorem dX11_goFrom_114 : decode cX11_goFrom 114 = .ok (.iload 7, 2) := by decide +kernel
theorem dX11_goFrom_116 : decode cX11_goFrom 116 = .ok (.iconst 2, 1) := by decide +kernel
theorem dX11_goFrom_117 : decode cX11_goFrom 117 = .ok (.isub, 1) := by decide +kernel
theorem dX11_goFrom_118 : decode cX11_goFrom 118 = .ok (.invokestatic 291, 3) := by decide +kernel
theorem dX11_goFrom_121 : decode cX11_goFrom 121 = .ok (.goto 5, 3) := by decide +kernel
theorem dX11_goFrom_124 : decode cX11_goFrom 124 = .ok (.iload 7, 2) := by decide +kernel
theorem dX11_goFrom_126 : decode cX11_goFrom 126 = .ok (.aload_n 0, 1) := by decide +kernel
theorem dX11_goFrom_127 : decode cX11_goFrom 127 = .ok (.getfield 175, 3) := by decide +kernel
theorem dX11_goFrom_130 : decode cX11_goFrom 130 = .ok (.invokevirtual 130, 3) := by decide +kernel
theorem dX11_goFrom_133 : decode cX11_goFrom 133 = .ok (.putfield 175, 3) := by decide +kernel
theorem dX11_goFrom_136 : decode cX11_goFrom 136 = .ok (.iinc 6 1, 3) := by decide +kernel
theorem dX11_goFrom_139 : decode cX11_goFrom 139 = .ok (.goto (-117), 3) := by decide +kernel
theorem dX11_goFrom_142 : decode cX11_goFrom 142 = .ok (.return_, 1) := by decide +kernel
theorem dX11_image_0 : decode cX11_image 0 = .ok (.aload_n 0, 1) := by decide +kernel
theorem dX11_image_1 : decode cX11_image 1 = .ok (.getfield 18, 3) := by decide +kernel
theorem dX11_image_4 : decode cX11_image 4 = .ok (.aload_n 0, 1) := by decide +kernel
theorem dX11_image_5 : decode cX11_image 5 = .ok (.getfield 12, 3) := by decide +kernel
theorem dX11_image_8 : decode cX11_image 8 = .ok (.invokevirtual 256, 3) := by decide +kernel
theorem dX11_image_11 : decode cX11_image 11 = .ok (.aload_n 0, 1) := by decide +kernel
theorem dX11_image_12 : decode cX11_image 12 = .ok (.iconst 1, 1) := by decide +kernel
theorem dX11_image_13 : decode cX11_image 13 = .ok (.putfield 259, 3) := by decide +kernel
theorem dX11_image_16 : decode cX11_image 16 = .ok (.aload_n 0, 1) := by decide +kernel
theorem dX11_image_17 : decode cX11_image 17 = .ok (.getfield 12, 3) := by decide +kernel
theorem dX11_image_20 : decode cX11_image 20 = .ok (.getfield 133, 3) := by decide +kernel
theorem dX11_image_23 : decode cX11_image 23 = .ok (.ireturn, 1) := by decide +kernel
theorem dX11_init_0 : decode cX11_init 0 = .ok (.aload_n 0, 1) := by decide +kernel
theorem dX11_init_1 : decode cX11_init 1 = .ok (.invokespecial 3, 3) := by decide +kernel
theorem dX11_init_4 : decode cX11_init 4 = .ok (.aload_n 0, 1) := by decide +kernel
theorem dX11_init_5 : decode cX11_init 5 = .ok (.new 9, 3) := by decide +kernel
theorem dX11_init_8 : decode cX11_init 8 = .ok (.dup, 1) := by decide +kernel
theorem dX11_init_9 : decode cX11_init 9 = .ok (.invokespecial 11, 3) := by decide +kernel
theorem dX11_init_12 : decode cX11_init 12 = .ok (.putfield 12, 3) := by decide +kernel
theorem dX11_init_15 : decode cX11_init 15 = .ok (.aload_n 0, 1) := by decide +kernel
theorem dX11_init_16 : decode cX11_init 16 = .ok (.new 9, 3) := by decide +kernel
theorem dX11_init_19 : decode cX11_init 19 = .ok (.dup, 1) := by decide +kernel
theorem dX11_init_20 : decode cX11_init 20 = .ok (.invokespecial 11, 3) := by decide +kernel
theorem dX11_init_23 : decode cX11_init 23 = .ok (.putfield 18, 3) := by decide +kernel
theorem dX11_init_26 : decode cX11_init 26 = .ok (.aload_n 0, 1) := by decide +kernel
theorem dX11_init_27 : decode cX11_init 27 = .ok (.new 21, 3) := by decide +kernel
theorem dX11_init_30 : decode cX11_init 30 = .ok (.dup, 1) := by decide +kernel
theorem dX11_init_31 : decode cX11_init 31 = .ok (.invokespecial 23, 3) := by decide +kernel
theorem dX11_init_34 : decode cX11_init 34 = .ok (.putfield 24, 3) := by decide +kernel
theorem dX11_init_37 : decode cX11_init 37 = .ok (.aload_n 0, 1) := by decide +kernel
theorem dX11_init_38 : decode cX11_init 38 = .ok (.new 28, 3) := by decide +kernel
theorem dX11_init_41 : decode cX11_init 41 = .ok (.dup, 1) := by decide +kernel
theorem dX11_init_42 : decode cX11_init 42 = .ok (.invokespecial 30, 3) := by decide +kernel
theorem dX11_init_45 : decode cX11_init 45 = .ok (.putfield 31, 3) := by decide +kernel
theorem dX11_init_48 : decode cX11_init 48 = .ok (.aload_n 0, 1) := by decide +kernel
theorem dX11_init_49 : decode cX11_init 49 = .ok (.bipush 8, 2) := by decide +kernel
theorem dX11_init_51 : decode cX11_init 51 = .ok (.newarray .int, 2) := by decide +kernel
theorem dX11_init_53 : decode cX11_init 53 = .ok (.putfield 35, 3) := by decide +kernel
theorem dX11_init_56 : decode cX11_init 56 = .ok (.aload_n 0, 1) := by decide +kernel
theorem dX11_init_57 : decode cX11_init 57 = .ok (.sipush 256, 3) := by decide +kernel
theorem dX11_init_60 : decode cX11_init 60 = .ok (.newarray .int, 2) := by decide +kernel
theorem dX11_init_62 : decode cX11_init 62 = .ok (.putfield 39, 3) := by decide +kernel
theorem dX11_init_65 : decode cX11_init 65 = .ok (.aload_n 0, 1) := by decide +kernel
theorem dX11_init_66 : decode cX11_init 66 = .ok (.sipush 256, 3) := by decide +kernel
theorem dX11_init_69 : decode cX11_init 69 = .ok (.newarray .int, 2) := by decide +kernel
theorem dX11_init_71 : decode cX11_init 71 = .ok (.putfield 42, 3) := by decide +kernel
theorem dX11_init_74 : decode cX11_init 74 = .ok (.aload_n 0, 1) := by decide +kernel
theorem dX11_init_75 : decode cX11_init 75 = .ok (.sipush 256, 3) := by decide +kernel
theorem dX11_init_78 : decode cX11_init 78 = .ok (.newarray .long, 2) := by decide +kernel
theorem dX11_init_80 : decode cX11_init 80 = .ok (.putfield 45, 3) := by decide +kernel
theorem dX11_init_83 : decode cX11_init 83 = .ok (.return_, 1) := by decide +kernel
theorem dX11_isEffort_0 : decode cX11_isEffort 0 = .ok (.iload_n 0, 1) := by decide +kernel
theorem dX11_isEffort_1 : decode cX11_isEffort 1 = .ok (.ifCond .lt 13, 3) := by decide +kernel
theorem dX11_isEffort_4 : decode cX11_isEffort 4 = .ok (.iload_n 0, 1) := by decide +kernel
theorem dX11_isEffort_5 : decode cX11_isEffort 5 = .ok (.bipush 9, 2) := by decide +kernel
theorem dX11_isEffort_7 : decode cX11_isEffort 7 = .ok (.if_icmp .gt 7, 3) := by decide +kernel
theorem dX11_isEffort_10 : decode cX11_isEffort 10 = .ok (.iconst 1, 1) := by decide +kernel
theorem dX11_isEffort_11 : decode cX11_isEffort 11 = .ok (.goto 4, 3) := by decide +kernel
theorem dX11_isEffort_14 : decode cX11_isEffort 14 = .ok (.iconst 0, 1) := by decide +kernel
theorem dX11_isEffort_15 : decode cX11_isEffort 15 = .ok (.ireturn, 1) := by decide +kernel
theorem dX11_isOfKind_0 : decode cX11_isOfKind 0 = .ok (.iload_n 1, 1) := by decide +kernel
theorem dX11_isOfKind_1 : decode cX11_isOfKind 1 = .ok (.tableswitch 75 0 6 #[43, 45, 50, 55, 60, 65, 70], 43) := by decide +kernel
theorem dX11_isOfKind_44 : decode cX11_isOfKind 44 = .ok (.iconst 1, 1) := by decide +kernel
theorem dX11_isOfKind_45 : decode cX11_isOfKind 45 = .ok (.ireturn, 1) := by decide +kernel
theorem dX11_isOfKind_46 : decode cX11_isOfKind 46 = .ok (.aload_n 0, 1) := by decide +kernel
theorem dX11_isOfKind_47 : decode cX11_isOfKind 47 = .ok (.instanceof 263, 3) := by decide +kernel
theorem dX11_isOfKind_50 : decode cX11_isOfKind 50 = .ok (.ireturn, 1) := by decide +kernel
theorem dX11_isOfKind_51 : decode cX11_isOfKind 51 = .ok (.aload_n 0, 1) := by decide +kernel
theorem dX11_isOfKind_52 : decode cX11_isOfKind 52 = .ok (.instanceof 268, 3) := by decide +kernel
theorem dX11_isOfKind_55 : decode cX11_isOfKind 55 = .ok (.ireturn, 1) := by decide +kernel
theorem dX11_isOfKind_56 : decode cX11_isOfKind 56 = .ok (.aload_n 0, 1) := by decide +kernel
theorem dX11_isOfKind_57 : decode cX11_isOfKind 57 = .ok (.instanceof 271, 3) := by decide +kernel
theorem dX11_isOfKind_60 : decode cX11_isOfKind 60 = .ok (.ireturn, 1) := by decide +kernel
theorem dX11_isOfKind_61 : decode cX11_isOfKind 61 = .ok (.aload_n 0, 1) := by decide +kernel
theorem dX11_isOfKind_62 : decode cX11_isOfKind 62 = .ok (.instanceof 274, 3) := by decide +kernel
theorem dX11_isOfKind_65 : decode cX11_isOfKind 65 = .ok (.ireturn, 1) := by decide +kernel
theorem dX11_isOfKind_66 : decode cX11_isOfKind 66 = .ok (.aload_n 0, 1) := by decide +kernel
theorem dX11_isOfKind_67 : decode cX11_isOfKind 67 = .ok (.instanceof 148, 3) := by decide +kernel
theorem dX11_isOfKind_70 : decode cX11_isOfKind 70 = .ok (.ireturn, 1) := by decide +kernel
theorem dX11_isOfKind_71 : decode cX11_isOfKind 71 = .ok (.aload_n 0, 1) := by decide +kernel
theorem dX11_isOfKind_72 : decode cX11_isOfKind 72 = .ok (.instanceof 278, 3) := by decide +kernel
theorem dX11_isOfKind_75 : decode cX11_isOfKind 75 = .ok (.ireturn, 1) := by decide +kernel
theorem dX11_isOfKind_76 : decode cX11_isOfKind 76 = .ok (.iconst 0, 1) := by decide +kernel
theorem dX11_isOfKind_77 : decode cX11_isOfKind 77 = .ok (.ireturn, 1) := by decide +kernel
theorem dX11_isRideWhat_0 : decode cX11_isRideWhat 0 = .ok (.iload_n 1, 1) := by decide +kernel
theorem dX11_isRideWhat_1 : decode cX11_isRideWhat 1 = .ok (.ifCond .eq 8, 3) := by decide +kernel
theorem dX11_isRideWhat_4 : decode cX11_isRideWhat 4 = .ok (.iload_n 1, 1) := by decide +kernel
theorem dX11_isRideWhat_5 : decode cX11_isRideWhat 5 = .ok (.iconst 1, 1) := by decide +kernel
theorem dX11_isRideWhat_6 : decode cX11_isRideWhat 6 = .ok (.if_icmp .ne 5, 3) := by decide +kernel
theorem dX11_isRideWhat_9 : decode cX11_isRideWhat 9 = .ok (.iconst 1, 1) := by decide +kernel
theorem dX11_isRideWhat_10 : decode cX11_isRideWhat 10 = .ok (.ireturn, 1) := by decide +kernel
theorem dX11_isRideWhat_11 : decode cX11_isRideWhat 11 = .ok (.iload_n 1, 1) := by decide +kernel
theorem dX11_isRideWhat_12 : decode cX11_isRideWhat 12 = .ok (.bipush 10, 2) := by decide +kernel
theorem dX11_isRideWhat_14 : decode cX11_isRideWhat 14 = .ok (.if_icmp .ge 5, 3) := by decide +kernel
theorem dX11_isRideWhat_17 : decode cX11_isRideWhat 17 = .ok (.iconst 0, 1) := by decide +kernel
theorem dX11_isRideWhat_18 : decode cX11_isRideWhat 18 = .ok (.ireturn, 1) := by decide +kernel
theorem dX11_isRideWhat_19 : decode cX11_isRideWhat 19 = .ok (.iload_n 1, 1) := by decide +kernel
theorem dX11_isRideWhat_20 : decode cX11_isRideWhat 20 = .ok (.bipush 10, 2) := by decide +kernel
theorem dX11_isRideWhat_22 : decode cX11_isRideWhat 22 = .ok (.isub, 1) := by decide +kernel
theorem dX11_isRideWhat_23 : decode cX11_isRideWhat 23 = .ok (.istore_n 3, 1) := by decide +kernel
theorem dX11_isRideWhat_24 : decode cX11_isRideWhat 24 = .ok (.iload_n 3, 1) := by decide +kernel
theorem dX11_isRideWhat_25 : decode cX11_isRideWhat 25 = .ok (.iload_n 2, 1) := by decide +kernel
theorem dX11_isRideWhat_26 : decode cX11_isRideWhat 26 = .ok (.if_icmp .lt 21, 3) := by decide +kernel
theorem dX11_isRideWhat_29 : decode cX11_isRideWhat 29 = .ok (.aload_n 0, 1) := by decide +kernel
theorem dX11_isRideWhat_30 : decode cX11_isRideWhat 30 = .ok (.getfield 12, 3) := by decide +kernel
theorem dX11_isRideWhat_33 : decode cX11_isRideWhat 33 = .ok (.getfield 70, 3) := by decide +kernel
theorem dX11_isRideWhat_36 : decode cX11_isRideWhat 36 = .ok (.iload_n 3, 1) := by decide +kernel
theorem dX11_isRideWhat_37 : decode cX11_isRideWhat 37 = .ok (.invokevirtual 86, 3) := by decide +kernel
theorem dX11_isRideWhat_40 : decode cX11_isRideWhat 40 = .ok (.ifCond .eq 7, 3) := by decide +kernel
theorem dX11_isRideWhat_43 : decode cX11_isRideWhat 43 = .ok (.iconst 1, 1) := by decide +kernel
theorem dX11_isRideWhat_44 : decode cX11_isRideWhat 44 = .ok (.goto 4, 3) := by decide +kernel
theorem dX11_isRideWhat_47 : decode cX11_isRideWhat 47 = .ok (.iconst 0, 1) := by decide +kernel
theorem dX11_isRideWhat_48 : decode cX11_isRideWhat 48 = .ok (.ireturn, 1) := by decide +kernel
theorem dX11_judged_0 : decode cX11_judged 0 = .ok (.iload_n 1, 1) := by decide +kernel
theorem dX11_judged_1 : decode cX11_judged 1 = .ok (.ifCond .lt 8, 3) := by decide +kernel
theorem dX11_judged_4 : decode cX11_judged 4 = .ok (.iload_n 1, 1) := by decide +kernel
theorem dX11_judged_5 : decode cX11_judged 5 = .ok (.iconst 3, 1) := by decide +kernel
theorem dX11_judged_6 : decode cX11_judged 6 = .ok (.if_icmp .le 5, 3) := by decide +kernel
theorem dX11_judged_9 : decode cX11_judged 9 = .ok (.iconst (-1), 1) := by decide +kernel
theorem dX11_judged_10 : decode cX11_judged 10 = .ok (.ireturn, 1) := by decide +kernel
theorem dX11_judged_11 : decode cX11_judged 11 = .ok (.aload_n 0, 1) := by decide +kernel
theorem dX11_judged_12 : decode cX11_judged 12 = .ok (.getfield 31, 3) := by decide +kernel
theorem dX11_judged_15 : decode cX11_judged 15 = .ok (.aload_n 0, 1) := by decide +kernel
theorem dX11_judged_16 : decode cX11_judged 16 = .ok (.getfield 12, 3) := by decide +kernel
theorem dX11_judged_19 : decode cX11_judged 19 = .ok (.getfield 70, 3) := by decide +kernel
theorem dX11_judged_22 : decode cX11_judged 22 = .ok (.invokevirtual 158, 3) := by decide +kernel
theorem dX11_judged_25 : decode cX11_judged 25 = .ok (.iload_n 1, 1) := by decide +kernel
theorem dX11_judged_26 : decode cX11_judged 26 = .ok (.ifCond .ne 8, 3) := by decide +kernel
theorem dX11_judged_29 : decode cX11_judged 29 = .ok (.aload_n 0, 1) := by decide +kernel
theorem dX11_judged_30 : decode cX11_judged 30 = .ok (.invokevirtual 193, 3) := by decide +kernel
theorem dX11_judged_33 : decode cX11_judged 33 = .ok (.ireturn, 1) := by decide +kernel
theorem dX11_judged_34 : decode cX11_judged 34 = .ok (.iload_n 1, 1) := by decide +kernel
theorem dX11_judged_35 : decode cX11_judged 35 = .ok (.iconst 1, 1) := by decide +kernel
theorem dX11_judged_36 : decode cX11_judged 36 = .ok (.if_icmp .ne 8, 3) := by decide +kernel
theorem dX11_judged_39 : decode cX11_judged 39 = .ok (.aload_n 0, 1) := by decide +kernel
theorem dX11_judged_40 : decode cX11_judged 40 = .ok (.invokevirtual 197, 3) := by decide +kernel
theorem dX11_judged_43 : decode cX11_judged 43 = .ok (.ireturn, 1) := by decide +kernel
theorem dX11_judged_44 : decode cX11_judged 44 = .ok (.aload_n 0, 1) := by decide +kernel
theorem dX11_judged_45 : decode cX11_judged 45 = .ok (.iload_n 1, 1) := by decide +kernel
theorem dX11_judged_46 : decode cX11_judged 46 = .ok (.iconst 2, 1) := by decide +kernel
theorem dX11_judged_47 : decode cX11_judged 47 = .ok (.if_icmp .ne 7, 3) := by decide +kernel
theorem dX11_judged_50 : decode cX11_judged 50 = .ok (.iconst 1, 1) := by decide +kernel
theorem dX11_judged_51 : decode cX11_judged 51 = .ok (.goto 4, 3) := by decide +kernel
theorem dX11_judged_54 : decode cX11_judged 54 = .ok (.iconst 0, 1) := by decide +kernel
theorem dX11_judged_55 : decode cX11_judged 55 = .ok (.invokevirtual 200, 3) := by decide +kernel
theorem dX11_judged_58 : decode cX11_judged 58 = .ok (.ireturn, 1) := by decide +kernel
theorem dX11_laps_0 : decode cX11_laps 0 = .ok (.aload_n 0, 1) := by decide +kernel
theorem dX11_laps_1 : decode cX11_laps 1 = .ok (.getfield 12, 3) := by decide +kernel
theorem dX11_laps_4 : decode cX11_laps 4 = .ok (.iload_n 1, 1) := by decide +kernel
theorem dX11_laps_5 : decode cX11_laps 5 = .ok (.invokevirtual 144, 3) := by decide +kernel
theorem dX11_laps_8 : decode cX11_laps 8 = .ok (.astore_n 2, 1) := by decide +kernel
theorem dX11_laps_9 : decode cX11_laps 9 = .ok (.aload_n 2, 1) := by decide +kernel
theorem dX11_laps_10 : decode cX11_laps 10 = .ok (.ifnonnull 7, 3) := by decide +kernel
theorem dX11_laps_13 : decode cX11_laps 13 = .ok (.sipush (-10001), 3) := by decide +kernel
theorem dX11_laps_16 : decode cX11_laps 16 = .ok (.ireturn, 1) := by decide +kernel
theorem dX11_laps_17 : decode cX11_laps 17 = .ok (.aload_n 0, 1) := by decide +kernel
theorem dX11_laps_18 : decode cX11_laps 18 = .ok (.getfield 12, 3) := by decide +kernel
theorem dX11_laps_21 : decode cX11_laps 21 = .ok (.getfield 70, 3) := by decide +kernel
theorem dX11_laps_24 : decode cX11_laps 24 = .ok (.getfield 102, 3) := by decide +kernel
theorem dX11_laps_27 : decode cX11_laps 27 = .ok (.ifCond .ne 7, 3) := by decide +kernel
theorem dX11_laps_30 : decode cX11_laps 30 = .ok (.sipush (-10002), 3) := by decide +kernel
theorem dX11_laps_33 : decode cX11_laps 33 = .ok (.ireturn, 1) := by decide +kernel
theorem dX11_laps_34 : decode cX11_laps 34 = .ok (.aload_n 0, 1) := by decide +kernel
theorem dX11_laps_35 : decode cX11_laps 35 = .ok (.getfield 31, 3) := by decide +kernel
theorem dX11_laps_38 : decode cX11_laps 38 = .ok (.aload_n 0, 1) := by decide +kernel
theorem dX11_laps_39 : decode cX11_laps 39 = .ok (.getfield 12, 3) := by decide +kernel
theorem dX11_laps_42 : decode cX11_laps 42 = .ok (.getfield 70, 3) := by decide +kernel
theorem dX11_laps_45 : decode cX11_laps 45 = .ok (.invokevirtual 158, 3) := by decide +kernel
theorem dX11_laps_48 : decode cX11_laps 48 = .ok (.aload_n 0, 1) := by decide +kernel
theorem dX11_laps_49 : decode cX11_laps 49 = .ok (.aload_n 2, 1) := by decide +kernel
theorem dX11_laps_50 : decode cX11_laps 50 = .ok (.invokevirtual 169, 3) := by decide +kernel
theorem dX11_laps_53 : decode cX11_laps 53 = .ok (.aload_n 0, 1) := by decide +kernel
theorem dX11_laps_54 : decode cX11_laps 54 = .ok (.getfield 172, 3) := by decide +kernel
theorem dX11_laps_57 : decode cX11_laps 57 = .ok (.istore_n 3, 1) := by decide +kernel
theorem dX11_laps_58 : decode cX11_laps 58 = .ok (.aload_n 0, 1) := by decide +kernel
theorem dX11_laps_59 : decode cX11_laps 59 = .ok (.aload_n 2, 1) := by decide +kernel
theorem dX11_laps_60 : decode cX11_laps 60 = .ok (.aload_n 0, 1) := by decide +kernel
theorem dX11_laps_61 : decode cX11_laps 61 = .ok (.getfield 175, 3) := by decide +kernel
theorem dX11_laps_64 : decode cX11_laps 64 = .ok (.iconst 0, 1) := by decide +kernel
theorem dX11_laps_65 : decode cX11_laps 65 = .ok (.iconst 0, 1) := by decide +kernel
theorem dX11_laps_66 : decode cX11_laps 66 = .ok (.invokevirtual 227, 3) := by decide +kernel
theorem dX11_laps_69 : decode cX11_laps 69 = .ok (.aload_n 0, 1) := by decide +kernel
theorem dX11_laps_70 : decode cX11_laps 70 = .ok (.getfield 172, 3) := by decide +kernel
theorem dX11_laps_73 : decode cX11_laps 73 = .ok (.iload_n 3, 1) := by decide +kernel
theorem dX11_laps_74 : decode cX11_laps 74 = .ok (.isub, 1) := by decide +kernel
theorem dX11_laps_75 : decode cX11_laps 75 = .ok (.ireturn, 1) := by decide +kernel
theorem dX11_line_0 : decode cX11_line 0 = .ok (.aload_n 0, 1) := by decide +kernel
theorem dX11_line_1 : decode cX11_line 1 = .ok (.getfield 12, 3) := by decide +kernel
theorem dX11_line_4 : decode cX11_line 4 = .ok (.iload_n 1, 1) := by decide +kernel
theorem dX11_line_5 : decode cX11_line 5 = .ok (.invokevirtual 144, 3) := by decide +kernel
theorem dX11_line_8 : decode cX11_line 8 = .ok (.astore 4, 2) := by decide +kernel
theorem dX11_line_10 : decode cX11_line 10 = .ok (.aload 4, 2) := by decide +kernel
theorem dX11_line_12 : decode cX11_line 12 = .ok (.ifnull 13, 3) := by decide +kernel
theorem dX11_line_15 : decode cX11_line 15 = .ok (.iload_n 2, 1) := by decide +kernel
theorem dX11_line_16 : decode cX11_line 16 = .ok (.ifCond .lt 9, 3) := by decide +kernel
theorem dX11_line_19 : decode cX11_line 19 = .ok (.iload_n 2, 1) := by decide +kernel
theorem dX11_line_20 : decode cX11_line 20 = .ok (.bipush 8, 2) := by decide +kernel
theorem dX11_line_22 : decode cX11_line 22 = .ok (.if_icmp .lt 5, 3) := by decide +kernel
theorem dX11_line_25 : decode cX11_line 25 = .ok (.iconst (-1), 1) := by decide +kernel
theorem dX11_line_26 : decode cX11_line 26 = .ok (.ireturn, 1) := by decide +kernel
theorem dX11_line_27 : decode cX11_line 27 = .ok (.iload_n 3, 1) := by decide +kernel
theorem dX11_line_28 : decode cX11_line 28 = .ok (.iconst (-1), 1) := by decide +kernel
theorem dX11_line_29 : decode cX11_line 29 = .ok (.if_icmp .eq 13, 3) := by decide +kernel
theorem dX11_line_32 : decode cX11_line 32 = .ok (.iload_n 3, 1) := by decide +kernel
theorem dX11_line_33 : decode cX11_line 33 = .ok (.invokestatic 117, 3) := by decide +kernel
theorem dX11_line_36 : decode cX11_line 36 = .ok (.ifCond .ne 6, 3) := by decide +kernel
theorem dX11_line_39 : decode cX11_line 39 = .ok (.bipush (-2), 2) := by decide +kernel
theorem dX11_line_41 : decode cX11_line 41 = .ok (.ireturn, 1) := by decide +kernel
theorem dX11_line_42 : decode cX11_line 42 = .ok (.aload 4, 2) := by decide +kernel
theorem dX11_line_44 : decode cX11_line 44 = .ok (.instanceof 148, 3) := by decide +kernel
theorem dX11_line_47 : decode cX11_line 47 = .ok (.ifCond .ne 6, 3) := by decide +kernel
theorem dX11_line_50 : decode cX11_line 50 = .ok (.bipush (-3), 2) := by decide +kernel
theorem dX11_line_52 : decode cX11_line 52 = .ok (.ireturn, 1) := by decide +kernel
theorem dX11_line_53 : decode cX11_line 53 = .ok (.aload_n 0, 1) := by decide +kernel
theorem dX11_line_54 : decode cX11_line 54 = .ok (.getfield 12, 3) := by decide +kernel
theorem dX11_line_57 : decode cX11_line 57 = .ok (.iload_n 1, 1) := by decide +kernel
theorem dX11_line_58 : decode cX11_line 58 = .ok (.iload_n 2, 1) := by decide +kernel
theorem dX11_line_59 : decode cX11_line 59 = .ok (.invokevirtual 150, 3) := by decide +kernel
theorem dX11_line_62 : decode cX11_line 62 = .ok (.istore 5, 2) := by decide +kernel
theorem dX11_line_64 : decode cX11_line 64 = .ok (.aload_n 0, 1) := by decide +kernel
theorem dX11_line_65 : decode cX11_line 65 = .ok (.getfield 12, 3) := by decide +kernel
theorem dX11_line_68 : decode cX11_line 68 = .ok (.iload_n 1, 1) := by decide +kernel
theorem dX11_line_69 : decode cX11_line 69 = .ok (.iload_n 2, 1) := by decide +kernel
theorem dX11_line_70 : decode cX11_line 70 = .ok (.iload_n 3, 1) := by decide +kernel
theorem dX11_line_71 : decode cX11_line 71 = .ok (.invokevirtual 154, 3) := by decide +kernel
theorem dX11_line_74 : decode cX11_line 74 = .ok (.iload 5, 2) := by decide +kernel
theorem dX11_line_76 : decode cX11_line 76 = .ok (.ifCond .ge 8, 3) := by decide +kernel
theorem dX11_line_79 : decode cX11_line 79 = .ok (.bipush (-5), 2) := by decide +kernel
theorem dX11_line_81 : decode cX11_line 81 = .ok (.goto 5, 3) := by decide +kernel
theorem dX11_line_84 : decode cX11_line 84 = .ok (.iload 5, 2) := by decide +kernel
theorem dX11_line_86 : decode cX11_line 86 = .ok (.ireturn, 1) := by decide +kernel
theorem dX11_loses_0 : decode cX11_loses 0 = .ok (.aload_n 0, 1) := by decide +kernel
theorem dX11_loses_1 : decode cX11_loses 1 = .ok (.getfield 12, 3) := by decide +kernel
theorem dX11_loses_4 : decode cX11_loses 4 = .ok (.iload_n 1, 1) := by decide +kernel
theorem dX11_loses_5 : decode cX11_loses 5 = .ok (.invokevirtual 144, 3) := by decide +kernel
theorem dX11_loses_8 : decode cX11_loses 8 = .ok (.astore_n 2, 1) := by decide +kernel
theorem dX11_loses_9 : decode cX11_loses 9 = .ok (.aload_n 2, 1) := by decide +kernel
theorem dX11_loses_10 : decode cX11_loses 10 = .ok (.ifnonnull 5, 3) := by decide +kernel
theorem dX11_loses_13 : decode cX11_loses 13 = .ok (.iconst (-1), 1) := by decide +kernel
theorem dX11_loses_14 : decode cX11_loses 14 = .ok (.ireturn, 1) := by decide +kernel
theorem dX11_loses_15 : decode cX11_loses 15 = .ok (.aload_n 0, 1) := by decide +kernel
theorem dX11_loses_16 : decode cX11_loses 16 = .ok (.getfield 12, 3) := by decide +kernel
theorem dX11_loses_19 : decode cX11_loses 19 = .ok (.getfield 70, 3) := by decide +kernel
theorem dX11_loses_22 : decode cX11_loses 22 = .ok (.getfield 102, 3) := by decide +kernel
theorem dX11_loses_25 : decode cX11_loses 25 = .ok (.ifCond .ne 6, 3) := by decide +kernel
theorem dX11_loses_28 : decode cX11_loses 28 = .ok (.bipush (-3), 2) := by decide +kernel
theorem dX11_loses_30 : decode cX11_loses 30 = .ok (.ireturn, 1) := by decide +kernel
theorem dX11_loses_31 : decode cX11_loses 31 = .ok (.aload_n 0, 1) := by decide +kernel
theorem dX11_loses_32 : decode cX11_loses 32 = .ok (.getfield 31, 3) := by decide +kernel
theorem dX11_loses_35 : decode cX11_loses 35 = .ok (.aload_n 0, 1) := by decide +kernel
theorem dX11_loses_36 : decode cX11_loses 36 = .ok (.getfield 12, 3) := by decide +kernel
theorem dX11_loses_39 : decode cX11_loses 39 = .ok (.getfield 70, 3) := by decide +kernel
theorem dX11_loses_42 : decode cX11_loses 42 = .ok (.invokevirtual 158, 3) := by decide +kernel
theorem dX11_loses_45 : decode cX11_loses 45 = .ok (.aload_n 0, 1) := by decide +kernel
theorem dX11_loses_46 : decode cX11_loses 46 = .ok (.aload_n 2, 1) := by decide +kernel
theorem dX11_loses_47 : decode cX11_loses 47 = .ok (.invokevirtual 169, 3) := by decide +kernel
theorem dX11_loses_50 : decode cX11_loses 50 = .ok (.aload_n 0, 1) := by decide +kernel
theorem dX11_loses_51 : decode cX11_loses 51 = .ok (.getfield 172, 3) := by decide +kernel
theorem dX11_loses_54 : decode cX11_loses 54 = .ok (.aload_n 0, 1) := by decide +kernel
theorem dX11_loses_55 : decode cX11_loses 55 = .ok (.getfield 31, 3) := by decide +kernel
theorem dX11_loses_58 : decode cX11_loses 58 = .ok (.iconst 0, 1) := by decide +kernel
theorem dX11_loses_59 : decode cX11_loses 59 = .ok (.aload_n 0, 1) := by decide +kernel
theorem dX11_loses_60 : decode cX11_loses 60 = .ok (.getfield 12, 3) := by decide +kernel
theorem dX11_loses_63 : decode cX11_loses 63 = .ok (.getfield 70, 3) := by decide +kernel
theorem dX11_loses_66 : decode cX11_loses 66 = .ok (.getfield 108, 3) := by decide +kernel
theorem dX11_loses_69 : decode cX11_loses 69 = .ok (.invokevirtual 178, 3) := by decide +kernel
theorem dX11_loses_72 : decode cX11_loses 72 = .ok (.isub, 1) := by decide +kernel
theorem dX11_loses_73 : decode cX11_loses 73 = .ok (.ireturn, 1) := by decide +kernel
theorem dX11_mean_0 : decode cX11_mean 0 = .ok (.aload_n 0, 1) := by decide +kernel
theorem dX11_mean_1 : decode cX11_mean 1 = .ok (.getfield 12, 3) := by decide +kernel
theorem dX11_mean_4 : decode cX11_mean 4 = .ok (.iload_n 1, 1) := by decide +kernel
theorem dX11_mean_5 : decode cX11_mean 5 = .ok (.invokevirtual 144, 3) := by decide +kernel
theorem dX11_mean_8 : decode cX11_mean 8 = .ok (.astore_n 3, 1) := by decide +kernel
theorem dX11_mean_9 : decode cX11_mean 9 = .ok (.aload_n 3, 1) := by decide +kernel
theorem dX11_mean_10 : decode cX11_mean 10 = .ok (.ifnull 25, 3) := by decide +kernel
theorem dX11_mean_13 : decode cX11_mean 13 = .ok (.iload_n 2, 1) := by decide +kernel
theorem dX11_mean_14 : decode cX11_mean 14 = .ok (.ifCond .lt 21, 3) := by decide +kernel
theorem dX11_mean_17 : decode cX11_mean 17 = .ok (.iload_n 2, 1) := by decide +kernel
theorem dX11_mean_18 : decode cX11_mean 18 = .ok (.iconst 1, 1) := by decide +kernel
theorem dX11_mean_19 : decode cX11_mean 19 = .ok (.if_icmp .gt 16, 3) := by decide +kernel
theorem dX11_mean_22 : decode cX11_mean 22 = .ok (.aload_n 0, 1) := by decide +kernel
theorem dX11_mean_23 : decode cX11_mean 23 = .ok (.getfield 12, 3) := by decide +kernel
theorem dX11_mean_26 : decode cX11_mean 26 = .ok (.getfield 70, 3) := by decide +kernel
theorem dX11_mean_29 : decode cX11_mean 29 = .ok (.getfield 102, 3) := by decide +kernel
theorem dX11_mean_32 : decode cX11_mean 32 = .ok (.ifCond .ne 7, 3) := by decide +kernel
theorem dX11_mean_35 : decode cX11_mean 35 = .ok (.ldc2_w 204, 3) := by decide +kernel
theorem dX11_mean_38 : decode cX11_mean 38 = .ok (.lreturn, 1) := by decide +kernel
theorem dX11_mean_39 : decode cX11_mean 39 = .ok (.aload_n 0, 1) := by decide +kernel
theorem dX11_mean_40 : decode cX11_mean 40 = .ok (.aload_n 3, 1) := by decide +kernel
theorem dX11_mean_41 : decode cX11_mean 41 = .ok (.invokevirtual 206, 3) := by decide +kernel
theorem dX11_mean_44 : decode cX11_mean 44 = .ok (.istore 4, 2) := by decide +kernel
theorem dX11_mean_46 : decode cX11_mean 46 = .ok (.lconst 0, 1) := by decide +kernel
theorem dX11_mean_47 : decode cX11_mean 47 = .ok (.lstore 5, 2) := by decide +kernel
theorem dX11_mean_49 : decode cX11_mean 49 = .ok (.iconst 0, 1) := by decide +kernel
theorem dX11_mean_50 : decode cX11_mean 50 = .ok (.istore 7, 2) := by decide +kernel
theorem dX11_mean_52 : decode cX11_mean 52 = .ok (.iload 7, 2) := by decide +kernel
theorem dX11_mean_54 : decode cX11_mean 54 = .ok (.iload 4, 2) := by decide +kernel
theorem dX11_mean_56 : decode cX11_mean 56 = .ok (.if_icmp .ge 38, 3) := by decide +kernel
theorem dX11_mean_59 : decode cX11_mean 59 = .ok (.iload 7, 2) := by decide +kernel
theorem dX11_mean_61 : decode cX11_mean 61 = .ok (.sipush 256, 3) := by decide +kernel
theorem dX11_mean_64 : decode cX11_mean 64 = .ok (.if_icmp .ge 30, 3) := by decide +kernel
theorem dX11_mean_67 : decode cX11_mean 67 = .ok (.lload 5, 2) := by decide +kernel
theorem dX11_mean_69 : decode cX11_mean 69 = .ok (.aload_n 0, 1) := by decide +kernel
theorem dX11_mean_70 : decode cX11_mean 70 = .ok (.getfield 45, 3) := by decide +kernel
theorem dX11_mean_73 : decode cX11_mean 73 = .ok (.iload 7, 2) := by decide +kernel
theorem dX11_mean_75 : decode cX11_mean 75 = .ok (.laload, 1) := by decide +kernel
theorem dX11_mean_76 : decode cX11_mean 76 = .ok (.aload_n 0, 1) := by decide +kernel
theorem dX11_mean_77 : decode cX11_mean 77 = .ok (.getfield 42, 3) := by decide +kernel
theorem dX11_mean_80 : decode cX11_mean 80 = .ok (.iload 7, 2) := by decide +kernel
theorem dX11_mean_82 : decode cX11_mean 82 = .ok (.iaload, 1) := by decide +kernel
theorem dX11_mean_83 : decode cX11_mean 83 = .ok (.i2l, 1) := by decide +kernel
theorem dX11_mean_84 : decode cX11_mean 84 = .ok (.lmul, 1) := by decide +kernel
theorem dX11_mean_85 : decode cX11_mean 85 = .ok (.ladd, 1) := by decide +kernel
theorem dX11_mean_86 : decode cX11_mean 86 = .ok (.lstore 5, 2) := by decide +kernel
theorem dX11_mean_88 : decode cX11_mean 88 = .ok (.iinc 7 1, 3) := by decide +kernel
theorem dX11_mean_91 : decode cX11_mean 91 = .ok (.goto (-39), 3) := by decide +kernel
theorem dX11_mean_94 : decode cX11_mean 94 = .ok (.aload_n 0, 1) := by decide +kernel
theorem dX11_mean_95 : decode cX11_mean 95 = .ok (.lload 5, 2) := by decide +kernel
theorem dX11_mean_97 : decode cX11_mean 97 = .ok (.iload_n 2, 1) := by decide +kernel
theorem dX11_mean_98 : decode cX11_mean 98 = .ok (.invokevirtual 210, 3) := by decide +kernel
theorem dX11_mean_101 : decode cX11_mean 101 = .ok (.lreturn, 1) := by decide +kernel
theorem dX11_mostLost_0 : decode cX11_mostLost 0 = .ok (.aload_n 0, 1) := by decide +kernel
theorem dX11_mostLost_1 : decode cX11_mostLost 1 = .ok (.getfield 12, 3) := by decide +kernel
theorem dX11_mostLost_4 : decode cX11_mostLost 4 = .ok (.getfield 70, 3) := by decide +kernel
theorem dX11_mostLost_7 : decode cX11_mostLost 7 = .ok (.astore_n 2, 1) := by decide +kernel
theorem dX11_mostLost_8 : decode cX11_mostLost 8 = .ok (.aload_n 0, 1) := by decide +kernel
theorem dX11_mostLost_9 : decode cX11_mostLost 9 = .ok (.invokevirtual 294, 3) := by decide +kernel
theorem dX11_mostLost_12 : decode cX11_mostLost 12 = .ok (.istore_n 3, 1) := by decide +kernel
theorem dX11_mostLost_13 : decode cX11_mostLost 13 = .ok (.iconst 0, 1) := by decide +kernel
theorem dX11_mostLost_14 : decode cX11_mostLost 14 = .ok (.istore 4, 2) := by decide +kernel
theorem dX11_mostLost_16 : decode cX11_mostLost 16 = .ok (.bipush (-5), 2) := by decide +kernel
theorem dX11_mostLost_18 : decode cX11_mostLost 18 = .ok (.istore 5, 2) := by decide +kernel
theorem dX11_mostLost_20 : decode cX11_mostLost 20 = .ok (.aload_n 2, 1) := by decide +kernel
theorem dX11_mostLost_21 : decode cX11_mostLost 21 = .ok (.getfield 108, 3) := by decide +kernel
theorem dX11_mostLost_24 : decode cX11_mostLost 24 = .ok (.istore 6, 2) := by decide +kernel
theorem dX11_mostLost_26 : decode cX11_mostLost 26 = .ok (.iconst 0, 1) := by decide +kernel
theorem dX11_mostLost_27 : decode cX11_mostLost 27 = .ok (.istore 7, 2) := by decide +kernel
theorem dX11_mostLost_29 : decode cX11_mostLost 29 = .ok (.iload 7, 2) := by decide +kernel
theorem dX11_mostLost_31 : decode cX11_mostLost 31 = .ok (.iload_n 3, 1) := by decide +kernel
theorem dX11_mostLost_32 : decode cX11_mostLost 32 = .ok (.if_icmp .ge 101, 3) := by decide +kernel
theorem dX11_mostLost_35 : decode cX11_mostLost 35 = .ok (.aload_n 0, 1) := by decide +kernel
theorem dX11_mostLost_36 : decode cX11_mostLost 36 = .ok (.getfield 12, 3) := by decide +kernel
theorem dX11_mostLost_39 : decode cX11_mostLost 39 = .ok (.iload 7, 2) := by decide +kernel
theorem dX11_mostLost_41 : decode cX11_mostLost 41 = .ok (.invokevirtual 297, 3) := by decide +kernel
theorem dX11_mostLost_44 : decode cX11_mostLost 44 = .ok (.istore 8, 2) := by decide +kernel
theorem dX11_mostLost_46 : decode cX11_mostLost 46 = .ok (.aload_n 2, 1) := by decide +kernel
theorem dX11_mostLost_47 : decode cX11_mostLost 47 = .ok (.iload 7, 2) := by decide +kernel
theorem dX11_mostLost_49 : decode cX11_mostLost 49 = .ok (.iload 8, 2) := by decide +kernel
theorem dX11_mostLost_51 : decode cX11_mostLost 51 = .ok (.iload 6, 2) := by decide +kernel
theorem dX11_mostLost_53 : decode cX11_mostLost 53 = .ok (.invokevirtual 130, 3) := by decide +kernel
theorem dX11_mostLost_56 : decode cX11_mostLost 56 = .ok (.istore 9, 2) := by decide +kernel
theorem dX11_mostLost_58 : decode cX11_mostLost 58 = .ok (.iload 9, 2) := by decide +kernel
theorem dX11_mostLost_60 : decode cX11_mostLost 60 = .ok (.ifCond .ge 6, 3) := by decide +kernel
theorem dX11_mostLost_63 : decode cX11_mostLost 63 = .ok (.goto 70, 3) := by decide +kernel
theorem dX11_mostLost_66 : decode cX11_mostLost 66 = .ok (.aload_n 2, 1) := by decide +kernel
theorem dX11_mostLost_67 : decode cX11_mostLost 67 = .ok (.iload 7, 2) := by decide +kernel
theorem dX11_mostLost_69 : decode cX11_mostLost 69 = .ok (.iload 8, 2) := by decide +kernel
theorem dX11_mostLost_71 : decode cX11_mostLost 71 = .ok (.iload 6, 2) := by decide +kernel
theorem dX11_mostLost_73 : decode cX11_mostLost 73 = .ok (.invokevirtual 127, 3) := by decide +kernel
theorem dX11_mostLost_76 : decode cX11_mostLost 76 = .ok (.aload_n 0, 1) := by decide +kernel
theorem dX11_mostLost_77 : decode cX11_mostLost 77 = .ok (.getfield 31, 3) := by decide +kernel
theorem dX11_mostLost_80 : decode cX11_mostLost 80 = .ok (.iload 7, 2) := by decide +kernel
theorem dX11_mostLost_82 : decode cX11_mostLost 82 = .ok (.iconst 1, 1) := by decide +kernel
theorem dX11_mostLost_83 : decode cX11_mostLost 83 = .ok (.iadd, 1) := by decide +kernel
theorem dX11_mostLost_84 : decode cX11_mostLost 84 = .ok (.iload 9, 2) := by decide +kernel
theorem dX11_mostLost_86 : decode cX11_mostLost 86 = .ok (.invokevirtual 178, 3) := by decide +kernel
theorem dX11_mostLost_89 : decode cX11_mostLost 89 = .ok (.iadd, 1) := by decide +kernel
theorem dX11_mostLost_90 : decode cX11_mostLost 90 = .ok (.istore 10, 2) := by decide +kernel
theorem dX11_mostLost_92 : decode cX11_mostLost 92 = .ok (.iload 10, 2) := by decide +kernel
theorem dX11_mostLost_94 : decode cX11_mostLost 94 = .ok (.aload_n 0, 1) := by decide +kernel
theorem dX11_mostLost_95 : decode cX11_mostLost 95 = .ok (.getfield 31, 3) := by decide +kernel
theorem dX11_mostLost_98 : decode cX11_mostLost 98 = .ok (.iload 7, 2) := by decide +kernel
theorem dX11_mostLost_100 : decode cX11_mostLost 100 = .ok (.iload 6, 2) := by decide +kernel
theorem dX11_mostLost_102 : decode cX11_mostLost 102 = .ok (.invokevirtual 178, 3) := by decide +kernel
theorem dX11_mostLost_105 : decode cX11_mostLost 105 = .ok (.isub, 1) := by decide +kernel
theorem dX11_mostLost_106 : decode cX11_mostLost 106 = .ok (.istore 11, 2) := by decide +kernel
theorem dX11_mostLost_108 : decode cX11_mostLost 108 = .ok (.iload 11, 2) := by decide +kernel
theorem dX11_mostLost_110 : decode cX11_mostLost 110 = .ok (.iload 4, 2) := by decide +kernel
theorem dX11_mostLost_112 : decode cX11_mostLost 112 = .ok (.if_icmp .le 11, 3) := by decide +kernel
theorem dX11_mostLost_115 : decode cX11_mostLost 115 = .ok (.iload 11, 2) := by decide +kernel
theorem dX11_mostLost_117 : decode cX11_mostLost 117 = .ok (.istore 4, 2) := by decide +kernel
theorem dX11_mostLost_119 : decode cX11_mostLost 119 = .ok (.iload 7, 2) := by decide +kernel
theorem dX11_mostLost_121 : decode cX11_mostLost 121 = .ok (.istore 5, 2) := by decide +kernel
theorem dX11_mostLost_123 : decode cX11_mostLost 123 = .ok (.iload 9, 2) := by decide +kernel
theorem dX11_mostLost_125 : decode cX11_mostLost 125 = .ok (.istore 6, 2) := by decide +kernel
theorem dX11_mostLost_127 : decode cX11_mostLost 127 = .ok (.iinc 7 1, 3) := by decide +kernel
theorem dX11_mostLost_130 : decode cX11_mostLost 130 = .ok (.goto (-101), 3) := by decide +kernel
theorem dX11_mostLost_133 : decode cX11_mostLost 133 = .ok (.iload_n 1, 1) := by decide +kernel
theorem dX11_mostLost_134 : decode cX11_mostLost 134 = .ok (.ifCond .eq 8, 3) := by decide +kernel
theorem dX11_mostLost_137 : decode cX11_mostLost 137 = .ok (.iload 5, 2) := by decide +kernel
theorem dX11_mostLost_139 : decode cX11_mostLost 139 = .ok (.goto 5, 3) := by decide +kernel
theorem dX11_mostLost_142 : decode cX11_mostLost 142 = .ok (.iload 4, 2) := by decide +kernel
theorem dX11_mostLost_144 : decode cX11_mostLost 144 = .ok (.ireturn, 1) := by decide +kernel
theorem dX11_newWay_0 : decode cX11_newWay 0 = .ok (.iload_n 0, 1) := by decide +kernel
theorem dX11_newWay_1 : decode cX11_newWay 1 = .ok (.tableswitch 99 1 6 #[39, 49, 59, 69, 79, 89], 39) := by decide +kernel
theorem dX11_newWay_40 : decode cX11_newWay 40 = .ok (.new 263, 3) := by decide +kernel
theorem dX11_newWay_43 : decode cX11_newWay 43 = .ok (.dup, 1) := by decide +kernel
theorem dX11_newWay_44 : decode cX11_newWay 44 = .ok (.iload_n 1, 1) := by decide +kernel
theorem dX11_newWay_45 : decode cX11_newWay 45 = .ok (.iload_n 2, 1) := by decide +kernel
theorem dX11_newWay_46 : decode cX11_newWay 46 = .ok (.invokespecial 265, 3) := by decide +kernel
theorem dX11_newWay_49 : decode cX11_newWay 49 = .ok (.areturn, 1) := by decide +kernel
theorem dX11_newWay_50 : decode cX11_newWay 50 = .ok (.new 268, 3) := by decide +kernel
theorem dX11_newWay_53 : decode cX11_newWay 53 = .ok (.dup, 1) := by decide +kernel
theorem dX11_newWay_54 : decode cX11_newWay 54 = .ok (.iload_n 1, 1) := by decide +kernel
theorem dX11_newWay_55 : decode cX11_newWay 55 = .ok (.iload_n 2, 1) := by decide +kernel
theorem dX11_newWay_56 : decode cX11_newWay 56 = .ok (.invokespecial 270, 3) := by decide +kernel
theorem dX11_newWay_59 : decode cX11_newWay 59 = .ok (.areturn, 1) := by decide +kernel
theorem dX11_newWay_60 : decode cX11_newWay 60 = .ok (.new 271, 3) := by decide +kernel
theorem dX11_newWay_63 : decode cX11_newWay 63 = .ok (.dup, 1) := by decide +kernel
theorem dX11_newWay_64 : decode cX11_newWay 64 = .ok (.iload_n 1, 1) := by decide +kernel
theorem dX11_newWay_65 : decode cX11_newWay 65 = .ok (.iload_n 2, 1) := by decide +kernel
theorem dX11_newWay_66 : decode cX11_newWay 66 = .ok (.invokespecial 273, 3) := by decide +kernel
theorem dX11_newWay_69 : decode cX11_newWay 69 = .ok (.areturn, 1) := by decide +kernel
theorem dX11_newWay_70 : decode cX11_newWay 70 = .ok (.new 274, 3) := by decide +kernel
theorem dX11_newWay_73 : decode cX11_newWay 73 = .ok (.dup, 1) := by decide +kernel
theorem dX11_newWay_74 : decode cX11_newWay 74 = .ok (.iload_n 1, 1) := by decide +kernel
theorem dX11_newWay_75 : decode cX11_newWay 75 = .ok (.iload_n 2, 1) := by decide +kernel
theorem dX11_newWay_76 : decode cX11_newWay 76 = .ok (.invokespecial 276, 3) := by decide +kernel
theorem dX11_newWay_79 : decode cX11_newWay 79 = .ok (.areturn, 1) := by decide +kernel
theorem dX11_newWay_80 : decode cX11_newWay 80 = .ok (.new 148, 3) := by decide +kernel
theorem dX11_newWay_83 : decode cX11_newWay 83 = .ok (.dup, 1) := by decide +kernel
theorem dX11_newWay_84 : decode cX11_newWay 84 = .ok (.iload_n 1, 1) := by decide +kernel
theorem dX11_newWay_85 : decode cX11_newWay 85 = .ok (.iload_n 2, 1) := by decide +kernel
theorem dX11_newWay_86 : decode cX11_newWay 86 = .ok (.invokespecial 277, 3) := by decide +kernel
theorem dX11_newWay_89 : decode cX11_newWay 89 = .ok (.areturn, 1) := by decide +kernel
theorem dX11_newWay_90 : decode cX11_newWay 90 = .ok (.new 278, 3) := by decide +kernel
theorem dX11_newWay_93 : decode cX11_newWay 93 = .ok (.dup, 1) := by decide +kernel
theorem dX11_newWay_94 : decode cX11_newWay 94 = .ok (.iload_n 1, 1) := by decide +kernel
theorem dX11_newWay_95 : decode cX11_newWay 95 = .ok (.iload_n 2, 1) := by decide +kernel
theorem dX11_newWay_96 : decode cX11_newWay 96 = .ok (.invokespecial 280, 3) := by decide +kernel
theorem dX11_newWay_99 : decode cX11_newWay 99 = .ok (.areturn, 1) := by decide +kernel
theorem dX11_newWay_100 : decode cX11_newWay 100 = .ok (.new 235, 3) := by decide +kernel
theorem dX11_newWay_103 : decode cX11_newWay 103 = .ok (.dup, 1) := by decide +kernel
theorem dX11_newWay_104 : decode cX11_newWay 104 = .ok (.iload_n 1, 1) := by decide +kernel
theorem dX11_newWay_105 : decode cX11_newWay 105 = .ok (.iload_n 2, 1) := by decide +kernel
theorem dX11_newWay_106 : decode cX11_newWay 106 = .ok (.invokespecial 281, 3) := by decide +kernel
theorem dX11_newWay_109 : decode cX11_newWay 109 = .ok (.areturn, 1) := by decide +kernel
theorem dX11_of_0 : decode cX11_of 0 = .ok (.aload_n 0, 1) := by decide +kernel
theorem dX11_of_1 : decode cX11_of 1 = .ok (.getfield 12, 3) := by decide +kernel
theorem dX11_of_4 : decode cX11_of 4 = .ok (.getfield 70, 3) := by decide +kernel
theorem dX11_of_7 : decode cX11_of 7 = .ok (.astore_n 3, 1) := by decide +kernel
theorem dX11_of_8 : decode cX11_of 8 = .ok (.aload_n 3, 1) := by decide +kernel
theorem dX11_of_9 : decode cX11_of 9 = .ok (.iload_n 1, 1) := by decide +kernel
theorem dX11_of_10 : decode cX11_of 10 = .ok (.invokevirtual 86, 3) := by decide +kernel
theorem dX11_of_13 : decode cX11_of 13 = .ok (.ifCond .ne 5, 3) := by decide +kernel
theorem dX11_of_16 : decode cX11_of 16 = .ok (.iconst (-1), 1) := by decide +kernel
theorem dX11_of_17 : decode cX11_of 17 = .ok (.ireturn, 1) := by decide +kernel
theorem dX11_of_18 : decode cX11_of 18 = .ok (.iload_n 2, 1) := by decide +kernel
theorem dX11_of_19 : decode cX11_of 19 = .ok (.tableswitch 61 0 3 #[29, 36, 45, 54], 29) := by decide +kernel
theorem dX11_of_48 : decode cX11_of 48 = .ok (.aload_n 3, 1) := by decide +kernel
theorem dX11_of_49 : decode cX11_of 49 = .ok (.getfield 90, 3) := by decide +kernel
theorem dX11_of_52 : decode cX11_of 52 = .ok (.iload_n 1, 1) := by decide +kernel
theorem dX11_of_53 : decode cX11_of 53 = .ok (.iaload, 1) := by decide +kernel
theorem dX11_of_54 : decode cX11_of 54 = .ok (.ireturn, 1) := by decide +kernel
theorem dX11_of_55 : decode cX11_of 55 = .ok (.aload_n 3, 1) := by decide +kernel
theorem dX11_of_56 : decode cX11_of 56 = .ok (.getfield 93, 3) := by decide +kernel
theorem dX11_of_59 : decode cX11_of 59 = .ok (.iload_n 1, 1) := by decide +kernel
theorem dX11_of_60 : decode cX11_of 60 = .ok (.iaload, 1) := by decide +kernel
theorem dX11_of_61 : decode cX11_of 61 = .ok (.iconst 5, 1) := by decide +kernel
theorem dX11_of_62 : decode cX11_of 62 = .ok (.iadd, 1) := by decide +kernel
theorem dX11_of_63 : decode cX11_of 63 = .ok (.ireturn, 1) := by decide +kernel
theorem dX11_of_64 : decode cX11_of 64 = .ok (.aload_n 3, 1) := by decide +kernel
theorem dX11_of_65 : decode cX11_of 65 = .ok (.getfield 96, 3) := by decide +kernel
theorem dX11_of_68 : decode cX11_of 68 = .ok (.iload_n 1, 1) := by decide +kernel
theorem dX11_of_69 : decode cX11_of 69 = .ok (.iaload, 1) := by decide +kernel
theorem dX11_of_70 : decode cX11_of 70 = .ok (.iconst 5, 1) := by decide +kernel
theorem dX11_of_71 : decode cX11_of 71 = .ok (.iadd, 1) := by decide +kernel
theorem dX11_of_72 : decode cX11_of 72 = .ok (.ireturn, 1) := by decide +kernel
theorem dX11_of_73 : decode cX11_of 73 = .ok (.aload_n 3, 1) := by decide +kernel
theorem dX11_of_74 : decode cX11_of 74 = .ok (.getfield 99, 3) := by decide +kernel
theorem dX11_of_77 : decode cX11_of 77 = .ok (.iload_n 1, 1) := by decide +kernel
theorem dX11_of_78 : decode cX11_of 78 = .ok (.iaload, 1) := by decide +kernel
theorem dX11_of_79 : decode cX11_of 79 = .ok (.ireturn, 1) := by decide +kernel
theorem dX11_of_80 : decode cX11_of 80 = .ok (.iconst (-1), 1) := by decide +kernel
theorem dX11_of_81 : decode cX11_of 81 = .ok (.ireturn, 1) := by decide +kernel
theorem dX11_part_0 : decode cX11_part 0 = .ok (.iload_n 3, 1) := by decide +kernel
theorem dX11_part_1 : decode cX11_part 1 = .ok (.ifCond .lt 23, 3) := by decide +kernel
theorem dX11_part_4 : decode cX11_part 4 = .ok (.iload 4, 2) := by decide +kernel
theorem dX11_part_6 : decode cX11_part 6 = .ok (.ifCond .lt 18, 3) := by decide +kernel
theorem dX11_part_9 : decode cX11_part 9 = .ok (.iload_n 3, 1) := by decide +kernel
theorem dX11_part_10 : decode cX11_part 10 = .ok (.sipush 256, 3) := by decide +kernel
theorem dX11_part_13 : decode cX11_part 13 = .ok (.if_icmp .ge 11, 3) := by decide +kernel
theorem dX11_part_16 : decode cX11_part 16 = .ok (.iload 4, 2) := by decide +kernel
theorem dX11_part_18 : decode cX11_part 18 = .ok (.sipush 256, 3) := by decide +kernel
theorem dX11_part_21 : decode cX11_part 21 = .ok (.if_icmp .lt 4, 3) := by decide +kernel
theorem dX11_part_24 : decode cX11_part 24 = .ok (.return_, 1) := by decide +kernel
theorem dX11_part_25 : decode cX11_part 25 = .ok (.aload_n 0, 1) := by decide +kernel
theorem dX11_part_26 : decode cX11_part 26 = .ok (.getfield 12, 3) := by decide +kernel
theorem dX11_part_29 : decode cX11_part 29 = .ok (.getfield 70, 3) := by decide +kernel
theorem dX11_part_32 : decode cX11_part 32 = .ok (.astore 5, 2) := by decide +kernel
theorem dX11_part_34 : decode cX11_part 34 = .ok (.aload_n 0, 1) := by decide +kernel
theorem dX11_part_35 : decode cX11_part 35 = .ok (.getfield 39, 3) := by decide +kernel
theorem dX11_part_38 : decode cX11_part 38 = .ok (.iload_n 3, 1) := by decide +kernel
theorem dX11_part_39 : decode cX11_part 39 = .ok (.iaload, 1) := by decide +kernel
theorem dX11_part_40 : decode cX11_part 40 = .ok (.istore 6, 2) := by decide +kernel
theorem dX11_part_42 : decode cX11_part 42 = .ok (.aload_n 0, 1) := by decide +kernel
theorem dX11_part_43 : decode cX11_part 43 = .ok (.aload_n 1, 1) := by decide +kernel
theorem dX11_part_44 : decode cX11_part 44 = .ok (.iload_n 2, 1) := by decide +kernel
theorem dX11_part_45 : decode cX11_part 45 = .ok (.iload 6, 2) := by decide +kernel
theorem dX11_part_47 : decode cX11_part 47 = .ok (.invokevirtual 161, 3) := by decide +kernel
theorem dX11_part_50 : decode cX11_part 50 = .ok (.istore 7, 2) := by decide +kernel
theorem dX11_part_52 : decode cX11_part 52 = .ok (.aload 5, 2) := by decide +kernel
theorem dX11_part_54 : decode cX11_part 54 = .ok (.iload_n 2, 1) := by decide +kernel
theorem dX11_part_55 : decode cX11_part 55 = .ok (.iload 7, 2) := by decide +kernel
theorem dX11_part_57 : decode cX11_part 57 = .ok (.iload 6, 2) := by decide +kernel
theorem dX11_part_59 : decode cX11_part 59 = .ok (.invokevirtual 127, 3) := by decide +kernel
theorem dX11_part_62 : decode cX11_part 62 = .ok (.istore 8, 2) := by decide +kernel
theorem dX11_part_64 : decode cX11_part 64 = .ok (.iload 6, 2) := by decide +kernel
theorem dX11_part_66 : decode cX11_part 66 = .ok (.iconst 2, 1) := by decide +kernel
theorem dX11_part_67 : decode cX11_part 67 = .ok (.aload 5, 2) := by decide +kernel
theorem dX11_part_69 : decode cX11_part 69 = .ok (.iload_n 2, 1) := by decide +kernel
theorem dX11_part_70 : decode cX11_part 70 = .ok (.iload 7, 2) := by decide +kernel
theorem dX11_part_72 : decode cX11_part 72 = .ok (.invokevirtual 303, 3) := by decide +kernel
theorem dX11_part_75 : decode cX11_part 75 = .ok (.imul, 1) := by decide +kernel
theorem dX11_part_76 : decode cX11_part 76 = .ok (.isub, 1) := by decide +kernel
theorem dX11_part_77 : decode cX11_part 77 = .ok (.istore 9, 2) := by decide +kernel
theorem dX11_part_79 : decode cX11_part 79 = .ok (.aload_n 0, 1) := by decide +kernel
theorem dX11_part_80 : decode cX11_part 80 = .ok (.getfield 39, 3) := by decide +kernel
theorem dX11_part_83 : decode cX11_part 83 = .ok (.iload 4, 2) := by decide +kernel
theorem dX11_part_85 : decode cX11_part 85 = .ok (.iconst 0, 1) := by decide +kernel
theorem dX11_part_86 : decode cX11_part 86 = .ok (.iload 9, 2) := by decide +kernel
theorem dX11_part_88 : decode cX11_part 88 = .ok (.invokestatic 291, 3) := by decide +kernel
theorem dX11_part_91 : decode cX11_part 91 = .ok (.iastore, 1) := by decide +kernel
theorem dX11_part_92 : decode cX11_part 92 = .ok (.aload_n 0, 1) := by decide +kernel
theorem dX11_part_93 : decode cX11_part 93 = .ok (.getfield 42, 3) := by decide +kernel
theorem dX11_part_96 : decode cX11_part 96 = .ok (.iload 4, 2) := by decide +kernel
theorem dX11_part_98 : decode cX11_part 98 = .ok (.aload_n 0, 1) := by decide +kernel
theorem dX11_part_99 : decode cX11_part 99 = .ok (.getfield 42, 3) := by decide +kernel
theorem dX11_part_102 : decode cX11_part 102 = .ok (.iload_n 3, 1) := by decide +kernel
theorem dX11_part_103 : decode cX11_part 103 = .ok (.iaload, 1) := by decide +kernel
theorem dX11_part_104 : decode cX11_part 104 = .ok (.iload 9, 2) := by decide +kernel
theorem dX11_part_106 : decode cX11_part 106 = .ok (.ifCond .ge 10, 3) := by decide +kernel
theorem dX11_part_109 : decode cX11_part 109 = .ok (.iconst 2, 1) := by decide +kernel
theorem dX11_part_110 : decode cX11_part 110 = .ok (.iload 8, 2) := by decide +kernel
theorem dX11_part_112 : decode cX11_part 112 = .ok (.imul, 1) := by decide +kernel
theorem dX11_part_113 : decode cX11_part 113 = .ok (.goto 5, 3) := by decide +kernel
theorem dX11_part_116 : decode cX11_part 116 = .ok (.iload 8, 2) := by decide +kernel
theorem dX11_part_118 : decode cX11_part 118 = .ok (.iadd, 1) := by decide +kernel
theorem dX11_part_119 : decode cX11_part 119 = .ok (.iastore, 1) := by decide +kernel
theorem dX11_part_120 : decode cX11_part 120 = .ok (.aload_n 0, 1) := by decide +kernel
theorem dX11_part_121 : decode cX11_part 121 = .ok (.getfield 45, 3) := by decide +kernel
theorem dX11_part_124 : decode cX11_part 124 = .ok (.iload 4, 2) := by decide +kernel
theorem dX11_part_126 : decode cX11_part 126 = .ok (.aload_n 0, 1) := by decide +kernel
theorem dX11_part_127 : decode cX11_part 127 = .ok (.getfield 45, 3) := by decide +kernel
theorem dX11_part_130 : decode cX11_part 130 = .ok (.iload_n 3, 1) := by decide +kernel
theorem dX11_part_131 : decode cX11_part 131 = .ok (.laload, 1) := by decide +kernel
theorem dX11_part_132 : decode cX11_part 132 = .ok (.aload 5, 2) := by decide +kernel
theorem dX11_part_134 : decode cX11_part 134 = .ok (.getfield 114, 3) := by decide +kernel
theorem dX11_part_137 : decode cX11_part 137 = .ok (.i2l, 1) := by decide +kernel
theorem dX11_part_138 : decode cX11_part 138 = .ok (.lmul, 1) := by decide +kernel
theorem dX11_part_139 : decode cX11_part 139 = .ok (.lastore, 1) := by decide +kernel
theorem dX11_part_140 : decode cX11_part 140 = .ok (.aload_n 0, 1) := by decide +kernel
theorem dX11_part_141 : decode cX11_part 141 = .ok (.getfield 39, 3) := by decide +kernel
theorem dX11_part_144 : decode cX11_part 144 = .ok (.iload_n 3, 1) := by decide +kernel
theorem dX11_part_145 : decode cX11_part 145 = .ok (.aload 5, 2) := by decide +kernel
theorem dX11_part_147 : decode cX11_part 147 = .ok (.iload_n 2, 1) := by decide +kernel
theorem dX11_part_148 : decode cX11_part 148 = .ok (.iload 7, 2) := by decide +kernel
theorem dX11_part_150 : decode cX11_part 150 = .ok (.iload 6, 2) := by decide +kernel
theorem dX11_part_152 : decode cX11_part 152 = .ok (.invokevirtual 130, 3) := by decide +kernel
theorem dX11_part_155 : decode cX11_part 155 = .ok (.iastore, 1) := by decide +kernel
theorem dX11_part_156 : decode cX11_part 156 = .ok (.aload_n 0, 1) := by decide +kernel
theorem dX11_part_157 : decode cX11_part 157 = .ok (.getfield 42, 3) := by decide +kernel
theorem dX11_part_160 : decode cX11_part 160 = .ok (.iload_n 3, 1) := by decide +kernel
theorem dX11_part_161 : decode cX11_part 161 = .ok (.dup2, 1) := by decide +kernel
theorem dX11_part_162 : decode cX11_part 162 = .ok (.iaload, 1) := by decide +kernel
theorem dX11_part_163 : decode cX11_part 163 = .ok (.iload 8, 2) := by decide +kernel
theorem dX11_part_165 : decode cX11_part 165 = .ok (.iadd, 1) := by decide +kernel
theorem dX11_part_166 : decode cX11_part 166 = .ok (.iastore, 1) := by decide +kernel
theorem dX11_part_167 : decode cX11_part 167 = .ok (.aload_n 0, 1) := by decide +kernel
theorem dX11_part_168 : decode cX11_part 168 = .ok (.getfield 45, 3) := by decide +kernel
theorem dX11_part_171 : decode cX11_part 171 = .ok (.iload_n 3, 1) := by decide +kernel
theorem dX11_part_172 : decode cX11_part 172 = .ok (.dup2, 1) := by decide +kernel
theorem dX11_part_173 : decode cX11_part 173 = .ok (.laload, 1) := by decide +kernel
theorem dX11_part_174 : decode cX11_part 174 = .ok (.bipush 10, 2) := by decide +kernel
theorem dX11_part_176 : decode cX11_part 176 = .ok (.aload 5, 2) := by decide +kernel
theorem dX11_part_178 : decode cX11_part 178 = .ok (.getfield 114, 3) := by decide +kernel
theorem dX11_part_181 : decode cX11_part 181 = .ok (.isub, 1) := by decide +kernel
theorem dX11_part_182 : decode cX11_part 182 = .ok (.i2l, 1) := by decide +kernel
theorem dX11_part_183 : decode cX11_part 183 = .ok (.lmul, 1) := by decide +kernel
theorem dX11_part_184 : decode cX11_part 184 = .ok (.lastore, 1) := by decide +kernel
theorem dX11_part_185 : decode cX11_part 185 = .ok (.return_, 1) := by decide +kernel
theorem dX11_price_0 : decode cX11_price 0 = .ok (.aload_n 0, 1) := by decide +kernel
theorem dX11_price_1 : decode cX11_price 1 = .ok (.getfield 12, 3) := by decide +kernel
theorem dX11_price_4 : decode cX11_price 4 = .ok (.getfield 70, 3) := by decide +kernel
theorem dX11_price_7 : decode cX11_price 7 = .ok (.iload_n 1, 1) := by decide +kernel
theorem dX11_price_8 : decode cX11_price 8 = .ok (.invokevirtual 86, 3) := by decide +kernel
theorem dX11_price_11 : decode cX11_price 11 = .ok (.ifCond .ne 5, 3) := by decide +kernel
theorem dX11_price_14 : decode cX11_price 14 = .ok (.iconst (-1), 1) := by decide +kernel
theorem dX11_price_15 : decode cX11_price 15 = .ok (.ireturn, 1) := by decide +kernel
theorem dX11_price_16 : decode cX11_price 16 = .ok (.iload_n 2, 1) := by decide +kernel
theorem dX11_price_17 : decode cX11_price 17 = .ok (.ifCond .eq 17, 3) := by decide +kernel
theorem dX11_price_20 : decode cX11_price 20 = .ok (.aload_n 0, 1) := by decide +kernel
theorem dX11_price_21 : decode cX11_price 21 = .ok (.getfield 12, 3) := by decide +kernel
theorem dX11_price_24 : decode cX11_price 24 = .ok (.getfield 70, 3) := by decide +kernel
theorem dX11_price_27 : decode cX11_price 27 = .ok (.iload_n 2, 1) := by decide +kernel
theorem dX11_price_28 : decode cX11_price 28 = .ok (.invokevirtual 120, 3) := by decide +kernel
theorem dX11_price_31 : decode cX11_price 31 = .ok (.ifCond .ne 6, 3) := by decide +kernel
theorem dX11_price_34 : decode cX11_price 34 = .ok (.bipush (-2), 2) := by decide +kernel
theorem dX11_price_36 : decode cX11_price 36 = .ok (.ireturn, 1) := by decide +kernel
theorem dX11_price_37 : decode cX11_price 37 = .ok (.aload_n 0, 1) := by decide +kernel
theorem dX11_price_38 : decode cX11_price 38 = .ok (.getfield 31, 3) := by decide +kernel
theorem dX11_price_41 : decode cX11_price 41 = .ok (.aload_n 0, 1) := by decide +kernel
theorem dX11_price_42 : decode cX11_price 42 = .ok (.getfield 12, 3) := by decide +kernel
theorem dX11_price_45 : decode cX11_price 45 = .ok (.getfield 70, 3) := by decide +kernel
theorem dX11_price_48 : decode cX11_price 48 = .ok (.invokevirtual 158, 3) := by decide +kernel
theorem dX11_price_51 : decode cX11_price 51 = .ok (.aload_n 0, 1) := by decide +kernel
theorem dX11_price_52 : decode cX11_price 52 = .ok (.getfield 31, 3) := by decide +kernel
theorem dX11_price_55 : decode cX11_price 55 = .ok (.iload_n 1, 1) := by decide +kernel
theorem dX11_price_56 : decode cX11_price 56 = .ok (.iload_n 2, 1) := by decide +kernel
theorem dX11_price_57 : decode cX11_price 57 = .ok (.iconst 1, 1) := by decide +kernel
theorem dX11_price_58 : decode cX11_price 58 = .ok (.isub, 1) := by decide +kernel
theorem dX11_price_59 : decode cX11_price 59 = .ok (.invokevirtual 178, 3) := by decide +kernel
theorem dX11_price_62 : decode cX11_price 62 = .ok (.aload_n 0, 1) := by decide +kernel
theorem dX11_price_63 : decode cX11_price 63 = .ok (.getfield 31, 3) := by decide +kernel
theorem dX11_price_66 : decode cX11_price 66 = .ok (.iload_n 1, 1) := by decide +kernel
theorem dX11_price_67 : decode cX11_price 67 = .ok (.iload_n 2, 1) := by decide +kernel
theorem dX11_price_68 : decode cX11_price 68 = .ok (.invokevirtual 178, 3) := by decide +kernel
theorem dX11_price_71 : decode cX11_price 71 = .ok (.isub, 1) := by decide +kernel
theorem dX11_price_72 : decode cX11_price 72 = .ok (.ireturn, 1) := by decide +kernel
theorem dX11_ride_0 : decode cX11_ride 0 = .ok (.aload_n 0, 1) := by decide +kernel
theorem dX11_ride_1 : decode cX11_ride 1 = .ok (.getfield 12, 3) := by decide +kernel
theorem dX11_ride_4 : decode cX11_ride 4 = .ok (.iload_n 1, 1) := by decide +kernel
theorem dX11_ride_5 : decode cX11_ride 5 = .ok (.invokevirtual 144, 3) := by decide +kernel
theorem dX11_ride_8 : decode cX11_ride 8 = .ok (.astore_n 3, 1) := by decide +kernel
theorem dX11_ride_9 : decode cX11_ride 9 = .ok (.aload_n 3, 1) := by decide +kernel
theorem dX11_ride_10 : decode cX11_ride 10 = .ok (.ifnull 12, 3) := by decide +kernel
theorem dX11_ride_13 : decode cX11_ride 13 = .ok (.aload_n 0, 1) := by decide +kernel
theorem dX11_ride_14 : decode cX11_ride 14 = .ok (.iload_n 2, 1) := by decide +kernel
theorem dX11_ride_15 : decode cX11_ride 15 = .ok (.iconst 0, 1) := by decide +kernel
theorem dX11_ride_16 : decode cX11_ride 16 = .ok (.invokevirtual 165, 3) := by decide +kernel
theorem dX11_ride_19 : decode cX11_ride 19 = .ok (.ifCond .ne 5, 3) := by decide +kernel
theorem dX11_ride_22 : decode cX11_ride 22 = .ok (.iconst (-1), 1) := by decide +kernel
theorem dX11_ride_23 : decode cX11_ride 23 = .ok (.ireturn, 1) := by decide +kernel
theorem dX11_ride_24 : decode cX11_ride 24 = .ok (.aload_n 0, 1) := by decide +kernel
theorem dX11_ride_25 : decode cX11_ride 25 = .ok (.getfield 12, 3) := by decide +kernel
theorem dX11_ride_28 : decode cX11_ride 28 = .ok (.getfield 70, 3) := by decide +kernel
theorem dX11_ride_31 : decode cX11_ride 31 = .ok (.getfield 102, 3) := by decide +kernel
theorem dX11_ride_34 : decode cX11_ride 34 = .ok (.ifCond .ne 6, 3) := by decide +kernel
theorem dX11_ride_37 : decode cX11_ride 37 = .ok (.bipush (-3), 2) := by decide +kernel
theorem dX11_ride_39 : decode cX11_ride 39 = .ok (.ireturn, 1) := by decide +kernel
theorem dX11_ride_40 : decode cX11_ride 40 = .ok (.aload_n 0, 1) := by decide +kernel
theorem dX11_ride_41 : decode cX11_ride 41 = .ok (.getfield 31, 3) := by decide +kernel
theorem dX11_ride_44 : decode cX11_ride 44 = .ok (.aload_n 0, 1) := by decide +kernel
theorem dX11_ride_45 : decode cX11_ride 45 = .ok (.getfield 12, 3) := by decide +kernel
theorem dX11_ride_48 : decode cX11_ride 48 = .ok (.getfield 70, 3) := by decide +kernel
theorem dX11_ride_51 : decode cX11_ride 51 = .ok (.invokevirtual 158, 3) := by decide +kernel
theorem dX11_ride_54 : decode cX11_ride 54 = .ok (.aload_n 0, 1) := by decide +kernel
theorem dX11_ride_55 : decode cX11_ride 55 = .ok (.aload_n 3, 1) := by decide +kernel
theorem dX11_ride_56 : decode cX11_ride 56 = .ok (.invokevirtual 169, 3) := by decide +kernel
theorem dX11_ride_59 : decode cX11_ride 59 = .ok (.iload_n 2, 1) := by decide +kernel
theorem dX11_ride_60 : decode cX11_ride 60 = .ok (.ifCond .ne 8, 3) := by decide +kernel
theorem dX11_ride_63 : decode cX11_ride 63 = .ok (.aload_n 0, 1) := by decide +kernel
theorem dX11_ride_64 : decode cX11_ride 64 = .ok (.getfield 172, 3) := by decide +kernel
theorem dX11_ride_67 : decode cX11_ride 67 = .ok (.ireturn, 1) := by decide +kernel
theorem dX11_ride_68 : decode cX11_ride 68 = .ok (.iload_n 2, 1) := by decide +kernel
theorem dX11_ride_69 : decode cX11_ride 69 = .ok (.iconst 1, 1) := by decide +kernel
theorem dX11_ride_70 : decode cX11_ride 70 = .ok (.if_icmp .ne 8, 3) := by decide +kernel
theorem dX11_ride_73 : decode cX11_ride 73 = .ok (.aload_n 0, 1) := by decide +kernel
theorem dX11_ride_74 : decode cX11_ride 74 = .ok (.getfield 175, 3) := by decide +kernel
theorem dX11_ride_77 : decode cX11_ride 77 = .ok (.ireturn, 1) := by decide +kernel
theorem dX11_ride_78 : decode cX11_ride 78 = .ok (.aload_n 0, 1) := by decide +kernel
theorem dX11_ride_79 : decode cX11_ride 79 = .ok (.getfield 35, 3) := by decide +kernel
theorem dX11_ride_82 : decode cX11_ride 82 = .ok (.iload_n 2, 1) := by decide +kernel
theorem dX11_ride_83 : decode cX11_ride 83 = .ok (.bipush 10, 2) := by decide +kernel
theorem dX11_ride_85 : decode cX11_ride 85 = .ok (.isub, 1) := by decide +kernel
theorem dX11_ride_86 : decode cX11_ride 86 = .ok (.iaload, 1) := by decide +kernel
theorem dX11_ride_87 : decode cX11_ride 87 = .ok (.ireturn, 1) := by decide +kernel
theorem dX11_rides_0 : decode cX11_rides 0 = .ok (.aload_n 0, 1) := by decide +kernel
theorem dX11_rides_1 : decode cX11_rides 1 = .ok (.getfield 12, 3) := by decide +kernel
theorem dX11_rides_4 : decode cX11_rides 4 = .ok (.getfield 70, 3) := by decide +kernel
theorem dX11_rides_7 : decode cX11_rides 7 = .ok (.astore 5, 2) := by decide +kernel
theorem dX11_rides_9 : decode cX11_rides 9 = .ok (.aload 5, 2) := by decide +kernel
theorem dX11_rides_11 : decode cX11_rides 11 = .ok (.iload_n 1, 1) := by decide +kernel
theorem dX11_rides_12 : decode cX11_rides 12 = .ok (.invokevirtual 86, 3) := by decide +kernel
theorem dX11_rides_15 : decode cX11_rides 15 = .ok (.ifCond .eq 14, 3) := by decide +kernel
theorem dX11_rides_18 : decode cX11_rides 18 = .ok (.iload 4, 2) := by decide +kernel
theorem dX11_rides_20 : decode cX11_rides 20 = .ok (.ifCond .lt 9, 3) := by decide +kernel
theorem dX11_rides_23 : decode cX11_rides 23 = .ok (.iload 4, 2) := by decide +kernel
theorem dX11_rides_25 : decode cX11_rides 25 = .ok (.iconst 2, 1) := by decide +kernel
theorem dX11_rides_26 : decode cX11_rides 26 = .ok (.if_icmp .le 5, 3) := by decide +kernel
theorem dX11_rides_29 : decode cX11_rides 29 = .ok (.iconst (-1), 1) := by decide +kernel
theorem dX11_rides_30 : decode cX11_rides 30 = .ok (.ireturn, 1) := by decide +kernel
theorem dX11_rides_31 : decode cX11_rides 31 = .ok (.iload_n 2, 1) := by decide +kernel
theorem dX11_rides_32 : decode cX11_rides 32 = .ok (.invokestatic 117, 3) := by decide +kernel
theorem dX11_rides_35 : decode cX11_rides 35 = .ok (.ifCond .eq 12, 3) := by decide +kernel
theorem dX11_rides_38 : decode cX11_rides 38 = .ok (.aload 5, 2) := by decide +kernel
theorem dX11_rides_40 : decode cX11_rides 40 = .ok (.iload_n 3, 1) := by decide +kernel
theorem dX11_rides_41 : decode cX11_rides 41 = .ok (.invokevirtual 120, 3) := by decide +kernel
theorem dX11_rides_44 : decode cX11_rides 44 = .ok (.ifCond .ne 6, 3) := by decide +kernel
theorem dX11_rides_47 : decode cX11_rides 47 = .ok (.bipush (-2), 2) := by decide +kernel
theorem dX11_rides_49 : decode cX11_rides 49 = .ok (.ireturn, 1) := by decide +kernel
theorem dX11_rides_50 : decode cX11_rides 50 = .ok (.iload 4, 2) := by decide +kernel
theorem dX11_rides_52 : decode cX11_rides 52 = .ok (.ifCond .ne 12, 3) := by decide +kernel
theorem dX11_rides_55 : decode cX11_rides 55 = .ok (.aload 5, 2) := by decide +kernel
theorem dX11_rides_57 : decode cX11_rides 57 = .ok (.iload_n 1, 1) := by decide +kernel
theorem dX11_rides_58 : decode cX11_rides 58 = .ok (.iload_n 2, 1) := by decide +kernel
theorem dX11_rides_59 : decode cX11_rides 59 = .ok (.iload_n 3, 1) := by decide +kernel
theorem dX11_rides_60 : decode cX11_rides 60 = .ok (.invokevirtual 123, 3) := by decide +kernel
theorem dX11_rides_63 : decode cX11_rides 63 = .ok (.ireturn, 1) := by decide +kernel
theorem dX11_rides_64 : decode cX11_rides 64 = .ok (.iload 4, 2) := by decide +kernel
theorem dX11_rides_66 : decode cX11_rides 66 = .ok (.iconst 1, 1) := by decide +kernel
theorem dX11_rides_67 : decode cX11_rides 67 = .ok (.if_icmp .ne 12, 3) := by decide +kernel
theorem dX11_rides_70 : decode cX11_rides 70 = .ok (.aload 5, 2) := by decide +kernel
theorem dX11_rides_72 : decode cX11_rides 72 = .ok (.iload_n 1, 1) := by decide +kernel
theorem dX11_rides_73 : decode cX11_rides 73 = .ok (.iload_n 2, 1) := by decide +kernel
theorem dX11_rides_74 : decode cX11_rides 74 = .ok (.iload_n 3, 1) := by decide +kernel
theorem dX11_rides_75 : decode cX11_rides 75 = .ok (.invokevirtual 127, 3) := by decide +kernel
theorem dX11_rides_78 : decode cX11_rides 78 = .ok (.ireturn, 1) := by decide +kernel
theorem dX11_rides_79 : decode cX11_rides 79 = .ok (.aload 5, 2) := by decide +kernel
theorem dX11_rides_81 : decode cX11_rides 81 = .ok (.iload_n 1, 1) := by decide +kernel
theorem dX11_rides_82 : decode cX11_rides 82 = .ok (.iload_n 2, 1) := by decide +kernel
theorem dX11_rides_83 : decode cX11_rides 83 = .ok (.iload_n 3, 1) := by decide +kernel
theorem dX11_rides_84 : decode cX11_rides 84 = .ok (.invokevirtual 130, 3) := by decide +kernel
theorem dX11_rides_87 : decode cX11_rides 87 = .ok (.istore 6, 2) := by decide +kernel
theorem dX11_rides_89 : decode cX11_rides 89 = .ok (.iload 6, 2) := by decide +kernel
theorem dX11_rides_91 : decode cX11_rides 91 = .ok (.ifCond .ge 8, 3) := by decide +kernel
theorem dX11_rides_94 : decode cX11_rides 94 = .ok (.bipush (-5), 2) := by decide +kernel
theorem dX11_rides_96 : decode cX11_rides 96 = .ok (.goto 5, 3) := by decide +kernel
theorem dX11_rides_99 : decode cX11_rides 99 = .ok (.iload 6, 2) := by decide +kernel
theorem dX11_rides_101 : decode cX11_rides 101 = .ok (.ireturn, 1) := by decide +kernel
theorem dX11_road_0 : decode cX11_road 0 = .ok (.aload_n 0, 1) := by decide +kernel
theorem dX11_road_1 : decode cX11_road 1 = .ok (.getfield 12, 3) := by decide +kernel
theorem dX11_road_4 : decode cX11_road 4 = .ok (.getfield 57, 3) := by decide +kernel
theorem dX11_road_7 : decode cX11_road 7 = .ok (.iconst 5, 1) := by decide +kernel
theorem dX11_road_8 : decode cX11_road 8 = .ok (.if_icmp .lt 6, 3) := by decide +kernel
theorem dX11_road_11 : decode cX11_road 11 = .ok (.bipush (-4), 2) := by decide +kernel
theorem dX11_road_13 : decode cX11_road 13 = .ok (.ireturn, 1) := by decide +kernel
theorem dX11_road_14 : decode cX11_road 14 = .ok (.aload_n 0, 1) := by decide +kernel
theorem dX11_road_15 : decode cX11_road 15 = .ok (.getfield 24, 3) := by decide +kernel
theorem dX11_road_18 : decode cX11_road 18 = .ok (.aload_n 0, 1) := by decide +kernel
theorem dX11_road_19 : decode cX11_road 19 = .ok (.getfield 12, 3) := by decide +kernel
theorem dX11_road_22 : decode cX11_road 22 = .ok (.getfield 60, 3) := by decide +kernel
theorem dX11_road_25 : decode cX11_road 25 = .ok (.aload_n 0, 1) := by decide +kernel
theorem dX11_road_26 : decode cX11_road 26 = .ok (.getfield 12, 3) := by decide +kernel
theorem dX11_road_29 : decode cX11_road 29 = .ok (.getfield 49, 3) := by decide +kernel
theorem dX11_road_32 : decode cX11_road 32 = .ok (.invokevirtual 63, 3) := by decide +kernel
theorem dX11_road_35 : decode cX11_road 35 = .ok (.istore_n 1, 1) := by decide +kernel
theorem dX11_road_36 : decode cX11_road 36 = .ok (.aload_n 0, 1) := by decide +kernel
theorem dX11_road_37 : decode cX11_road 37 = .ok (.getfield 12, 3) := by decide +kernel
theorem dX11_road_40 : decode cX11_road 40 = .ok (.iconst 0, 1) := by decide +kernel
theorem dX11_road_41 : decode cX11_road 41 = .ok (.putfield 49, 3) := by decide +kernel
theorem dX11_road_44 : decode cX11_road 44 = .ok (.iload_n 1, 1) := by decide +kernel
theorem dX11_road_45 : decode cX11_road 45 = .ok (.iconst (-1), 1) := by decide +kernel
theorem dX11_road_46 : decode cX11_road 46 = .ok (.if_icmp .eq 8, 3) := by decide +kernel
theorem dX11_road_49 : decode cX11_road 49 = .ok (.bipush (-10), 2) := by decide +kernel
theorem dX11_road_51 : decode cX11_road 51 = .ok (.iload_n 1, 1) := by decide +kernel
theorem dX11_road_52 : decode cX11_road 52 = .ok (.isub, 1) := by decide +kernel
theorem dX11_road_53 : decode cX11_road 53 = .ok (.ireturn, 1) := by decide +kernel
theorem dX11_road_54 : decode cX11_road 54 = .ok (.aload_n 0, 1) := by decide +kernel
theorem dX11_road_55 : decode cX11_road 55 = .ok (.dup, 1) := by decide +kernel
theorem dX11_road_56 : decode cX11_road 56 = .ok (.getfield 67, 3) := by decide +kernel
theorem dX11_road_59 : decode cX11_road 59 = .ok (.iconst 1, 1) := by decide +kernel
theorem dX11_road_60 : decode cX11_road 60 = .ok (.iadd, 1) := by decide +kernel
theorem dX11_road_61 : decode cX11_road 61 = .ok (.putfield 67, 3) := by decide +kernel
theorem dX11_road_64 : decode cX11_road 64 = .ok (.aload_n 0, 1) := by decide +kernel
theorem dX11_road_65 : decode cX11_road 65 = .ok (.getfield 12, 3) := by decide +kernel
theorem dX11_road_68 : decode cX11_road 68 = .ok (.getfield 70, 3) := by decide +kernel
theorem dX11_road_71 : decode cX11_road 71 = .ok (.aload_n 0, 1) := by decide +kernel
theorem dX11_road_72 : decode cX11_road 72 = .ok (.getfield 24, 3) := by decide +kernel
theorem dX11_road_75 : decode cX11_road 75 = .ok (.getfield 74, 3) := by decide +kernel
theorem dX11_road_78 : decode cX11_road 78 = .ok (.invokevirtual 77, 3) := by decide +kernel
theorem dX11_road_81 : decode cX11_road 81 = .ok (.aload_n 0, 1) := by decide +kernel
theorem dX11_road_82 : decode cX11_road 82 = .ok (.getfield 12, 3) := by decide +kernel
theorem dX11_road_85 : decode cX11_road 85 = .ok (.getfield 70, 3) := by decide +kernel
theorem dX11_road_88 : decode cX11_road 88 = .ok (.aload_n 0, 1) := by decide +kernel
theorem dX11_road_89 : decode cX11_road 89 = .ok (.getfield 67, 3) := by decide +kernel
theorem dX11_road_92 : decode cX11_road 92 = .ok (.putfield 83, 3) := by decide +kernel
theorem dX11_road_95 : decode cX11_road 95 = .ok (.aload_n 0, 1) := by decide +kernel
theorem dX11_road_96 : decode cX11_road 96 = .ok (.getfield 12, 3) := by decide +kernel
theorem dX11_road_99 : decode cX11_road 99 = .ok (.dup, 1) := by decide +kernel
theorem dX11_road_100 : decode cX11_road 100 = .ok (.getfield 57, 3) := by decide +kernel
theorem dX11_road_103 : decode cX11_road 103 = .ok (.iconst 1, 1) := by decide +kernel
theorem dX11_road_104 : decode cX11_road 104 = .ok (.iadd, 1) := by decide +kernel
theorem dX11_road_105 : decode cX11_road 105 = .ok (.putfield 57, 3) := by decide +kernel
theorem dX11_road_108 : decode cX11_road 108 = .ok (.aload_n 0, 1) := by decide +kernel
theorem dX11_road_109 : decode cX11_road 109 = .ok (.getfield 12, 3) := by decide +kernel
theorem dX11_road_112 : decode cX11_road 112 = .ok (.getfield 57, 3) := by decide +kernel
theorem dX11_road_115 : decode cX11_road 115 = .ok (.iconst 1, 1) := by decide +kernel
theorem dX11_road_116 : decode cX11_road 116 = .ok (.isub, 1) := by decide +kernel
theorem dX11_road_117 : decode cX11_road 117 = .ok (.ireturn, 1) := by decide +kernel
theorem dX11_row_0 : decode cX11_row 0 = .ok (.iload_n 1, 1) := by decide +kernel
theorem dX11_row_1 : decode cX11_row 1 = .ok (.iconst (-1), 1) := by decide +kernel
theorem dX11_row_2 : decode cX11_row 2 = .ok (.if_icmp .ne 13, 3) := by decide +kernel
theorem dX11_row_5 : decode cX11_row 5 = .ok (.aload_n 0, 1) := by decide +kernel
theorem dX11_row_6 : decode cX11_row 6 = .ok (.getfield 12, 3) := by decide +kernel
theorem dX11_row_9 : decode cX11_row 9 = .ok (.iconst 0, 1) := by decide +kernel
theorem dX11_row_10 : decode cX11_row 10 = .ok (.putfield 187, 3) := by decide +kernel
theorem dX11_row_13 : decode cX11_row 13 = .ok (.iconst 0, 1) := by decide +kernel
theorem dX11_row_14 : decode cX11_row 14 = .ok (.ireturn, 1) := by decide +kernel
theorem dX11_row_15 : decode cX11_row 15 = .ok (.iload_n 1, 1) := by decide +kernel
theorem dX11_row_16 : decode cX11_row 16 = .ok (.invokestatic 117, 3) := by decide +kernel
theorem dX11_row_19 : decode cX11_row 19 = .ok (.ifCond .ne 6, 3) := by decide +kernel
theorem dX11_row_22 : decode cX11_row 22 = .ok (.bipush (-2), 2) := by decide +kernel
theorem dX11_row_24 : decode cX11_row 24 = .ok (.ireturn, 1) := by decide +kernel
theorem dX11_row_25 : decode cX11_row 25 = .ok (.aload_n 0, 1) := by decide +kernel
theorem dX11_row_26 : decode cX11_row 26 = .ok (.getfield 12, 3) := by decide +kernel
theorem dX11_row_29 : decode cX11_row 29 = .ok (.getfield 187, 3) := by decide +kernel
theorem dX11_row_32 : decode cX11_row 32 = .ok (.bipush 8, 2) := by decide +kernel
theorem dX11_row_34 : decode cX11_row 34 = .ok (.if_icmp .lt 6, 3) := by decide +kernel
theorem dX11_row_37 : decode cX11_row 37 = .ok (.bipush (-4), 2) := by decide +kernel
theorem dX11_row_39 : decode cX11_row 39 = .ok (.ireturn, 1) := by decide +kernel
theorem dX11_row_40 : decode cX11_row 40 = .ok (.aload_n 0, 1) := by decide +kernel
theorem dX11_row_41 : decode cX11_row 41 = .ok (.getfield 12, 3) := by decide +kernel
theorem dX11_row_44 : decode cX11_row 44 = .ok (.iload_n 1, 1) := by decide +kernel
theorem dX11_row_45 : decode cX11_row 45 = .ok (.invokevirtual 190, 3) := by decide +kernel
theorem dX11_row_48 : decode cX11_row 48 = .ok (.aload_n 0, 1) := by decide +kernel
theorem dX11_row_49 : decode cX11_row 49 = .ok (.getfield 12, 3) := by decide +kernel
theorem dX11_row_52 : decode cX11_row 52 = .ok (.getfield 187, 3) := by decide +kernel
theorem dX11_row_55 : decode cX11_row 55 = .ok (.ireturn, 1) := by decide +kernel
theorem dX11_soonest_0 : decode cX11_soonest 0 = .ok (.aload_n 0, 1) := by decide +kernel
theorem dX11_soonest_1 : decode cX11_soonest 1 = .ok (.getfield 12, 3) := by decide +kernel
theorem dX11_soonest_4 : decode cX11_soonest 4 = .ok (.getfield 70, 3) := by decide +kernel
theorem dX11_soonest_7 : decode cX11_soonest 7 = .ok (.astore 4, 2) := by decide +kernel
theorem dX11_soonest_9 : decode cX11_soonest 9 = .ok (.aload 4, 2) := by decide +kernel
theorem dX11_soonest_11 : decode cX11_soonest 11 = .ok (.iload_n 1, 1) := by decide +kernel
theorem dX11_soonest_12 : decode cX11_soonest 12 = .ok (.invokevirtual 86, 3) := by decide +kernel
theorem dX11_soonest_15 : decode cX11_soonest 15 = .ok (.ifCond .eq 12, 3) := by decide +kernel
theorem dX11_soonest_18 : decode cX11_soonest 18 = .ok (.aload_n 0, 1) := by decide +kernel
theorem dX11_soonest_19 : decode cX11_soonest 19 = .ok (.iload_n 3, 1) := by decide +kernel
theorem dX11_soonest_20 : decode cX11_soonest 20 = .ok (.iload_n 1, 1) := by decide +kernel
theorem dX11_soonest_21 : decode cX11_soonest 21 = .ok (.invokevirtual 165, 3) := by decide +kernel
theorem dX11_soonest_24 : decode cX11_soonest 24 = .ok (.ifCond .ne 5, 3) := by decide +kernel
theorem dX11_soonest_27 : decode cX11_soonest 27 = .ok (.iconst (-1), 1) := by decide +kernel
theorem dX11_soonest_28 : decode cX11_soonest 28 = .ok (.ireturn, 1) := by decide +kernel
theorem dX11_soonest_29 : decode cX11_soonest 29 = .ok (.aload 4, 2) := by decide +kernel
theorem dX11_soonest_31 : decode cX11_soonest 31 = .ok (.iload_n 2, 1) := by decide +kernel
theorem dX11_soonest_32 : decode cX11_soonest 32 = .ok (.invokevirtual 120, 3) := by decide +kernel
theorem dX11_soonest_35 : decode cX11_soonest 35 = .ok (.ifCond .ne 6, 3) := by decide +kernel
theorem dX11_soonest_38 : decode cX11_soonest 38 = .ok (.bipush (-2), 2) := by decide +kernel
theorem dX11_soonest_40 : decode cX11_soonest 40 = .ok (.ireturn, 1) := by decide +kernel
theorem dX11_soonest_41 : decode cX11_soonest 41 = .ok (.aload_n 0, 1) := by decide +kernel
theorem dX11_soonest_42 : decode cX11_soonest 42 = .ok (.getfield 31, 3) := by decide +kernel
theorem dX11_soonest_45 : decode cX11_soonest 45 = .ok (.aload 4, 2) := by decide +kernel
theorem dX11_soonest_47 : decode cX11_soonest 47 = .ok (.invokevirtual 158, 3) := by decide +kernel
theorem dX11_soonest_50 : decode cX11_soonest 50 = .ok (.iload_n 3, 1) := by decide +kernel
theorem dX11_soonest_51 : decode cX11_soonest 51 = .ok (.ifCond .ne 13, 3) := by decide +kernel
theorem dX11_soonest_54 : decode cX11_soonest 54 = .ok (.aload_n 0, 1) := by decide +kernel
theorem dX11_soonest_55 : decode cX11_soonest 55 = .ok (.getfield 31, 3) := by decide +kernel
theorem dX11_soonest_58 : decode cX11_soonest 58 = .ok (.iload_n 1, 1) := by decide +kernel
theorem dX11_soonest_59 : decode cX11_soonest 59 = .ok (.iload_n 2, 1) := by decide +kernel
theorem dX11_soonest_60 : decode cX11_soonest 60 = .ok (.invokevirtual 178, 3) := by decide +kernel
theorem dX11_soonest_63 : decode cX11_soonest 63 = .ok (.ireturn, 1) := by decide +kernel
theorem dX11_soonest_64 : decode cX11_soonest 64 = .ok (.iload_n 3, 1) := by decide +kernel
theorem dX11_soonest_65 : decode cX11_soonest 65 = .ok (.iconst 1, 1) := by decide +kernel
theorem dX11_soonest_66 : decode cX11_soonest 66 = .ok (.if_icmp .ne 13, 3) := by decide +kernel
theorem dX11_soonest_69 : decode cX11_soonest 69 = .ok (.aload_n 0, 1) := by decide +kernel
theorem dX11_soonest_70 : decode cX11_soonest 70 = .ok (.getfield 31, 3) := by decide +kernel
theorem dX11_soonest_73 : decode cX11_soonest 73 = .ok (.iload_n 1, 1) := by decide +kernel
theorem dX11_soonest_74 : decode cX11_soonest 74 = .ok (.iload_n 2, 1) := by decide +kernel
theorem dX11_soonest_75 : decode cX11_soonest 75 = .ok (.invokevirtual 181, 3) := by decide +kernel
theorem dX11_soonest_78 : decode cX11_soonest 78 = .ok (.ireturn, 1) := by decide +kernel
theorem dX11_soonest_79 : decode cX11_soonest 79 = .ok (.iload_n 3, 1) := by decide +kernel
theorem dX11_soonest_80 : decode cX11_soonest 80 = .ok (.bipush 10, 2) := by decide +kernel
theorem dX11_soonest_82 : decode cX11_soonest 82 = .ok (.isub, 1) := by decide +kernel
theorem dX11_soonest_83 : decode cX11_soonest 83 = .ok (.istore 5, 2) := by decide +kernel
theorem dX11_soonest_85 : decode cX11_soonest 85 = .ok (.iload_n 2, 1) := by decide +kernel
theorem dX11_soonest_86 : decode cX11_soonest 86 = .ok (.istore 6, 2) := by decide +kernel
theorem dX11_soonest_88 : decode cX11_soonest 88 = .ok (.iload_n 1, 1) := by decide +kernel
theorem dX11_soonest_89 : decode cX11_soonest 89 = .ok (.istore 7, 2) := by decide +kernel
theorem dX11_soonest_91 : decode cX11_soonest 91 = .ok (.iload 7, 2) := by decide +kernel
theorem dX11_soonest_93 : decode cX11_soonest 93 = .ok (.iload 5, 2) := by decide +kernel
theorem dX11_soonest_95 : decode cX11_soonest 95 = .ok (.if_icmp .ge 31, 3) := by decide +kernel
theorem dX11_soonest_98 : decode cX11_soonest 98 = .ok (.aload 4, 2) := by decide +kernel
theorem dX11_soonest_100 : decode cX11_soonest 100 = .ok (.iload 7, 2) := by decide +kernel
theorem dX11_soonest_102 : decode cX11_soonest 102 = .ok (.aload_n 0, 1) := by decide +kernel
theorem dX11_soonest_103 : decode cX11_soonest 103 = .ok (.getfield 31, 3) := by decide +kernel
theorem dX11_soonest_106 : decode cX11_soonest 106 = .ok (.iload 7, 2) := by decide +kernel
theorem dX11_soonest_108 : decode cX11_soonest 108 = .ok (.iload 6, 2) := by decide +kernel
theorem dX11_soonest_110 : decode cX11_soonest 110 = .ok (.invokevirtual 184, 3) := by decide +kernel
theorem dX11_soonest_113 : decode cX11_soonest 113 = .ok (.iload 6, 2) := by decide +kernel
theorem dX11_soonest_115 : decode cX11_soonest 115 = .ok (.invokevirtual 130, 3) := by decide +kernel
theorem dX11_soonest_118 : decode cX11_soonest 118 = .ok (.istore 6, 2) := by decide +kernel
theorem dX11_soonest_120 : decode cX11_soonest 120 = .ok (.iinc 7 1, 3) := by decide +kernel
theorem dX11_soonest_123 : decode cX11_soonest 123 = .ok (.goto (-32), 3) := by decide +kernel
theorem dX11_soonest_126 : decode cX11_soonest 126 = .ok (.aload_n 0, 1) := by decide +kernel
theorem dX11_soonest_127 : decode cX11_soonest 127 = .ok (.getfield 31, 3) := by decide +kernel
theorem dX11_soonest_130 : decode cX11_soonest 130 = .ok (.iload 5, 2) := by decide +kernel
theorem dX11_soonest_132 : decode cX11_soonest 132 = .ok (.iload 6, 2) := by decide +kernel
theorem dX11_soonest_134 : decode cX11_soonest 134 = .ok (.invokevirtual 184, 3) := by decide +kernel
theorem dX11_soonest_137 : decode cX11_soonest 137 = .ok (.ireturn, 1) := by decide +kernel
theorem dX11_spread_0 : decode cX11_spread 0 = .ok (.aload_n 0, 1) := by decide +kernel
theorem dX11_spread_1 : decode cX11_spread 1 = .ok (.getfield 12, 3) := by decide +kernel
theorem dX11_spread_4 : decode cX11_spread 4 = .ok (.getfield 70, 3) := by decide +kernel
theorem dX11_spread_7 : decode cX11_spread 7 = .ok (.astore_n 2, 1) := by decide +kernel
theorem dX11_spread_8 : decode cX11_spread 8 = .ok (.aload_n 0, 1) := by decide +kernel
theorem dX11_spread_9 : decode cX11_spread 9 = .ok (.getfield 31, 3) := by decide +kernel
theorem dX11_spread_12 : decode cX11_spread 12 = .ok (.aload_n 2, 1) := by decide +kernel
theorem dX11_spread_13 : decode cX11_spread 13 = .ok (.invokevirtual 158, 3) := by decide +kernel
theorem dX11_spread_16 : decode cX11_spread 16 = .ok (.iconst 1, 1) := by decide +kernel
theorem dX11_spread_17 : decode cX11_spread 17 = .ok (.istore_n 3, 1) := by decide +kernel
theorem dX11_spread_18 : decode cX11_spread 18 = .ok (.aload_n 0, 1) := by decide +kernel
theorem dX11_spread_19 : decode cX11_spread 19 = .ok (.getfield 39, 3) := by decide +kernel
theorem dX11_spread_22 : decode cX11_spread 22 = .ok (.iconst 0, 1) := by decide +kernel
theorem dX11_spread_23 : decode cX11_spread 23 = .ok (.aload_n 2, 1) := by decide +kernel
theorem dX11_spread_24 : decode cX11_spread 24 = .ok (.getfield 108, 3) := by decide +kernel
theorem dX11_spread_27 : decode cX11_spread 27 = .ok (.iastore, 1) := by decide +kernel
theorem dX11_spread_28 : decode cX11_spread 28 = .ok (.aload_n 0, 1) := by decide +kernel
theorem dX11_spread_29 : decode cX11_spread 29 = .ok (.getfield 42, 3) := by decide +kernel
theorem dX11_spread_32 : decode cX11_spread 32 = .ok (.iconst 0, 1) := by decide +kernel
theorem dX11_spread_33 : decode cX11_spread 33 = .ok (.iconst 0, 1) := by decide +kernel
theorem dX11_spread_34 : decode cX11_spread 34 = .ok (.iastore, 1) := by decide +kernel
theorem dX11_spread_35 : decode cX11_spread 35 = .ok (.aload_n 0, 1) := by decide +kernel
theorem dX11_spread_36 : decode cX11_spread 36 = .ok (.getfield 45, 3) := by decide +kernel
theorem dX11_spread_39 : decode cX11_spread 39 = .ok (.iconst 0, 1) := by decide +kernel
theorem dX11_spread_40 : decode cX11_spread 40 = .ok (.lconst 1, 1) := by decide +kernel
theorem dX11_spread_41 : decode cX11_spread 41 = .ok (.lastore, 1) := by decide +kernel
theorem dX11_spread_42 : decode cX11_spread 42 = .ok (.iconst 0, 1) := by decide +kernel
theorem dX11_spread_43 : decode cX11_spread 43 = .ok (.istore 4, 2) := by decide +kernel
theorem dX11_spread_45 : decode cX11_spread 45 = .ok (.iload 4, 2) := by decide +kernel
theorem dX11_spread_47 : decode cX11_spread 47 = .ok (.aload_n 2, 1) := by decide +kernel
theorem dX11_spread_48 : decode cX11_spread 48 = .ok (.getfield 102, 3) := by decide +kernel
theorem dX11_spread_51 : decode cX11_spread 51 = .ok (.if_icmp .ge 51, 3) := by decide +kernel
theorem dX11_spread_54 : decode cX11_spread 54 = .ok (.iconst 0, 1) := by decide +kernel
theorem dX11_spread_55 : decode cX11_spread 55 = .ok (.istore 5, 2) := by decide +kernel
theorem dX11_spread_57 : decode cX11_spread 57 = .ok (.iload 5, 2) := by decide +kernel
theorem dX11_spread_59 : decode cX11_spread 59 = .ok (.iload_n 3, 1) := by decide +kernel
theorem dX11_spread_60 : decode cX11_spread 60 = .ok (.if_icmp .ge 32, 3) := by decide +kernel
theorem dX11_spread_63 : decode cX11_spread 63 = .ok (.iload 5, 2) := by decide +kernel
theorem dX11_spread_65 : decode cX11_spread 65 = .ok (.iload_n 3, 1) := by decide +kernel
theorem dX11_spread_66 : decode cX11_spread 66 = .ok (.iadd, 1) := by decide +kernel
theorem dX11_spread_67 : decode cX11_spread 67 = .ok (.sipush 256, 3) := by decide +kernel
theorem dX11_spread_70 : decode cX11_spread 70 = .ok (.if_icmp .ge 22, 3) := by decide +kernel
theorem dX11_spread_73 : decode cX11_spread 73 = .ok (.aload_n 0, 1) := by decide +kernel
theorem dX11_spread_74 : decode cX11_spread 74 = .ok (.aload_n 1, 1) := by decide +kernel
theorem dX11_spread_75 : decode cX11_spread 75 = .ok (.iload 4, 2) := by decide +kernel
theorem dX11_spread_77 : decode cX11_spread 77 = .ok (.iload 5, 2) := by decide +kernel
theorem dX11_spread_79 : decode cX11_spread 79 = .ok (.iload 5, 2) := by decide +kernel
theorem dX11_spread_81 : decode cX11_spread 81 = .ok (.iload_n 3, 1) := by decide +kernel
theorem dX11_spread_82 : decode cX11_spread 82 = .ok (.iadd, 1) := by decide +kernel
theorem dX11_spread_83 : decode cX11_spread 83 = .ok (.invokevirtual 300, 3) := by decide +kernel
theorem dX11_spread_86 : decode cX11_spread 86 = .ok (.iinc 5 1, 3) := by decide +kernel
theorem dX11_spread_89 : decode cX11_spread 89 = .ok (.goto (-32), 3) := by decide +kernel
theorem dX11_spread_92 : decode cX11_spread 92 = .ok (.iload_n 3, 1) := by decide +kernel
theorem dX11_spread_93 : decode cX11_spread 93 = .ok (.iconst 2, 1) := by decide +kernel
theorem dX11_spread_94 : decode cX11_spread 94 = .ok (.imul, 1) := by decide +kernel
theorem dX11_spread_95 : decode cX11_spread 95 = .ok (.istore_n 3, 1) := by decide +kernel
theorem dX11_spread_96 : decode cX11_spread 96 = .ok (.iinc 4 1, 3) := by decide +kernel
theorem dX11_spread_99 : decode cX11_spread 99 = .ok (.goto (-54), 3) := by decide +kernel
theorem dX11_spread_102 : decode cX11_spread 102 = .ok (.iload_n 3, 1) := by decide +kernel
theorem dX11_spread_103 : decode cX11_spread 103 = .ok (.ireturn, 1) := by decide +kernel
theorem dX11_sure_0 : decode cX11_sure 0 = .ok (.aload_n 0, 1) := by decide +kernel
theorem dX11_sure_1 : decode cX11_sure 1 = .ok (.getfield 12, 3) := by decide +kernel
theorem dX11_sure_4 : decode cX11_sure 4 = .ok (.iload_n 1, 1) := by decide +kernel
theorem dX11_sure_5 : decode cX11_sure 5 = .ok (.invokevirtual 144, 3) := by decide +kernel
theorem dX11_sure_8 : decode cX11_sure 8 = .ok (.astore 4, 2) := by decide +kernel
theorem dX11_sure_10 : decode cX11_sure 10 = .ok (.aload 4, 2) := by decide +kernel
theorem dX11_sure_12 : decode cX11_sure 12 = .ok (.ifnull 25, 3) := by decide +kernel
theorem dX11_sure_15 : decode cX11_sure 15 = .ok (.iload_n 3, 1) := by decide +kernel
theorem dX11_sure_16 : decode cX11_sure 16 = .ok (.ifCond .lt 21, 3) := by decide +kernel
theorem dX11_sure_19 : decode cX11_sure 19 = .ok (.iload_n 3, 1) := by decide +kernel
theorem dX11_sure_20 : decode cX11_sure 20 = .ok (.iconst 1, 1) := by decide +kernel
theorem dX11_sure_21 : decode cX11_sure 21 = .ok (.if_icmp .gt 16, 3) := by decide +kernel
theorem dX11_sure_24 : decode cX11_sure 24 = .ok (.aload_n 0, 1) := by decide +kernel
theorem dX11_sure_25 : decode cX11_sure 25 = .ok (.getfield 12, 3) := by decide +kernel
theorem dX11_sure_28 : decode cX11_sure 28 = .ok (.getfield 70, 3) := by decide +kernel
theorem dX11_sure_31 : decode cX11_sure 31 = .ok (.getfield 102, 3) := by decide +kernel
theorem dX11_sure_34 : decode cX11_sure 34 = .ok (.ifCond .ne 7, 3) := by decide +kernel
theorem dX11_sure_37 : decode cX11_sure 37 = .ok (.ldc2_w 204, 3) := by decide +kernel
theorem dX11_sure_40 : decode cX11_sure 40 = .ok (.lreturn, 1) := by decide +kernel
theorem dX11_sure_41 : decode cX11_sure 41 = .ok (.iload_n 2, 1) := by decide +kernel
theorem dX11_sure_42 : decode cX11_sure 42 = .ok (.ifCond .lt 10, 3) := by decide +kernel
theorem dX11_sure_45 : decode cX11_sure 45 = .ok (.iload_n 2, 1) := by decide +kernel
theorem dX11_sure_46 : decode cX11_sure 46 = .ok (.sipush 9999, 3) := by decide +kernel
theorem dX11_sure_49 : decode cX11_sure 49 = .ok (.if_icmp .le 7, 3) := by decide +kernel
theorem dX11_sure_52 : decode cX11_sure 52 = .ok (.ldc2_w 204, 3) := by decide +kernel
theorem dX11_sure_55 : decode cX11_sure 55 = .ok (.lreturn, 1) := by decide +kernel
theorem dX11_sure_56 : decode cX11_sure 56 = .ok (.aload_n 0, 1) := by decide +kernel
theorem dX11_sure_57 : decode cX11_sure 57 = .ok (.aload 4, 2) := by decide +kernel
theorem dX11_sure_59 : decode cX11_sure 59 = .ok (.invokevirtual 206, 3) := by decide +kernel
theorem dX11_sure_62 : decode cX11_sure 62 = .ok (.istore 5, 2) := by decide +kernel
theorem dX11_sure_64 : decode cX11_sure 64 = .ok (.lconst 0, 1) := by decide +kernel
theorem dX11_sure_65 : decode cX11_sure 65 = .ok (.lstore 6, 2) := by decide +kernel
theorem dX11_sure_67 : decode cX11_sure 67 = .ok (.iconst 0, 1) := by decide +kernel
theorem dX11_sure_68 : decode cX11_sure 68 = .ok (.istore 8, 2) := by decide +kernel
theorem dX11_sure_70 : decode cX11_sure 70 = .ok (.iload 8, 2) := by decide +kernel
theorem dX11_sure_72 : decode cX11_sure 72 = .ok (.iload 5, 2) := by decide +kernel
theorem dX11_sure_74 : decode cX11_sure 74 = .ok (.if_icmp .ge 40, 3) := by decide +kernel
theorem dX11_sure_77 : decode cX11_sure 77 = .ok (.iload 8, 2) := by decide +kernel
theorem dX11_sure_79 : decode cX11_sure 79 = .ok (.sipush 256, 3) := by decide +kernel
theorem dX11_sure_82 : decode cX11_sure 82 = .ok (.if_icmp .ge 32, 3) := by decide +kernel
theorem dX11_sure_85 : decode cX11_sure 85 = .ok (.aload_n 0, 1) := by decide +kernel
theorem dX11_sure_86 : decode cX11_sure 86 = .ok (.getfield 42, 3) := by decide +kernel
theorem dX11_sure_89 : decode cX11_sure 89 = .ok (.iload 8, 2) := by decide +kernel
theorem dX11_sure_91 : decode cX11_sure 91 = .ok (.iaload, 1) := by decide +kernel
theorem dX11_sure_92 : decode cX11_sure 92 = .ok (.iload_n 2, 1) := by decide +kernel
theorem dX11_sure_93 : decode cX11_sure 93 = .ok (.if_icmp .gt 15, 3) := by decide +kernel
theorem dX11_sure_96 : decode cX11_sure 96 = .ok (.lload 6, 2) := by decide +kernel
theorem dX11_sure_98 : decode cX11_sure 98 = .ok (.aload_n 0, 1) := by decide +kernel
theorem dX11_sure_99 : decode cX11_sure 99 = .ok (.getfield 45, 3) := by decide +kernel
theorem dX11_sure_102 : decode cX11_sure 102 = .ok (.iload 8, 2) := by decide +kernel
theorem dX11_sure_104 : decode cX11_sure 104 = .ok (.laload, 1) := by decide +kernel
theorem dX11_sure_105 : decode cX11_sure 105 = .ok (.ladd, 1) := by decide +kernel
theorem dX11_sure_106 : decode cX11_sure 106 = .ok (.lstore 6, 2) := by decide +kernel
theorem dX11_sure_108 : decode cX11_sure 108 = .ok (.iinc 8 1, 3) := by decide +kernel
theorem dX11_sure_111 : decode cX11_sure 111 = .ok (.goto (-41), 3) := by decide +kernel
theorem dX11_sure_114 : decode cX11_sure 114 = .ok (.aload_n 0, 1) := by decide +kernel
theorem dX11_sure_115 : decode cX11_sure 115 = .ok (.lload 6, 2) := by decide +kernel
theorem dX11_sure_117 : decode cX11_sure 117 = .ok (.iload_n 3, 1) := by decide +kernel
theorem dX11_sure_118 : decode cX11_sure 118 = .ok (.invokevirtual 210, 3) := by decide +kernel
theorem dX11_sure_121 : decode cX11_sure 121 = .ok (.lreturn, 1) := by decide +kernel
theorem dX11_takes_0 : decode cX11_takes 0 = .ok (.aload_n 0, 1) := by decide +kernel
theorem dX11_takes_1 : decode cX11_takes 1 = .ok (.getfield 12, 3) := by decide +kernel
theorem dX11_takes_4 : decode cX11_takes 4 = .ok (.iload_n 1, 1) := by decide +kernel
theorem dX11_takes_5 : decode cX11_takes 5 = .ok (.invokevirtual 144, 3) := by decide +kernel
theorem dX11_takes_8 : decode cX11_takes 8 = .ok (.astore 4, 2) := by decide +kernel
theorem dX11_takes_10 : decode cX11_takes 10 = .ok (.aload 4, 2) := by decide +kernel
theorem dX11_takes_12 : decode cX11_takes 12 = .ok (.ifnull 17, 3) := by decide +kernel
theorem dX11_takes_15 : decode cX11_takes 15 = .ok (.aload_n 0, 1) := by decide +kernel
theorem dX11_takes_16 : decode cX11_takes 16 = .ok (.getfield 12, 3) := by decide +kernel
theorem dX11_takes_19 : decode cX11_takes 19 = .ok (.getfield 70, 3) := by decide +kernel
theorem dX11_takes_22 : decode cX11_takes 22 = .ok (.iload_n 2, 1) := by decide +kernel
theorem dX11_takes_23 : decode cX11_takes 23 = .ok (.invokevirtual 86, 3) := by decide +kernel
theorem dX11_takes_26 : decode cX11_takes 26 = .ok (.ifCond .ne 5, 3) := by decide +kernel
theorem dX11_takes_29 : decode cX11_takes 29 = .ok (.iconst (-1), 1) := by decide +kernel
theorem dX11_takes_30 : decode cX11_takes 30 = .ok (.ireturn, 1) := by decide +kernel
theorem dX11_takes_31 : decode cX11_takes 31 = .ok (.aload_n 0, 1) := by decide +kernel
theorem dX11_takes_32 : decode cX11_takes 32 = .ok (.getfield 12, 3) := by decide +kernel
theorem dX11_takes_35 : decode cX11_takes 35 = .ok (.getfield 70, 3) := by decide +kernel
theorem dX11_takes_38 : decode cX11_takes 38 = .ok (.iload_n 3, 1) := by decide +kernel
theorem dX11_takes_39 : decode cX11_takes 39 = .ok (.invokevirtual 120, 3) := by decide +kernel
theorem dX11_takes_42 : decode cX11_takes 42 = .ok (.ifCond .ne 6, 3) := by decide +kernel
theorem dX11_takes_45 : decode cX11_takes 45 = .ok (.bipush (-2), 2) := by decide +kernel
theorem dX11_takes_47 : decode cX11_takes 47 = .ok (.ireturn, 1) := by decide +kernel
theorem dX11_takes_48 : decode cX11_takes 48 = .ok (.aload_n 0, 1) := by decide +kernel
theorem dX11_takes_49 : decode cX11_takes 49 = .ok (.getfield 31, 3) := by decide +kernel
theorem dX11_takes_52 : decode cX11_takes 52 = .ok (.aload_n 0, 1) := by decide +kernel
theorem dX11_takes_53 : decode cX11_takes 53 = .ok (.getfield 12, 3) := by decide +kernel
theorem dX11_takes_56 : decode cX11_takes 56 = .ok (.getfield 70, 3) := by decide +kernel
theorem dX11_takes_59 : decode cX11_takes 59 = .ok (.invokevirtual 158, 3) := by decide +kernel
theorem dX11_takes_62 : decode cX11_takes 62 = .ok (.aload_n 0, 1) := by decide +kernel
theorem dX11_takes_63 : decode cX11_takes 63 = .ok (.aload 4, 2) := by decide +kernel
theorem dX11_takes_65 : decode cX11_takes 65 = .ok (.iload_n 2, 1) := by decide +kernel
theorem dX11_takes_66 : decode cX11_takes 66 = .ok (.iload_n 3, 1) := by decide +kernel
theorem dX11_takes_67 : decode cX11_takes 67 = .ok (.invokevirtual 161, 3) := by decide +kernel
theorem dX11_takes_70 : decode cX11_takes 70 = .ok (.ireturn, 1) := by decide +kernel
theorem dX11_told_0 : decode cX11_told 0 = .ok (.aload_n 0, 1) := by decide +kernel
theorem dX11_told_1 : decode cX11_told 1 = .ok (.getfield 12, 3) := by decide +kernel
theorem dX11_told_4 : decode cX11_told 4 = .ok (.getfield 70, 3) := by decide +kernel
theorem dX11_told_7 : decode cX11_told 7 = .ok (.astore_n 2, 1) := by decide +kernel
theorem dX11_told_8 : decode cX11_told 8 = .ok (.iload_n 1, 1) := by decide +kernel
theorem dX11_told_9 : decode cX11_told 9 = .ok (.tableswitch 60 0 4 #[35, 40, 45, 50, 55], 35) := by decide +kernel
theorem dX11_told_44 : decode cX11_told 44 = .ok (.aload_n 2, 1) := by decide +kernel
theorem dX11_told_45 : decode cX11_told 45 = .ok (.getfield 102, 3) := by decide +kernel
theorem dX11_told_48 : decode cX11_told 48 = .ok (.ireturn, 1) := by decide +kernel
theorem dX11_told_49 : decode cX11_told 49 = .ok (.aload_n 2, 1) := by decide +kernel
theorem dX11_told_50 : decode cX11_told 50 = .ok (.getfield 105, 3) := by decide +kernel
theorem dX11_told_53 : decode cX11_told 53 = .ok (.ireturn, 1) := by decide +kernel
theorem dX11_told_54 : decode cX11_told 54 = .ok (.aload_n 2, 1) := by decide +kernel
theorem dX11_told_55 : decode cX11_told 55 = .ok (.getfield 108, 3) := by decide +kernel
theorem dX11_told_58 : decode cX11_told 58 = .ok (.ireturn, 1) := by decide +kernel
theorem dX11_told_59 : decode cX11_told 59 = .ok (.aload_n 2, 1) := by decide +kernel
theorem dX11_told_60 : decode cX11_told 60 = .ok (.getfield 111, 3) := by decide +kernel
theorem dX11_told_63 : decode cX11_told 63 = .ok (.ireturn, 1) := by decide +kernel
theorem dX11_told_64 : decode cX11_told 64 = .ok (.aload_n 2, 1) := by decide +kernel
theorem dX11_told_65 : decode cX11_told 65 = .ok (.getfield 114, 3) := by decide +kernel
theorem dX11_told_68 : decode cX11_told 68 = .ok (.ireturn, 1) := by decide +kernel
theorem dX11_told_69 : decode cX11_told 69 = .ok (.iconst (-1), 1) := by decide +kernel
theorem dX11_told_70 : decode cX11_told 70 = .ok (.ireturn, 1) := by decide +kernel
theorem dX11_trace_0 : decode cX11_trace 0 = .ok (.iload_n 1, 1) := by decide +kernel
theorem dX11_trace_1 : decode cX11_trace 1 = .ok (.ifCond .lt 20, 3) := by decide +kernel
theorem dX11_trace_4 : decode cX11_trace 4 = .ok (.iload_n 1, 1) := by decide +kernel
theorem dX11_trace_5 : decode cX11_trace 5 = .ok (.aload_n 0, 1) := by decide +kernel
theorem dX11_trace_6 : decode cX11_trace 6 = .ok (.getfield 12, 3) := by decide +kernel
theorem dX11_trace_9 : decode cX11_trace 9 = .ok (.getfield 231, 3) := by decide +kernel
theorem dX11_trace_12 : decode cX11_trace 12 = .ok (.if_icmp .ge 9, 3) := by decide +kernel
theorem dX11_trace_15 : decode cX11_trace 15 = .ok (.iload_n 1, 1) := by decide +kernel
theorem dX11_trace_16 : decode cX11_trace 16 = .ok (.bipush 20, 2) := by decide +kernel
theorem dX11_trace_18 : decode cX11_trace 18 = .ok (.if_icmp .lt 5, 3) := by decide +kernel
theorem dX11_trace_21 : decode cX11_trace 21 = .ok (.iconst (-1), 1) := by decide +kernel
theorem dX11_trace_22 : decode cX11_trace 22 = .ok (.ireturn, 1) := by decide +kernel
theorem dX11_trace_23 : decode cX11_trace 23 = .ok (.aload_n 0, 1) := by decide +kernel
theorem dX11_trace_24 : decode cX11_trace 24 = .ok (.getfield 12, 3) := by decide +kernel
theorem dX11_trace_27 : decode cX11_trace 27 = .ok (.getfield 246, 3) := by decide +kernel
theorem dX11_trace_30 : decode cX11_trace 30 = .ok (.iload_n 1, 1) := by decide +kernel
theorem dX11_trace_31 : decode cX11_trace 31 = .ok (.iaload, 1) := by decide +kernel
theorem dX11_trace_32 : decode cX11_trace 32 = .ok (.ireturn, 1) := by decide +kernel
theorem dX11_undo_0 : decode cX11_undo 0 = .ok (.aload_n 0, 1) := by decide +kernel
theorem dX11_undo_1 : decode cX11_undo 1 = .ok (.getfield 259, 3) := by decide +kernel
theorem dX11_undo_4 : decode cX11_undo 4 = .ok (.ifCond .ne 6, 3) := by decide +kernel
theorem dX11_undo_7 : decode cX11_undo 7 = .ok (.bipush (-3), 2) := by decide +kernel
theorem dX11_undo_9 : decode cX11_undo 9 = .ok (.ireturn, 1) := by decide +kernel
theorem dX11_undo_10 : decode cX11_undo 10 = .ok (.aload_n 0, 1) := by decide +kernel
theorem dX11_undo_11 : decode cX11_undo 11 = .ok (.getfield 12, 3) := by decide +kernel
theorem dX11_undo_14 : decode cX11_undo 14 = .ok (.aload_n 0, 1) := by decide +kernel
theorem dX11_undo_15 : decode cX11_undo 15 = .ok (.getfield 18, 3) := by decide +kernel
theorem dX11_undo_18 : decode cX11_undo 18 = .ok (.invokevirtual 256, 3) := by decide +kernel
theorem dX11_undo_21 : decode cX11_undo 21 = .ok (.aload_n 0, 1) := by decide +kernel
theorem dX11_undo_22 : decode cX11_undo 22 = .ok (.getfield 12, 3) := by decide +kernel
theorem dX11_undo_25 : decode cX11_undo 25 = .ok (.getfield 133, 3) := by decide +kernel
theorem dX11_undo_28 : decode cX11_undo 28 = .ok (.ireturn, 1) := by decide +kernel
theorem dX11_way_0 : decode cX11_way 0 = .ok (.iload_n 1, 1) := by decide +kernel
theorem dX11_way_1 : decode cX11_way 1 = .ok (.ifCond .lt 9, 3) := by decide +kernel
theorem dX11_way_4 : decode cX11_way 4 = .ok (.iload_n 1, 1) := by decide +kernel
theorem dX11_way_5 : decode cX11_way 5 = .ok (.bipush 6, 2) := by decide +kernel
theorem dX11_way_7 : decode cX11_way 7 = .ok (.if_icmp .le 5, 3) := by decide +kernel
theorem dX11_way_10 : decode cX11_way 10 = .ok (.iconst (-1), 1) := by decide +kernel
theorem dX11_way_11 : decode cX11_way 11 = .ok (.ireturn, 1) := by decide +kernel
theorem dX11_way_12 : decode cX11_way 12 = .ok (.iload_n 2, 1) := by decide +kernel
theorem dX11_way_13 : decode cX11_way 13 = .ok (.ifCond .lt 9, 3) := by decide +kernel
theorem dX11_way_16 : decode cX11_way 16 = .ok (.iload_n 2, 1) := by decide +kernel
theorem dX11_way_17 : decode cX11_way 17 = .ok (.bipush 9, 2) := by decide +kernel
theorem dX11_way_19 : decode cX11_way 19 = .ok (.if_icmp .le 6, 3) := by decide +kernel
theorem dX11_way_22 : decode cX11_way 22 = .ok (.bipush (-2), 2) := by decide +kernel
theorem dX11_way_24 : decode cX11_way 24 = .ok (.ireturn, 1) := by decide +kernel
theorem dX11_way_25 : decode cX11_way 25 = .ok (.aload_n 0, 1) := by decide +kernel
theorem dX11_way_26 : decode cX11_way 26 = .ok (.getfield 12, 3) := by decide +kernel
theorem dX11_way_29 : decode cX11_way 29 = .ok (.getfield 133, 3) := by decide +kernel
theorem dX11_way_32 : decode cX11_way 32 = .ok (.istore_n 3, 1) := by decide +kernel
theorem dX11_way_33 : decode cX11_way 33 = .ok (.iload_n 3, 1) := by decide +kernel
theorem dX11_way_34 : decode cX11_way 34 = .ok (.bipush 8, 2) := by decide +kernel
theorem dX11_way_36 : decode cX11_way 36 = .ok (.if_icmp .lt 6, 3) := by decide +kernel
theorem dX11_way_39 : decode cX11_way 39 = .ok (.bipush (-4), 2) := by decide +kernel
theorem dX11_way_41 : decode cX11_way 41 = .ok (.ireturn, 1) := by decide +kernel
theorem dX11_way_42 : decode cX11_way 42 = .ok (.aload_n 0, 1) := by decide +kernel
theorem dX11_way_43 : decode cX11_way 43 = .ok (.getfield 12, 3) := by decide +kernel
theorem dX11_way_46 : decode cX11_way 46 = .ok (.iload_n 1, 1) := by decide +kernel
theorem dX11_way_47 : decode cX11_way 47 = .ok (.iload_n 3, 1) := by decide +kernel
theorem dX11_way_48 : decode cX11_way 48 = .ok (.iload_n 2, 1) := by decide +kernel
theorem dX11_way_49 : decode cX11_way 49 = .ok (.invokestatic 136, 3) := by decide +kernel
theorem dX11_way_52 : decode cX11_way 52 = .ok (.invokevirtual 140, 3) := by decide +kernel
theorem dX11_way_55 : decode cX11_way 55 = .ok (.iload_n 3, 1) := by decide +kernel
theorem dX11_way_56 : decode cX11_way 56 = .ok (.ireturn, 1) := by decide +kernel
theorem dX11_wheel_0 : decode cX11_wheel 0 = .ok (.aload_n 0, 1) := by decide +kernel
theorem dX11_wheel_1 : decode cX11_wheel 1 = .ok (.getfield 12, 3) := by decide +kernel
theorem dX11_wheel_4 : decode cX11_wheel 4 = .ok (.iload_n 1, 1) := by decide +kernel
theorem dX11_wheel_5 : decode cX11_wheel 5 = .ok (.invokevirtual 144, 3) := by decide +kernel
theorem dX11_wheel_8 : decode cX11_wheel 8 = .ok (.astore 4, 2) := by decide +kernel
theorem dX11_wheel_10 : decode cX11_wheel 10 = .ok (.aload 4, 2) := by decide +kernel
theorem dX11_wheel_12 : decode cX11_wheel 12 = .ok (.ifnull 12, 3) := by decide +kernel
theorem dX11_wheel_15 : decode cX11_wheel 15 = .ok (.iload_n 3, 1) := by decide +kernel
theorem dX11_wheel_16 : decode cX11_wheel 16 = .ok (.ifCond .lt 8, 3) := by decide +kernel
theorem dX11_wheel_19 : decode cX11_wheel 19 = .ok (.iload_n 3, 1) := by decide +kernel
theorem dX11_wheel_20 : decode cX11_wheel 20 = .ok (.iconst 1, 1) := by decide +kernel
theorem dX11_wheel_21 : decode cX11_wheel 21 = .ok (.if_icmp .le 5, 3) := by decide +kernel
theorem dX11_wheel_24 : decode cX11_wheel 24 = .ok (.iconst (-1), 1) := by decide +kernel
theorem dX11_wheel_25 : decode cX11_wheel 25 = .ok (.ireturn, 1) := by decide +kernel
theorem dX11_wheel_26 : decode cX11_wheel 26 = .ok (.iload_n 2, 1) := by decide +kernel
theorem dX11_wheel_27 : decode cX11_wheel 27 = .ok (.iconst 1, 1) := by decide +kernel
theorem dX11_wheel_28 : decode cX11_wheel 28 = .ok (.if_icmp .lt 9, 3) := by decide +kernel
theorem dX11_wheel_31 : decode cX11_wheel 31 = .ok (.iload_n 2, 1) := by decide +kernel
theorem dX11_wheel_32 : decode cX11_wheel 32 = .ok (.bipush 8, 2) := by decide +kernel
theorem dX11_wheel_34 : decode cX11_wheel 34 = .ok (.if_icmp .le 6, 3) := by decide +kernel
theorem dX11_wheel_37 : decode cX11_wheel 37 = .ok (.bipush (-2), 2) := by decide +kernel
theorem dX11_wheel_39 : decode cX11_wheel 39 = .ok (.ireturn, 1) := by decide +kernel
theorem dX11_wheel_40 : decode cX11_wheel 40 = .ok (.aload_n 0, 1) := by decide +kernel
theorem dX11_wheel_41 : decode cX11_wheel 41 = .ok (.getfield 12, 3) := by decide +kernel
theorem dX11_wheel_44 : decode cX11_wheel 44 = .ok (.getfield 70, 3) := by decide +kernel
theorem dX11_wheel_47 : decode cX11_wheel 47 = .ok (.getfield 102, 3) := by decide +kernel
theorem dX11_wheel_50 : decode cX11_wheel 50 = .ok (.istore 5, 2) := by decide +kernel
theorem dX11_wheel_52 : decode cX11_wheel 52 = .ok (.iload 5, 2) := by decide +kernel
theorem dX11_wheel_54 : decode cX11_wheel 54 = .ok (.ifCond .ne 6, 3) := by decide +kernel
theorem dX11_wheel_57 : decode cX11_wheel 57 = .ok (.bipush (-3), 2) := by decide +kernel
theorem dX11_wheel_59 : decode cX11_wheel 59 = .ok (.ireturn, 1) := by decide +kernel
theorem dX11_wheel_60 : decode cX11_wheel 60 = .ok (.iload 5, 2) := by decide +kernel
theorem dX11_wheel_62 : decode cX11_wheel 62 = .ok (.iload_n 2, 1) := by decide +kernel
theorem dX11_wheel_63 : decode cX11_wheel 63 = .ok (.if_icmp .ge 6, 3) := by decide +kernel
theorem dX11_wheel_66 : decode cX11_wheel 66 = .ok (.bipush (-5), 2) := by decide +kernel
theorem dX11_wheel_68 : decode cX11_wheel 68 = .ok (.ireturn, 1) := by decide +kernel
theorem dX11_wheel_69 : decode cX11_wheel 69 = .ok (.aload_n 0, 1) := by decide +kernel
theorem dX11_wheel_70 : decode cX11_wheel 70 = .ok (.getfield 31, 3) := by decide +kernel
theorem dX11_wheel_73 : decode cX11_wheel 73 = .ok (.aload_n 0, 1) := by decide +kernel
theorem dX11_wheel_74 : decode cX11_wheel 74 = .ok (.getfield 12, 3) := by decide +kernel
theorem dX11_wheel_77 : decode cX11_wheel 77 = .ok (.getfield 70, 3) := by decide +kernel
theorem dX11_wheel_80 : decode cX11_wheel 80 = .ok (.invokevirtual 158, 3) := by decide +kernel
theorem dX11_wheel_83 : decode cX11_wheel 83 = .ok (.aload_n 0, 1) := by decide +kernel
theorem dX11_wheel_84 : decode cX11_wheel 84 = .ok (.aload 4, 2) := by decide +kernel
theorem dX11_wheel_86 : decode cX11_wheel 86 = .ok (.invokevirtual 169, 3) := by decide +kernel
theorem dX11_wheel_89 : decode cX11_wheel 89 = .ok (.aload_n 0, 1) := by decide +kernel
theorem dX11_wheel_90 : decode cX11_wheel 90 = .ok (.getfield 172, 3) := by decide +kernel
theorem dX11_wheel_93 : decode cX11_wheel 93 = .ok (.istore 6, 2) := by decide +kernel
theorem dX11_wheel_95 : decode cX11_wheel 95 = .ok (.iconst 0, 1) := by decide +kernel
theorem dX11_wheel_96 : decode cX11_wheel 96 = .ok (.istore 7, 2) := by decide +kernel
theorem dX11_wheel_98 : decode cX11_wheel 98 = .ok (.iconst 0, 1) := by decide +kernel
theorem dX11_wheel_99 : decode cX11_wheel 99 = .ok (.istore 8, 2) := by decide +kernel
theorem dX11_wheel_101 : decode cX11_wheel 101 = .ok (.iconst 0, 1) := by decide +kernel
theorem dX11_wheel_102 : decode cX11_wheel 102 = .ok (.istore 9, 2) := by decide +kernel
theorem dX11_wheel_104 : decode cX11_wheel 104 = .ok (.iload 9, 2) := by decide +kernel
theorem dX11_wheel_106 : decode cX11_wheel 106 = .ok (.iload_n 2, 1) := by decide +kernel
theorem dX11_wheel_107 : decode cX11_wheel 107 = .ok (.iadd, 1) := by decide +kernel
theorem dX11_wheel_108 : decode cX11_wheel 108 = .ok (.iload 5, 2) := by decide +kernel
theorem dX11_wheel_110 : decode cX11_wheel 110 = .ok (.if_icmp .gt 55, 3) := by decide +kernel
theorem dX11_wheel_113 : decode cX11_wheel 113 = .ok (.aload_n 0, 1) := by decide +kernel
theorem dX11_wheel_114 : decode cX11_wheel 114 = .ok (.aload 4, 2) := by decide +kernel
theorem dX11_wheel_116 : decode cX11_wheel 116 = .ok (.aload_n 0, 1) := by decide +kernel
theorem dX11_wheel_117 : decode cX11_wheel 117 = .ok (.getfield 12, 3) := by decide +kernel
theorem dX11_wheel_120 : decode cX11_wheel 120 = .ok (.getfield 70, 3) := by decide +kernel
theorem dX11_wheel_123 : decode cX11_wheel 123 = .ok (.getfield 108, 3) := by decide +kernel
theorem dX11_wheel_126 : decode cX11_wheel 126 = .ok (.iload 9, 2) := by decide +kernel
theorem dX11_wheel_128 : decode cX11_wheel 128 = .ok (.iload 9, 2) := by decide +kernel
theorem dX11_wheel_130 : decode cX11_wheel 130 = .ok (.iload_n 2, 1) := by decide +kernel
theorem dX11_wheel_131 : decode cX11_wheel 131 = .ok (.iadd, 1) := by decide +kernel
theorem dX11_wheel_132 : decode cX11_wheel 132 = .ok (.invokevirtual 227, 3) := by decide +kernel
theorem dX11_wheel_135 : decode cX11_wheel 135 = .ok (.iload 9, 2) := by decide +kernel
theorem dX11_wheel_137 : decode cX11_wheel 137 = .ok (.ifCond .eq 12, 3) := by decide +kernel
theorem dX11_wheel_140 : decode cX11_wheel 140 = .ok (.aload_n 0, 1) := by decide +kernel
theorem dX11_wheel_141 : decode cX11_wheel 141 = .ok (.getfield 172, 3) := by decide +kernel
theorem dX11_wheel_144 : decode cX11_wheel 144 = .ok (.iload 8, 2) := by decide +kernel
theorem dX11_wheel_146 : decode cX11_wheel 146 = .ok (.if_icmp .ge 13, 3) := by decide +kernel
theorem dX11_wheel_149 : decode cX11_wheel 149 = .ok (.iload 9, 2) := by decide +kernel
theorem dX11_wheel_151 : decode cX11_wheel 151 = .ok (.istore 7, 2) := by decide +kernel
theorem dX11_wheel_153 : decode cX11_wheel 153 = .ok (.aload_n 0, 1) := by decide +kernel
theorem dX11_wheel_154 : decode cX11_wheel 154 = .ok (.getfield 172, 3) := by decide +kernel
theorem dX11_wheel_157 : decode cX11_wheel 157 = .ok (.istore 8, 2) := by decide +kernel
theorem dX11_wheel_159 : decode cX11_wheel 159 = .ok (.iinc 9 1, 3) := by decide +kernel
theorem dX11_wheel_162 : decode cX11_wheel 162 = .ok (.goto (-58), 3) := by decide +kernel
theorem dX11_wheel_165 : decode cX11_wheel 165 = .ok (.iload_n 3, 1) := by decide +kernel
theorem dX11_wheel_166 : decode cX11_wheel 166 = .ok (.ifCond .ne 8, 3) := by decide +kernel
theorem dX11_wheel_169 : decode cX11_wheel 169 = .ok (.iload 7, 2) := by decide +kernel
theorem dX11_wheel_171 : decode cX11_wheel 171 = .ok (.goto 8, 3) := by decide +kernel
theorem dX11_wheel_174 : decode cX11_wheel 174 = .ok (.iload 6, 2) := by decide +kernel
theorem dX11_wheel_176 : decode cX11_wheel 176 = .ok (.iload 8, 2) := by decide +kernel
theorem dX11_wheel_178 : decode cX11_wheel 178 = .ok (.isub, 1) := by decide +kernel
theorem dX11_wheel_179 : decode cX11_wheel 179 = .ok (.ireturn, 1) := by decide +kernel
