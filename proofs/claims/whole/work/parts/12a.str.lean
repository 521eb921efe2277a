theorem dJ0_length_8abf5_0 : decode cJ0_length_8abf5 0 = .ok (.aload_n 0, 1) := by decide +kernel
theorem dJ0_length_8abf5_1 : decode cJ0_length_8abf5 1 = .ok (.getfield 9, 3) := by decide +kernel
theorem dJ0_length_8abf5_4 : decode cJ0_length_8abf5 4 = .ok (.arraylength, 1) := by decide +kernel
theorem dJ0_length_8abf5_5 : decode cJ0_length_8abf5 5 = .ok (.aload_n 0, 1) := by decide +kernel
theorem dJ0_length_8abf5_6 : decode cJ0_length_8abf5 6 = .ok (.invokevirtual 335, 3) := by decide +kernel
theorem dJ0_length_8abf5_9 : decode cJ0_length_8abf5 9 = .ok (.ishr, 1) := by decide +kernel
theorem dJ0_length_8abf5_10 : decode cJ0_length_8abf5 10 = .ok (.ireturn, 1) := by decide +kernel
theorem dJ0_coder_7d493_0 : decode cJ0_coder_7d493 0 = .ok (.getstatic 38, 3) := by decide +kernel
theorem dJ0_coder_7d493_3 : decode cJ0_coder_7d493 3 = .ok (.ifCond .eq 10, 3) := by decide +kernel
theorem dJ0_coder_7d493_6 : decode cJ0_coder_7d493 6 = .ok (.aload_n 0, 1) := by decide +kernel
theorem dJ0_coder_7d493_7 : decode cJ0_coder_7d493 7 = .ok (.getfield 15, 3) := by decide +kernel
theorem dJ0_coder_7d493_10 : decode cJ0_coder_7d493 10 = .ok (.goto 4, 3) := by decide +kernel
theorem dJ0_coder_7d493_13 : decode cJ0_coder_7d493 13 = .ok (.iconst 1, 1) := by decide +kernel
theorem dJ0_coder_7d493_14 : decode cJ0_coder_7d493 14 = .ok (.ireturn, 1) := by decide +kernel
theorem dJ0_charAt_5068e_0 : decode cJ0_charAt_5068e 0 = .ok (.aload_n 0, 1) := by decide +kernel
theorem dJ0_charAt_5068e_1 : decode cJ0_charAt_5068e 1 = .ok (.invokevirtual 492, 3) := by decide +kernel
theorem dJ0_charAt_5068e_4 : decode cJ0_charAt_5068e 4 = .ok (.ifCond .eq 12, 3) := by decide +kernel
theorem dJ0_charAt_5068e_7 : decode cJ0_charAt_5068e 7 = .ok (.aload_n 0, 1) := by decide +kernel
theorem dJ0_charAt_5068e_8 : decode cJ0_charAt_5068e 8 = .ok (.getfield 9, 3) := by decide +kernel
theorem dJ0_charAt_5068e_11 : decode cJ0_charAt_5068e 11 = .ok (.iload_n 1, 1) := by decide +kernel
theorem dJ0_charAt_5068e_12 : decode cJ0_charAt_5068e 12 = .ok (.invokestatic 495, 3) := by decide +kernel
theorem dJ0_charAt_5068e_15 : decode cJ0_charAt_5068e 15 = .ok (.ireturn, 1) := by decide +kernel
theorem dJ0_charAt_5068e_16 : decode cJ0_charAt_5068e 16 = .ok (.aload_n 0, 1) := by decide +kernel
theorem dJ0_charAt_5068e_17 : decode cJ0_charAt_5068e 17 = .ok (.getfield 9, 3) := by decide +kernel
theorem dJ0_charAt_5068e_20 : decode cJ0_charAt_5068e 20 = .ok (.iload_n 1, 1) := by decide +kernel
theorem dJ0_charAt_5068e_21 : decode cJ0_charAt_5068e 21 = .ok (.invokestatic 498, 3) := by decide +kernel
theorem dJ0_charAt_5068e_24 : decode cJ0_charAt_5068e 24 = .ok (.ireturn, 1) := by decide +kernel
theorem dJ0_isLatin1_aae02_0 : decode cJ0_isLatin1_aae02 0 = .ok (.getstatic 38, 3) := by decide +kernel
theorem dJ0_isLatin1_aae02_3 : decode cJ0_isLatin1_aae02 3 = .ok (.ifCond .eq 14, 3) := by decide +kernel
theorem dJ0_isLatin1_aae02_6 : decode cJ0_isLatin1_aae02 6 = .ok (.aload_n 0, 1) := by decide +kernel
theorem dJ0_isLatin1_aae02_7 : decode cJ0_isLatin1_aae02 7 = .ok (.getfield 15, 3) := by decide +kernel
theorem dJ0_isLatin1_aae02_10 : decode cJ0_isLatin1_aae02 10 = .ok (.ifCond .ne 7, 3) := by decide +kernel
theorem dJ0_isLatin1_aae02_13 : decode cJ0_isLatin1_aae02 13 = .ok (.iconst 1, 1) := by decide +kernel
theorem dJ0_isLatin1_aae02_14 : decode cJ0_isLatin1_aae02 14 = .ok (.goto 4, 3) := by decide +kernel
theorem dJ0_isLatin1_aae02_17 : decode cJ0_isLatin1_aae02 17 = .ok (.iconst 0, 1) := by decide +kernel
theorem dJ0_isLatin1_aae02_18 : decode cJ0_isLatin1_aae02 18 = .ok (.ireturn, 1) := by decide +kernel
theorem dJ1_charAt_3b067_0 : decode cJ1_charAt_3b067 0 = .ok (.iload_n 1, 1) := by decide +kernel
theorem dJ1_charAt_3b067_1 : decode cJ1_charAt_3b067 1 = .ok (.aload_n 0, 1) := by decide +kernel
theorem dJ1_charAt_3b067_2 : decode cJ1_charAt_3b067 2 = .ok (.arraylength, 1) := by decide +kernel
theorem dJ1_charAt_3b067_3 : decode cJ1_charAt_3b067 3 = .ok (.invokestatic 9, 3) := by decide +kernel
theorem dJ1_charAt_3b067_6 : decode cJ1_charAt_3b067 6 = .ok (.aload_n 0, 1) := by decide +kernel
theorem dJ1_charAt_3b067_7 : decode cJ1_charAt_3b067 7 = .ok (.iload_n 1, 1) := by decide +kernel
theorem dJ1_charAt_3b067_8 : decode cJ1_charAt_3b067 8 = .ok (.baload, 1) := by decide +kernel
theorem dJ1_charAt_3b067_9 : decode cJ1_charAt_3b067 9 = .ok (.sipush 255, 3) := by decide +kernel
theorem dJ1_charAt_3b067_12 : decode cJ1_charAt_3b067 12 = .ok (.iand, 1) := by decide +kernel
theorem dJ1_charAt_3b067_13 : decode cJ1_charAt_3b067 13 = .ok (.i2c, 1) := by decide +kernel
theorem dJ1_charAt_3b067_14 : decode cJ1_charAt_3b067 14 = .ok (.ireturn, 1) := by decide +kernel
theorem dJ0_checkIndex_df160_0 : decode cJ0_checkIndex_df160 0 = .ok (.iload_n 0, 1) := by decide +kernel
theorem dJ0_checkIndex_df160_1 : decode cJ0_checkIndex_df160 1 = .ok (.iload_n 1, 1) := by decide +kernel
theorem dJ0_checkIndex_df160_2 : decode cJ0_checkIndex_df160 2 = .ok (.getstatic 1053, 3) := by decide +kernel
theorem dJ0_checkIndex_df160_5 : decode cJ0_checkIndex_df160 5 = .ok (.invokestatic 1059, 3) := by decide +kernel
theorem dJ0_checkIndex_df160_8 : decode cJ0_checkIndex_df160 8 = .ok (.pop, 1) := by decide +kernel
theorem dJ0_checkIndex_df160_9 : decode cJ0_checkIndex_df160 9 = .ok (.return_, 1) := by decide +kernel
theorem dJ3_checkIndex_8e157_0 : decode cJ3_checkIndex_8e157 0 = .ok (.iload_n 0, 1) := by decide +kernel
theorem dJ3_checkIndex_8e157_1 : decode cJ3_checkIndex_8e157 1 = .ok (.ifCond .lt 8, 3) := by decide +kernel
theorem dJ3_checkIndex_8e157_4 : decode cJ3_checkIndex_8e157 4 = .ok (.iload_n 0, 1) := by decide +kernel
theorem dJ3_checkIndex_8e157_5 : decode cJ3_checkIndex_8e157 5 = .ok (.iload_n 1, 1) := by decide +kernel
theorem dJ3_checkIndex_8e157_6 : decode cJ3_checkIndex_8e157 6 = .ok (.if_icmp .lt 10, 3) := by decide +kernel
theorem dJ3_checkIndex_8e157_9 : decode cJ3_checkIndex_8e157 9 = .ok (.aload_n 2, 1) := by decide +kernel
theorem dJ3_checkIndex_8e157_10 : decode cJ3_checkIndex_8e157 10 = .ok (.iload_n 0, 1) := by decide +kernel
theorem dJ3_checkIndex_8e157_11 : decode cJ3_checkIndex_8e157 11 = .ok (.iload_n 1, 1) := by decide +kernel
theorem dJ3_checkIndex_8e157_12 : decode cJ3_checkIndex_8e157 12 = .ok (.invokestatic 95, 3) := by decide +kernel
theorem dJ3_checkIndex_8e157_15 : decode cJ3_checkIndex_8e157 15 = .ok (.athrow, 1) := by decide +kernel
theorem dJ3_checkIndex_8e157_16 : decode cJ3_checkIndex_8e157 16 = .ok (.iload_n 0, 1) := by decide +kernel
theorem dJ3_checkIndex_8e157_17 : decode cJ3_checkIndex_8e157 17 = .ok (.ireturn, 1) := by decide +kernel
theorem dJ0_indexOf_0f7a4_0 : decode cJ0_indexOf_0f7a4 0 = .ok (.aload_n 0, 1) := by decide +kernel
theorem dJ0_indexOf_0f7a4_1 : decode cJ0_indexOf_0f7a4 1 = .ok (.iload_n 1, 1) := by decide +kernel
theorem dJ0_indexOf_0f7a4_2 : decode cJ0_indexOf_0f7a4 2 = .ok (.iconst 0, 1) := by decide +kernel
theorem dJ0_indexOf_0f7a4_3 : decode cJ0_indexOf_0f7a4 3 = .ok (.invokevirtual 633, 3) := by decide +kernel
theorem dJ0_indexOf_0f7a4_6 : decode cJ0_indexOf_0f7a4 6 = .ok (.ireturn, 1) := by decide +kernel
theorem dJ0_indexOf_7cf53_0 : decode cJ0_indexOf_7cf53 0 = .ok (.aload_n 0, 1) := by decide +kernel
theorem dJ0_indexOf_7cf53_1 : decode cJ0_indexOf_7cf53 1 = .ok (.invokevirtual 492, 3) := by decide +kernel
theorem dJ0_indexOf_7cf53_4 : decode cJ0_indexOf_7cf53 4 = .ok (.ifCond .eq 19, 3) := by decide +kernel
theorem dJ0_indexOf_7cf53_7 : decode cJ0_indexOf_7cf53 7 = .ok (.aload_n 0, 1) := by decide +kernel
theorem dJ0_indexOf_7cf53_8 : decode cJ0_indexOf_7cf53 8 = .ok (.getfield 9, 3) := by decide +kernel
theorem dJ0_indexOf_7cf53_11 : decode cJ0_indexOf_7cf53 11 = .ok (.iload_n 1, 1) := by decide +kernel
theorem dJ0_indexOf_7cf53_12 : decode cJ0_indexOf_7cf53 12 = .ok (.iload_n 2, 1) := by decide +kernel
theorem dJ0_indexOf_7cf53_13 : decode cJ0_indexOf_7cf53 13 = .ok (.aload_n 0, 1) := by decide +kernel
theorem dJ0_indexOf_7cf53_14 : decode cJ0_indexOf_7cf53 14 = .ok (.invokevirtual 505, 3) := by decide +kernel
theorem dJ0_indexOf_7cf53_17 : decode cJ0_indexOf_7cf53 17 = .ok (.invokestatic 637, 3) := by decide +kernel
theorem dJ0_indexOf_7cf53_20 : decode cJ0_indexOf_7cf53 20 = .ok (.goto 16, 3) := by decide +kernel
theorem dJ0_indexOf_7cf53_23 : decode cJ0_indexOf_7cf53 23 = .ok (.aload_n 0, 1) := by decide +kernel
theorem dJ0_indexOf_7cf53_24 : decode cJ0_indexOf_7cf53 24 = .ok (.getfield 9, 3) := by decide +kernel
theorem dJ0_indexOf_7cf53_27 : decode cJ0_indexOf_7cf53 27 = .ok (.iload_n 1, 1) := by decide +kernel
theorem dJ0_indexOf_7cf53_28 : decode cJ0_indexOf_7cf53 28 = .ok (.iload_n 2, 1) := by decide +kernel
theorem dJ0_indexOf_7cf53_29 : decode cJ0_indexOf_7cf53 29 = .ok (.aload_n 0, 1) := by decide +kernel
theorem dJ0_indexOf_7cf53_30 : decode cJ0_indexOf_7cf53 30 = .ok (.invokevirtual 505, 3) := by decide +kernel
theorem dJ0_indexOf_7cf53_33 : decode cJ0_indexOf_7cf53 33 = .ok (.invokestatic 640, 3) := by decide +kernel
theorem dJ0_indexOf_7cf53_36 : decode cJ0_indexOf_7cf53 36 = .ok (.ireturn, 1) := by decide +kernel
theorem dJ1_indexOf_4cfef_0 : decode cJ1_indexOf_4cfef 0 = .ok (.iload_n 1, 1) := by decide +kernel
theorem dJ1_indexOf_4cfef_1 : decode cJ1_indexOf_4cfef 1 = .ok (.invokestatic 88, 3) := by decide +kernel
theorem dJ1_indexOf_4cfef_4 : decode cJ1_indexOf_4cfef 4 = .ok (.ifCond .ne 5, 3) := by decide +kernel
theorem dJ1_indexOf_4cfef_7 : decode cJ1_indexOf_4cfef 7 = .ok (.iconst (-1), 1) := by decide +kernel
theorem dJ1_indexOf_4cfef_8 : decode cJ1_indexOf_4cfef 8 = .ok (.ireturn, 1) := by decide +kernel
theorem dJ1_indexOf_4cfef_9 : decode cJ1_indexOf_4cfef 9 = .ok (.iload_n 2, 1) := by decide +kernel
theorem dJ1_indexOf_4cfef_10 : decode cJ1_indexOf_4cfef 10 = .ok (.iconst 0, 1) := by decide +kernel
theorem dJ1_indexOf_4cfef_11 : decode cJ1_indexOf_4cfef 11 = .ok (.invokestatic 92, 3) := by decide +kernel
theorem dJ1_indexOf_4cfef_14 : decode cJ1_indexOf_4cfef 14 = .ok (.istore_n 2, 1) := by decide +kernel
theorem dJ1_indexOf_4cfef_15 : decode cJ1_indexOf_4cfef 15 = .ok (.iload_n 3, 1) := by decide +kernel
theorem dJ1_indexOf_4cfef_16 : decode cJ1_indexOf_4cfef 16 = .ok (.aload_n 0, 1) := by decide +kernel
theorem dJ1_indexOf_4cfef_17 : decode cJ1_indexOf_4cfef 17 = .ok (.arraylength, 1) := by decide +kernel
theorem dJ1_indexOf_4cfef_18 : decode cJ1_indexOf_4cfef 18 = .ok (.invokestatic 38, 3) := by decide +kernel
theorem dJ1_indexOf_4cfef_21 : decode cJ1_indexOf_4cfef 21 = .ok (.istore_n 3, 1) := by decide +kernel
theorem dJ1_indexOf_4cfef_22 : decode cJ1_indexOf_4cfef 22 = .ok (.iload_n 2, 1) := by decide +kernel
theorem dJ1_indexOf_4cfef_23 : decode cJ1_indexOf_4cfef 23 = .ok (.iload_n 3, 1) := by decide +kernel
theorem dJ1_indexOf_4cfef_24 : decode cJ1_indexOf_4cfef 24 = .ok (.if_icmp .lt 5, 3) := by decide +kernel
theorem dJ1_indexOf_4cfef_27 : decode cJ1_indexOf_4cfef 27 = .ok (.iconst (-1), 1) := by decide +kernel
theorem dJ1_indexOf_4cfef_28 : decode cJ1_indexOf_4cfef 28 = .ok (.ireturn, 1) := by decide +kernel
theorem dJ1_indexOf_4cfef_29 : decode cJ1_indexOf_4cfef 29 = .ok (.aload_n 0, 1) := by decide +kernel
theorem dJ1_indexOf_4cfef_30 : decode cJ1_indexOf_4cfef 30 = .ok (.iload_n 1, 1) := by decide +kernel
theorem dJ1_indexOf_4cfef_31 : decode cJ1_indexOf_4cfef 31 = .ok (.iload_n 2, 1) := by decide +kernel
theorem dJ1_indexOf_4cfef_32 : decode cJ1_indexOf_4cfef 32 = .ok (.iload_n 3, 1) := by decide +kernel
theorem dJ1_indexOf_4cfef_33 : decode cJ1_indexOf_4cfef 33 = .ok (.invokestatic 95, 3) := by decide +kernel
theorem dJ1_indexOf_4cfef_36 : decode cJ1_indexOf_4cfef 36 = .ok (.ireturn, 1) := by decide +kernel
theorem dJ1_canEncode_9a6ad_0 : decode cJ1_canEncode_9a6ad 0 = .ok (.iload_n 0, 1) := by decide +kernel
theorem dJ1_canEncode_9a6ad_1 : decode cJ1_canEncode_9a6ad 1 = .ok (.ifCond .lt 14, 3) := by decide +kernel
theorem dJ1_canEncode_9a6ad_4 : decode cJ1_canEncode_9a6ad 4 = .ok (.iload_n 0, 1) := by decide +kernel
theorem dJ1_canEncode_9a6ad_5 : decode cJ1_canEncode_9a6ad 5 = .ok (.sipush 255, 3) := by decide +kernel
theorem dJ1_canEncode_9a6ad_8 : decode cJ1_canEncode_9a6ad 8 = .ok (.if_icmp .gt 7, 3) := by decide +kernel
theorem dJ1_canEncode_9a6ad_11 : decode cJ1_canEncode_9a6ad 11 = .ok (.iconst 1, 1) := by decide +kernel
theorem dJ1_canEncode_9a6ad_12 : decode cJ1_canEncode_9a6ad 12 = .ok (.goto 4, 3) := by decide +kernel
theorem dJ1_canEncode_9a6ad_15 : decode cJ1_canEncode_9a6ad 15 = .ok (.iconst 0, 1) := by decide +kernel
theorem dJ1_canEncode_9a6ad_16 : decode cJ1_canEncode_9a6ad 16 = .ok (.ireturn, 1) := by decide +kernel
theorem dJ1_indexOfChar_4cfef_0 : decode cJ1_indexOfChar_4cfef 0 = .ok (.iload_n 1, 1) := by decide +kernel
theorem dJ1_indexOfChar_4cfef_1 : decode cJ1_indexOfChar_4cfef 1 = .ok (.i2b, 1) := by decide +kernel
theorem dJ1_indexOfChar_4cfef_2 : decode cJ1_indexOfChar_4cfef 2 = .ok (.istore 4, 2) := by decide +kernel
theorem dJ1_indexOfChar_4cfef_4 : decode cJ1_indexOfChar_4cfef 4 = .ok (.iload_n 2, 1) := by decide +kernel
theorem dJ1_indexOfChar_4cfef_5 : decode cJ1_indexOfChar_4cfef 5 = .ok (.istore 5, 2) := by decide +kernel
theorem dJ1_indexOfChar_4cfef_7 : decode cJ1_indexOfChar_4cfef 7 = .ok (.iload 5, 2) := by decide +kernel
theorem dJ1_indexOfChar_4cfef_9 : decode cJ1_indexOfChar_4cfef 9 = .ok (.iload_n 3, 1) := by decide +kernel
theorem dJ1_indexOfChar_4cfef_10 : decode cJ1_indexOfChar_4cfef 10 = .ok (.if_icmp .ge 21, 3) := by decide +kernel
theorem dJ1_indexOfChar_4cfef_13 : decode cJ1_indexOfChar_4cfef 13 = .ok (.aload_n 0, 1) := by decide +kernel
theorem dJ1_indexOfChar_4cfef_14 : decode cJ1_indexOfChar_4cfef 14 = .ok (.iload 5, 2) := by decide +kernel
theorem dJ1_indexOfChar_4cfef_16 : decode cJ1_indexOfChar_4cfef 16 = .ok (.baload, 1) := by decide +kernel
theorem dJ1_indexOfChar_4cfef_17 : decode cJ1_indexOfChar_4cfef 17 = .ok (.iload 4, 2) := by decide +kernel
theorem dJ1_indexOfChar_4cfef_19 : decode cJ1_indexOfChar_4cfef 19 = .ok (.if_icmp .ne 6, 3) := by decide +kernel
theorem dJ1_indexOfChar_4cfef_22 : decode cJ1_indexOfChar_4cfef 22 = .ok (.iload 5, 2) := by decide +kernel
theorem dJ1_indexOfChar_4cfef_24 : decode cJ1_indexOfChar_4cfef 24 = .ok (.ireturn, 1) := by decide +kernel
theorem dJ1_indexOfChar_4cfef_25 : decode cJ1_indexOfChar_4cfef 25 = .ok (.iinc 5 1, 3) := by decide +kernel
theorem dJ1_indexOfChar_4cfef_28 : decode cJ1_indexOfChar_4cfef 28 = .ok (.goto (-21), 3) := by decide +kernel
theorem dJ1_indexOfChar_4cfef_31 : decode cJ1_indexOfChar_4cfef 31 = .ok (.iconst (-1), 1) := by decide +kernel
theorem dJ1_indexOfChar_4cfef_32 : decode cJ1_indexOfChar_4cfef 32 = .ok (.ireturn, 1) := by decide +kernel
abbrev M_J0_coder_7d493 : gM := (RJ0, yJ0_coder_7d493, cJ0_coder_7d493, 1, (some .byte))
abbrev M_J0_isLatin1_aae02 : gM := (RJ0, yJ0_isLatin1_aae02, cJ0_isLatin1_aae02, 1, (some .boolean))
abbrev M_J1_charAt_3b067 : gM := (RJ1, yJ1_charAt_3b067, cJ1_charAt_3b067, 2, (some .char))
abbrev M_J0_checkIndex_df160 : gM := (RJ0, yJ0_checkIndex_df160, cJ0_checkIndex_df160, 2, none)
abbrev M_J3_checkIndex_8e157 : gM := (RJ3, yJ3_checkIndex_8e157, cJ3_checkIndex_8e157, 3, (some .int))
abbrev M_J0_indexOf_7cf53 : gM := (RJ0, yJ0_indexOf_7cf53, cJ0_indexOf_7cf53, 3, (some .int))
abbrev M_J1_indexOf_4cfef : gM := (RJ1, yJ1_indexOf_4cfef, cJ1_indexOf_4cfef, 4, (some .int))
abbrev M_J1_canEncode_9a6ad : gM := (RJ1, yJ1_canEncode_9a6ad, cJ1_canEncode_9a6ad, 1, (some .boolean))
abbrev M_J1_indexOfChar_4cfef : gM := (RJ1, yJ1_indexOfChar_4cfef, cJ1_indexOfChar_4cfef, 6, (some .int))
theorem s_J0_335 : gCq RJ0 335 M_J0_coder_7d493 0 := ⟨⟨gt_2 (List.mem_of_getElem? (i := 86) (by decide +kernel)) (by decide +kernel), gt_1 (List.mem_of_getElem? (i := 8) (by decide +kernel)) (by decide +kernel), gt_2 (List.mem_of_getElem? (i := 83) (by decide +kernel)) (by decide +kernel), ⟨by decide +kernel, by decide +kernel, by decide +kernel⟩, by decide⟩, gt_2 (List.mem_of_getElem? (i := 84) (by decide +kernel)) (by decide +kernel), gt_2 (List.mem_of_getElem? (i := 85) (by decide +kernel)) (by decide +kernel), rfl⟩
theorem s_J0_492 : gCq RJ0 492 M_J0_isLatin1_aae02 0 := ⟨⟨gt_2 (List.mem_of_getElem? (i := 96) (by decide +kernel)) (by decide +kernel), gt_1 (List.mem_of_getElem? (i := 8) (by decide +kernel)) (by decide +kernel), gt_2 (List.mem_of_getElem? (i := 93) (by decide +kernel)) (by decide +kernel), ⟨by decide +kernel, by decide +kernel, by decide +kernel⟩, by decide⟩, gt_2 (List.mem_of_getElem? (i := 94) (by decide +kernel)) (by decide +kernel), gt_2 (List.mem_of_getElem? (i := 95) (by decide +kernel)) (by decide +kernel), rfl⟩
theorem s_J0_633 : gCq RJ0 633 M_J0_indexOf_7cf53 2 := ⟨⟨gt_2 (List.mem_of_getElem? (i := 192) (by decide +kernel)) (by decide +kernel), gt_1 (List.mem_of_getElem? (i := 8) (by decide +kernel)) (by decide +kernel), gt_2 (List.mem_of_getElem? (i := 189) (by decide +kernel)) (by decide +kernel), ⟨by decide +kernel, by decide +kernel, by decide +kernel⟩, by decide⟩, gt_2 (List.mem_of_getElem? (i := 190) (by decide +kernel)) (by decide +kernel), gt_2 (List.mem_of_getElem? (i := 191) (by decide +kernel)) (by decide +kernel), rfl⟩
theorem s_J0_505 : gCq RJ0 505 M_J0_length_8abf5 0 := ⟨⟨gt_2 (List.mem_of_getElem? (i := 82) (by decide +kernel)) (by decide +kernel), gt_1 (List.mem_of_getElem? (i := 8) (by decide +kernel)) (by decide +kernel), gt_2 (List.mem_of_getElem? (i := 193) (by decide +kernel)) (by decide +kernel), ⟨by decide +kernel, by decide +kernel, by decide +kernel⟩, by decide⟩, gt_2 (List.mem_of_getElem? (i := 80) (by decide +kernel)) (by decide +kernel), gt_2 (List.mem_of_getElem? (i := 81) (by decide +kernel)) (by decide +kernel), rfl⟩
theorem s_J0_495 : gCs RJ0 495 M_J1_charAt_3b067 2 := ⟨⟨gt_2 (List.mem_of_getElem? (i := 99) (by decide +kernel)) (by decide +kernel), gt_1 (List.mem_of_getElem? (i := 9) (by decide +kernel)) (by decide +kernel), gt_2 (List.mem_of_getElem? (i := 97) (by decide +kernel)) (by decide +kernel), ⟨by decide +kernel, by decide +kernel, by decide +kernel⟩, by decide⟩, gt_2 (List.mem_of_getElem? (i := 98) (by decide +kernel)) (by decide +kernel)⟩
theorem s_J0_1059 : gCs RJ0 1059 M_J3_checkIndex_8e157 3 := ⟨⟨gt_2 (List.mem_of_getElem? (i := 107) (by decide +kernel)) (by decide +kernel), gt_1 (List.mem_of_getElem? (i := 10) (by decide +kernel)) (by decide +kernel), gt_2 (List.mem_of_getElem? (i := 105) (by decide +kernel)) (by decide +kernel), ⟨by decide +kernel, by decide +kernel, by decide +kernel⟩, by decide⟩, gt_2 (List.mem_of_getElem? (i := 106) (by decide +kernel)) (by decide +kernel)⟩
theorem s_J0_637 : gCs RJ0 637 M_J1_indexOf_4cfef 4 := ⟨⟨gt_2 (List.mem_of_getElem? (i := 196) (by decide +kernel)) (by decide +kernel), gt_1 (List.mem_of_getElem? (i := 9) (by decide +kernel)) (by decide +kernel), gt_2 (List.mem_of_getElem? (i := 194) (by decide +kernel)) (by decide +kernel), ⟨by decide +kernel, by decide +kernel, by decide +kernel⟩, by decide⟩, gt_2 (List.mem_of_getElem? (i := 195) (by decide +kernel)) (by decide +kernel)⟩
theorem s_J1_9 : gCs RJ1 9 M_J0_checkIndex_df160 2 := ⟨⟨gt_2 (List.mem_of_getElem? (i := 102) (by decide +kernel)) (by decide +kernel), gt_1 (List.mem_of_getElem? (i := 8) (by decide +kernel)) (by decide +kernel), gt_2 (List.mem_of_getElem? (i := 100) (by decide +kernel)) (by decide +kernel), ⟨by decide +kernel, by decide +kernel, by decide +kernel⟩, by decide⟩, gt_2 (List.mem_of_getElem? (i := 101) (by decide +kernel)) (by decide +kernel)⟩
theorem s_J1_88 : gCs RJ1 88 M_J1_canEncode_9a6ad 1 := ⟨⟨gt_2 (List.mem_of_getElem? (i := 199) (by decide +kernel)) (by decide +kernel), gt_1 (List.mem_of_getElem? (i := 9) (by decide +kernel)) (by decide +kernel), gt_2 (List.mem_of_getElem? (i := 197) (by decide +kernel)) (by decide +kernel), ⟨by decide +kernel, by decide +kernel, by decide +kernel⟩, by decide⟩, gt_2 (List.mem_of_getElem? (i := 198) (by decide +kernel)) (by decide +kernel)⟩
theorem s_J1_95 : gCs RJ1 95 M_J1_indexOfChar_4cfef 4 := ⟨⟨gt_2 (List.mem_of_getElem? (i := 204) (by decide +kernel)) (by decide +kernel), gt_1 (List.mem_of_getElem? (i := 9) (by decide +kernel)) (by decide +kernel), gt_2 (List.mem_of_getElem? (i := 202) (by decide +kernel)) (by decide +kernel), ⟨by decide +kernel, by decide +kernel, by decide +kernel⟩, by decide⟩, gt_2 (List.mem_of_getElem? (i := 203) (by decide +kernel)) (by decide +kernel)⟩
theorem w_J0_9 : Cond.fieldLink RJ0 9 "java/lang/String" "value" "[B" ∈ gT := gt_6 (List.mem_of_getElem? (i := 174) (by decide +kernel)) (by decide +kernel)
theorem w_J0_15 : Cond.fieldLink RJ0 15 "java/lang/String" "coder" "B" ∈ gT := gt_6 (List.mem_of_getElem? (i := 175) (by decide +kernel)) (by decide +kernel)
theorem w_J0_38 : Cond.fieldLink RJ0 38 "java/lang/String" "COMPACT_STRINGS" "Z" ∈ gT := gt_2 (List.mem_of_getElem? (i := 87) (by decide +kernel)) (by decide +kernel)
theorem w_J0_1053 : Cond.fieldLink RJ0 1053 "jdk/internal/util/Preconditions" "SIOOBE_FORMATTER" "Ljava/util/function/BiFunction;" ∈ gT := gt_2 (List.mem_of_getElem? (i := 103) (by decide +kernel)) (by decide +kernel)
theorem m_J1_92 : Cond.methodLink RJ1 92 Lib.Math.max.name ∈ gT := gt_2 (List.mem_of_getElem? (i := 200) (by decide +kernel)) (by decide +kernel)
theorem m_J1_38 : Cond.methodLink RJ1 38 Lib.Math.min.name ∈ gT := gt_2 (List.mem_of_getElem? (i := 201) (by decide +kernel)) (by decide +kernel)
section GSC
variable {M : gM} {d mc ms kc kn pc : Nat} {lv : List (Option Value)} {st : List Value} {h : gH} {Q : Option Value → gH → Prop}
theorem g_i2b {x : Int32} {v : Int32} (hdg : decode M.2.2.1 pc = .ok (.i2b, 1)) (hv : x.toInt8.toInt32 = v) (kk : G M d mc ms kc kn (pc + 1) lv (.int v :: st) h Q) : G M d mc ms kc kn pc lv (.int x :: st) h Q := by
  intro l E D cA p e s m args below meth c X H locs ls hI hS hl
  exact lv_i2b X.1 X.2.1 hdg hv (kk l E D cA p e s m args below meth c X H locs ls hI hS hl)
theorem gA_sp {E : gE} {k : Nat} (hk : k < 64) : gA E k = E.2 k := by simp [gA, hk]
theorem g_sval {i idx : Nat} (hi : i < 16) (hw : Cond.fieldLink M.1 idx "java/lang/String" "value" "[B" ∈ gT) (hdg : decode M.2.2.1 pc = .ok (.getfield idx, 3)) (kk : G M d mc ms kc kn (pc + 3) lv (.ref (33 + i) :: st) h Q) : G M d mc ms kc kn pc lv (.ref (1 + i) :: st) h Q := by
  intro l E D cA p e s m args below meth c X H locs ls hI hS hl
  have k1 := kk l E D cA p e s m args below meth c X H locs ls hI hS hl
  show W _ _ _ _ _ _ _ _ _ _ _ _ _ _ _ (F0 m pc ls (Value.ref (gA E (1 + i)) :: st.map (gV E)))
  rw [gA_sp (by omega)]
  refine vk_getf (o := "java/lang/String") (n := "value") (d := "[B") (own := M.1) (ref := "java/lang/String") (v := .ref (E.2 (33 + i))) X.1 X.2.1 (X.2.2.2.2.2.2.2.2.2.1.1.1 i hi).2.2.1 hS X.2.2.2.2.1 (X.2.2.2.2.2.1 _ (List.mem_cons_of_mem _ hw)) (fun _ h => h) hdg ?_
  have e3 : Value.ref (E.2 (33 + i)) = gV E (.ref (33 + i)) := by show _ = Value.ref (gA E _); rw [gA_sp (by omega)]
  rw [e3]
  exact k1
theorem g_scod {i idx : Nat} (hi : i < 16) (hw : Cond.fieldLink M.1 idx "java/lang/String" "coder" "B" ∈ gT) (hdg : decode M.2.2.1 pc = .ok (.getfield idx, 3)) (kk : G M d mc ms kc kn (pc + 3) lv (.int 0 :: st) h Q) : G M d mc ms kc kn pc lv (.ref (1 + i) :: st) h Q := by
  intro l E D cA p e s m args below meth c X H locs ls hI hS hl
  have k1 := kk l E D cA p e s m args below meth c X H locs ls hI hS hl
  show W _ _ _ _ _ _ _ _ _ _ _ _ _ _ _ (F0 m pc ls (Value.ref (gA E (1 + i)) :: st.map (gV E)))
  rw [gA_sp (by omega)]
  exact vk_getf (o := "java/lang/String") (n := "coder") (d := "B") (own := M.1) (ref := "java/lang/String") (v := .int 0) X.1 X.2.1 (X.2.2.2.2.2.2.2.2.2.1.1.1 i hi).2.1 hS X.2.2.2.2.1 (X.2.2.2.2.2.1 _ (List.mem_cons_of_mem _ hw)) (fun _ h => h) hdg k1
theorem g_slen {i : Nat} (hi : i < 16) (hdg : decode M.2.2.1 pc = .ok (.arraylength, 1)) (kk : G M d mc ms kc kn (pc + 1) lv (.int (nI (gLen.getD i 0)) :: st) h Q) : G M d mc ms kc kn pc lv (.ref (33 + i) :: st) h Q := by
  intro l E D cA p e s m args below meth c X H locs ls hI hS hl
  have k1 := kk l E D cA p e s m args below meth c X H locs ls hI hS hl
  show W _ _ _ _ _ _ _ _ _ _ _ _ _ _ _ (F0 m pc ls (Value.ref (gA E (33 + i)) :: st.map (gV E)))
  rw [gA_sp (by omega)]
  exact va_tlen X.1 X.2.1 (X.2.2.2.2.2.2.2.2.2.1.1.1 i hi).2.2.2 hS rfl hdg k1
theorem g_sbyt {i : Nat} {k : Int32} (hi : i < 16) (hdg : decode M.2.2.1 pc = .ok (.baload, 1)) (hin : vp_in k (gLen.getD i 0)) (kk : G M d mc ms kc kn (pc + 1) lv (.int ((gByt.getD i []).getD k.toNatClampNeg 0) :: st) h Q) : G M d mc ms kc kn pc lv (.int k :: .ref (33 + i) :: st) h Q := by
  intro l E D cA p e s m args below meth c X H locs ls hI hS hl
  have k1 := kk l E D cA p e s m args below meth c X H locs ls hI hS hl
  show W _ _ _ _ _ _ _ _ _ _ _ _ _ _ _ (F0 m pc ls (Value.int k :: Value.ref (gA E (33 + i)) :: st.map (gV E)))
  rw [gA_sp (by omega)]
  exact va_tb X.1 X.2.1 (X.2.2.2.2.2.2.2.2.2.1.1.1 i hi).2.2.2 hS hin rfl hdg k1
theorem g_gsc {idx : Nat} (hw : Cond.fieldLink M.1 idx "java/lang/String" "COMPACT_STRINGS" "Z" ∈ gT) (hdg : decode M.2.2.1 pc = .ok (.getstatic idx, 3)) (kk : G M d mc ms kc kn (pc + 3) lv (.int 1 :: st) h Q) : G M d mc ms kc kn pc lv st h Q := by
  intro l E D cA p e s m args below meth c X H locs ls hI hS hl
  exact va_gets X.1 X.2.1 X.2.2.2.2.2.2.2.2.2.1.2.1 hS X.2.2.2.2.1 (X.2.2.2.2.2.1 _ (List.mem_cons_of_mem _ hw)) (fun _ h => h) hdg (kk l E D cA p e s m args below meth c X H locs ls hI hS hl)
theorem g_gsf {idx : Nat} (hw : Cond.fieldLink M.1 idx "jdk/internal/util/Preconditions" "SIOOBE_FORMATTER" "Ljava/util/function/BiFunction;" ∈ gT) (hdg : decode M.2.2.1 pc = .ok (.getstatic idx, 3)) (k1 : G M d mc ms kc kn (pc + 3) lv (.null :: st) h Q) (k2 : G M d mc ms kc kn (pc + 3) lv (.ref 63 :: st) h Q) : G M d mc ms kc kn pc lv st h Q := by
  intro l E D cA p e s m args below meth c X H locs ls hI hS hl
  rcases X.2.2.2.2.2.2.2.2.2.1.2.2 with z | z
  · exact va_gets X.1 X.2.1 z hS X.2.2.2.2.1 (X.2.2.2.2.2.1 _ (List.mem_cons_of_mem _ hw)) (fun _ h => h) hdg (k1 l E D cA p e s m args below meth c X H locs ls hI hS hl)
  · refine va_gets X.1 X.2.1 z hS X.2.2.2.2.1 (X.2.2.2.2.2.1 _ (List.mem_cons_of_mem _ hw)) (fun _ h => h) hdg ?_
    have e3 : Value.ref (E.2 63) = gV E (.ref 63) := by show _ = Value.ref (gA E _); rw [gA_sp (by omega)]
    rw [e3]
    exact k2 l E D cA p e s m args below meth c X H locs ls hI hS hl
end GSC
theorem c_coder {d i : Nat} {h : gH} (hi : i < 16) : T M_J0_coder_7d493 d 0 0 [.ref (1 + i)] h (qI 0 h) := by
  refine T_of_G (L := 0) (by decide +kernel) rfl (Nat.le_of_ble_eq_true rfl) (g_lv (lv2 := [some (.ref (1 + i))]) rfl ?_)
  refine g_gsc w_J0_38 dJ0_coder_7d493_0 ?_
  refine g_if_eq (tgt := 13) dJ0_coder_7d493_3 (by decide) (fun c => absurd c (by decide)) (fun c => ?_)
  refine g_aload_n dJ0_coder_7d493_6 rfl ?_
  refine g_scod hi w_J0_15 dJ0_coder_7d493_7 ?_
  refine g_goto (tgt := 14) dJ0_coder_7d493_10 (by decide) ?_
  exact g_zret (ty := .byte) dJ0_coder_7d493_14 rfl (by decide +kernel) ⟨rfl, rfl⟩ (Nat.le_of_ble_eq_true rfl) (Nat.le_of_ble_eq_true rfl)
theorem c_latin {d i : Nat} {h : gH} (hi : i < 16) : T M_J0_isLatin1_aae02 d 0 0 [.ref (1 + i)] h (qI 1 h) := by
  refine T_of_G (L := 0) (by decide +kernel) rfl (Nat.le_of_ble_eq_true rfl) (g_lv (lv2 := [some (.ref (1 + i))]) rfl ?_)
  refine g_gsc w_J0_38 dJ0_isLatin1_aae02_0 ?_
  refine g_if_eq (tgt := 17) dJ0_isLatin1_aae02_3 (by decide) (fun c => absurd c (by decide)) (fun c => ?_)
  refine g_aload_n dJ0_isLatin1_aae02_6 rfl ?_
  refine g_scod hi w_J0_15 dJ0_isLatin1_aae02_7 ?_
  refine g_if_ne (tgt := 17) dJ0_isLatin1_aae02_10 (by decide) (fun c => absurd rfl c) (fun c => ?_)
  refine g_iconst (v := (1 : Int32)) dJ0_isLatin1_aae02_13 (by decide) ?_
  refine g_goto (tgt := 18) dJ0_isLatin1_aae02_14 (by decide) ?_
  exact g_zret (ty := .boolean) dJ0_isLatin1_aae02_18 rfl (by decide +kernel) ⟨rfl, rfl⟩ (Nat.le_of_ble_eq_true rfl) (Nat.le_of_ble_eq_true rfl)
theorem c_length {d i : Nat} {h : gH} (hi : i < 16) : T M_J0_length_8abf5 (d + 1) 0 0 [.ref (1 + i)] h (qI (nI (gLen.getD i 0)) h) := by
  refine T_of_G (L := 0) (by decide +kernel) rfl (Nat.le_of_ble_eq_true rfl) (g_lv (lv2 := [some (.ref (1 + i))]) rfl ?_)
  refine g_aload_n dJ0_length_8abf5_0 rfl ?_
  refine g_sval hi w_J0_9 dJ0_length_8abf5_1 ?_
  refine g_slen hi dJ0_length_8abf5_4 ?_
  refine g_aload_n dJ0_length_8abf5_5 rfl ?_
  refine g_callStr (as := []) (mc1 := 0) (ms1 := 0) s_J0_335 dJ0_length_8abf5_6 ⟨by omega, by omega⟩ rfl (Nat.le_of_ble_eq_true rfl) (Nat.le_of_ble_eq_true rfl) (Nat.le_of_ble_eq_true rfl) (c_coder (d := d) hi) (fun r9 h9 q9 => ?_)
  obtain ⟨rfl, rfl⟩ := q9
  refine g_stp (st2 := [.int 0, .int (nI (gLen.getD i 0))]) (pc2 := 9) (kc2 := 0) (kn2 := 0) rfl rfl rfl rfl ?_
  refine g_ishr dJ0_length_8abf5_9 ?_
  refine g_top (w := .int (nI (gLen.getD i 0))) (congrArg Value.int ?_) ?_
  · exact (by decide +kernel : ∀ i, i < 16 → nI (gLen.getD i 0) >>> ((0 : Int32) &&& 31) = nI (gLen.getD i 0)) i hi
  exact g_iret dJ0_length_8abf5_10 rfl ⟨rfl, rfl⟩ (Nat.le_of_ble_eq_true rfl) (Nat.le_of_ble_eq_true rfl)
theorem c_check3 {d : Nat} {h : gH} {k n : Int32} {v : Value} (h0 : ¬ k < 0) (h1 : k < n) (hv : v = .null ∨ v = .ref 63) : T M_J3_checkIndex_8e157 d 0 0 [.int k, .int n, v] h (qI k h) := by
  have hc : v.category = 1 := by rcases hv with rfl | rfl <;> rfl
  refine T_of_G (L := 0) (by decide +kernel) rfl (by rcases hv with rfl | rfl <;> exact Nat.le_of_ble_eq_true rfl) (g_lv (lv2 := [some (.int k), some (.int n), some v]) (by rcases hv with rfl | rfl <;> rfl) ?_)
  refine g_iload_n dJ3_checkIndex_8e157_0 rfl ?_
  refine g_if_lt (tgt := 9) dJ3_checkIndex_8e157_1 (by decide) (fun c => absurd c h0) (fun c => ?_)
  refine g_iload_n dJ3_checkIndex_8e157_4 rfl ?_
  refine g_iload_n dJ3_checkIndex_8e157_5 rfl ?_
  refine g_icmp_lt (tgt := 16) dJ3_checkIndex_8e157_6 (by decide) (fun c => ?_) (fun c => absurd h1 c)
  refine g_iload_n dJ3_checkIndex_8e157_16 rfl ?_
  exact g_iret dJ3_checkIndex_8e157_17 rfl ⟨rfl, rfl⟩ (Nat.le_of_ble_eq_true rfl) (Nat.le_of_ble_eq_true rfl)
theorem c_check0 {d : Nat} {h : gH} {k n : Int32} (h0 : ¬ k < 0) (h1 : k < n) : T M_J0_checkIndex_df160 (d + 1) 0 0 [.int k, .int n] h (qV h) := by
  refine T_of_G (L := 0) (by decide +kernel) rfl (Nat.le_of_ble_eq_true rfl) (g_lv (lv2 := [some (.int k), some (.int n)]) rfl ?_)
  refine g_iload_n dJ0_checkIndex_df160_0 rfl ?_
  refine g_iload_n dJ0_checkIndex_df160_1 rfl ?_
  have go : ∀ v : Value, v = .null ∨ v = .ref 63 → G M_J0_checkIndex_df160 (d + 1) 0 0 0 0 5 [some (.int k), some (.int n)] [v, .int n, .int k] h (qV h) := by
    intro v hv
    refine g_callS (as := [.int k, .int n, v]) (st := []) (mc1 := 0) (ms1 := 0) s_J0_1059 dJ0_checkIndex_df160_5 rfl (Nat.le_of_ble_eq_true rfl) (Nat.le_of_ble_eq_true rfl) (Nat.le_of_ble_eq_true rfl) (c_check3 (d := d) h0 h1 hv) (fun r9 h9 q9 => ?_)
    obtain ⟨rfl, rfl⟩ := q9
    refine g_stp (st2 := [.int k]) (pc2 := 8) (kc2 := 0) (kn2 := 0) rfl rfl rfl rfl ?_
    refine g_pop dJ0_checkIndex_df160_8 rfl ?_
    exact g_vret dJ0_checkIndex_df160_9 rfl ⟨rfl, rfl⟩ (Nat.le_of_ble_eq_true rfl) (Nat.le_of_ble_eq_true rfl)
  exact g_gsf w_J0_1053 dJ0_checkIndex_df160_2 (go _ (Or.inl rfl)) (go _ (Or.inr rfl))
theorem gByt_ok : ∀ i, i < 16 → ∀ j, j < gLen.getD i 0 → (((gByt.getD i []).getD j 0 &&& 255).toUInt32 % 65536).toInt32 = (gByt.getD i []).getD j 0 ∧ narrow .char (.int ((gByt.getD i []).getD j 0)) = .int ((gByt.getD i []).getD j 0) ∧ ((gByt.getD i []).getD j 0).toInt8.toInt32 = (gByt.getD i []).getD j 0 ∧ (gByt.getD i []).getD j 0 &&& 255 = (gByt.getD i []).getD j 0 ∧ gLen.getD i 0 < 100 ∧ (gByt.getD i []).length = gLen.getD i 0 := by decide +kernel
theorem c_charAt1 {d i k : Nat} {h : gH} (hi : i < 16) (hk : k < gLen.getD i 0) : T M_J1_charAt_3b067 (d + 2) 0 0 [.ref (33 + i), .int (nI k)] h (qI ((gByt.getD i []).getD k 0) h) := by
  obtain ⟨b1, b2, -, -, b3, -⟩ := gByt_ok i hi k hk
  refine T_of_G (L := 0) (by decide +kernel) rfl (Nat.le_of_ble_eq_true rfl) (g_lv (lv2 := [some (.ref (33 + i)), some (.int (nI k))]) rfl ?_)
  refine g_iload_n dJ1_charAt_3b067_0 rfl ?_
  refine g_aload_n dJ1_charAt_3b067_1 rfl ?_
  refine g_slen hi dJ1_charAt_3b067_2 ?_
  refine g_callS (as := [.int (nI k), .int (nI (gLen.getD i 0))]) (st := []) (mc1 := 0) (ms1 := 0) s_J1_9 dJ1_charAt_3b067_3 rfl (Nat.le_of_ble_eq_true rfl) (Nat.le_of_ble_eq_true rfl) (Nat.le_of_ble_eq_true rfl) (c_check0 (d := d) (nI_pos (by omega)) (nI_lt hk (by omega))) (fun r9 h9 q9 => ?_)
  obtain ⟨rfl, rfl⟩ := q9
  refine g_stp (st2 := []) (pc2 := 6) (kc2 := 0) (kn2 := 0) rfl rfl rfl rfl ?_
  refine g_aload_n dJ1_charAt_3b067_6 rfl ?_
  refine g_iload_n dJ1_charAt_3b067_7 rfl ?_
  refine g_sbyt hi dJ1_charAt_3b067_8 (vp_in_nI hk (by omega)) ?_
  refine g_sipush (v := (255 : Int32)) dJ1_charAt_3b067_9 (by decide) ?_
  refine g_iand dJ1_charAt_3b067_12 ?_
  refine g_i2c dJ1_charAt_3b067_13 rfl ?_
  rw [nI_clamp (by omega)]
  refine g_top (w := .int ((gByt.getD i []).getD k 0)) (congrArg Value.int b1) ?_
  exact g_zret (ty := .char) dJ1_charAt_3b067_14 rfl b2 ⟨rfl, rfl⟩ (Nat.le_of_ble_eq_true rfl) (Nat.le_of_ble_eq_true rfl)
theorem c_charAt {d i k : Nat} {h : gH} (hi : i < 16) (hk : k < gLen.getD i 0) : T M_J0_charAt_5068e (d + 3) 0 0 [.ref (1 + i), .int (nI k)] h (qI ((gByt.getD i []).getD k 0) h) := by
  obtain ⟨b1, b2, -, -, b3, -⟩ := gByt_ok i hi k hk
  refine T_of_G (L := 0) (by decide +kernel) rfl (Nat.le_of_ble_eq_true rfl) (g_lv (lv2 := [some (.ref (1 + i)), some (.int (nI k))]) rfl ?_)
  refine g_aload_n dJ0_charAt_5068e_0 rfl ?_
  refine g_callStr (as := []) (st := []) (mc1 := 0) (ms1 := 0) s_J0_492 dJ0_charAt_5068e_1 ⟨by omega, by omega⟩ rfl (Nat.le_of_ble_eq_true rfl) (Nat.le_of_ble_eq_true rfl) (Nat.le_of_ble_eq_true rfl) (c_latin (d := d + 2) hi) (fun r9 h9 q9 => ?_)
  obtain ⟨rfl, rfl⟩ := q9
  refine g_stp (st2 := [.int 1]) (pc2 := 4) (kc2 := 0) (kn2 := 0) rfl rfl rfl rfl ?_
  refine g_if_eq (tgt := 16) dJ0_charAt_5068e_4 (by decide) (fun c => absurd c (by decide)) (fun c => ?_)
  refine g_aload_n dJ0_charAt_5068e_7 rfl ?_
  refine g_sval hi w_J0_9 dJ0_charAt_5068e_8 ?_
  refine g_iload_n dJ0_charAt_5068e_11 rfl ?_
  refine g_callS (as := [.ref (33 + i), .int (nI k)]) (st := []) (mc1 := 0) (ms1 := 0) s_J0_495 dJ0_charAt_5068e_12 rfl (Nat.le_of_ble_eq_true rfl) (Nat.le_of_ble_eq_true rfl) (Nat.le_of_ble_eq_true rfl) (c_charAt1 (d := d) hi hk) (fun r9 h9 q9 => ?_)
  obtain ⟨rfl, rfl⟩ := q9
  refine g_stp (st2 := [.int ((gByt.getD i []).getD k 0)]) (pc2 := 15) (kc2 := 0) (kn2 := 0) rfl rfl rfl rfl ?_
  exact g_zret (ty := .char) dJ0_charAt_5068e_15 rfl b2 ⟨rfl, rfl⟩ (Nat.le_of_ble_eq_true rfl) (Nat.le_of_ble_eq_true rfl)
theorem t_J0_length_8abf5 {n d a : Nat} {h rh : gH} {rv : Int32} (hf : F_J0_length_8abf5 n a h = some (rv, rh)) : T M_J0_length_8abf5 (d + 6) 0 0 [.ref a] h (qI rv rh) := by
  have hb := b_J0_length_8abf5 hf
  unfold F_J0_length_8abf5 at hf
  rw [if_pos hb] at hf
  obtain ⟨rfl, rfl⟩ := Prod.mk.inj (Option.some.inj hf)
  obtain ⟨i, rfl⟩ : ∃ i, a = 1 + i := ⟨a - 1, by omega⟩
  rw [Nat.add_sub_cancel_left]
  exact c_length (d := d + 5) (by omega)
theorem t_J0_charAt_5068e {n d a : Nat} {i : Int32} {h rh : gH} {rv : Int32} (hf : F_J0_charAt_5068e n a i h = some (rv, rh)) : T M_J0_charAt_5068e (d + 6) 0 0 [.ref a, .int i] h (qI rv rh) := by
  unfold F_J0_charAt_5068e at hf
  split at hf
  · rename_i q
    obtain ⟨hb, q2, q3⟩ := q
    obtain ⟨rfl, rfl⟩ := Prod.mk.inj (Option.some.inj hf)
    obtain ⟨k, rfl⟩ : ∃ k, a = 1 + k := ⟨a - 1, by omega⟩
    rw [Nat.add_sub_cancel_left] at q3 ⊢
    have e : i = nI i.toNatClampNeg := by
      obtain ⟨j, hj, rfl⟩ := nI_of (Int32.not_lt.mpr q2)
      rw [nI_clamp hj]
    rw [e, nI_clamp (Nat.lt_trans q3 (Nat.lt_of_lt_of_le (gByt_ok k (by omega) _ q3).2.2.2.2.1 (by decide)))]
    exact c_charAt (d := d + 3) (by omega) q3
  · cases hf
theorem c_canEncode {d : Nat} {h : gH} {c : Int32} : T M_J1_canEncode_9a6ad d 0 0 [.int c] h (qI (if c < 0 ∨ 255 < c then 0 else 1) h) := by
  refine T_of_G (L := 0) (by decide +kernel) rfl (Nat.le_of_ble_eq_true rfl) (g_lv (lv2 := [some (.int c)]) rfl ?_)
  have fin : ∀ v : Int32, (v = 0 ∨ v = 1) → v = (if c < 0 ∨ 255 < c then 0 else 1) → G M_J1_canEncode_9a6ad d 0 0 0 0 16 [some (.int c)] [.int v] h (qI (if c < 0 ∨ 255 < c then 0 else 1) h) := by
    intro v hv e
    exact g_zret (ty := .boolean) dJ1_canEncode_9a6ad_16 rfl (gZ_nar hv) ⟨by rw [← e], rfl⟩ (Nat.le_of_ble_eq_true rfl) (Nat.le_of_ble_eq_true rfl)
  refine g_iload_n dJ1_canEncode_9a6ad_0 rfl ?_
  refine g_if_lt (tgt := 15) dJ1_canEncode_9a6ad_1 (by decide) (fun c1 => ?_) (fun c1 => ?_)
  · refine g_iconst (v := (0 : Int32)) dJ1_canEncode_9a6ad_15 (by decide) ?_
    exact fin 0 (Or.inl rfl) (by rw [if_pos (Or.inl c1)])
  · refine g_iload_n dJ1_canEncode_9a6ad_4 rfl ?_
    refine g_sipush (v := (255 : Int32)) dJ1_canEncode_9a6ad_5 (by decide) ?_
    refine g_icmp_gt (tgt := 15) dJ1_canEncode_9a6ad_8 (by decide) (fun c2 => ?_) (fun c2 => ?_)
    · refine g_iconst (v := (0 : Int32)) dJ1_canEncode_9a6ad_15 (by decide) ?_
      exact fin 0 (Or.inl rfl) (by rw [if_pos (Or.inr c2)])
    · refine g_iconst (v := (1 : Int32)) dJ1_canEncode_9a6ad_11 (by decide) ?_
      refine g_goto (tgt := 16) dJ1_canEncode_9a6ad_12 (by decide) ?_
      exact fin 1 (Or.inr rfl) (by rw [if_neg (fun q => q.elim c1 c2)])
theorem gIx_out {c : Int32} : ∀ (l : List Int32) (k : Nat), (∀ b ∈ l, ¬ b = c) → gIx l c k = -1 := by
  intro l
  induction l with
  | nil => intro k _; rfl
  | cons b l ih =>
    intro k hb
    rw [gIx, if_neg (hb b List.mem_cons_self)]
    exact ih (k + 1) (fun x hx => hb x (List.mem_cons_of_mem _ hx))
theorem gByt_in : ∀ i, i < 16 → ∀ b ∈ gByt.getD i [], ¬ b < 0 ∧ ¬ 255 < b := by decide +kernel
theorem gLen_ok : ∀ i, i < 16 → (gByt.getD i []).length = gLen.getD i 0 ∧ gLen.getD i 0 < 100 ∧ 0 < gLen.getD i 0 := by decide +kernel
theorem c_ixLoop {d i n : Nat} {h : gH} (hi : i < 16) (hn : n < 256) : ∀ (l : List Int32) (k : Nat), k ≤ gLen.getD i 0 → (gByt.getD i []).drop k = l →
    G M_J1_indexOfChar_4cfef d 0 0 0 0 7 [some (.ref (33 + i)), some (.int (nI n)), some (.int 0), some (.int (nI (gLen.getD i 0))), some (.int (nI n).toInt8.toInt32), some (.int (nI k))] [] h (qI (gIx l (nI n) k) h) := by
  obtain ⟨hl, hL, -⟩ := gLen_ok i hi
  intro l
  induction l with
  | nil =>
    intro k hk e
    have q : (gByt.getD i []).length ≤ k := List.drop_eq_nil_iff.mp e
    refine g_iload dJ1_indexOfChar_4cfef_7 rfl ?_
    refine g_iload_n dJ1_indexOfChar_4cfef_9 rfl ?_
    refine g_icmp_ge (tgt := 31) dJ1_indexOfChar_4cfef_10 (by decide) (fun c => ?_) (fun c => absurd (nI_le (by omega) (by omega)) c)
    refine g_iconst (v := (-1 : Int32)) dJ1_indexOfChar_4cfef_31 (by decide) ?_
    exact g_iret dJ1_indexOfChar_4cfef_32 rfl ⟨rfl, rfl⟩ (Nat.le_of_ble_eq_true rfl) (Nat.le_of_ble_eq_true rfl)
  | cons b l ih =>
    intro k hk e
    obtain ⟨h1, h2, h3, h4⟩ := sc_dropC e
    obtain ⟨-, -, b3, b4, -, -⟩ := gByt_ok i hi k (by omega)
    rw [h2] at b3 b4
    refine g_iload dJ1_indexOfChar_4cfef_7 rfl ?_
    refine g_iload_n dJ1_indexOfChar_4cfef_9 rfl ?_
    refine g_icmp_ge (tgt := 31) dJ1_indexOfChar_4cfef_10 (by decide) (fun c => absurd c (nI_ge (by omega) (by omega))) (fun c => ?_)
    refine g_aload_n dJ1_indexOfChar_4cfef_13 rfl ?_
    refine g_iload dJ1_indexOfChar_4cfef_14 rfl ?_
    refine g_sbyt hi dJ1_indexOfChar_4cfef_16 (vp_in_nI (by omega) (by omega)) ?_
    refine g_iload dJ1_indexOfChar_4cfef_17 rfl ?_
    rw [nI_clamp (by omega), h2]
    refine g_icmp_ne (tgt := 25) dJ1_indexOfChar_4cfef_19 (by decide) (fun c => ?_) (fun c => ?_)
    · have hc : ¬ b = nI n := fun z => c ((sc_eq b3 hn).mpr (by rw [b4]; exact z))
      rw [gIx, if_neg hc]
      refine g_iinc2 (w := (1 : Int32)) dJ1_indexOfChar_4cfef_25 (by decide) rfl (by decide) (g_lvp (lv2 := [some (.ref (33 + i)), some (.int (nI n)), some (.int 0), some (.int (nI (gLen.getD i 0))), some (.int (nI n).toInt8.toInt32), some (.int (nI (k + 1)))]) (pc2 := 28) (by rw [← nI_1]; rfl) rfl ?_)
      refine g_goto (tgt := 7) dJ1_indexOfChar_4cfef_28 (by decide) ?_
      exact ih (k + 1) (by omega) h3
    · have hc : b = nI n := by
        have := (sc_eq b3 hn).mp c
        rw [b4] at this
        exact this
      rw [gIx, if_pos hc]
      refine g_iload dJ1_indexOfChar_4cfef_22 rfl ?_
      exact g_iret dJ1_indexOfChar_4cfef_24 rfl ⟨rfl, rfl⟩ (Nat.le_of_ble_eq_true rfl) (Nat.le_of_ble_eq_true rfl)
theorem c_ixChar {d i n : Nat} {h : gH} (hi : i < 16) (hn : n < 256) : T M_J1_indexOfChar_4cfef d 0 0 [.ref (33 + i), .int (nI n), .int 0, .int (nI (gLen.getD i 0))] h (qI (gIx (gByt.getD i []) (nI n) 0) h) := by
  refine T_of_G (L := 2) (by decide +kernel) rfl (Nat.le_of_ble_eq_true rfl) (g_lv (lv2 := [some (.ref (33 + i)), some (.int (nI n)), some (.int 0), some (.int (nI (gLen.getD i 0))), none, none]) rfl ?_)
  refine g_iload_n dJ1_indexOfChar_4cfef_0 rfl ?_
  refine g_i2b dJ1_indexOfChar_4cfef_1 rfl ?_
  refine g_istore dJ1_indexOfChar_4cfef_2 (by decide) (g_lvp (lv2 := [some (.ref (33 + i)), some (.int (nI n)), some (.int 0), some (.int (nI (gLen.getD i 0))), some (.int (nI n).toInt8.toInt32), none]) (pc2 := 4) rfl rfl ?_)
  refine g_iload_n dJ1_indexOfChar_4cfef_4 rfl ?_
  refine g_istore dJ1_indexOfChar_4cfef_5 (by decide) (g_lvp (lv2 := [some (.ref (33 + i)), some (.int (nI n)), some (.int 0), some (.int (nI (gLen.getD i 0))), some (.int (nI n).toInt8.toInt32), some (.int (nI 0))]) (pc2 := 7) rfl rfl ?_)
  exact c_ixLoop hi hn _ 0 (Nat.zero_le _) rfl
theorem c_ix1 {d i : Nat} {h : gH} {c : Int32} (hi : i < 16) : T M_J1_indexOf_4cfef (d + 1) 0 0 [.ref (33 + i), .int c, .int 0, .int (nI (gLen.getD i 0))] h (qI (gIx (gByt.getD i []) c 0) h) := by
  obtain ⟨hl, hL, hp⟩ := gLen_ok i hi
  refine T_of_G (L := 0) (by decide +kernel) rfl (Nat.le_of_ble_eq_true rfl) (g_lv (lv2 := [some (.ref (33 + i)), some (.int c), some (.int 0), some (.int (nI (gLen.getD i 0)))]) rfl ?_)
  refine g_iload_n dJ1_indexOf_4cfef_0 rfl ?_
  refine g_callS (as := [.int c]) (st := []) (mc1 := 0) (ms1 := 0) s_J1_88 dJ1_indexOf_4cfef_1 rfl (Nat.le_of_ble_eq_true rfl) (Nat.le_of_ble_eq_true rfl) (Nat.le_of_ble_eq_true rfl) (c_canEncode (d := d)) (fun r9 h9 q9 => ?_)
  obtain ⟨rfl, rfl⟩ := q9
  refine g_stp (st2 := [.int (if c < 0 ∨ 255 < c then 0 else 1)]) (pc2 := 4) (kc2 := 0) (kn2 := 0) rfl rfl rfl rfl ?_
  by_cases hc : c < 0 ∨ 255 < c
  · rw [if_pos hc]
    refine g_if_ne (tgt := 9) dJ1_indexOf_4cfef_4 (by decide) (fun q => absurd rfl q) (fun q => ?_)
    refine g_iconst (v := (-1 : Int32)) dJ1_indexOf_4cfef_7 (by decide) ?_
    rw [gIx_out _ 0 (fun b hb e => by subst e; exact hc.elim (gByt_in i hi b hb).1 (gByt_in i hi b hb).2)]
    exact g_iret dJ1_indexOf_4cfef_8 rfl ⟨rfl, rfl⟩ (Nat.le_of_ble_eq_true rfl) (Nat.le_of_ble_eq_true rfl)
  · rw [if_neg hc]
    obtain ⟨n, hn, rfl⟩ := nI_of (fun q => hc (Or.inl q))
    have h256 : n < 256 := by
      rcases Nat.lt_or_ge n 256 with q | q
      · exact q
      · exact absurd (Or.inr (nI_lt (a := 255) (b := n) (by omega) hn)) hc
    refine g_if_ne (tgt := 9) dJ1_indexOf_4cfef_4 (by decide) (fun q => ?_) (fun q => absurd q (by decide))
    refine g_iload_n dJ1_indexOf_4cfef_9 rfl ?_
    refine g_iconst (v := (0 : Int32)) dJ1_indexOf_4cfef_10 (by decide) ?_
    refine g_max m_J1_92 m_max.1 m_max.2.1 m_max.2.2 dJ1_indexOf_4cfef_11 (Nat.le_of_ble_eq_true rfl) (Nat.le_of_ble_eq_true rfl) (Nat.le_of_ble_eq_true rfl) ?_
    refine g_istore_n dJ1_indexOf_4cfef_14 (by decide) (g_lvp (lv2 := [some (.ref (33 + i)), some (.int (nI n)), some (.int 0), some (.int (nI (gLen.getD i 0)))]) (pc2 := 15) rfl rfl ?_)
    refine g_iload_n dJ1_indexOf_4cfef_15 rfl ?_
    refine g_aload_n dJ1_indexOf_4cfef_16 rfl ?_
    refine g_slen hi dJ1_indexOf_4cfef_17 ?_
    refine g_min m_J1_38 m_min.1 m_min.2.1 m_min.2.2 dJ1_indexOf_4cfef_18 (Nat.le_of_ble_eq_true rfl) (Nat.le_of_ble_eq_true rfl) (Nat.le_of_ble_eq_true rfl) ?_
    rw [ite_self]
    refine g_istore_n dJ1_indexOf_4cfef_21 (by decide) (g_lvp (lv2 := [some (.ref (33 + i)), some (.int (nI n)), some (.int 0), some (.int (nI (gLen.getD i 0)))]) (pc2 := 22) rfl rfl ?_)
    refine g_iload_n dJ1_indexOf_4cfef_22 rfl ?_
    refine g_iload_n dJ1_indexOf_4cfef_23 rfl ?_
    refine g_icmp_lt (tgt := 29) dJ1_indexOf_4cfef_24 (by decide) (fun q => ?_) (fun q => absurd (show (0 : Int32) < nI (gLen.getD i 0) from nI_lt (a := 0) hp (by omega)) q)
    refine g_aload_n dJ1_indexOf_4cfef_29 rfl ?_
    refine g_iload_n dJ1_indexOf_4cfef_30 rfl ?_
    refine g_iload_n dJ1_indexOf_4cfef_31 rfl ?_
    refine g_iload_n dJ1_indexOf_4cfef_32 rfl ?_
    refine g_callS (as := [.ref (33 + i), .int (nI n), .int 0, .int (nI (gLen.getD i 0))]) (st := []) (mc1 := 0) (ms1 := 0) s_J1_95 dJ1_indexOf_4cfef_33 rfl (Nat.le_of_ble_eq_true rfl) (Nat.le_of_ble_eq_true rfl) (Nat.le_of_ble_eq_true rfl) (c_ixChar (d := d) hi h256) (fun r9 h9 q9 => ?_)
    obtain ⟨rfl, rfl⟩ := q9
    refine g_stp (st2 := [.int (gIx (gByt.getD i []) (nI n) 0)]) (pc2 := 36) (kc2 := 0) (kn2 := 0) rfl rfl rfl rfl ?_
    exact g_iret dJ1_indexOf_4cfef_36 rfl ⟨rfl, rfl⟩ (Nat.le_of_ble_eq_true rfl) (Nat.le_of_ble_eq_true rfl)
theorem c_ix2 {d i : Nat} {h : gH} {c : Int32} (hi : i < 16) : T M_J0_indexOf_7cf53 (d + 2) 0 0 [.ref (1 + i), .int c, .int 0] h (qI (gIx (gByt.getD i []) c 0) h) := by
  refine T_of_G (L := 0) (by decide +kernel) rfl (Nat.le_of_ble_eq_true rfl) (g_lv (lv2 := [some (.ref (1 + i)), some (.int c), some (.int 0)]) rfl ?_)
  refine g_aload_n dJ0_indexOf_7cf53_0 rfl ?_
  refine g_callStr (as := []) (st := []) (mc1 := 0) (ms1 := 0) s_J0_492 dJ0_indexOf_7cf53_1 ⟨by omega, by omega⟩ rfl (Nat.le_of_ble_eq_true rfl) (Nat.le_of_ble_eq_true rfl) (Nat.le_of_ble_eq_true rfl) (c_latin (d := d + 1) hi) (fun r9 h9 q9 => ?_)
  obtain ⟨rfl, rfl⟩ := q9
  refine g_stp (st2 := [.int 1]) (pc2 := 4) (kc2 := 0) (kn2 := 0) rfl rfl rfl rfl ?_
  refine g_if_eq (tgt := 23) dJ0_indexOf_7cf53_4 (by decide) (fun c => absurd c (by decide)) (fun c => ?_)
  refine g_aload_n dJ0_indexOf_7cf53_7 rfl ?_
  refine g_sval hi w_J0_9 dJ0_indexOf_7cf53_8 ?_
  refine g_iload_n dJ0_indexOf_7cf53_11 rfl ?_
  refine g_iload_n dJ0_indexOf_7cf53_12 rfl ?_
  refine g_aload_n dJ0_indexOf_7cf53_13 rfl ?_
  refine g_callStr (as := []) (mc1 := 0) (ms1 := 0) s_J0_505 dJ0_indexOf_7cf53_14 ⟨by omega, by omega⟩ rfl (Nat.le_of_ble_eq_true rfl) (Nat.le_of_ble_eq_true rfl) (Nat.le_of_ble_eq_true rfl) (c_length (d := d) hi) (fun r9 h9 q9 => ?_)
  obtain ⟨rfl, rfl⟩ := q9
  refine g_stp (st2 := [.int (nI (gLen.getD i 0)), .int 0, .int _, .ref (33 + i)]) (pc2 := 17) (kc2 := 0) (kn2 := 0) rfl rfl rfl rfl ?_
  refine g_callS (as := [.ref (33 + i), .int _, .int 0, .int (nI (gLen.getD i 0))]) (st := []) (mc1 := 0) (ms1 := 0) s_J0_637 dJ0_indexOf_7cf53_17 rfl (Nat.le_of_ble_eq_true rfl) (Nat.le_of_ble_eq_true rfl) (Nat.le_of_ble_eq_true rfl) (c_ix1 (d := d) hi) (fun r9 h9 q9 => ?_)
  obtain ⟨rfl, rfl⟩ := q9
  refine g_stp (st2 := [.int (gIx (gByt.getD i []) _ 0)]) (pc2 := 20) (kc2 := 0) (kn2 := 0) rfl rfl rfl rfl ?_
  refine g_goto (tgt := 36) dJ0_indexOf_7cf53_20 (by decide) ?_
  exact g_iret dJ0_indexOf_7cf53_36 rfl ⟨rfl, rfl⟩ (Nat.le_of_ble_eq_true rfl) (Nat.le_of_ble_eq_true rfl)
theorem c_ix {d i : Nat} {h : gH} {c : Int32} (hi : i < 16) : T M_J0_indexOf_0f7a4 (d + 3) 0 0 [.ref (1 + i), .int c] h (qI (gIx (gByt.getD i []) c 0) h) := by
  refine T_of_G (L := 0) (by decide +kernel) rfl (Nat.le_of_ble_eq_true rfl) (g_lv (lv2 := [some (.ref (1 + i)), some (.int c)]) rfl ?_)
  refine g_aload_n dJ0_indexOf_0f7a4_0 rfl ?_
  refine g_iload_n dJ0_indexOf_0f7a4_1 rfl ?_
  refine g_iconst (v := (0 : Int32)) dJ0_indexOf_0f7a4_2 (by decide) ?_
  refine g_callStr (as := [.int c, .int 0]) (st := []) (mc1 := 0) (ms1 := 0) s_J0_633 dJ0_indexOf_0f7a4_3 ⟨by omega, by omega⟩ rfl (Nat.le_of_ble_eq_true rfl) (Nat.le_of_ble_eq_true rfl) (Nat.le_of_ble_eq_true rfl) (c_ix2 (d := d) hi) (fun r9 h9 q9 => ?_)
  obtain ⟨rfl, rfl⟩ := q9
  refine g_stp (st2 := [.int (gIx (gByt.getD i []) c 0)]) (pc2 := 6) (kc2 := 0) (kn2 := 0) rfl rfl rfl rfl ?_
  exact g_iret dJ0_indexOf_0f7a4_6 rfl ⟨rfl, rfl⟩ (Nat.le_of_ble_eq_true rfl) (Nat.le_of_ble_eq_true rfl)
theorem t_J0_indexOf_0f7a4 {n d a : Nat} {c : Int32} {h rh : gH} {rv : Int32} (hf : F_J0_indexOf_0f7a4 n a c h = some (rv, rh)) : T M_J0_indexOf_0f7a4 (d + 6) 0 0 [.ref a, .int c] h (qI rv rh) := by
  have hb := b_J0_indexOf_0f7a4 hf
  unfold F_J0_indexOf_0f7a4 at hf
  rw [if_pos hb] at hf
  obtain ⟨rfl, rfl⟩ := Prod.mk.inj (Option.some.inj hf)
  obtain ⟨i, rfl⟩ : ∃ i, a = 1 + i := ⟨a - 1, by omega⟩
  rw [Nat.add_sub_cancel_left]
  exact c_ix (d := d + 3) (by omega)

