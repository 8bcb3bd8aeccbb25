theorem dJ0_length_8abf5_0 : decode cJ0_length_8abf5 0 = .ok (.aload_n 0, 1) := by decide +kernel
theorem dJ0_length_8abf5_1 : decode cJ0_length_8abf5 1 = .ok (.getfield 9, 3) := by decide +kernel
theorem dJ0_length_8abf5_4 : decode cJ0_length_8abf5 4 = .ok (.arraylength, 1) := by decide +kernel
theorem dJ0_length_8abf5_5 : decode cJ0_length_8abf5 5 = .ok (.aload_n 0, 1) := by decide +kernel
theorem dJ0_length_8abf5_6 : decode cJ0_length_8abf5 6 = .ok (.invokevirtual 335, 3) := by decide +kernel
theorem dJ0_length_8abf5_9 : decode cJ0_length_8abf5 9 = .ok (.ishr, 1) := by decide +kernel
theorem dJ0_length_8abf5_10 : decode cJ0_length_8abf5 10 = .ok (.ireturn, 1) := by decide +kernel
theorem dJ0_coder_7d493_0 : decode cJ0_coder_7d493 0 = .ok (.getstatic 38, 3) := by decide +kernel
theorem dJ0_coder_7d493_3 : decode cJ0_coder_7d493 3 = .ok (.ifCond .eq 10, 3) := by decide +kernel
theorem dJ0_coder_7d493_6 : decode cJ0_coder_7d493 6 = .ok (.aload_n 0, 1) := by decide +kernel
theorem dJ0_coder_7d493_7 : decode cJ0_coder_7d493 7 = .ok (.getfield 15, 3) := by decide +kernel
theorem dJ0_coder_7d493_10 : decode cJ0_coder_7d493 10 = .ok (.goto 4, 3) := by decide +kernel
theorem dJ0_coder_7d493_13 : decode cJ0_coder_7d493 13 = .ok (.iconst 1, 1) := by decide +kernel
theorem dJ0_coder_7d493_14 : decode cJ0_coder_7d493 14 = .ok (.ireturn, 1) := by decide +kernel
theorem dJ0_isLatin1_aae02_0 : decode cJ0_isLatin1_aae02 0 = .ok (.getstatic 38, 3) := by decide +kernel
theorem dJ0_isLatin1_aae02_3 : decode cJ0_isLatin1_aae02 3 = .ok (.ifCond .eq 14, 3) := by decide +kernel
theorem dJ0_isLatin1_aae02_6 : decode cJ0_isLatin1_aae02 6 = .ok (.aload_n 0, 1) := by decide +kernel
theorem dJ0_isLatin1_aae02_7 : decode cJ0_isLatin1_aae02 7 = .ok (.getfield 15, 3) := by decide +kernel
theorem dJ0_isLatin1_aae02_10 : decode cJ0_isLatin1_aae02 10 = .ok (.ifCond .ne 7, 3) := by decide +kernel
theorem dJ0_isLatin1_aae02_13 : decode cJ0_isLatin1_aae02 13 = .ok (.iconst 1, 1) := by decide +kernel
theorem dJ0_isLatin1_aae02_14 : decode cJ0_isLatin1_aae02 14 = .ok (.goto 4, 3) := by decide +kernel
theorem dJ0_isLatin1_aae02_17 : decode cJ0_isLatin1_aae02 17 = .ok (.iconst 0, 1) := by decide +kernel
theorem dJ0_isLatin1_aae02_18 : decode cJ0_isLatin1_aae02 18 = .ok (.ireturn, 1) := by decide +kernel
theorem dJ0_charAt_5068e_0 : decode cJ0_charAt_5068e 0 = .ok (.aload_n 0, 1) := by decide +kernel
theorem dJ0_charAt_5068e_1 : decode cJ0_charAt_5068e 1 = .ok (.invokevirtual 492, 3) := by decide +kernel
theorem dJ0_charAt_5068e_4 : decode cJ0_charAt_5068e 4 = .ok (.ifCond .eq 12, 3) := by decide +kernel
theorem dJ0_charAt_5068e_7 : decode cJ0_charAt_5068e 7 = .ok (.aload_n 0, 1) := by decide +kernel
theorem dJ0_charAt_5068e_8 : decode cJ0_charAt_5068e 8 = .ok (.getfield 9, 3) := by decide +kernel
theorem dJ0_charAt_5068e_11 : decode cJ0_charAt_5068e 11 = .ok (.iload_n 1, 1) := by decide +kernel
theorem dJ0_charAt_5068e_12 : decode cJ0_charAt_5068e 12 = .ok (.invokestatic 495, 3) := by decide +kernel
theorem dJ0_charAt_5068e_15 : decode cJ0_charAt_5068e 15 = .ok (.ireturn, 1) := by decide +kernel
theorem dJ0_charAt_5068e_16 : decode cJ0_charAt_5068e 16 = .ok (.aload_n 0, 1) := by decide +kernel
theorem dJ0_charAt_5068e_17 : decode cJ0_charAt_5068e 17 = .ok (.getfield 9, 3) := by decide +kernel
theorem dJ0_charAt_5068e_20 : decode cJ0_charAt_5068e 20 = .ok (.iload_n 1, 1) := by decide +kernel
theorem dJ0_charAt_5068e_21 : decode cJ0_charAt_5068e 21 = .ok (.invokestatic 498, 3) := by decide +kernel
theorem dJ0_charAt_5068e_24 : decode cJ0_charAt_5068e 24 = .ok (.ireturn, 1) := by decide +kernel
theorem dJ1_charAt_3b067_0 : decode cJ1_charAt_3b067 0 = .ok (.iload_n 1, 1) := by decide +kernel
theorem dJ1_charAt_3b067_1 : decode cJ1_charAt_3b067 1 = .ok (.aload_n 0, 1) := by decide +kernel
theorem dJ1_charAt_3b067_2 : decode cJ1_charAt_3b067 2 = .ok (.arraylength, 1) := by decide +kernel
theorem dJ1_charAt_3b067_3 : decode cJ1_charAt_3b067 3 = .ok (.invokestatic 9, 3) := by decide +kernel
theorem dJ1_charAt_3b067_6 : decode cJ1_charAt_3b067 6 = .ok (.aload_n 0, 1) := by decide +kernel
theorem dJ1_charAt_3b067_7 : decode cJ1_charAt_3b067 7 = .ok (.iload_n 1, 1) := by decide +kernel
theorem dJ1_charAt_3b067_8 : decode cJ1_charAt_3b067 8 = .ok (.baload, 1) := by decide +kernel
theorem dJ1_charAt_3b067_9 : decode cJ1_charAt_3b067 9 = .ok (.sipush 255, 3) := by decide +kernel
theorem dJ1_charAt_3b067_12 : decode cJ1_charAt_3b067 12 = .ok (.iand, 1) := by decide +kernel
theorem dJ1_charAt_3b067_13 : decode cJ1_charAt_3b067 13 = .ok (.i2c, 1) := by decide +kernel
theorem dJ1_charAt_3b067_14 : decode cJ1_charAt_3b067 14 = .ok (.ireturn, 1) := by decide +kernel
theorem dJ0_checkIndex_df160_0 : decode cJ0_checkIndex_df160 0 = .ok (.iload_n 0, 1) := by decide +kernel
theorem dJ0_checkIndex_df160_1 : decode cJ0_checkIndex_df160 1 = .ok (.iload_n 1, 1) := by decide +kernel
theorem dJ0_checkIndex_df160_2 : decode cJ0_checkIndex_df160 2 = .ok (.getstatic 1053, 3) := by decide +kernel
theorem dJ0_checkIndex_df160_5 : decode cJ0_checkIndex_df160 5 = .ok (.invokestatic 1059, 3) := by decide +kernel
theorem dJ0_checkIndex_df160_8 : decode cJ0_checkIndex_df160 8 = .ok (.pop, 1) := by decide +kernel
theorem dJ0_checkIndex_df160_9 : decode cJ0_checkIndex_df160 9 = .ok (.return_, 1) := by decide +kernel
theorem dJ3_checkIndex_8e157_0 : decode cJ3_checkIndex_8e157 0 = .ok (.iload_n 0, 1) := by decide +kernel
theorem dJ3_checkIndex_8e157_1 : decode cJ3_checkIndex_8e157 1 = .ok (.ifCond .lt 8, 3) := by decide +kernel
theorem dJ3_checkIndex_8e157_4 : decode cJ3_checkIndex_8e157 4 = .ok (.iload_n 0, 1) := by decide +kernel
theorem dJ3_checkIndex_8e157_5 : decode cJ3_checkIndex_8e157 5 = .ok (.iload_n 1, 1) := by decide +kernel
theorem dJ3_checkIndex_8e157_6 : decode cJ3_checkIndex_8e157 6 = .ok (.if_icmp .lt 10, 3) := by decide +kernel
theorem dJ3_checkIndex_8e157_9 : decode cJ3_checkIndex_8e157 9 = .ok (.aload_n 2, 1) := by decide +kernel
theorem dJ3_checkIndex_8e157_10 : decode cJ3_checkIndex_8e157 10 = .ok (.iload_n 0, 1) := by decide +kernel
theorem dJ3_checkIndex_8e157_11 : decode cJ3_checkIndex_8e157 11 = .ok (.iload_n 1, 1) := by decide +kernel
theorem dJ3_checkIndex_8e157_12 : decode cJ3_checkIndex_8e157 12 = .ok (.invokestatic 95, 3) := by decide +kernel
theorem dJ3_checkIndex_8e157_15 : decode cJ3_checkIndex_8e157 15 = .ok (.athrow, 1) := by decide +kernel
theorem dJ3_checkIndex_8e157_16 : decode cJ3_checkIndex_8e157 16 = .ok (.iload_n 0, 1) := by decide +kernel
theorem dJ3_checkIndex_8e157_17 : decode cJ3_checkIndex_8e157 17 = .ok (.ireturn, 1) := by decide +kernel
theorem dJ9_max_7cf53_0 : decode cJ9_max_7cf53 0 = .ok (.iload_n 0, 1) := by decide +kernel
theorem dJ9_max_7cf53_1 : decode cJ9_max_7cf53 1 = .ok (.iload_n 1, 1) := by decide +kernel
theorem dJ9_max_7cf53_2 : decode cJ9_max_7cf53 2 = .ok (.if_icmp .lt 7, 3) := by decide +kernel
theorem dJ9_max_7cf53_5 : decode cJ9_max_7cf53 5 = .ok (.iload_n 0, 1) := by decide +kernel
theorem dJ9_max_7cf53_6 : decode cJ9_max_7cf53 6 = .ok (.goto 4, 3) := by decide +kernel
theorem dJ9_max_7cf53_9 : decode cJ9_max_7cf53 9 = .ok (.iload_n 1, 1) := by decide +kernel
theorem dJ9_max_7cf53_10 : decode cJ9_max_7cf53 10 = .ok (.ireturn, 1) := by decide +kernel
theorem dX2_endlessSize_0 : decode cX2_endlessSize 0 = .ok (.iload_n 0, 1) := by decide +kernel
theorem dX2_endlessSize_1 : decode cX2_endlessSize 1 = .ok (.ifCond .ne 9, 3) := by decide +kernel
theorem dX2_endlessSize_4 : decode cX2_endlessSize 4 = .ok (.ldc2_w 15, 3) := by decide +kernel
theorem dX2_endlessSize_7 : decode cX2_endlessSize 7 = .ok (.goto 6, 3) := by decide +kernel
theorem dX2_endlessSize_10 : decode cX2_endlessSize 10 = .ok (.ldc2_w 17, 3) := by decide +kernel
theorem dX2_endlessSize_13 : decode cX2_endlessSize 13 = .ok (.lreturn, 1) := by decide +kernel
theorem dX2_goesOn_0 : decode cX2_goesOn 0 = .ok (.iload_n 0, 1) := by decide +kernel
theorem dX2_goesOn_1 : decode cX2_goesOn 1 = .ok (.tableswitch 88 0 3 #[31, 88, 50, 69], 31) := by decide +kernel
theorem dX2_goesOn_32 : decode cX2_goesOn 32 = .ok (.iload_n 3, 1) := by decide +kernel
theorem dX2_goesOn_33 : decode cX2_goesOn 33 = .ok (.ifCond .eq 16, 3) := by decide +kernel
theorem dX2_goesOn_36 : decode cX2_goesOn 36 = .ok (.iload 4, 2) := by decide +kernel
theorem dX2_goesOn_38 : decode cX2_goesOn 38 = .ok (.ifCond .ne 7, 3) := by decide +kernel
theorem dX2_goesOn_41 : decode cX2_goesOn 41 = .ok (.iload_n 2, 1) := by decide +kernel
theorem dX2_goesOn_42 : decode cX2_goesOn 42 = .ok (.ifCond .eq 7, 3) := by decide +kernel
theorem dX2_goesOn_45 : decode cX2_goesOn 45 = .ok (.iconst 1, 1) := by decide +kernel
theorem dX2_goesOn_46 : decode cX2_goesOn 46 = .ok (.goto 4, 3) := by decide +kernel
theorem dX2_goesOn_49 : decode cX2_goesOn 49 = .ok (.iconst 0, 1) := by decide +kernel
theorem dX2_goesOn_50 : decode cX2_goesOn 50 = .ok (.ireturn, 1) := by decide +kernel
theorem dX2_goesOn_51 : decode cX2_goesOn 51 = .ok (.iload_n 1, 1) := by decide +kernel
theorem dX2_goesOn_52 : decode cX2_goesOn 52 = .ok (.ifCond .ne 16, 3) := by decide +kernel
theorem dX2_goesOn_55 : decode cX2_goesOn 55 = .ok (.iload_n 3, 1) := by decide +kernel
theorem dX2_goesOn_56 : decode cX2_goesOn 56 = .ok (.ifCond .ne 8, 3) := by decide +kernel
theorem dX2_goesOn_59 : decode cX2_goesOn 59 = .ok (.iload 4, 2) := by decide +kernel
theorem dX2_goesOn_61 : decode cX2_goesOn 61 = .ok (.ifCond .eq 7, 3) := by decide +kernel
theorem dX2_goesOn_64 : decode cX2_goesOn 64 = .ok (.iconst 1, 1) := by decide +kernel
theorem dX2_goesOn_65 : decode cX2_goesOn 65 = .ok (.goto 4, 3) := by decide +kernel
theorem dX2_goesOn_68 : decode cX2_goesOn 68 = .ok (.iconst 0, 1) := by decide +kernel
theorem dX2_goesOn_69 : decode cX2_goesOn 69 = .ok (.ireturn, 1) := by decide +kernel
theorem dX2_goesOn_70 : decode cX2_goesOn 70 = .ok (.iload_n 1, 1) := by decide +kernel
theorem dX2_goesOn_71 : decode cX2_goesOn 71 = .ok (.ifCond .eq 16, 3) := by decide +kernel
theorem dX2_goesOn_74 : decode cX2_goesOn 74 = .ok (.iload_n 3, 1) := by decide +kernel
theorem dX2_goesOn_75 : decode cX2_goesOn 75 = .ok (.ifCond .ne 8, 3) := by decide +kernel
theorem dX2_goesOn_78 : decode cX2_goesOn 78 = .ok (.iload 4, 2) := by decide +kernel
theorem dX2_goesOn_80 : decode cX2_goesOn 80 = .ok (.ifCond .eq 7, 3) := by decide +kernel
theorem dX2_goesOn_83 : decode cX2_goesOn 83 = .ok (.iconst 1, 1) := by decide +kernel
theorem dX2_goesOn_84 : decode cX2_goesOn 84 = .ok (.goto 4, 3) := by decide +kernel
theorem dX2_goesOn_87 : decode cX2_goesOn 87 = .ok (.iconst 0, 1) := by decide +kernel
theorem dX2_goesOn_88 : decode cX2_goesOn 88 = .ok (.ireturn, 1) := by decide +kernel
theorem dX2_goesOn_89 : decode cX2_goesOn 89 = .ok (.iconst 0, 1) := by decide +kernel
theorem dX2_goesOn_90 : decode cX2_goesOn 90 = .ok (.ireturn, 1) := by decide +kernel
theorem dX2_highest_0 : decode cX2_highest 0 = .ok (.iload_n 0, 1) := by decide +kernel
theorem dX2_highest_1 : decode cX2_highest 1 = .ok (.ifCond .ne 8, 3) := by decide +kernel
theorem dX2_highest_4 : decode cX2_highest 4 = .ok (.bipush 104, 2) := by decide +kernel
theorem dX2_highest_6 : decode cX2_highest 6 = .ok (.goto 6, 3) := by decide +kernel
theorem dX2_highest_9 : decode cX2_highest 9 = .ok (.sipush 971, 3) := by decide +kernel
theorem dX2_highest_12 : decode cX2_highest 12 = .ok (.ireturn, 1) := by decide +kernel
theorem dX2_lowest_0 : decode cX2_lowest 0 = .ok (.iload_n 0, 1) := by decide +kernel
theorem dX2_lowest_1 : decode cX2_lowest 1 = .ok (.ifCond .ne 9, 3) := by decide +kernel
theorem dX2_lowest_4 : decode cX2_lowest 4 = .ok (.sipush (-149), 3) := by decide +kernel
theorem dX2_lowest_7 : decode cX2_lowest 7 = .ok (.goto 6, 3) := by decide +kernel
theorem dX2_lowest_10 : decode cX2_lowest 10 = .ok (.sipush (-1074), 3) := by decide +kernel
theorem dX2_lowest_13 : decode cX2_lowest 13 = .ok (.ireturn, 1) := by decide +kernel
theorem dX2_signBit_0 : decode cX2_signBit 0 = .ok (.iload_n 0, 1) := by decide +kernel
theorem dX2_signBit_1 : decode cX2_signBit 1 = .ok (.ifCond .ne 9, 3) := by decide +kernel
theorem dX2_signBit_4 : decode cX2_signBit 4 = .ok (.ldc2_w 9, 3) := by decide +kernel
theorem dX2_signBit_7 : decode cX2_signBit 7 = .ok (.goto 6, 3) := by decide +kernel
theorem dX2_signBit_10 : decode cX2_signBit 10 = .ok (.ldc2_w 13, 3) := by decide +kernel
theorem dX2_signBit_13 : decode cX2_signBit 13 = .ok (.lreturn, 1) := by decide +kernel
theorem dX2_signed_0 : decode cX2_signed 0 = .ok (.iload_n 1, 1) := by decide +kernel
theorem dX2_signed_1 : decode cX2_signed 1 = .ok (.ifCond .eq 12, 3) := by decide +kernel
theorem dX2_signed_4 : decode cX2_signed 4 = .ok (.lload_n 2, 1) := by decide +kernel
theorem dX2_signed_5 : decode cX2_signed 5 = .ok (.iload_n 0, 1) := by decide +kernel
theorem dX2_signed_6 : decode cX2_signed 6 = .ok (.invokestatic 19, 3) := by decide +kernel
theorem dX2_signed_9 : decode cX2_signed 9 = .ok (.lor, 1) := by decide +kernel
theorem dX2_signed_10 : decode cX2_signed 10 = .ok (.goto 4, 3) := by decide +kernel
theorem dX2_signed_13 : decode cX2_signed 13 = .ok (.lload_n 2, 1) := by decide +kernel
theorem dX2_signed_14 : decode cX2_signed 14 = .ok (.lreturn, 1) := by decide +kernel
theorem dX2_nought_0 : decode cX2_nought 0 = .ok (.iload_n 0, 1) := by decide +kernel
theorem dX2_nought_1 : decode cX2_nought 1 = .ok (.iload_n 1, 1) := by decide +kernel
theorem dX2_nought_2 : decode cX2_nought 2 = .ok (.lconst 0, 1) := by decide +kernel
theorem dX2_nought_3 : decode cX2_nought 3 = .ok (.invokestatic 25, 3) := by decide +kernel
theorem dX2_nought_6 : decode cX2_nought 6 = .ok (.lreturn, 1) := by decide +kernel
theorem dX2_precision_0 : decode cX2_precision 0 = .ok (.iload_n 0, 1) := by decide +kernel
theorem dX2_precision_1 : decode cX2_precision 1 = .ok (.ifCond .ne 8, 3) := by decide +kernel
theorem dX2_precision_4 : decode cX2_precision 4 = .ok (.bipush 24, 2) := by decide +kernel
theorem dX2_precision_6 : decode cX2_precision 6 = .ok (.goto 5, 3) := by decide +kernel
theorem dX2_precision_9 : decode cX2_precision 9 = .ok (.bipush 53, 2) := by decide +kernel
theorem dX2_precision_11 : decode cX2_precision 11 = .ok (.ireturn, 1) := by decide +kernel
theorem dX2_tooGreat_0 : decode cX2_tooGreat 0 = .ok (.iload_n 2, 1) := by decide +kernel
theorem dX2_tooGreat_1 : decode cX2_tooGreat 1 = .ok (.ifCond .eq 16, 3) := by decide +kernel
theorem dX2_tooGreat_4 : decode cX2_tooGreat 4 = .ok (.iload_n 2, 1) := by decide +kernel
theorem dX2_tooGreat_5 : decode cX2_tooGreat 5 = .ok (.iload_n 1, 1) := by decide +kernel
theorem dX2_tooGreat_6 : decode cX2_tooGreat 6 = .ok (.ifCond .eq 7, 3) := by decide +kernel
theorem dX2_tooGreat_9 : decode cX2_tooGreat 9 = .ok (.iconst 3, 1) := by decide +kernel
theorem dX2_tooGreat_10 : decode cX2_tooGreat 10 = .ok (.goto 4, 3) := by decide +kernel
theorem dX2_tooGreat_13 : decode cX2_tooGreat 13 = .ok (.iconst 2, 1) := by decide +kernel
theorem dX2_tooGreat_14 : decode cX2_tooGreat 14 = .ok (.if_icmp .ne 7, 3) := by decide +kernel
theorem dX2_tooGreat_17 : decode cX2_tooGreat 17 = .ok (.iconst 1, 1) := by decide +kernel
theorem dX2_tooGreat_18 : decode cX2_tooGreat 18 = .ok (.goto 4, 3) := by decide +kernel
theorem dX2_tooGreat_21 : decode cX2_tooGreat 21 = .ok (.iconst 0, 1) := by decide +kernel
theorem dX2_tooGreat_22 : decode cX2_tooGreat 22 = .ok (.istore_n 3, 1) := by decide +kernel
theorem dX2_tooGreat_23 : decode cX2_tooGreat 23 = .ok (.iload_n 0, 1) := by decide +kernel
theorem dX2_tooGreat_24 : decode cX2_tooGreat 24 = .ok (.iload_n 1, 1) := by decide +kernel
theorem dX2_tooGreat_25 : decode cX2_tooGreat 25 = .ok (.iload_n 0, 1) := by decide +kernel
theorem dX2_tooGreat_26 : decode cX2_tooGreat 26 = .ok (.invokestatic 29, 3) := by decide +kernel
theorem dX2_tooGreat_29 : decode cX2_tooGreat 29 = .ok (.iload_n 3, 1) := by decide +kernel
theorem dX2_tooGreat_30 : decode cX2_tooGreat 30 = .ok (.ifCond .eq 7, 3) := by decide +kernel
theorem dX2_tooGreat_33 : decode cX2_tooGreat 33 = .ok (.iconst 0, 1) := by decide +kernel
theorem dX2_tooGreat_34 : decode cX2_tooGreat 34 = .ok (.goto 4, 3) := by decide +kernel
theorem dX2_tooGreat_37 : decode cX2_tooGreat 37 = .ok (.iconst 1, 1) := by decide +kernel
theorem dX2_tooGreat_38 : decode cX2_tooGreat 38 = .ok (.i2l, 1) := by decide +kernel
theorem dX2_tooGreat_39 : decode cX2_tooGreat 39 = .ok (.lsub, 1) := by decide +kernel
theorem dX2_tooGreat_40 : decode cX2_tooGreat 40 = .ok (.invokestatic 25, 3) := by decide +kernel
theorem dX2_tooGreat_43 : decode cX2_tooGreat 43 = .ok (.lreturn, 1) := by decide +kernel
theorem dX4_limb_0 : decode cX4_limb 0 = .ok (.iload_n 1, 1) := by decide +kernel
theorem dX4_limb_1 : decode cX4_limb 1 = .ok (.ifCond .lt 20, 3) := by decide +kernel
theorem dX4_limb_4 : decode cX4_limb 4 = .ok (.iload_n 1, 1) := by decide +kernel
theorem dX4_limb_5 : decode cX4_limb 5 = .ok (.aload_n 0, 1) := by decide +kernel
theorem dX4_limb_6 : decode cX4_limb 6 = .ok (.getfield 15, 3) := by decide +kernel
theorem dX4_limb_9 : decode cX4_limb 9 = .ok (.if_icmp .ge 12, 3) := by decide +kernel
theorem dX4_limb_12 : decode cX4_limb 12 = .ok (.aload_n 0, 1) := by decide +kernel
theorem dX4_limb_13 : decode cX4_limb 13 = .ok (.getfield 9, 3) := by decide +kernel
theorem dX4_limb_16 : decode cX4_limb 16 = .ok (.iload_n 1, 1) := by decide +kernel
theorem dX4_limb_17 : decode cX4_limb 17 = .ok (.laload, 1) := by decide +kernel
theorem dX4_limb_18 : decode cX4_limb 18 = .ok (.goto 4, 3) := by decide +kernel
theorem dX4_limb_21 : decode cX4_limb 21 = .ok (.lconst 0, 1) := by decide +kernel
theorem dX4_limb_22 : decode cX4_limb 22 = .ok (.lreturn, 1) := by decide +kernel
theorem dX4_anyBelow_0 : decode cX4_anyBelow 0 = .ok (.iload_n 1, 1) := by decide +kernel
theorem dX4_anyBelow_1 : decode cX4_anyBelow 1 = .ok (.iconst 5, 1) := by decide +kernel
theorem dX4_anyBelow_2 : decode cX4_anyBelow 2 = .ok (.ishr, 1) := by decide +kernel
theorem dX4_anyBelow_3 : decode cX4_anyBelow 3 = .ok (.istore_n 2, 1) := by decide +kernel
theorem dX4_anyBelow_4 : decode cX4_anyBelow 4 = .ok (.iconst 0, 1) := by decide +kernel
theorem dX4_anyBelow_5 : decode cX4_anyBelow 5 = .ok (.istore_n 3, 1) := by decide +kernel
theorem dX4_anyBelow_6 : decode cX4_anyBelow 6 = .ok (.iload_n 3, 1) := by decide +kernel
theorem dX4_anyBelow_7 : decode cX4_anyBelow 7 = .ok (.iload_n 2, 1) := by decide +kernel
theorem dX4_anyBelow_8 : decode cX4_anyBelow 8 = .ok (.if_icmp .ge 30, 3) := by decide +kernel
theorem dX4_anyBelow_11 : decode cX4_anyBelow 11 = .ok (.iload_n 3, 1) := by decide +kernel
theorem dX4_anyBelow_12 : decode cX4_anyBelow 12 = .ok (.aload_n 0, 1) := by decide +kernel
theorem dX4_anyBelow_13 : decode cX4_anyBelow 13 = .ok (.getfield 15, 3) := by decide +kernel
theorem dX4_anyBelow_16 : decode cX4_anyBelow 16 = .ok (.if_icmp .ge 22, 3) := by decide +kernel
theorem dX4_anyBelow_19 : decode cX4_anyBelow 19 = .ok (.aload_n 0, 1) := by decide +kernel
theorem dX4_anyBelow_20 : decode cX4_anyBelow 20 = .ok (.getfield 9, 3) := by decide +kernel
theorem dX4_anyBelow_23 : decode cX4_anyBelow 23 = .ok (.iload_n 3, 1) := by decide +kernel
theorem dX4_anyBelow_24 : decode cX4_anyBelow 24 = .ok (.laload, 1) := by decide +kernel
theorem dX4_anyBelow_25 : decode cX4_anyBelow 25 = .ok (.lconst 0, 1) := by decide +kernel
theorem dX4_anyBelow_26 : decode cX4_anyBelow 26 = .ok (.lcmp, 1) := by decide +kernel
theorem dX4_anyBelow_27 : decode cX4_anyBelow 27 = .ok (.ifCond .eq 5, 3) := by decide +kernel
theorem dX4_anyBelow_30 : decode cX4_anyBelow 30 = .ok (.iconst 1, 1) := by decide +kernel
theorem dX4_anyBelow_31 : decode cX4_anyBelow 31 = .ok (.ireturn, 1) := by decide +kernel
theorem dX4_anyBelow_32 : decode cX4_anyBelow 32 = .ok (.iinc 3 1, 3) := by decide +kernel
theorem dX4_anyBelow_35 : decode cX4_anyBelow 35 = .ok (.goto (-29), 3) := by decide +kernel
theorem dX4_anyBelow_38 : decode cX4_anyBelow 38 = .ok (.aload_n 0, 1) := by decide +kernel
theorem dX4_anyBelow_39 : decode cX4_anyBelow 39 = .ok (.iload_n 2, 1) := by decide +kernel
theorem dX4_anyBelow_40 : decode cX4_anyBelow 40 = .ok (.invokevirtual 30, 3) := by decide +kernel
theorem dX4_anyBelow_43 : decode cX4_anyBelow 43 = .ok (.lconst 1, 1) := by decide +kernel
theorem dX4_anyBelow_44 : decode cX4_anyBelow 44 = .ok (.iload_n 1, 1) := by decide +kernel
theorem dX4_anyBelow_45 : decode cX4_anyBelow 45 = .ok (.bipush 31, 2) := by decide +kernel
theorem dX4_anyBelow_47 : decode cX4_anyBelow 47 = .ok (.iand, 1) := by decide +kernel
theorem dX4_anyBelow_48 : decode cX4_anyBelow 48 = .ok (.lshl, 1) := by decide +kernel
theorem dX4_anyBelow_49 : decode cX4_anyBelow 49 = .ok (.lconst 1, 1) := by decide +kernel
theorem dX4_anyBelow_50 : decode cX4_anyBelow 50 = .ok (.lsub, 1) := by decide +kernel
theorem dX4_anyBelow_51 : decode cX4_anyBelow 51 = .ok (.land, 1) := by decide +kernel
theorem dX4_anyBelow_52 : decode cX4_anyBelow 52 = .ok (.lconst 0, 1) := by decide +kernel
theorem dX4_anyBelow_53 : decode cX4_anyBelow 53 = .ok (.lcmp, 1) := by decide +kernel
theorem dX4_anyBelow_54 : decode cX4_anyBelow 54 = .ok (.ifCond .eq 7, 3) := by decide +kernel
theorem dX4_anyBelow_57 : decode cX4_anyBelow 57 = .ok (.iconst 1, 1) := by decide +kernel
theorem dX4_anyBelow_58 : decode cX4_anyBelow 58 = .ok (.goto 4, 3) := by decide +kernel
theorem dX4_anyBelow_61 : decode cX4_anyBelow 61 = .ok (.iconst 0, 1) := by decide +kernel
theorem dX4_anyBelow_62 : decode cX4_anyBelow 62 = .ok (.ireturn, 1) := by decide +kernel
theorem dX4_bit_0 : decode cX4_bit 0 = .ok (.aload_n 0, 1) := by decide +kernel
theorem dX4_bit_1 : decode cX4_bit 1 = .ok (.iload_n 1, 1) := by decide +kernel
theorem dX4_bit_2 : decode cX4_bit 2 = .ok (.iconst 5, 1) := by decide +kernel
theorem dX4_bit_3 : decode cX4_bit 3 = .ok (.ishr, 1) := by decide +kernel
theorem dX4_bit_4 : decode cX4_bit 4 = .ok (.invokevirtual 30, 3) := by decide +kernel
theorem dX4_bit_7 : decode cX4_bit 7 = .ok (.iload_n 1, 1) := by decide +kernel
theorem dX4_bit_8 : decode cX4_bit 8 = .ok (.bipush 31, 2) := by decide +kernel
theorem dX4_bit_10 : decode cX4_bit 10 = .ok (.iand, 1) := by decide +kernel
theorem dX4_bit_11 : decode cX4_bit 11 = .ok (.lushr, 1) := by decide +kernel
theorem dX4_bit_12 : decode cX4_bit 12 = .ok (.lconst 1, 1) := by decide +kernel
theorem dX4_bit_13 : decode cX4_bit 13 = .ok (.land, 1) := by decide +kernel
theorem dX4_bit_14 : decode cX4_bit 14 = .ok (.lconst 0, 1) := by decide +kernel
theorem dX4_bit_15 : decode cX4_bit 15 = .ok (.lcmp, 1) := by decide +kernel
theorem dX4_bit_16 : decode cX4_bit 16 = .ok (.ifCond .eq 7, 3) := by decide +kernel
theorem dX4_bit_19 : decode cX4_bit 19 = .ok (.iconst 1, 1) := by decide +kernel
theorem dX4_bit_20 : decode cX4_bit 20 = .ok (.goto 4, 3) := by decide +kernel
theorem dX4_bit_23 : decode cX4_bit 23 = .ok (.iconst 0, 1) := by decide +kernel
theorem dX4_bit_24 : decode cX4_bit 24 = .ok (.ireturn, 1) := by decide +kernel
theorem dJ6_numberOfLeadingZeros_0f7a4_0 : decode cJ6_numberOfLeadingZeros_0f7a4 0 = .ok (.iload_n 0, 1) := by decide +kernel
theorem dJ6_numberOfLeadingZeros_0f7a4_1 : decode cJ6_numberOfLeadingZeros_0f7a4 1 = .ok (.ifCond .gt 14, 3) := by decide +kernel
theorem dJ6_numberOfLeadingZeros_0f7a4_4 : decode cJ6_numberOfLeadingZeros_0f7a4 4 = .ok (.iload_n 0, 1) := by decide +kernel
theorem dJ6_numberOfLeadingZeros_0f7a4_5 : decode cJ6_numberOfLeadingZeros_0f7a4 5 = .ok (.ifCond .ne 8, 3) := by decide +kernel
theorem dJ6_numberOfLeadingZeros_0f7a4_8 : decode cJ6_numberOfLeadingZeros_0f7a4 8 = .ok (.bipush 32, 2) := by decide +kernel
theorem dJ6_numberOfLeadingZeros_0f7a4_10 : decode cJ6_numberOfLeadingZeros_0f7a4 10 = .ok (.goto 4, 3) := by decide +kernel
theorem dJ6_numberOfLeadingZeros_0f7a4_13 : decode cJ6_numberOfLeadingZeros_0f7a4 13 = .ok (.iconst 0, 1) := by decide +kernel
theorem dJ6_numberOfLeadingZeros_0f7a4_14 : decode cJ6_numberOfLeadingZeros_0f7a4 14 = .ok (.ireturn, 1) := by decide +kernel
theorem dJ6_numberOfLeadingZeros_0f7a4_15 : decode cJ6_numberOfLeadingZeros_0f7a4 15 = .ok (.bipush 31, 2) := by decide +kernel
theorem dJ6_numberOfLeadingZeros_0f7a4_17 : decode cJ6_numberOfLeadingZeros_0f7a4 17 = .ok (.istore_n 1, 1) := by decide +kernel
theorem dJ6_numberOfLeadingZeros_0f7a4_18 : decode cJ6_numberOfLeadingZeros_0f7a4 18 = .ok (.iload_n 0, 1) := by decide +kernel
theorem dJ6_numberOfLeadingZeros_0f7a4_19 : decode cJ6_numberOfLeadingZeros_0f7a4 19 = .ok (.ldc_w 264, 3) := by decide +kernel
theorem dJ6_numberOfLeadingZeros_0f7a4_22 : decode cJ6_numberOfLeadingZeros_0f7a4 22 = .ok (.if_icmp .lt 11, 3) := by decide +kernel
theorem dJ6_numberOfLeadingZeros_0f7a4_25 : decode cJ6_numberOfLeadingZeros_0f7a4 25 = .ok (.iinc 1 (-16), 3) := by decide +kernel
theorem dJ6_numberOfLeadingZeros_0f7a4_28 : decode cJ6_numberOfLeadingZeros_0f7a4 28 = .ok (.iload_n 0, 1) := by decide +kernel
theorem dJ6_numberOfLeadingZeros_0f7a4_29 : decode cJ6_numberOfLeadingZeros_0f7a4 29 = .ok (.bipush 16, 2) := by decide +kernel
theorem dJ6_numberOfLeadingZeros_0f7a4_31 : decode cJ6_numberOfLeadingZeros_0f7a4 31 = .ok (.iushr, 1) := by decide +kernel
theorem dJ6_numberOfLeadingZeros_0f7a4_32 : decode cJ6_numberOfLeadingZeros_0f7a4 32 = .ok (.istore_n 0, 1) := by decide +kernel
theorem dJ6_numberOfLeadingZeros_0f7a4_33 : decode cJ6_numberOfLeadingZeros_0f7a4 33 = .ok (.iload_n 0, 1) := by decide +kernel
theorem dJ6_numberOfLeadingZeros_0f7a4_34 : decode cJ6_numberOfLeadingZeros_0f7a4 34 = .ok (.sipush 256, 3) := by decide +kernel
theorem dJ6_numberOfLeadingZeros_0f7a4_37 : decode cJ6_numberOfLeadingZeros_0f7a4 37 = .ok (.if_icmp .lt 11, 3) := by decide +kernel
theorem dJ6_numberOfLeadingZeros_0f7a4_40 : decode cJ6_numberOfLeadingZeros_0f7a4 40 = .ok (.iinc 1 (-8), 3) := by decide +kernel
theorem dJ6_numberOfLeadingZeros_0f7a4_43 : decode cJ6_numberOfLeadingZeros_0f7a4 43 = .ok (.iload_n 0, 1) := by decide +kernel
theorem dJ6_numberOfLeadingZeros_0f7a4_44 : decode cJ6_numberOfLeadingZeros_0f7a4 44 = .ok (.bipush 8, 2) := by decide +kernel
theorem dJ6_numberOfLeadingZeros_0f7a4_46 : decode cJ6_numberOfLeadingZeros_0f7a4 46 = .ok (.iushr, 1) := by decide +kernel
theorem dJ6_numberOfLeadingZeros_0f7a4_47 : decode cJ6_numberOfLeadingZeros_0f7a4 47 = .ok (.istore_n 0, 1) := by decide +kernel
theorem dJ6_numberOfLeadingZeros_0f7a4_48 : decode cJ6_numberOfLeadingZeros_0f7a4 48 = .ok (.iload_n 0, 1) := by decide +kernel
theorem dJ6_numberOfLeadingZeros_0f7a4_49 : decode cJ6_numberOfLeadingZeros_0f7a4 49 = .ok (.bipush 16, 2) := by decide +kernel
theorem dJ6_numberOfLeadingZeros_0f7a4_51 : decode cJ6_numberOfLeadingZeros_0f7a4 51 = .ok (.if_icmp .lt 10, 3) := by decide +kernel
theorem dJ6_numberOfLeadingZeros_0f7a4_54 : decode cJ6_numberOfLeadingZeros_0f7a4 54 = .ok (.iinc 1 (-4), 3) := by decide +kernel
theorem dJ6_numberOfLeadingZeros_0f7a4_57 : decode cJ6_numberOfLeadingZeros_0f7a4 57 = .ok (.iload_n 0, 1) := by decide +kernel
theorem dJ6_numberOfLeadingZeros_0f7a4_58 : decode cJ6_numberOfLeadingZeros_0f7a4 58 = .ok (.iconst 4, 1) := by decide +kernel
theorem dJ6_numberOfLeadingZeros_0f7a4_59 : decode cJ6_numberOfLeadingZeros_0f7a4 59 = .ok (.iushr, 1) := by decide +kernel
theorem dJ6_numberOfLeadingZeros_0f7a4_60 : decode cJ6_numberOfLeadingZeros_0f7a4 60 = .ok (.istore_n 0, 1) := by decide +kernel
theorem dJ6_numberOfLeadingZeros_0f7a4_61 : decode cJ6_numberOfLeadingZeros_0f7a4 61 = .ok (.iload_n 0, 1) := by decide +kernel
theorem dJ6_numberOfLeadingZeros_0f7a4_62 : decode cJ6_numberOfLeadingZeros_0f7a4 62 = .ok (.iconst 4, 1) := by decide +kernel
theorem dJ6_numberOfLeadingZeros_0f7a4_63 : decode cJ6_numberOfLeadingZeros_0f7a4 63 = .ok (.if_icmp .lt 10, 3) := by decide +kernel
theorem dJ6_numberOfLeadingZeros_0f7a4_66 : decode cJ6_numberOfLeadingZeros_0f7a4 66 = .ok (.iinc 1 (-2), 3) := by decide +kernel
theorem dJ6_numberOfLeadingZeros_0f7a4_69 : decode cJ6_numberOfLeadingZeros_0f7a4 69 = .ok (.iload_n 0, 1) := by decide +kernel
theorem dJ6_numberOfLeadingZeros_0f7a4_70 : decode cJ6_numberOfLeadingZeros_0f7a4 70 = .ok (.iconst 2, 1) := by decide +kernel
theorem dJ6_numberOfLeadingZeros_0f7a4_71 : decode cJ6_numberOfLeadingZeros_0f7a4 71 = .ok (.iushr, 1) := by decide +kernel
theorem dJ6_numberOfLeadingZeros_0f7a4_72 : decode cJ6_numberOfLeadingZeros_0f7a4 72 = .ok (.istore_n 0, 1) := by decide +kernel
theorem dJ6_numberOfLeadingZeros_0f7a4_73 : decode cJ6_numberOfLeadingZeros_0f7a4 73 = .ok (.iload_n 1, 1) := by decide +kernel
theorem dJ6_numberOfLeadingZeros_0f7a4_74 : decode cJ6_numberOfLeadingZeros_0f7a4 74 = .ok (.iload_n 0, 1) := by decide +kernel
theorem dJ6_numberOfLeadingZeros_0f7a4_75 : decode cJ6_numberOfLeadingZeros_0f7a4 75 = .ok (.iconst 1, 1) := by decide +kernel
theorem dJ6_numberOfLeadingZeros_0f7a4_76 : decode cJ6_numberOfLeadingZeros_0f7a4 76 = .ok (.iushr, 1) := by decide +kernel
theorem dJ6_numberOfLeadingZeros_0f7a4_77 : decode cJ6_numberOfLeadingZeros_0f7a4 77 = .ok (.isub, 1) := by decide +kernel
theorem dJ6_numberOfLeadingZeros_0f7a4_78 : decode cJ6_numberOfLeadingZeros_0f7a4 78 = .ok (.ireturn, 1) := by decide +kernel
theorem dJ13_numberOfLeadingZeros_95d88_0 : decode cJ13_numberOfLeadingZeros_95d88 0 = .ok (.lload_n 0, 1) := by decide +kernel
theorem dJ13_numberOfLeadingZeros_95d88_1 : decode cJ13_numberOfLeadingZeros_95d88 1 = .ok (.bipush 32, 2) := by decide +kernel
theorem dJ13_numberOfLeadingZeros_95d88_3 : decode cJ13_numberOfLeadingZeros_95d88 3 = .ok (.lushr, 1) := by decide +kernel
theorem dJ13_numberOfLeadingZeros_95d88_4 : decode cJ13_numberOfLeadingZeros_95d88 4 = .ok (.l2i, 1) := by decide +kernel
theorem dJ13_numberOfLeadingZeros_95d88_5 : decode cJ13_numberOfLeadingZeros_95d88 5 = .ok (.istore_n 2, 1) := by decide +kernel
theorem dJ13_numberOfLeadingZeros_95d88_6 : decode cJ13_numberOfLeadingZeros_95d88 6 = .ok (.iload_n 2, 1) := by decide +kernel
theorem dJ13_numberOfLeadingZeros_95d88_7 : decode cJ13_numberOfLeadingZeros_95d88 7 = .ok (.ifCond .ne 14, 3) := by decide +kernel
theorem dJ13_numberOfLeadingZeros_95d88_10 : decode cJ13_numberOfLeadingZeros_95d88 10 = .ok (.bipush 32, 2) := by decide +kernel
theorem dJ13_numberOfLeadingZeros_95d88_12 : decode cJ13_numberOfLeadingZeros_95d88 12 = .ok (.lload_n 0, 1) := by decide +kernel
theorem dJ13_numberOfLeadingZeros_95d88_13 : decode cJ13_numberOfLeadingZeros_95d88 13 = .ok (.l2i, 1) := by decide +kernel
theorem dJ13_numberOfLeadingZeros_95d88_14 : decode cJ13_numberOfLeadingZeros_95d88 14 = .ok (.invokestatic 308, 3) := by decide +kernel
theorem dJ13_numberOfLeadingZeros_95d88_17 : decode cJ13_numberOfLeadingZeros_95d88 17 = .ok (.iadd, 1) := by decide +kernel
theorem dJ13_numberOfLeadingZeros_95d88_18 : decode cJ13_numberOfLeadingZeros_95d88 18 = .ok (.goto 7, 3) := by decide +kernel
theorem dJ13_numberOfLeadingZeros_95d88_21 : decode cJ13_numberOfLeadingZeros_95d88 21 = .ok (.iload_n 2, 1) := by decide +kernel
theorem dJ13_numberOfLeadingZeros_95d88_22 : decode cJ13_numberOfLeadingZeros_95d88 22 = .ok (.invokestatic 308, 3) := by decide +kernel
theorem dJ13_numberOfLeadingZeros_95d88_25 : decode cJ13_numberOfLeadingZeros_95d88 25 = .ok (.ireturn, 1) := by decide +kernel
theorem dX4_bits_0 : decode cX4_bits 0 = .ok (.bipush 32, 2) := by decide +kernel
theorem dX4_bits_2 : decode cX4_bits 2 = .ok (.aload_n 0, 1) := by decide +kernel
theorem dX4_bits_3 : decode cX4_bits 3 = .ok (.getfield 15, 3) := by decide +kernel
theorem dX4_bits_6 : decode cX4_bits 6 = .ok (.imul, 1) := by decide +kernel
theorem dX4_bits_7 : decode cX4_bits 7 = .ok (.aload_n 0, 1) := by decide +kernel
theorem dX4_bits_8 : decode cX4_bits 8 = .ok (.getfield 15, 3) := by decide +kernel
theorem dX4_bits_11 : decode cX4_bits 11 = .ok (.ifCond .ne 7, 3) := by decide +kernel
theorem dX4_bits_14 : decode cX4_bits 14 = .ok (.iconst 0, 1) := by decide +kernel
theorem dX4_bits_15 : decode cX4_bits 15 = .ok (.goto 19, 3) := by decide +kernel
theorem dX4_bits_18 : decode cX4_bits 18 = .ok (.aload_n 0, 1) := by decide +kernel
theorem dX4_bits_19 : decode cX4_bits 19 = .ok (.aload_n 0, 1) := by decide +kernel
theorem dX4_bits_20 : decode cX4_bits 20 = .ok (.getfield 15, 3) := by decide +kernel
theorem dX4_bits_23 : decode cX4_bits 23 = .ok (.iconst 1, 1) := by decide +kernel
theorem dX4_bits_24 : decode cX4_bits 24 = .ok (.isub, 1) := by decide +kernel
theorem dX4_bits_25 : decode cX4_bits 25 = .ok (.invokevirtual 30, 3) := by decide +kernel
theorem dX4_bits_28 : decode cX4_bits 28 = .ok (.invokestatic 40, 3) := by decide +kernel
theorem dX4_bits_31 : decode cX4_bits 31 = .ok (.bipush 32, 2) := by decide +kernel
theorem dX4_bits_33 : decode cX4_bits 33 = .ok (.isub, 1) := by decide +kernel
theorem dX4_bits_34 : decode cX4_bits 34 = .ok (.isub, 1) := by decide +kernel
theorem dX4_bits_35 : decode cX4_bits 35 = .ok (.ireturn, 1) := by decide +kernel
theorem dX4_bitsFrom_0 : decode cX4_bitsFrom 0 = .ok (.iload_n 1, 1) := by decide +kernel
theorem dX4_bitsFrom_1 : decode cX4_bitsFrom 1 = .ok (.iconst 5, 1) := by decide +kernel
theorem dX4_bitsFrom_2 : decode cX4_bitsFrom 2 = .ok (.ishr, 1) := by decide +kernel
theorem dX4_bitsFrom_3 : decode cX4_bitsFrom 3 = .ok (.istore_n 2, 1) := by decide +kernel
theorem dX4_bitsFrom_4 : decode cX4_bitsFrom 4 = .ok (.iload_n 1, 1) := by decide +kernel
theorem dX4_bitsFrom_5 : decode cX4_bitsFrom 5 = .ok (.bipush 31, 2) := by decide +kernel
theorem dX4_bitsFrom_7 : decode cX4_bitsFrom 7 = .ok (.iand, 1) := by decide +kernel
theorem dX4_bitsFrom_8 : decode cX4_bitsFrom 8 = .ok (.istore_n 3, 1) := by decide +kernel
theorem dX4_bitsFrom_9 : decode cX4_bitsFrom 9 = .ok (.aload_n 0, 1) := by decide +kernel
theorem dX4_bitsFrom_10 : decode cX4_bitsFrom 10 = .ok (.iload_n 2, 1) := by decide +kernel
theorem dX4_bitsFrom_11 : decode cX4_bitsFrom 11 = .ok (.invokevirtual 30, 3) := by decide +kernel
theorem dX4_bitsFrom_14 : decode cX4_bitsFrom 14 = .ok (.iload_n 3, 1) := by decide +kernel
theorem dX4_bitsFrom_15 : decode cX4_bitsFrom 15 = .ok (.lushr, 1) := by decide +kernel
theorem dX4_bitsFrom_16 : decode cX4_bitsFrom 16 = .ok (.aload_n 0, 1) := by decide +kernel
theorem dX4_bitsFrom_17 : decode cX4_bitsFrom 17 = .ok (.iload_n 2, 1) := by decide +kernel
theorem dX4_bitsFrom_18 : decode cX4_bitsFrom 18 = .ok (.iconst 1, 1) := by decide +kernel
theorem dX4_bitsFrom_19 : decode cX4_bitsFrom 19 = .ok (.iadd, 1) := by decide +kernel
theorem dX4_bitsFrom_20 : decode cX4_bitsFrom 20 = .ok (.invokevirtual 30, 3) := by decide +kernel
theorem dX4_bitsFrom_23 : decode cX4_bitsFrom 23 = .ok (.bipush 32, 2) := by decide +kernel
theorem dX4_bitsFrom_25 : decode cX4_bitsFrom 25 = .ok (.iload_n 3, 1) := by decide +kernel
theorem dX4_bitsFrom_26 : decode cX4_bitsFrom 26 = .ok (.isub, 1) := by decide +kernel
theorem dX4_bitsFrom_27 : decode cX4_bitsFrom 27 = .ok (.lshl, 1) := by decide +kernel
theorem dX4_bitsFrom_28 : decode cX4_bitsFrom 28 = .ok (.lor, 1) := by decide +kernel
theorem dX4_bitsFrom_29 : decode cX4_bitsFrom 29 = .ok (.lstore 4, 2) := by decide +kernel
theorem dX4_bitsFrom_31 : decode cX4_bitsFrom 31 = .ok (.iload_n 3, 1) := by decide +kernel
theorem dX4_bitsFrom_32 : decode cX4_bitsFrom 32 = .ok (.ifCond .ne 8, 3) := by decide +kernel
theorem dX4_bitsFrom_35 : decode cX4_bitsFrom 35 = .ok (.lload 4, 2) := by decide +kernel
theorem dX4_bitsFrom_37 : decode cX4_bitsFrom 37 = .ok (.goto 18, 3) := by decide +kernel
theorem dX4_bitsFrom_40 : decode cX4_bitsFrom 40 = .ok (.lload 4, 2) := by decide +kernel
theorem dX4_bitsFrom_42 : decode cX4_bitsFrom 42 = .ok (.aload_n 0, 1) := by decide +kernel
theorem dX4_bitsFrom_43 : decode cX4_bitsFrom 43 = .ok (.iload_n 2, 1) := by decide +kernel
theorem dX4_bitsFrom_44 : decode cX4_bitsFrom 44 = .ok (.iconst 2, 1) := by decide +kernel
theorem dX4_bitsFrom_45 : decode cX4_bitsFrom 45 = .ok (.iadd, 1) := by decide +kernel
theorem dX4_bitsFrom_46 : decode cX4_bitsFrom 46 = .ok (.invokevirtual 30, 3) := by decide +kernel
theorem dX4_bitsFrom_49 : decode cX4_bitsFrom 49 = .ok (.bipush 64, 2) := by decide +kernel
theorem dX4_bitsFrom_51 : decode cX4_bitsFrom 51 = .ok (.iload_n 3, 1) := by decide +kernel
theorem dX4_bitsFrom_52 : decode cX4_bitsFrom 52 = .ok (.isub, 1) := by decide +kernel
theorem dX4_bitsFrom_53 : decode cX4_bitsFrom 53 = .ok (.lshl, 1) := by decide +kernel
theorem dX4_bitsFrom_54 : decode cX4_bitsFrom 54 = .ok (.lor, 1) := by decide +kernel
theorem dX4_bitsFrom_55 : decode cX4_bitsFrom 55 = .ok (.lreturn, 1) := by decide +kernel
theorem dX4_isNought_0 : decode cX4_isNought 0 = .ok (.aload_n 0, 1) := by decide +kernel
theorem dX4_isNought_1 : decode cX4_isNought 1 = .ok (.getfield 15, 3) := by decide +kernel
theorem dX4_isNought_4 : decode cX4_isNought 4 = .ok (.ifCond .ne 7, 3) := by decide +kernel
theorem dX4_isNought_7 : decode cX4_isNought 7 = .ok (.iconst 1, 1) := by decide +kernel
theorem dX4_isNought_8 : decode cX4_isNought 8 = .ok (.goto 4, 3) := by decide +kernel
theorem dX4_isNought_11 : decode cX4_isNought 11 = .ok (.iconst 0, 1) := by decide +kernel
theorem dX4_isNought_12 : decode cX4_isNought 12 = .ok (.ireturn, 1) := by decide +kernel
theorem dX0_rounded_0 : decode cX0_rounded 0 = .ok (.aload_n 1, 1) := by decide +kernel
theorem dX0_rounded_1 : decode cX0_rounded 1 = .ok (.invokevirtual 92, 3) := by decide +kernel
theorem dX0_rounded_4 : decode cX0_rounded 4 = .ok (.ifCond .eq 10, 3) := by decide +kernel
theorem dX0_rounded_7 : decode cX0_rounded 7 = .ok (.iload 4, 2) := by decide +kernel
theorem dX0_rounded_9 : decode cX0_rounded 9 = .ok (.iload_n 0, 1) := by decide +kernel
theorem dX0_rounded_10 : decode cX0_rounded 10 = .ok (.invokestatic 67, 3) := by decide +kernel
theorem dX0_rounded_13 : decode cX0_rounded 13 = .ok (.lreturn, 1) := by decide +kernel
theorem dX0_rounded_14 : decode cX0_rounded 14 = .ok (.iload 4, 2) := by decide +kernel
theorem dX0_rounded_16 : decode cX0_rounded 16 = .ok (.invokestatic 139, 3) := by decide +kernel
theorem dX0_rounded_19 : decode cX0_rounded 19 = .ok (.istore 6, 2) := by decide +kernel
theorem dX0_rounded_21 : decode cX0_rounded 21 = .ok (.iload 4, 2) := by decide +kernel
theorem dX0_rounded_23 : decode cX0_rounded 23 = .ok (.invokestatic 143, 3) := by decide +kernel
theorem dX0_rounded_26 : decode cX0_rounded 26 = .ok (.istore 7, 2) := by decide +kernel
theorem dX0_rounded_28 : decode cX0_rounded 28 = .ok (.iload_n 2, 1) := by decide +kernel
theorem dX0_rounded_29 : decode cX0_rounded 29 = .ok (.aload_n 1, 1) := by decide +kernel
theorem dX0_rounded_30 : decode cX0_rounded 30 = .ok (.invokevirtual 135, 3) := by decide +kernel
theorem dX0_rounded_33 : decode cX0_rounded 33 = .ok (.iadd, 1) := by decide +kernel
theorem dX0_rounded_34 : decode cX0_rounded 34 = .ok (.iload 6, 2) := by decide +kernel
theorem dX0_rounded_36 : decode cX0_rounded 36 = .ok (.isub, 1) := by decide +kernel
theorem dX0_rounded_37 : decode cX0_rounded 37 = .ok (.iload 7, 2) := by decide +kernel
theorem dX0_rounded_39 : decode cX0_rounded 39 = .ok (.invokestatic 146, 3) := by decide +kernel
theorem dX0_rounded_42 : decode cX0_rounded 42 = .ok (.istore 8, 2) := by decide +kernel
theorem dX0_rounded_44 : decode cX0_rounded 44 = .ok (.iload 8, 2) := by decide +kernel
theorem dX0_rounded_46 : decode cX0_rounded 46 = .ok (.iload 4, 2) := by decide +kernel
theorem dX0_rounded_48 : decode cX0_rounded 48 = .ok (.invokestatic 149, 3) := by decide +kernel
theorem dX0_rounded_51 : decode cX0_rounded 51 = .ok (.if_icmp .le 12, 3) := by decide +kernel
theorem dX0_rounded_54 : decode cX0_rounded 54 = .ok (.iload 4, 2) := by decide +kernel
theorem dX0_rounded_56 : decode cX0_rounded 56 = .ok (.iload_n 0, 1) := by decide +kernel
theorem dX0_rounded_57 : decode cX0_rounded 57 = .ok (.iload 5, 2) := by decide +kernel
theorem dX0_rounded_59 : decode cX0_rounded 59 = .ok (.invokestatic 152, 3) := by decide +kernel
theorem dX0_rounded_62 : decode cX0_rounded 62 = .ok (.lreturn, 1) := by decide +kernel
theorem dX0_rounded_63 : decode cX0_rounded 63 = .ok (.iload 8, 2) := by decide +kernel
theorem dX0_rounded_65 : decode cX0_rounded 65 = .ok (.iload_n 2, 1) := by decide +kernel
theorem dX0_rounded_66 : decode cX0_rounded 66 = .ok (.isub, 1) := by decide +kernel
theorem dX0_rounded_67 : decode cX0_rounded 67 = .ok (.istore 9, 2) := by decide +kernel
theorem dX0_rounded_69 : decode cX0_rounded 69 = .ok (.iload 9, 2) := by decide +kernel
theorem dX0_rounded_71 : decode cX0_rounded 71 = .ok (.ifCond .le 12, 3) := by decide +kernel
theorem dX0_rounded_74 : decode cX0_rounded 74 = .ok (.aload_n 1, 1) := by decide +kernel
theorem dX0_rounded_75 : decode cX0_rounded 75 = .ok (.iload 9, 2) := by decide +kernel
theorem dX0_rounded_77 : decode cX0_rounded 77 = .ok (.invokevirtual 156, 3) := by decide +kernel
theorem dX0_rounded_80 : decode cX0_rounded 80 = .ok (.goto 12, 3) := by decide +kernel
theorem dX0_rounded_83 : decode cX0_rounded 83 = .ok (.aload_n 1, 1) := by decide +kernel
theorem dX0_rounded_84 : decode cX0_rounded 84 = .ok (.iconst 0, 1) := by decide +kernel
theorem dX0_rounded_85 : decode cX0_rounded 85 = .ok (.invokevirtual 156, 3) := by decide +kernel
theorem dX0_rounded_88 : decode cX0_rounded 88 = .ok (.iload 9, 2) := by decide +kernel
theorem dX0_rounded_90 : decode cX0_rounded 90 = .ok (.ineg, 1) := by decide +kernel
theorem dX0_rounded_91 : decode cX0_rounded 91 = .ok (.lshl, 1) := by decide +kernel
theorem dX0_rounded_92 : decode cX0_rounded 92 = .ok (.lstore 10, 2) := by decide +kernel
theorem dX0_rounded_94 : decode cX0_rounded 94 = .ok (.iload 9, 2) := by decide +kernel
theorem dX0_rounded_96 : decode cX0_rounded 96 = .ok (.ifCond .le 18, 3) := by decide +kernel
theorem dX0_rounded_99 : decode cX0_rounded 99 = .ok (.aload_n 1, 1) := by decide +kernel
theorem dX0_rounded_100 : decode cX0_rounded 100 = .ok (.iload 9, 2) := by decide +kernel
theorem dX0_rounded_102 : decode cX0_rounded 102 = .ok (.iconst 1, 1) := by decide +kernel
theorem dX0_rounded_103 : decode cX0_rounded 103 = .ok (.isub, 1) := by decide +kernel
theorem dX0_rounded_104 : decode cX0_rounded 104 = .ok (.invokevirtual 159, 3) := by decide +kernel
theorem dX0_rounded_107 : decode cX0_rounded 107 = .ok (.ifCond .eq 7, 3) := by decide +kernel
theorem dX0_rounded_110 : decode cX0_rounded 110 = .ok (.iconst 1, 1) := by decide +kernel
theorem dX0_rounded_111 : decode cX0_rounded 111 = .ok (.goto 4, 3) := by decide +kernel
theorem dX0_rounded_114 : decode cX0_rounded 114 = .ok (.iconst 0, 1) := by decide +kernel
theorem dX0_rounded_115 : decode cX0_rounded 115 = .ok (.istore 12, 2) := by decide +kernel
theorem dX0_rounded_117 : decode cX0_rounded 117 = .ok (.iload_n 3, 1) := by decide +kernel
theorem dX0_rounded_118 : decode cX0_rounded 118 = .ok (.ifCond .ne 19, 3) := by decide +kernel
theorem dX0_rounded_121 : decode cX0_rounded 121 = .ok (.iload 9, 2) := by decide +kernel
theorem dX0_rounded_123 : decode cX0_rounded 123 = .ok (.ifCond .le 18, 3) := by decide +kernel
theorem dX0_rounded_126 : decode cX0_rounded 126 = .ok (.aload_n 1, 1) := by decide +kernel
theorem dX0_rounded_127 : decode cX0_rounded 127 = .ok (.iload 9, 2) := by decide +kernel
theorem dX0_rounded_129 : decode cX0_rounded 129 = .ok (.iconst 1, 1) := by decide +kernel
theorem dX0_rounded_130 : decode cX0_rounded 130 = .ok (.isub, 1) := by decide +kernel
theorem dX0_rounded_131 : decode cX0_rounded 131 = .ok (.invokevirtual 163, 3) := by decide +kernel
theorem dX0_rounded_134 : decode cX0_rounded 134 = .ok (.ifCond .eq 7, 3) := by decide +kernel
theorem dX0_rounded_137 : decode cX0_rounded 137 = .ok (.iconst 1, 1) := by decide +kernel
theorem dX0_rounded_138 : decode cX0_rounded 138 = .ok (.goto 4, 3) := by decide +kernel
theorem dX0_rounded_141 : decode cX0_rounded 141 = .ok (.iconst 0, 1) := by decide +kernel
theorem dX0_rounded_142 : decode cX0_rounded 142 = .ok (.istore 13, 2) := by decide +kernel
theorem dX0_rounded_144 : decode cX0_rounded 144 = .ok (.iload 8, 2) := by decide +kernel
theorem dX0_rounded_146 : decode cX0_rounded 146 = .ok (.iload 7, 2) := by decide +kernel
theorem dX0_rounded_148 : decode cX0_rounded 148 = .ok (.isub, 1) := by decide +kernel
theorem dX0_rounded_149 : decode cX0_rounded 149 = .ok (.i2l, 1) := by decide +kernel
theorem dX0_rounded_150 : decode cX0_rounded 150 = .ok (.iload 6, 2) := by decide +kernel
theorem dX0_rounded_152 : decode cX0_rounded 152 = .ok (.iconst 1, 1) := by decide +kernel
theorem dX0_rounded_153 : decode cX0_rounded 153 = .ok (.isub, 1) := by decide +kernel
theorem dX0_rounded_154 : decode cX0_rounded 154 = .ok (.lshl, 1) := by decide +kernel
theorem dX0_rounded_155 : decode cX0_rounded 155 = .ok (.lload 10, 2) := by decide +kernel
theorem dX0_rounded_157 : decode cX0_rounded 157 = .ok (.ladd, 1) := by decide +kernel
theorem dX0_rounded_158 : decode cX0_rounded 158 = .ok (.lstore 14, 2) := by decide +kernel
theorem dX0_rounded_160 : decode cX0_rounded 160 = .ok (.iload 5, 2) := by decide +kernel
theorem dX0_rounded_162 : decode cX0_rounded 162 = .ok (.iload_n 0, 1) := by decide +kernel
theorem dX0_rounded_163 : decode cX0_rounded 163 = .ok (.lload 10, 2) := by decide +kernel
theorem dX0_rounded_165 : decode cX0_rounded 165 = .ok (.lconst 1, 1) := by decide +kernel
theorem dX0_rounded_166 : decode cX0_rounded 166 = .ok (.land, 1) := by decide +kernel
theorem dX0_rounded_167 : decode cX0_rounded 167 = .ok (.lconst 0, 1) := by decide +kernel
theorem dX0_rounded_168 : decode cX0_rounded 168 = .ok (.lcmp, 1) := by decide +kernel
theorem dX0_rounded_169 : decode cX0_rounded 169 = .ok (.ifCond .eq 7, 3) := by decide +kernel
theorem dX0_rounded_172 : decode cX0_rounded 172 = .ok (.iconst 1, 1) := by decide +kernel
theorem dX0_rounded_173 : decode cX0_rounded 173 = .ok (.goto 4, 3) := by decide +kernel
theorem dX0_rounded_176 : decode cX0_rounded 176 = .ok (.iconst 0, 1) := by decide +kernel
theorem dX0_rounded_177 : decode cX0_rounded 177 = .ok (.iload 12, 2) := by decide +kernel
theorem dX0_rounded_179 : decode cX0_rounded 179 = .ok (.iload 13, 2) := by decide +kernel
theorem dX0_rounded_181 : decode cX0_rounded 181 = .ok (.invokestatic 166, 3) := by decide +kernel
theorem dX0_rounded_184 : decode cX0_rounded 184 = .ok (.ifCond .eq 9, 3) := by decide +kernel
theorem dX0_rounded_187 : decode cX0_rounded 187 = .ok (.lload 14, 2) := by decide +kernel
theorem dX0_rounded_189 : decode cX0_rounded 189 = .ok (.lconst 1, 1) := by decide +kernel
theorem dX0_rounded_190 : decode cX0_rounded 190 = .ok (.ladd, 1) := by decide +kernel
theorem dX0_rounded_191 : decode cX0_rounded 191 = .ok (.lstore 14, 2) := by decide +kernel
theorem dX0_rounded_193 : decode cX0_rounded 193 = .ok (.lload 14, 2) := by decide +kernel
theorem dX0_rounded_195 : decode cX0_rounded 195 = .ok (.iload 4, 2) := by decide +kernel
theorem dX0_rounded_197 : decode cX0_rounded 197 = .ok (.invokestatic 170, 3) := by decide +kernel
theorem dX0_rounded_200 : decode cX0_rounded 200 = .ok (.lcmp, 1) := by decide +kernel
theorem dX0_rounded_201 : decode cX0_rounded 201 = .ok (.ifCond .lt 12, 3) := by decide +kernel
theorem dX0_rounded_204 : decode cX0_rounded 204 = .ok (.iload 4, 2) := by decide +kernel
theorem dX0_rounded_206 : decode cX0_rounded 206 = .ok (.iload_n 0, 1) := by decide +kernel
theorem dX0_rounded_207 : decode cX0_rounded 207 = .ok (.iload 5, 2) := by decide +kernel
theorem dX0_rounded_209 : decode cX0_rounded 209 = .ok (.invokestatic 152, 3) := by decide +kernel
theorem dX0_rounded_212 : decode cX0_rounded 212 = .ok (.lreturn, 1) := by decide +kernel
theorem dX0_rounded_213 : decode cX0_rounded 213 = .ok (.iload 4, 2) := by decide +kernel
theorem dX0_rounded_215 : decode cX0_rounded 215 = .ok (.iload_n 0, 1) := by decide +kernel
theorem dX0_rounded_216 : decode cX0_rounded 216 = .ok (.lload 14, 2) := by decide +kernel
theorem dX0_rounded_218 : decode cX0_rounded 218 = .ok (.invokestatic 173, 3) := by decide +kernel
theorem dX0_rounded_221 : decode cX0_rounded 221 = .ok (.lreturn, 1) := by decide +kernel
theorem dX2_endless_0 : decode cX2_endless 0 = .ok (.iload_n 0, 1) := by decide +kernel
theorem dX2_endless_1 : decode cX2_endless 1 = .ok (.iload_n 1, 1) := by decide +kernel
theorem dX2_endless_2 : decode cX2_endless 2 = .ok (.iload_n 0, 1) := by decide +kernel
theorem dX2_endless_3 : decode cX2_endless 3 = .ok (.invokestatic 29, 3) := by decide +kernel
theorem dX2_endless_6 : decode cX2_endless 6 = .ok (.invokestatic 25, 3) := by decide +kernel
theorem dX2_endless_9 : decode cX2_endless 9 = .ok (.lreturn, 1) := by decide +kernel
theorem dX2_none_0 : decode cX2_none 0 = .ok (.iload_n 0, 1) := by decide +kernel
theorem dX2_none_1 : decode cX2_none 1 = .ok (.invokestatic 29, 3) := by decide +kernel
theorem dX2_none_4 : decode cX2_none 4 = .ok (.lconst 1, 1) := by decide +kernel
theorem dX2_none_5 : decode cX2_none 5 = .ok (.iload_n 0, 1) := by decide +kernel
theorem dX2_none_6 : decode cX2_none 6 = .ok (.invokestatic 32, 3) := by decide +kernel
theorem dX2_none_9 : decode cX2_none 9 = .ok (.iconst 2, 1) := by decide +kernel
theorem dX2_none_10 : decode cX2_none 10 = .ok (.isub, 1) := by decide +kernel
theorem dX2_none_11 : decode cX2_none 11 = .ok (.lshl, 1) := by decide +kernel
theorem dX2_none_12 : decode cX2_none 12 = .ok (.lor, 1) := by decide +kernel
theorem dX2_none_13 : decode cX2_none 13 = .ok (.lreturn, 1) := by decide +kernel
theorem dX4_trim_0 : decode cX4_trim 0 = .ok (.aload_n 0, 1) := by decide +kernel
theorem dX4_trim_1 : decode cX4_trim 1 = .ok (.getfield 15, 3) := by decide +kernel
theorem dX4_trim_4 : decode cX4_trim 4 = .ok (.ifCond .le 32, 3) := by decide +kernel
theorem dX4_trim_7 : decode cX4_trim 7 = .ok (.aload_n 0, 1) := by decide +kernel
theorem dX4_trim_8 : decode cX4_trim 8 = .ok (.getfield 9, 3) := by decide +kernel
theorem dX4_trim_11 : decode cX4_trim 11 = .ok (.aload_n 0, 1) := by decide +kernel
theorem dX4_trim_12 : decode cX4_trim 12 = .ok (.getfield 15, 3) := by decide +kernel
theorem dX4_trim_15 : decode cX4_trim 15 = .ok (.iconst 1, 1) := by decide +kernel
theorem dX4_trim_16 : decode cX4_trim 16 = .ok (.isub, 1) := by decide +kernel
theorem dX4_trim_17 : decode cX4_trim 17 = .ok (.laload, 1) := by decide +kernel
theorem dX4_trim_18 : decode cX4_trim 18 = .ok (.lconst 0, 1) := by decide +kernel
theorem dX4_trim_19 : decode cX4_trim 19 = .ok (.lcmp, 1) := by decide +kernel
theorem dX4_trim_20 : decode cX4_trim 20 = .ok (.ifCond .ne 16, 3) := by decide +kernel
theorem dX4_trim_23 : decode cX4_trim 23 = .ok (.aload_n 0, 1) := by decide +kernel
theorem dX4_trim_24 : decode cX4_trim 24 = .ok (.dup, 1) := by decide +kernel
theorem dX4_trim_25 : decode cX4_trim 25 = .ok (.getfield 15, 3) := by decide +kernel
theorem dX4_trim_28 : decode cX4_trim 28 = .ok (.iconst 1, 1) := by decide +kernel
theorem dX4_trim_29 : decode cX4_trim 29 = .ok (.isub, 1) := by decide +kernel
theorem dX4_trim_30 : decode cX4_trim 30 = .ok (.putfield 15, 3) := by decide +kernel
theorem dX4_trim_33 : decode cX4_trim 33 = .ok (.goto (-33), 3) := by decide +kernel
theorem dX4_trim_36 : decode cX4_trim 36 = .ok (.return_, 1) := by decide +kernel
theorem dX4_take_0 : decode cX4_take 0 = .ok (.aload_n 0, 1) := by decide +kernel
theorem dX4_take_1 : decode cX4_take 1 = .ok (.getfield 9, 3) := by decide +kernel
theorem dX4_take_4 : decode cX4_take 4 = .ok (.iconst 0, 1) := by decide +kernel
theorem dX4_take_5 : decode cX4_take 5 = .ok (.lload_n 1, 1) := by decide +kernel
theorem dX4_take_6 : decode cX4_take 6 = .ok (.ldc2_w 13, 3) := by decide +kernel
theorem dX4_take_9 : decode cX4_take 9 = .ok (.land, 1) := by decide +kernel
theorem dX4_take_10 : decode cX4_take 10 = .ok (.lastore, 1) := by decide +kernel
theorem dX4_take_11 : decode cX4_take 11 = .ok (.aload_n 0, 1) := by decide +kernel
theorem dX4_take_12 : decode cX4_take 12 = .ok (.getfield 9, 3) := by decide +kernel
theorem dX4_take_15 : decode cX4_take 15 = .ok (.iconst 1, 1) := by decide +kernel
theorem dX4_take_16 : decode cX4_take 16 = .ok (.lload_n 1, 1) := by decide +kernel
theorem dX4_take_17 : decode cX4_take 17 = .ok (.bipush 32, 2) := by decide +kernel
theorem dX4_take_19 : decode cX4_take 19 = .ok (.lushr, 1) := by decide +kernel
theorem dX4_take_20 : decode cX4_take 20 = .ok (.lastore, 1) := by decide +kernel
theorem dX4_take_21 : decode cX4_take 21 = .ok (.aload_n 0, 1) := by decide +kernel
theorem dX4_take_22 : decode cX4_take 22 = .ok (.iconst 2, 1) := by decide +kernel
theorem dX4_take_23 : decode cX4_take 23 = .ok (.putfield 15, 3) := by decide +kernel
theorem dX4_take_26 : decode cX4_take 26 = .ok (.aload_n 0, 1) := by decide +kernel
theorem dX4_take_27 : decode cX4_take 27 = .ok (.invokevirtual 19, 3) := by decide +kernel
theorem dX4_take_30 : decode cX4_take 30 = .ok (.return_, 1) := by decide +kernel
theorem dX0_converted_0 : decode cX0_converted 0 = .ok (.aload_n 1, 1) := by decide +kernel
theorem dX0_converted_1 : decode cX0_converted 1 = .ok (.getfield 18, 3) := by decide +kernel
theorem dX0_converted_4 : decode cX0_converted 4 = .ok (.iconst 4, 1) := by decide +kernel
theorem dX0_converted_5 : decode cX0_converted 5 = .ok (.if_icmp .ne 8, 3) := by decide +kernel
theorem dX0_converted_8 : decode cX0_converted 8 = .ok (.iload_n 2, 1) := by decide +kernel
theorem dX0_converted_9 : decode cX0_converted 9 = .ok (.invokestatic 24, 3) := by decide +kernel
theorem dX0_converted_12 : decode cX0_converted 12 = .ok (.lreturn, 1) := by decide +kernel
theorem dX0_converted_13 : decode cX0_converted 13 = .ok (.aload_n 1, 1) := by decide +kernel
theorem dX0_converted_14 : decode cX0_converted 14 = .ok (.getfield 18, 3) := by decide +kernel
theorem dX0_converted_17 : decode cX0_converted 17 = .ok (.iconst 3, 1) := by decide +kernel
theorem dX0_converted_18 : decode cX0_converted 18 = .ok (.if_icmp .ne 12, 3) := by decide +kernel
theorem dX0_converted_21 : decode cX0_converted 21 = .ok (.iload_n 2, 1) := by decide +kernel
theorem dX0_converted_22 : decode cX0_converted 22 = .ok (.aload_n 1, 1) := by decide +kernel
theorem dX0_converted_23 : decode cX0_converted 23 = .ok (.getfield 30, 3) := by decide +kernel
theorem dX0_converted_26 : decode cX0_converted 26 = .ok (.invokestatic 34, 3) := by decide +kernel
theorem dX0_converted_29 : decode cX0_converted 29 = .ok (.lreturn, 1) := by decide +kernel
theorem dX0_converted_30 : decode cX0_converted 30 = .ok (.aload_n 0, 1) := by decide +kernel
theorem dX0_converted_31 : decode cX0_converted 31 = .ok (.getfield 9, 3) := by decide +kernel
theorem dX0_converted_34 : decode cX0_converted 34 = .ok (.aload_n 1, 1) := by decide +kernel
theorem dX0_converted_35 : decode cX0_converted 35 = .ok (.getfield 38, 3) := by decide +kernel
theorem dX0_converted_38 : decode cX0_converted 38 = .ok (.invokevirtual 42, 3) := by decide +kernel
theorem dX0_converted_41 : decode cX0_converted 41 = .ok (.aload_n 1, 1) := by decide +kernel
theorem dX0_converted_42 : decode cX0_converted 42 = .ok (.getfield 30, 3) := by decide +kernel
theorem dX0_converted_45 : decode cX0_converted 45 = .ok (.aload_n 0, 1) := by decide +kernel
theorem dX0_converted_46 : decode cX0_converted 46 = .ok (.getfield 9, 3) := by decide +kernel
theorem dX0_converted_49 : decode cX0_converted 49 = .ok (.aload_n 1, 1) := by decide +kernel
theorem dX0_converted_50 : decode cX0_converted 50 = .ok (.getfield 48, 3) := by decide +kernel
theorem dX0_converted_53 : decode cX0_converted 53 = .ok (.iconst 0, 1) := by decide +kernel
theorem dX0_converted_54 : decode cX0_converted 54 = .ok (.iload_n 2, 1) := by decide +kernel
theorem dX0_converted_55 : decode cX0_converted 55 = .ok (.iload_n 3, 1) := by decide +kernel
theorem dX0_converted_56 : decode cX0_converted 56 = .ok (.invokestatic 51, 3) := by decide +kernel
theorem dX0_converted_59 : decode cX0_converted 59 = .ok (.lreturn, 1) := by decide +kernel
theorem dX0_ofLong_0 : decode cX0_ofLong 0 = .ok (.aload_n 0, 1) := by decide +kernel
theorem dX0_ofLong_1 : decode cX0_ofLong 1 = .ok (.getfield 9, 3) := by decide +kernel
theorem dX0_ofLong_4 : decode cX0_ofLong 4 = .ok (.lload_n 1, 1) := by decide +kernel
theorem dX0_ofLong_5 : decode cX0_ofLong 5 = .ok (.lconst 0, 1) := by decide +kernel
theorem dX0_ofLong_6 : decode cX0_ofLong 6 = .ok (.lcmp, 1) := by decide +kernel
theorem dX0_ofLong_7 : decode cX0_ofLong 7 = .ok (.ifCond .ge 8, 3) := by decide +kernel
theorem dX0_ofLong_10 : decode cX0_ofLong 10 = .ok (.lload_n 1, 1) := by decide +kernel
theorem dX0_ofLong_11 : decode cX0_ofLong 11 = .ok (.lneg, 1) := by decide +kernel
theorem dX0_ofLong_12 : decode cX0_ofLong 12 = .ok (.goto 4, 3) := by decide +kernel
theorem dX0_ofLong_15 : decode cX0_ofLong 15 = .ok (.lload_n 1, 1) := by decide +kernel
theorem dX0_ofLong_16 : decode cX0_ofLong 16 = .ok (.invokevirtual 42, 3) := by decide +kernel
theorem dX0_ofLong_19 : decode cX0_ofLong 19 = .ok (.lload_n 1, 1) := by decide +kernel
theorem dX0_ofLong_20 : decode cX0_ofLong 20 = .ok (.lconst 0, 1) := by decide +kernel
theorem dX0_ofLong_21 : decode cX0_ofLong 21 = .ok (.lcmp, 1) := by decide +kernel
theorem dX0_ofLong_22 : decode cX0_ofLong 22 = .ok (.ifCond .ge 7, 3) := by decide +kernel
theorem dX0_ofLong_25 : decode cX0_ofLong 25 = .ok (.iconst 1, 1) := by decide +kernel
theorem dX0_ofLong_26 : decode cX0_ofLong 26 = .ok (.goto 4, 3) := by decide +kernel
theorem dX0_ofLong_29 : decode cX0_ofLong 29 = .ok (.iconst 0, 1) := by decide +kernel
theorem dX0_ofLong_30 : decode cX0_ofLong 30 = .ok (.aload_n 0, 1) := by decide +kernel
theorem dX0_ofLong_31 : decode cX0_ofLong 31 = .ok (.getfield 9, 3) := by decide +kernel
theorem dX0_ofLong_34 : decode cX0_ofLong 34 = .ok (.iconst 0, 1) := by decide +kernel
theorem dX0_ofLong_35 : decode cX0_ofLong 35 = .ok (.iconst 0, 1) := by decide +kernel
theorem dX0_ofLong_36 : decode cX0_ofLong 36 = .ok (.iload_n 3, 1) := by decide +kernel
theorem dX0_ofLong_37 : decode cX0_ofLong 37 = .ok (.iload 4, 2) := by decide +kernel
theorem dX0_ofLong_39 : decode cX0_ofLong 39 = .ok (.invokestatic 51, 3) := by decide +kernel
theorem dX0_ofLong_42 : decode cX0_ofLong 42 = .ok (.lreturn, 1) := by decide +kernel
theorem dJ9_min_7cf53_0 : decode cJ9_min_7cf53 0 = .ok (.iload_n 0, 1) := by decide +kernel
theorem dJ9_min_7cf53_1 : decode cJ9_min_7cf53 1 = .ok (.iload_n 1, 1) := by decide +kernel
theorem dJ9_min_7cf53_2 : decode cJ9_min_7cf53 2 = .ok (.if_icmp .gt 7, 3) := by decide +kernel
theorem dJ9_min_7cf53_5 : decode cJ9_min_7cf53 5 = .ok (.iload_n 0, 1) := by decide +kernel
theorem dJ9_min_7cf53_6 : decode cJ9_min_7cf53 6 = .ok (.goto 4, 3) := by decide +kernel
theorem dJ9_min_7cf53_9 : decode cJ9_min_7cf53 9 = .ok (.iload_n 1, 1) := by decide +kernel
theorem dJ9_min_7cf53_10 : decode cJ9_min_7cf53 10 = .ok (.ireturn, 1) := by decide +kernel
theorem dX4_comparedWith_0 : decode cX4_comparedWith 0 = .ok (.aload_n 0, 1) := by decide +kernel
theorem dX4_comparedWith_1 : decode cX4_comparedWith 1 = .ok (.getfield 15, 3) := by decide +kernel
theorem dX4_comparedWith_4 : decode cX4_comparedWith 4 = .ok (.aload_n 1, 1) := by decide +kernel
theorem dX4_comparedWith_5 : decode cX4_comparedWith 5 = .ok (.getfield 15, 3) := by decide +kernel
theorem dX4_comparedWith_8 : decode cX4_comparedWith 8 = .ok (.if_icmp .eq 20, 3) := by decide +kernel
theorem dX4_comparedWith_11 : decode cX4_comparedWith 11 = .ok (.aload_n 0, 1) := by decide +kernel
theorem dX4_comparedWith_12 : decode cX4_comparedWith 12 = .ok (.getfield 15, 3) := by decide +kernel
theorem dX4_comparedWith_15 : decode cX4_comparedWith 15 = .ok (.aload_n 1, 1) := by decide +kernel
theorem dX4_comparedWith_16 : decode cX4_comparedWith 16 = .ok (.getfield 15, 3) := by decide +kernel
theorem dX4_comparedWith_19 : decode cX4_comparedWith 19 = .ok (.if_icmp .ge 7, 3) := by decide +kernel
theorem dX4_comparedWith_22 : decode cX4_comparedWith 22 = .ok (.iconst (-1), 1) := by decide +kernel
theorem dX4_comparedWith_23 : decode cX4_comparedWith 23 = .ok (.goto 4, 3) := by decide +kernel
theorem dX4_comparedWith_26 : decode cX4_comparedWith 26 = .ok (.iconst 1, 1) := by decide +kernel
theorem dX4_comparedWith_27 : decode cX4_comparedWith 27 = .ok (.ireturn, 1) := by decide +kernel
theorem dX4_comparedWith_28 : decode cX4_comparedWith 28 = .ok (.aload_n 0, 1) := by decide +kernel
theorem dX4_comparedWith_29 : decode cX4_comparedWith 29 = .ok (.getfield 15, 3) := by decide +kernel
theorem dX4_comparedWith_32 : decode cX4_comparedWith 32 = .ok (.iconst 1, 1) := by decide +kernel
theorem dX4_comparedWith_33 : decode cX4_comparedWith 33 = .ok (.isub, 1) := by decide +kernel
theorem dX4_comparedWith_34 : decode cX4_comparedWith 34 = .ok (.istore_n 2, 1) := by decide +kernel
theorem dX4_comparedWith_35 : decode cX4_comparedWith 35 = .ok (.iload_n 2, 1) := by decide +kernel
theorem dX4_comparedWith_36 : decode cX4_comparedWith 36 = .ok (.ifCond .lt 47, 3) := by decide +kernel
theorem dX4_comparedWith_39 : decode cX4_comparedWith 39 = .ok (.aload_n 0, 1) := by decide +kernel
theorem dX4_comparedWith_40 : decode cX4_comparedWith 40 = .ok (.getfield 9, 3) := by decide +kernel
theorem dX4_comparedWith_43 : decode cX4_comparedWith 43 = .ok (.iload_n 2, 1) := by decide +kernel
theorem dX4_comparedWith_44 : decode cX4_comparedWith 44 = .ok (.laload, 1) := by decide +kernel
theorem dX4_comparedWith_45 : decode cX4_comparedWith 45 = .ok (.aload_n 1, 1) := by decide +kernel
theorem dX4_comparedWith_46 : decode cX4_comparedWith 46 = .ok (.getfield 9, 3) := by decide +kernel
theorem dX4_comparedWith_49 : decode cX4_comparedWith 49 = .ok (.iload_n 2, 1) := by decide +kernel
theorem dX4_comparedWith_50 : decode cX4_comparedWith 50 = .ok (.laload, 1) := by decide +kernel
theorem dX4_comparedWith_51 : decode cX4_comparedWith 51 = .ok (.lcmp, 1) := by decide +kernel
theorem dX4_comparedWith_52 : decode cX4_comparedWith 52 = .ok (.ifCond .eq 25, 3) := by decide +kernel
theorem dX4_comparedWith_55 : decode cX4_comparedWith 55 = .ok (.aload_n 0, 1) := by decide +kernel
theorem dX4_comparedWith_56 : decode cX4_comparedWith 56 = .ok (.getfield 9, 3) := by decide +kernel
theorem dX4_comparedWith_59 : decode cX4_comparedWith 59 = .ok (.iload_n 2, 1) := by decide +kernel
theorem dX4_comparedWith_60 : decode cX4_comparedWith 60 = .ok (.laload, 1) := by decide +kernel
theorem dX4_comparedWith_61 : decode cX4_comparedWith 61 = .ok (.aload_n 1, 1) := by decide +kernel
theorem dX4_comparedWith_62 : decode cX4_comparedWith 62 = .ok (.getfield 9, 3) := by decide +kernel
theorem dX4_comparedWith_65 : decode cX4_comparedWith 65 = .ok (.iload_n 2, 1) := by decide +kernel
theorem dX4_comparedWith_66 : decode cX4_comparedWith 66 = .ok (.laload, 1) := by decide +kernel
theorem dX4_comparedWith_67 : decode cX4_comparedWith 67 = .ok (.lcmp, 1) := by decide +kernel
theorem dX4_comparedWith_68 : decode cX4_comparedWith 68 = .ok (.ifCond .ge 7, 3) := by decide +kernel
theorem dX4_comparedWith_71 : decode cX4_comparedWith 71 = .ok (.iconst (-1), 1) := by decide +kernel
theorem dX4_comparedWith_72 : decode cX4_comparedWith 72 = .ok (.goto 4, 3) := by decide +kernel
theorem dX4_comparedWith_75 : decode cX4_comparedWith 75 = .ok (.iconst 1, 1) := by decide +kernel
theorem dX4_comparedWith_76 : decode cX4_comparedWith 76 = .ok (.ireturn, 1) := by decide +kernel
theorem dX4_comparedWith_77 : decode cX4_comparedWith 77 = .ok (.iinc 2 (-1), 3) := by decide +kernel
theorem dX4_comparedWith_80 : decode cX4_comparedWith 80 = .ok (.goto (-45), 3) := by decide +kernel
theorem dX4_comparedWith_83 : decode cX4_comparedWith 83 = .ok (.iconst 0, 1) := by decide +kernel
theorem dX4_comparedWith_84 : decode cX4_comparedWith 84 = .ok (.ireturn, 1) := by decide +kernel
theorem dX4_minus_0 : decode cX4_minus 0 = .ok (.lconst 0, 1) := by decide +kernel
theorem dX4_minus_1 : decode cX4_minus 1 = .ok (.lstore_n 2, 1) := by decide +kernel
theorem dX4_minus_2 : decode cX4_minus 2 = .ok (.iconst 0, 1) := by decide +kernel
theorem dX4_minus_3 : decode cX4_minus 3 = .ok (.istore 4, 2) := by decide +kernel
theorem dX4_minus_5 : decode cX4_minus 5 = .ok (.iload 4, 2) := by decide +kernel
theorem dX4_minus_7 : decode cX4_minus 7 = .ok (.aload_n 0, 1) := by decide +kernel
theorem dX4_minus_8 : decode cX4_minus 8 = .ok (.getfield 15, 3) := by decide +kernel
theorem dX4_minus_11 : decode cX4_minus 11 = .ok (.if_icmp .ge 43, 3) := by decide +kernel
theorem dX4_minus_14 : decode cX4_minus 14 = .ok (.lload_n 2, 1) := by decide +kernel
theorem dX4_minus_15 : decode cX4_minus 15 = .ok (.aload_n 0, 1) := by decide +kernel
theorem dX4_minus_16 : decode cX4_minus 16 = .ok (.getfield 9, 3) := by decide +kernel
theorem dX4_minus_19 : decode cX4_minus 19 = .ok (.iload 4, 2) := by decide +kernel
theorem dX4_minus_21 : decode cX4_minus 21 = .ok (.laload, 1) := by decide +kernel
theorem dX4_minus_22 : decode cX4_minus 22 = .ok (.aload_n 1, 1) := by decide +kernel
theorem dX4_minus_23 : decode cX4_minus 23 = .ok (.iload 4, 2) := by decide +kernel
theorem dX4_minus_25 : decode cX4_minus 25 = .ok (.invokevirtual 30, 3) := by decide +kernel
theorem dX4_minus_28 : decode cX4_minus 28 = .ok (.lsub, 1) := by decide +kernel
theorem dX4_minus_29 : decode cX4_minus 29 = .ok (.ladd, 1) := by decide +kernel
theorem dX4_minus_30 : decode cX4_minus 30 = .ok (.lstore_n 2, 1) := by decide +kernel
theorem dX4_minus_31 : decode cX4_minus 31 = .ok (.aload_n 0, 1) := by decide +kernel
theorem dX4_minus_32 : decode cX4_minus 32 = .ok (.getfield 9, 3) := by decide +kernel
theorem dX4_minus_35 : decode cX4_minus 35 = .ok (.iload 4, 2) := by decide +kernel
theorem dX4_minus_37 : decode cX4_minus 37 = .ok (.lload_n 2, 1) := by decide +kernel
theorem dX4_minus_38 : decode cX4_minus 38 = .ok (.ldc2_w 13, 3) := by decide +kernel
theorem dX4_minus_41 : decode cX4_minus 41 = .ok (.land, 1) := by decide +kernel
theorem dX4_minus_42 : decode cX4_minus 42 = .ok (.lastore, 1) := by decide +kernel
theorem dX4_minus_43 : decode cX4_minus 43 = .ok (.lload_n 2, 1) := by decide +kernel
theorem dX4_minus_44 : decode cX4_minus 44 = .ok (.bipush 32, 2) := by decide +kernel
theorem dX4_minus_46 : decode cX4_minus 46 = .ok (.lshr, 1) := by decide +kernel
theorem dX4_minus_47 : decode cX4_minus 47 = .ok (.lstore_n 2, 1) := by decide +kernel
theorem dX4_minus_48 : decode cX4_minus 48 = .ok (.iinc 4 1, 3) := by decide +kernel
theorem dX4_minus_51 : decode cX4_minus 51 = .ok (.goto (-46), 3) := by decide +kernel
theorem dX4_minus_54 : decode cX4_minus 54 = .ok (.aload_n 0, 1) := by decide +kernel
theorem dX4_minus_55 : decode cX4_minus 55 = .ok (.invokevirtual 19, 3) := by decide +kernel
theorem dX4_minus_58 : decode cX4_minus 58 = .ok (.return_, 1) := by decide +kernel
theorem dX4_plus_0 : decode cX4_plus 0 = .ok (.aload_n 0, 1) := by decide +kernel
theorem dX4_plus_1 : decode cX4_plus 1 = .ok (.getfield 15, 3) := by decide +kernel
theorem dX4_plus_4 : decode cX4_plus 4 = .ok (.aload_n 1, 1) := by decide +kernel
theorem dX4_plus_5 : decode cX4_plus 5 = .ok (.getfield 15, 3) := by decide +kernel
theorem dX4_plus_8 : decode cX4_plus 8 = .ok (.invokestatic 34, 3) := by decide +kernel
theorem dX4_plus_11 : decode cX4_plus 11 = .ok (.istore_n 2, 1) := by decide +kernel
theorem dX4_plus_12 : decode cX4_plus 12 = .ok (.lconst 0, 1) := by decide +kernel
theorem dX4_plus_13 : decode cX4_plus 13 = .ok (.lstore_n 3, 1) := by decide +kernel
theorem dX4_plus_14 : decode cX4_plus 14 = .ok (.iconst 0, 1) := by decide +kernel
theorem dX4_plus_15 : decode cX4_plus 15 = .ok (.istore 5, 2) := by decide +kernel
theorem dX4_plus_17 : decode cX4_plus 17 = .ok (.iload 5, 2) := by decide +kernel
theorem dX4_plus_19 : decode cX4_plus 19 = .ok (.iload_n 2, 1) := by decide +kernel
theorem dX4_plus_20 : decode cX4_plus 20 = .ok (.if_icmp .ge 42, 3) := by decide +kernel
theorem dX4_plus_23 : decode cX4_plus 23 = .ok (.lload_n 3, 1) := by decide +kernel
theorem dX4_plus_24 : decode cX4_plus 24 = .ok (.aload_n 0, 1) := by decide +kernel
theorem dX4_plus_25 : decode cX4_plus 25 = .ok (.iload 5, 2) := by decide +kernel
theorem dX4_plus_27 : decode cX4_plus 27 = .ok (.invokevirtual 30, 3) := by decide +kernel
theorem dX4_plus_30 : decode cX4_plus 30 = .ok (.aload_n 1, 1) := by decide +kernel
theorem dX4_plus_31 : decode cX4_plus 31 = .ok (.iload 5, 2) := by decide +kernel
theorem dX4_plus_33 : decode cX4_plus 33 = .ok (.invokevirtual 30, 3) := by decide +kernel
theorem dX4_plus_36 : decode cX4_plus 36 = .ok (.ladd, 1) := by decide +kernel
theorem dX4_plus_37 : decode cX4_plus 37 = .ok (.ladd, 1) := by decide +kernel
theorem dX4_plus_38 : decode cX4_plus 38 = .ok (.lstore_n 3, 1) := by decide +kernel
theorem dX4_plus_39 : decode cX4_plus 39 = .ok (.aload_n 0, 1) := by decide +kernel
theorem dX4_plus_40 : decode cX4_plus 40 = .ok (.getfield 9, 3) := by decide +kernel
theorem dX4_plus_43 : decode cX4_plus 43 = .ok (.iload 5, 2) := by decide +kernel
theorem dX4_plus_45 : decode cX4_plus 45 = .ok (.lload_n 3, 1) := by decide +kernel
theorem dX4_plus_46 : decode cX4_plus 46 = .ok (.ldc2_w 13, 3) := by decide +kernel
theorem dX4_plus_49 : decode cX4_plus 49 = .ok (.land, 1) := by decide +kernel
theorem dX4_plus_50 : decode cX4_plus 50 = .ok (.lastore, 1) := by decide +kernel
theorem dX4_plus_51 : decode cX4_plus 51 = .ok (.lload_n 3, 1) := by decide +kernel
theorem dX4_plus_52 : decode cX4_plus 52 = .ok (.bipush 32, 2) := by decide +kernel
theorem dX4_plus_54 : decode cX4_plus 54 = .ok (.lushr, 1) := by decide +kernel
theorem dX4_plus_55 : decode cX4_plus 55 = .ok (.lstore_n 3, 1) := by decide +kernel
theorem dX4_plus_56 : decode cX4_plus 56 = .ok (.iinc 5 1, 3) := by decide +kernel
theorem dX4_plus_59 : decode cX4_plus 59 = .ok (.goto (-42), 3) := by decide +kernel
theorem dX4_plus_62 : decode cX4_plus 62 = .ok (.aload_n 0, 1) := by decide +kernel
theorem dX4_plus_63 : decode cX4_plus 63 = .ok (.iload_n 2, 1) := by decide +kernel
theorem dX4_plus_64 : decode cX4_plus 64 = .ok (.putfield 15, 3) := by decide +kernel
theorem dX4_plus_67 : decode cX4_plus 67 = .ok (.lload_n 3, 1) := by decide +kernel
theorem dX4_plus_68 : decode cX4_plus 68 = .ok (.lconst 0, 1) := by decide +kernel
theorem dX4_plus_69 : decode cX4_plus 69 = .ok (.lcmp, 1) := by decide +kernel
theorem dX4_plus_70 : decode cX4_plus 70 = .ok (.ifCond .eq 33, 3) := by decide +kernel
theorem dX4_plus_73 : decode cX4_plus 73 = .ok (.aload_n 0, 1) := by decide +kernel
theorem dX4_plus_74 : decode cX4_plus 74 = .ok (.getfield 15, 3) := by decide +kernel
theorem dX4_plus_77 : decode cX4_plus 77 = .ok (.sipush 160, 3) := by decide +kernel
theorem dX4_plus_80 : decode cX4_plus 80 = .ok (.if_icmp .ge 23, 3) := by decide +kernel
theorem dX4_plus_83 : decode cX4_plus 83 = .ok (.aload_n 0, 1) := by decide +kernel
theorem dX4_plus_84 : decode cX4_plus 84 = .ok (.getfield 9, 3) := by decide +kernel
theorem dX4_plus_87 : decode cX4_plus 87 = .ok (.aload_n 0, 1) := by decide +kernel
theorem dX4_plus_88 : decode cX4_plus 88 = .ok (.getfield 15, 3) := by decide +kernel
theorem dX4_plus_91 : decode cX4_plus 91 = .ok (.lload_n 3, 1) := by decide +kernel
theorem dX4_plus_92 : decode cX4_plus 92 = .ok (.lastore, 1) := by decide +kernel
theorem dX4_plus_93 : decode cX4_plus 93 = .ok (.aload_n 0, 1) := by decide +kernel
theorem dX4_plus_94 : decode cX4_plus 94 = .ok (.dup, 1) := by decide +kernel
theorem dX4_plus_95 : decode cX4_plus 95 = .ok (.getfield 15, 3) := by decide +kernel
theorem dX4_plus_98 : decode cX4_plus 98 = .ok (.iconst 1, 1) := by decide +kernel
theorem dX4_plus_99 : decode cX4_plus 99 = .ok (.iadd, 1) := by decide +kernel
theorem dX4_plus_100 : decode cX4_plus 100 = .ok (.putfield 15, 3) := by decide +kernel
theorem dX4_plus_103 : decode cX4_plus 103 = .ok (.return_, 1) := by decide +kernel
theorem dX4_shiftUp_0 : decode cX4_shiftUp 0 = .ok (.iload_n 1, 1) := by decide +kernel
theorem dX4_shiftUp_1 : decode cX4_shiftUp 1 = .ok (.iconst 5, 1) := by decide +kernel
theorem dX4_shiftUp_2 : decode cX4_shiftUp 2 = .ok (.ishr, 1) := by decide +kernel
theorem dX4_shiftUp_3 : decode cX4_shiftUp 3 = .ok (.istore_n 2, 1) := by decide +kernel
theorem dX4_shiftUp_4 : decode cX4_shiftUp 4 = .ok (.iload_n 1, 1) := by decide +kernel
theorem dX4_shiftUp_5 : decode cX4_shiftUp 5 = .ok (.bipush 31, 2) := by decide +kernel
theorem dX4_shiftUp_7 : decode cX4_shiftUp 7 = .ok (.iand, 1) := by decide +kernel
theorem dX4_shiftUp_8 : decode cX4_shiftUp 8 = .ok (.istore_n 3, 1) := by decide +kernel
theorem dX4_shiftUp_9 : decode cX4_shiftUp 9 = .ok (.iload_n 1, 1) := by decide +kernel
theorem dX4_shiftUp_10 : decode cX4_shiftUp 10 = .ok (.ifCond .le 22, 3) := by decide +kernel
theorem dX4_shiftUp_13 : decode cX4_shiftUp 13 = .ok (.aload_n 0, 1) := by decide +kernel
theorem dX4_shiftUp_14 : decode cX4_shiftUp 14 = .ok (.getfield 15, 3) := by decide +kernel
theorem dX4_shiftUp_17 : decode cX4_shiftUp 17 = .ok (.ifCond .eq 15, 3) := by decide +kernel
theorem dX4_shiftUp_20 : decode cX4_shiftUp 20 = .ok (.iload_n 2, 1) := by decide +kernel
theorem dX4_shiftUp_21 : decode cX4_shiftUp 21 = .ok (.sipush 160, 3) := by decide +kernel
theorem dX4_shiftUp_24 : decode cX4_shiftUp 24 = .ok (.aload_n 0, 1) := by decide +kernel
theorem dX4_shiftUp_25 : decode cX4_shiftUp 25 = .ok (.getfield 15, 3) := by decide +kernel
theorem dX4_shiftUp_28 : decode cX4_shiftUp 28 = .ok (.isub, 1) := by decide +kernel
theorem dX4_shiftUp_29 : decode cX4_shiftUp 29 = .ok (.if_icmp .lt 4, 3) := by decide +kernel
theorem dX4_shiftUp_32 : decode cX4_shiftUp 32 = .ok (.return_, 1) := by decide +kernel
theorem dX4_shiftUp_33 : decode cX4_shiftUp 33 = .ok (.aload_n 0, 1) := by decide +kernel
theorem dX4_shiftUp_34 : decode cX4_shiftUp 34 = .ok (.getfield 15, 3) := by decide +kernel
theorem dX4_shiftUp_37 : decode cX4_shiftUp 37 = .ok (.istore 4, 2) := by decide +kernel
theorem dX4_shiftUp_39 : decode cX4_shiftUp 39 = .ok (.iload 4, 2) := by decide +kernel
theorem dX4_shiftUp_41 : decode cX4_shiftUp 41 = .ok (.ifCond .lt 44, 3) := by decide +kernel
theorem dX4_shiftUp_44 : decode cX4_shiftUp 44 = .ok (.aload_n 0, 1) := by decide +kernel
theorem dX4_shiftUp_45 : decode cX4_shiftUp 45 = .ok (.getfield 9, 3) := by decide +kernel
theorem dX4_shiftUp_48 : decode cX4_shiftUp 48 = .ok (.iload 4, 2) := by decide +kernel
theorem dX4_shiftUp_50 : decode cX4_shiftUp 50 = .ok (.iload_n 2, 1) := by decide +kernel
theorem dX4_shiftUp_51 : decode cX4_shiftUp 51 = .ok (.iadd, 1) := by decide +kernel
theorem dX4_shiftUp_52 : decode cX4_shiftUp 52 = .ok (.aload_n 0, 1) := by decide +kernel
theorem dX4_shiftUp_53 : decode cX4_shiftUp 53 = .ok (.iload 4, 2) := by decide +kernel
theorem dX4_shiftUp_55 : decode cX4_shiftUp 55 = .ok (.invokevirtual 30, 3) := by decide +kernel
theorem dX4_shiftUp_58 : decode cX4_shiftUp 58 = .ok (.iload_n 3, 1) := by decide +kernel
theorem dX4_shiftUp_59 : decode cX4_shiftUp 59 = .ok (.lshl, 1) := by decide +kernel
theorem dX4_shiftUp_60 : decode cX4_shiftUp 60 = .ok (.ldc2_w 13, 3) := by decide +kernel
theorem dX4_shiftUp_63 : decode cX4_shiftUp 63 = .ok (.land, 1) := by decide +kernel
theorem dX4_shiftUp_64 : decode cX4_shiftUp 64 = .ok (.aload_n 0, 1) := by decide +kernel
theorem dX4_shiftUp_65 : decode cX4_shiftUp 65 = .ok (.iload 4, 2) := by decide +kernel
theorem dX4_shiftUp_67 : decode cX4_shiftUp 67 = .ok (.iconst 1, 1) := by decide +kernel
theorem dX4_shiftUp_68 : decode cX4_shiftUp 68 = .ok (.isub, 1) := by decide +kernel
theorem dX4_shiftUp_69 : decode cX4_shiftUp 69 = .ok (.invokevirtual 30, 3) := by decide +kernel
theorem dX4_shiftUp_72 : decode cX4_shiftUp 72 = .ok (.bipush 32, 2) := by decide +kernel
theorem dX4_shiftUp_74 : decode cX4_shiftUp 74 = .ok (.iload_n 3, 1) := by decide +kernel
theorem dX4_shiftUp_75 : decode cX4_shiftUp 75 = .ok (.isub, 1) := by decide +kernel
theorem dX4_shiftUp_76 : decode cX4_shiftUp 76 = .ok (.lushr, 1) := by decide +kernel
theorem dX4_shiftUp_77 : decode cX4_shiftUp 77 = .ok (.lor, 1) := by decide +kernel
theorem dX4_shiftUp_78 : decode cX4_shiftUp 78 = .ok (.lastore, 1) := by decide +kernel
theorem dX4_shiftUp_79 : decode cX4_shiftUp 79 = .ok (.iinc 4 (-1), 3) := by decide +kernel
theorem dX4_shiftUp_82 : decode cX4_shiftUp 82 = .ok (.goto (-43), 3) := by decide +kernel
theorem dX4_shiftUp_85 : decode cX4_shiftUp 85 = .ok (.iconst 0, 1) := by decide +kernel
theorem dX4_shiftUp_86 : decode cX4_shiftUp 86 = .ok (.istore 4, 2) := by decide +kernel
theorem dX4_shiftUp_88 : decode cX4_shiftUp 88 = .ok (.iload 4, 2) := by decide +kernel
theorem dX4_shiftUp_90 : decode cX4_shiftUp 90 = .ok (.iload_n 2, 1) := by decide +kernel
theorem dX4_shiftUp_91 : decode cX4_shiftUp 91 = .ok (.if_icmp .ge 17, 3) := by decide +kernel
theorem dX4_shiftUp_94 : decode cX4_shiftUp 94 = .ok (.aload_n 0, 1) := by decide +kernel
theorem dX4_shiftUp_95 : decode cX4_shiftUp 95 = .ok (.getfield 9, 3) := by decide +kernel
theorem dX4_shiftUp_98 : decode cX4_shiftUp 98 = .ok (.iload 4, 2) := by decide +kernel
theorem dX4_shiftUp_100 : decode cX4_shiftUp 100 = .ok (.lconst 0, 1) := by decide +kernel
theorem dX4_shiftUp_101 : decode cX4_shiftUp 101 = .ok (.lastore, 1) := by decide +kernel
theorem dX4_shiftUp_102 : decode cX4_shiftUp 102 = .ok (.iinc 4 1, 3) := by decide +kernel
theorem dX4_shiftUp_105 : decode cX4_shiftUp 105 = .ok (.goto (-17), 3) := by decide +kernel
theorem dX4_shiftUp_108 : decode cX4_shiftUp 108 = .ok (.aload_n 0, 1) := by decide +kernel
theorem dX4_shiftUp_109 : decode cX4_shiftUp 109 = .ok (.dup, 1) := by decide +kernel
theorem dX4_shiftUp_110 : decode cX4_shiftUp 110 = .ok (.getfield 15, 3) := by decide +kernel
theorem dX4_shiftUp_113 : decode cX4_shiftUp 113 = .ok (.iload_n 2, 1) := by decide +kernel
theorem dX4_shiftUp_114 : decode cX4_shiftUp 114 = .ok (.iconst 1, 1) := by decide +kernel
theorem dX4_shiftUp_115 : decode cX4_shiftUp 115 = .ok (.iadd, 1) := by decide +kernel
theorem dX4_shiftUp_116 : decode cX4_shiftUp 116 = .ok (.iadd, 1) := by decide +kernel
theorem dX4_shiftUp_117 : decode cX4_shiftUp 117 = .ok (.putfield 15, 3) := by decide +kernel
theorem dX4_shiftUp_120 : decode cX4_shiftUp 120 = .ok (.aload_n 0, 1) := by decide +kernel
theorem dX4_shiftUp_121 : decode cX4_shiftUp 121 = .ok (.invokevirtual 19, 3) := by decide +kernel
theorem dX4_shiftUp_124 : decode cX4_shiftUp 124 = .ok (.return_, 1) := by decide +kernel
theorem dX0_leftAnd_0 : decode cX0_leftAnd 0 = .ok (.iload_n 1, 1) := by decide +kernel
theorem dX0_leftAnd_1 : decode cX0_leftAnd 1 = .ok (.ifCond .ne 12, 3) := by decide +kernel
theorem dX0_leftAnd_4 : decode cX0_leftAnd 4 = .ok (.aload 4, 2) := by decide +kernel
theorem dX0_leftAnd_6 : decode cX0_leftAnd 6 = .ok (.getfield 18, 3) := by decide +kernel
theorem dX0_leftAnd_9 : decode cX0_leftAnd 9 = .ok (.iconst 3, 1) := by decide +kernel
theorem dX0_leftAnd_10 : decode cX0_leftAnd 10 = .ok (.if_icmp .ne 64, 3) := by decide +kernel
theorem dX0_leftAnd_13 : decode cX0_leftAnd 13 = .ok (.iload_n 1, 1) := by decide +kernel
theorem dX0_leftAnd_14 : decode cX0_leftAnd 14 = .ok (.ifCond .eq 25, 3) := by decide +kernel
theorem dX0_leftAnd_17 : decode cX0_leftAnd 17 = .ok (.aload 4, 2) := by decide +kernel
theorem dX0_leftAnd_19 : decode cX0_leftAnd 19 = .ok (.getfield 18, 3) := by decide +kernel
theorem dX0_leftAnd_22 : decode cX0_leftAnd 22 = .ok (.iconst 3, 1) := by decide +kernel
theorem dX0_leftAnd_23 : decode cX0_leftAnd 23 = .ok (.if_icmp .ne 16, 3) := by decide +kernel
theorem dX0_leftAnd_26 : decode cX0_leftAnd 26 = .ok (.iload_n 2, 1) := by decide +kernel
theorem dX0_leftAnd_27 : decode cX0_leftAnd 27 = .ok (.aload 4, 2) := by decide +kernel
theorem dX0_leftAnd_29 : decode cX0_leftAnd 29 = .ok (.getfield 30, 3) := by decide +kernel
theorem dX0_leftAnd_32 : decode cX0_leftAnd 32 = .ok (.if_icmp .eq 7, 3) := by decide +kernel
theorem dX0_leftAnd_35 : decode cX0_leftAnd 35 = .ok (.iconst 1, 1) := by decide +kernel
theorem dX0_leftAnd_36 : decode cX0_leftAnd 36 = .ok (.goto 4, 3) := by decide +kernel
theorem dX0_leftAnd_39 : decode cX0_leftAnd 39 = .ok (.iconst 0, 1) := by decide +kernel
theorem dX0_leftAnd_40 : decode cX0_leftAnd 40 = .ok (.istore 7, 2) := by decide +kernel
theorem dX0_leftAnd_42 : decode cX0_leftAnd 42 = .ok (.iload 7, 2) := by decide +kernel
theorem dX0_leftAnd_44 : decode cX0_leftAnd 44 = .ok (.ifCond .eq 11, 3) := by decide +kernel
theorem dX0_leftAnd_47 : decode cX0_leftAnd 47 = .ok (.iload 5, 2) := by decide +kernel
theorem dX0_leftAnd_49 : decode cX0_leftAnd 49 = .ok (.invokestatic 24, 3) := by decide +kernel
theorem dX0_leftAnd_52 : decode cX0_leftAnd 52 = .ok (.goto 21, 3) := by decide +kernel
theorem dX0_leftAnd_55 : decode cX0_leftAnd 55 = .ok (.iload 5, 2) := by decide +kernel
theorem dX0_leftAnd_57 : decode cX0_leftAnd 57 = .ok (.iload_n 1, 1) := by decide +kernel
theorem dX0_leftAnd_58 : decode cX0_leftAnd 58 = .ok (.ifCond .eq 7, 3) := by decide +kernel
theorem dX0_leftAnd_61 : decode cX0_leftAnd 61 = .ok (.iload_n 2, 1) := by decide +kernel
theorem dX0_leftAnd_62 : decode cX0_leftAnd 62 = .ok (.goto 8, 3) := by decide +kernel
theorem dX0_leftAnd_65 : decode cX0_leftAnd 65 = .ok (.aload 4, 2) := by decide +kernel
theorem dX0_leftAnd_67 : decode cX0_leftAnd 67 = .ok (.getfield 30, 3) := by decide +kernel
theorem dX0_leftAnd_70 : decode cX0_leftAnd 70 = .ok (.invokestatic 34, 3) := by decide +kernel
theorem dX0_leftAnd_73 : decode cX0_leftAnd 73 = .ok (.lreturn, 1) := by decide +kernel
theorem dX0_leftAnd_74 : decode cX0_leftAnd 74 = .ok (.aload_n 0, 1) := by decide +kernel
theorem dX0_leftAnd_75 : decode cX0_leftAnd 75 = .ok (.getfield 15, 3) := by decide +kernel
theorem dX0_leftAnd_78 : decode cX0_leftAnd 78 = .ok (.aload 4, 2) := by decide +kernel
theorem dX0_leftAnd_80 : decode cX0_leftAnd 80 = .ok (.getfield 38, 3) := by decide +kernel
theorem dX0_leftAnd_83 : decode cX0_leftAnd 83 = .ok (.invokevirtual 42, 3) := by decide +kernel
theorem dX0_leftAnd_86 : decode cX0_leftAnd 86 = .ok (.iload_n 3, 1) := by decide +kernel
theorem dX0_leftAnd_87 : decode cX0_leftAnd 87 = .ok (.aload 4, 2) := by decide +kernel
theorem dX0_leftAnd_89 : decode cX0_leftAnd 89 = .ok (.getfield 48, 3) := by decide +kernel
theorem dX0_leftAnd_92 : decode cX0_leftAnd 92 = .ok (.invokestatic 123, 3) := by decide +kernel
theorem dX0_leftAnd_95 : decode cX0_leftAnd 95 = .ok (.istore 7, 2) := by decide +kernel
theorem dX0_leftAnd_97 : decode cX0_leftAnd 97 = .ok (.aload_n 0, 1) := by decide +kernel
theorem dX0_leftAnd_98 : decode cX0_leftAnd 98 = .ok (.getfield 9, 3) := by decide +kernel
theorem dX0_leftAnd_101 : decode cX0_leftAnd 101 = .ok (.iload_n 3, 1) := by decide +kernel
theorem dX0_leftAnd_102 : decode cX0_leftAnd 102 = .ok (.iload 7, 2) := by decide +kernel
theorem dX0_leftAnd_104 : decode cX0_leftAnd 104 = .ok (.isub, 1) := by decide +kernel
theorem dX0_leftAnd_105 : decode cX0_leftAnd 105 = .ok (.invokevirtual 115, 3) := by decide +kernel
theorem dX0_leftAnd_108 : decode cX0_leftAnd 108 = .ok (.aload_n 0, 1) := by decide +kernel
theorem dX0_leftAnd_109 : decode cX0_leftAnd 109 = .ok (.getfield 15, 3) := by decide +kernel
theorem dX0_leftAnd_112 : decode cX0_leftAnd 112 = .ok (.aload 4, 2) := by decide +kernel
theorem dX0_leftAnd_114 : decode cX0_leftAnd 114 = .ok (.getfield 48, 3) := by decide +kernel
theorem dX0_leftAnd_117 : decode cX0_leftAnd 117 = .ok (.iload 7, 2) := by decide +kernel
theorem dX0_leftAnd_119 : decode cX0_leftAnd 119 = .ok (.isub, 1) := by decide +kernel
theorem dX0_leftAnd_120 : decode cX0_leftAnd 120 = .ok (.invokevirtual 115, 3) := by decide +kernel
theorem dX0_leftAnd_123 : decode cX0_leftAnd 123 = .ok (.iload_n 2, 1) := by decide +kernel
theorem dX0_leftAnd_124 : decode cX0_leftAnd 124 = .ok (.aload 4, 2) := by decide +kernel
theorem dX0_leftAnd_126 : decode cX0_leftAnd 126 = .ok (.getfield 30, 3) := by decide +kernel
theorem dX0_leftAnd_129 : decode cX0_leftAnd 129 = .ok (.if_icmp .ne 30, 3) := by decide +kernel
theorem dX0_leftAnd_132 : decode cX0_leftAnd 132 = .ok (.aload_n 0, 1) := by decide +kernel
theorem dX0_leftAnd_133 : decode cX0_leftAnd 133 = .ok (.getfield 9, 3) := by decide +kernel
theorem dX0_leftAnd_136 : decode cX0_leftAnd 136 = .ok (.aload_n 0, 1) := by decide +kernel
theorem dX0_leftAnd_137 : decode cX0_leftAnd 137 = .ok (.getfield 15, 3) := by decide +kernel
theorem dX0_leftAnd_140 : decode cX0_leftAnd 140 = .ok (.invokevirtual 120, 3) := by decide +kernel
theorem dX0_leftAnd_143 : decode cX0_leftAnd 143 = .ok (.iload_n 2, 1) := by decide +kernel
theorem dX0_leftAnd_144 : decode cX0_leftAnd 144 = .ok (.aload_n 0, 1) := by decide +kernel
theorem dX0_leftAnd_145 : decode cX0_leftAnd 145 = .ok (.getfield 9, 3) := by decide +kernel
theorem dX0_leftAnd_148 : decode cX0_leftAnd 148 = .ok (.iload 7, 2) := by decide +kernel
theorem dX0_leftAnd_150 : decode cX0_leftAnd 150 = .ok (.iconst 0, 1) := by decide +kernel
theorem dX0_leftAnd_151 : decode cX0_leftAnd 151 = .ok (.iload 5, 2) := by decide +kernel
theorem dX0_leftAnd_153 : decode cX0_leftAnd 153 = .ok (.iload 6, 2) := by decide +kernel
theorem dX0_leftAnd_155 : decode cX0_leftAnd 155 = .ok (.invokestatic 51, 3) := by decide +kernel
theorem dX0_leftAnd_158 : decode cX0_leftAnd 158 = .ok (.lreturn, 1) := by decide +kernel
theorem dX0_leftAnd_159 : decode cX0_leftAnd 159 = .ok (.aload_n 0, 1) := by decide +kernel
theorem dX0_leftAnd_160 : decode cX0_leftAnd 160 = .ok (.getfield 9, 3) := by decide +kernel
theorem dX0_leftAnd_163 : decode cX0_leftAnd 163 = .ok (.aload_n 0, 1) := by decide +kernel
theorem dX0_leftAnd_164 : decode cX0_leftAnd 164 = .ok (.getfield 15, 3) := by decide +kernel
theorem dX0_leftAnd_167 : decode cX0_leftAnd 167 = .ok (.invokevirtual 129, 3) := by decide +kernel
theorem dX0_leftAnd_170 : decode cX0_leftAnd 170 = .ok (.istore 8, 2) := by decide +kernel
theorem dX0_leftAnd_172 : decode cX0_leftAnd 172 = .ok (.iload 8, 2) := by decide +kernel
theorem dX0_leftAnd_174 : decode cX0_leftAnd 174 = .ok (.ifCond .ne 20, 3) := by decide +kernel
theorem dX0_leftAnd_177 : decode cX0_leftAnd 177 = .ok (.iload 5, 2) := by decide +kernel
theorem dX0_leftAnd_179 : decode cX0_leftAnd 179 = .ok (.iload 6, 2) := by decide +kernel
theorem dX0_leftAnd_181 : decode cX0_leftAnd 181 = .ok (.iconst 3, 1) := by decide +kernel
theorem dX0_leftAnd_182 : decode cX0_leftAnd 182 = .ok (.if_icmp .ne 7, 3) := by decide +kernel
theorem dX0_leftAnd_185 : decode cX0_leftAnd 185 = .ok (.iconst 1, 1) := by decide +kernel
theorem dX0_leftAnd_186 : decode cX0_leftAnd 186 = .ok (.goto 4, 3) := by decide +kernel
theorem dX0_leftAnd_189 : decode cX0_leftAnd 189 = .ok (.iconst 0, 1) := by decide +kernel
theorem dX0_leftAnd_190 : decode cX0_leftAnd 190 = .ok (.invokestatic 67, 3) := by decide +kernel
theorem dX0_leftAnd_193 : decode cX0_leftAnd 193 = .ok (.lreturn, 1) := by decide +kernel
theorem dX0_leftAnd_194 : decode cX0_leftAnd 194 = .ok (.iload 8, 2) := by decide +kernel
theorem dX0_leftAnd_196 : decode cX0_leftAnd 196 = .ok (.ifCond .le 30, 3) := by decide +kernel
theorem dX0_leftAnd_199 : decode cX0_leftAnd 199 = .ok (.aload_n 0, 1) := by decide +kernel
theorem dX0_leftAnd_200 : decode cX0_leftAnd 200 = .ok (.getfield 9, 3) := by decide +kernel
theorem dX0_leftAnd_203 : decode cX0_leftAnd 203 = .ok (.aload_n 0, 1) := by decide +kernel
theorem dX0_leftAnd_204 : decode cX0_leftAnd 204 = .ok (.getfield 15, 3) := by decide +kernel
theorem dX0_leftAnd_207 : decode cX0_leftAnd 207 = .ok (.invokevirtual 133, 3) := by decide +kernel
theorem dX0_leftAnd_210 : decode cX0_leftAnd 210 = .ok (.iload_n 2, 1) := by decide +kernel
theorem dX0_leftAnd_211 : decode cX0_leftAnd 211 = .ok (.aload_n 0, 1) := by decide +kernel
theorem dX0_leftAnd_212 : decode cX0_leftAnd 212 = .ok (.getfield 9, 3) := by decide +kernel
theorem dX0_leftAnd_215 : decode cX0_leftAnd 215 = .ok (.iload 7, 2) := by decide +kernel
theorem dX0_leftAnd_217 : decode cX0_leftAnd 217 = .ok (.iconst 0, 1) := by decide +kernel
theorem dX0_leftAnd_218 : decode cX0_leftAnd 218 = .ok (.iload 5, 2) := by decide +kernel
theorem dX0_leftAnd_220 : decode cX0_leftAnd 220 = .ok (.iload 6, 2) := by decide +kernel
theorem dX0_leftAnd_222 : decode cX0_leftAnd 222 = .ok (.invokestatic 51, 3) := by decide +kernel
theorem dX0_leftAnd_225 : decode cX0_leftAnd 225 = .ok (.lreturn, 1) := by decide +kernel
theorem dX0_leftAnd_226 : decode cX0_leftAnd 226 = .ok (.aload_n 0, 1) := by decide +kernel
theorem dX0_leftAnd_227 : decode cX0_leftAnd 227 = .ok (.getfield 15, 3) := by decide +kernel
theorem dX0_leftAnd_230 : decode cX0_leftAnd 230 = .ok (.aload_n 0, 1) := by decide +kernel
theorem dX0_leftAnd_231 : decode cX0_leftAnd 231 = .ok (.getfield 9, 3) := by decide +kernel
theorem dX0_leftAnd_234 : decode cX0_leftAnd 234 = .ok (.invokevirtual 133, 3) := by decide +kernel
theorem dX0_leftAnd_237 : decode cX0_leftAnd 237 = .ok (.aload 4, 2) := by decide +kernel
theorem dX0_leftAnd_239 : decode cX0_leftAnd 239 = .ok (.getfield 30, 3) := by decide +kernel
theorem dX0_leftAnd_242 : decode cX0_leftAnd 242 = .ok (.aload_n 0, 1) := by decide +kernel
theorem dX0_leftAnd_243 : decode cX0_leftAnd 243 = .ok (.getfield 15, 3) := by decide +kernel
theorem dX0_leftAnd_246 : decode cX0_leftAnd 246 = .ok (.iload 7, 2) := by decide +kernel
theorem dX0_leftAnd_248 : decode cX0_leftAnd 248 = .ok (.iconst 0, 1) := by decide +kernel
theorem dX0_leftAnd_249 : decode cX0_leftAnd 249 = .ok (.iload 5, 2) := by decide +kernel
theorem dX0_leftAnd_251 : decode cX0_leftAnd 251 = .ok (.iload 6, 2) := by decide +kernel
theorem dX0_leftAnd_253 : decode cX0_leftAnd 253 = .ok (.invokestatic 51, 3) := by decide +kernel
theorem dX0_leftAnd_256 : decode cX0_leftAnd 256 = .ok (.lreturn, 1) := by decide +kernel
theorem dX0_sum_0 : decode cX0_sum 0 = .ok (.aload_n 1, 1) := by decide +kernel
theorem dX0_sum_1 : decode cX0_sum 1 = .ok (.getfield 18, 3) := by decide +kernel
theorem dX0_sum_4 : decode cX0_sum 4 = .ok (.iconst 4, 1) := by decide +kernel
theorem dX0_sum_5 : decode cX0_sum 5 = .ok (.if_icmp .eq 11, 3) := by decide +kernel
theorem dX0_sum_8 : decode cX0_sum 8 = .ok (.aload_n 2, 1) := by decide +kernel
theorem dX0_sum_9 : decode cX0_sum 9 = .ok (.getfield 18, 3) := by decide +kernel
theorem dX0_sum_12 : decode cX0_sum 12 = .ok (.iconst 4, 1) := by decide +kernel
theorem dX0_sum_13 : decode cX0_sum 13 = .ok (.if_icmp .ne 8, 3) := by decide +kernel
theorem dX0_sum_16 : decode cX0_sum 16 = .ok (.iload_n 3, 1) := by decide +kernel
theorem dX0_sum_17 : decode cX0_sum 17 = .ok (.invokestatic 24, 3) := by decide +kernel
theorem dX0_sum_20 : decode cX0_sum 20 = .ok (.lreturn, 1) := by decide +kernel
theorem dX0_sum_21 : decode cX0_sum 21 = .ok (.aload_n 0, 1) := by decide +kernel
theorem dX0_sum_22 : decode cX0_sum 22 = .ok (.getfield 9, 3) := by decide +kernel
theorem dX0_sum_25 : decode cX0_sum 25 = .ok (.aload_n 1, 1) := by decide +kernel
theorem dX0_sum_26 : decode cX0_sum 26 = .ok (.getfield 38, 3) := by decide +kernel
theorem dX0_sum_29 : decode cX0_sum 29 = .ok (.invokevirtual 42, 3) := by decide +kernel
theorem dX0_sum_32 : decode cX0_sum 32 = .ok (.aload_n 0, 1) := by decide +kernel
theorem dX0_sum_33 : decode cX0_sum 33 = .ok (.aload_n 1, 1) := by decide +kernel
theorem dX0_sum_34 : decode cX0_sum 34 = .ok (.getfield 18, 3) := by decide +kernel
theorem dX0_sum_37 : decode cX0_sum 37 = .ok (.iconst 3, 1) := by decide +kernel
theorem dX0_sum_38 : decode cX0_sum 38 = .ok (.if_icmp .ne 7, 3) := by decide +kernel
theorem dX0_sum_41 : decode cX0_sum 41 = .ok (.iconst 1, 1) := by decide +kernel
theorem dX0_sum_42 : decode cX0_sum 42 = .ok (.goto 4, 3) := by decide +kernel
theorem dX0_sum_45 : decode cX0_sum 45 = .ok (.iconst 0, 1) := by decide +kernel
theorem dX0_sum_46 : decode cX0_sum 46 = .ok (.aload_n 1, 1) := by decide +kernel
theorem dX0_sum_47 : decode cX0_sum 47 = .ok (.getfield 30, 3) := by decide +kernel
theorem dX0_sum_50 : decode cX0_sum 50 = .ok (.aload_n 1, 1) := by decide +kernel
theorem dX0_sum_51 : decode cX0_sum 51 = .ok (.getfield 48, 3) := by decide +kernel
theorem dX0_sum_54 : decode cX0_sum 54 = .ok (.aload_n 2, 1) := by decide +kernel
theorem dX0_sum_55 : decode cX0_sum 55 = .ok (.iload_n 3, 1) := by decide +kernel
theorem dX0_sum_56 : decode cX0_sum 56 = .ok (.iload 4, 2) := by decide +kernel
theorem dX0_sum_58 : decode cX0_sum 58 = .ok (.invokevirtual 55, 3) := by decide +kernel
theorem dX0_sum_61 : decode cX0_sum 61 = .ok (.lreturn, 1) := by decide +kernel
theorem dX0_hasNoProduct_0 : decode cX0_hasNoProduct 0 = .ok (.aload_n 0, 1) := by decide +kernel
theorem dX0_hasNoProduct_1 : decode cX0_hasNoProduct 1 = .ok (.getfield 18, 3) := by decide +kernel
theorem dX0_hasNoProduct_4 : decode cX0_hasNoProduct 4 = .ok (.ifCond .ne 15, 3) := by decide +kernel
theorem dX0_hasNoProduct_7 : decode cX0_hasNoProduct 7 = .ok (.aload_n 1, 1) := by decide +kernel
theorem dX0_hasNoProduct_8 : decode cX0_hasNoProduct 8 = .ok (.getfield 18, 3) := by decide +kernel
theorem dX0_hasNoProduct_11 : decode cX0_hasNoProduct 11 = .ok (.iconst 3, 1) := by decide +kernel
theorem dX0_hasNoProduct_12 : decode cX0_hasNoProduct 12 = .ok (.if_icmp .ne 7, 3) := by decide +kernel
theorem dX0_hasNoProduct_15 : decode cX0_hasNoProduct 15 = .ok (.iconst 1, 1) := by decide +kernel
theorem dX0_hasNoProduct_16 : decode cX0_hasNoProduct 16 = .ok (.goto 4, 3) := by decide +kernel
theorem dX0_hasNoProduct_19 : decode cX0_hasNoProduct 19 = .ok (.iconst 0, 1) := by decide +kernel
theorem dX0_hasNoProduct_20 : decode cX0_hasNoProduct 20 = .ok (.istore_n 2, 1) := by decide +kernel
theorem dX0_hasNoProduct_21 : decode cX0_hasNoProduct 21 = .ok (.aload_n 0, 1) := by decide +kernel
theorem dX0_hasNoProduct_22 : decode cX0_hasNoProduct 22 = .ok (.getfield 18, 3) := by decide +kernel
theorem dX0_hasNoProduct_25 : decode cX0_hasNoProduct 25 = .ok (.iconst 3, 1) := by decide +kernel
theorem dX0_hasNoProduct_26 : decode cX0_hasNoProduct 26 = .ok (.if_icmp .ne 14, 3) := by decide +kernel
theorem dX0_hasNoProduct_29 : decode cX0_hasNoProduct 29 = .ok (.aload_n 1, 1) := by decide +kernel
theorem dX0_hasNoProduct_30 : decode cX0_hasNoProduct 30 = .ok (.getfield 18, 3) := by decide +kernel
theorem dX0_hasNoProduct_33 : decode cX0_hasNoProduct 33 = .ok (.ifCond .ne 7, 3) := by decide +kernel
theorem dX0_hasNoProduct_36 : decode cX0_hasNoProduct 36 = .ok (.iconst 1, 1) := by decide +kernel
theorem dX0_hasNoProduct_37 : decode cX0_hasNoProduct 37 = .ok (.goto 4, 3) := by decide +kernel
theorem dX0_hasNoProduct_40 : decode cX0_hasNoProduct 40 = .ok (.iconst 0, 1) := by decide +kernel
theorem dX0_hasNoProduct_41 : decode cX0_hasNoProduct 41 = .ok (.istore_n 3, 1) := by decide +kernel
theorem dX0_hasNoProduct_42 : decode cX0_hasNoProduct 42 = .ok (.aload_n 0, 1) := by decide +kernel
theorem dX0_hasNoProduct_43 : decode cX0_hasNoProduct 43 = .ok (.getfield 18, 3) := by decide +kernel
theorem dX0_hasNoProduct_46 : decode cX0_hasNoProduct 46 = .ok (.iconst 4, 1) := by decide +kernel
theorem dX0_hasNoProduct_47 : decode cX0_hasNoProduct 47 = .ok (.if_icmp .eq 19, 3) := by decide +kernel
theorem dX0_hasNoProduct_50 : decode cX0_hasNoProduct 50 = .ok (.aload_n 1, 1) := by decide +kernel
theorem dX0_hasNoProduct_51 : decode cX0_hasNoProduct 51 = .ok (.getfield 18, 3) := by decide +kernel
theorem dX0_hasNoProduct_54 : decode cX0_hasNoProduct 54 = .ok (.iconst 4, 1) := by decide +kernel
theorem dX0_hasNoProduct_55 : decode cX0_hasNoProduct 55 = .ok (.if_icmp .eq 11, 3) := by decide +kernel
theorem dX0_hasNoProduct_58 : decode cX0_hasNoProduct 58 = .ok (.iload_n 2, 1) := by decide +kernel
theorem dX0_hasNoProduct_59 : decode cX0_hasNoProduct 59 = .ok (.ifCond .ne 7, 3) := by decide +kernel
theorem dX0_hasNoProduct_62 : decode cX0_hasNoProduct 62 = .ok (.iload_n 3, 1) := by decide +kernel
theorem dX0_hasNoProduct_63 : decode cX0_hasNoProduct 63 = .ok (.ifCond .eq 7, 3) := by decide +kernel
theorem dX0_hasNoProduct_66 : decode cX0_hasNoProduct 66 = .ok (.iconst 1, 1) := by decide +kernel
theorem dX0_hasNoProduct_67 : decode cX0_hasNoProduct 67 = .ok (.goto 4, 3) := by decide +kernel
theorem dX0_hasNoProduct_70 : decode cX0_hasNoProduct 70 = .ok (.iconst 0, 1) := by decide +kernel
theorem dX0_hasNoProduct_71 : decode cX0_hasNoProduct 71 = .ok (.ireturn, 1) := by decide +kernel
theorem dX4_scale_0 : decode cX4_scale 0 = .ok (.lload_n 3, 1) := by decide +kernel
theorem dX4_scale_1 : decode cX4_scale 1 = .ok (.lstore 5, 2) := by decide +kernel
theorem dX4_scale_3 : decode cX4_scale 3 = .ok (.lload_n 1, 1) := by decide +kernel
theorem dX4_scale_4 : decode cX4_scale 4 = .ok (.lconst 0, 1) := by decide +kernel
theorem dX4_scale_5 : decode cX4_scale 5 = .ok (.lcmp, 1) := by decide +kernel
theorem dX4_scale_6 : decode cX4_scale 6 = .ok (.ifCond .ne 8, 3) := by decide +kernel
theorem dX4_scale_9 : decode cX4_scale 9 = .ok (.aload_n 0, 1) := by decide +kernel
theorem dX4_scale_10 : decode cX4_scale 10 = .ok (.iconst 0, 1) := by decide +kernel
theorem dX4_scale_11 : decode cX4_scale 11 = .ok (.putfield 15, 3) := by decide +kernel
theorem dX4_scale_14 : decode cX4_scale 14 = .ok (.iconst 0, 1) := by decide +kernel
theorem dX4_scale_15 : decode cX4_scale 15 = .ok (.istore 7, 2) := by decide +kernel
theorem dX4_scale_17 : decode cX4_scale 17 = .ok (.iload 7, 2) := by decide +kernel
theorem dX4_scale_19 : decode cX4_scale 19 = .ok (.aload_n 0, 1) := by decide +kernel
theorem dX4_scale_20 : decode cX4_scale 20 = .ok (.getfield 15, 3) := by decide +kernel
theorem dX4_scale_23 : decode cX4_scale 23 = .ok (.if_icmp .ge 43, 3) := by decide +kernel
theorem dX4_scale_26 : decode cX4_scale 26 = .ok (.lload 5, 2) := by decide +kernel
theorem dX4_scale_28 : decode cX4_scale 28 = .ok (.aload_n 0, 1) := by decide +kernel
theorem dX4_scale_29 : decode cX4_scale 29 = .ok (.getfield 9, 3) := by decide +kernel
theorem dX4_scale_32 : decode cX4_scale 32 = .ok (.iload 7, 2) := by decide +kernel
theorem dX4_scale_34 : decode cX4_scale 34 = .ok (.laload, 1) := by decide +kernel
theorem dX4_scale_35 : decode cX4_scale 35 = .ok (.lload_n 1, 1) := by decide +kernel
theorem dX4_scale_36 : decode cX4_scale 36 = .ok (.lmul, 1) := by decide +kernel
theorem dX4_scale_37 : decode cX4_scale 37 = .ok (.ladd, 1) := by decide +kernel
theorem dX4_scale_38 : decode cX4_scale 38 = .ok (.lstore 5, 2) := by decide +kernel
theorem dX4_scale_40 : decode cX4_scale 40 = .ok (.aload_n 0, 1) := by decide +kernel
theorem dX4_scale_41 : decode cX4_scale 41 = .ok (.getfield 9, 3) := by decide +kernel
theorem dX4_scale_44 : decode cX4_scale 44 = .ok (.iload 7, 2) := by decide +kernel
theorem dX4_scale_46 : decode cX4_scale 46 = .ok (.lload 5, 2) := by decide +kernel
theorem dX4_scale_48 : decode cX4_scale 48 = .ok (.ldc2_w 13, 3) := by decide +kernel
theorem dX4_scale_51 : decode cX4_scale 51 = .ok (.land, 1) := by decide +kernel
theorem dX4_scale_52 : decode cX4_scale 52 = .ok (.lastore, 1) := by decide +kernel
theorem dX4_scale_53 : decode cX4_scale 53 = .ok (.lload 5, 2) := by decide +kernel
theorem dX4_scale_55 : decode cX4_scale 55 = .ok (.bipush 32, 2) := by decide +kernel
theorem dX4_scale_57 : decode cX4_scale 57 = .ok (.lushr, 1) := by decide +kernel
theorem dX4_scale_58 : decode cX4_scale 58 = .ok (.lstore 5, 2) := by decide +kernel
theorem dX4_scale_60 : decode cX4_scale 60 = .ok (.iinc 7 1, 3) := by decide +kernel
theorem dX4_scale_63 : decode cX4_scale 63 = .ok (.goto (-46), 3) := by decide +kernel
theorem dX4_scale_66 : decode cX4_scale 66 = .ok (.lload 5, 2) := by decide +kernel
theorem dX4_scale_68 : decode cX4_scale 68 = .ok (.lconst 0, 1) := by decide +kernel
theorem dX4_scale_69 : decode cX4_scale 69 = .ok (.lcmp, 1) := by decide +kernel
theorem dX4_scale_70 : decode cX4_scale 70 = .ok (.ifCond .eq 34, 3) := by decide +kernel
theorem dX4_scale_73 : decode cX4_scale 73 = .ok (.aload_n 0, 1) := by decide +kernel
theorem dX4_scale_74 : decode cX4_scale 74 = .ok (.getfield 15, 3) := by decide +kernel
theorem dX4_scale_77 : decode cX4_scale 77 = .ok (.sipush 160, 3) := by decide +kernel
theorem dX4_scale_80 : decode cX4_scale 80 = .ok (.if_icmp .ge 24, 3) := by decide +kernel
theorem dX4_scale_83 : decode cX4_scale 83 = .ok (.aload_n 0, 1) := by decide +kernel
theorem dX4_scale_84 : decode cX4_scale 84 = .ok (.getfield 9, 3) := by decide +kernel
theorem dX4_scale_87 : decode cX4_scale 87 = .ok (.aload_n 0, 1) := by decide +kernel
theorem dX4_scale_88 : decode cX4_scale 88 = .ok (.getfield 15, 3) := by decide +kernel
theorem dX4_scale_91 : decode cX4_scale 91 = .ok (.lload 5, 2) := by decide +kernel
theorem dX4_scale_93 : decode cX4_scale 93 = .ok (.lastore, 1) := by decide +kernel
theorem dX4_scale_94 : decode cX4_scale 94 = .ok (.aload_n 0, 1) := by decide +kernel
theorem dX4_scale_95 : decode cX4_scale 95 = .ok (.dup, 1) := by decide +kernel
theorem dX4_scale_96 : decode cX4_scale 96 = .ok (.getfield 15, 3) := by decide +kernel
theorem dX4_scale_99 : decode cX4_scale 99 = .ok (.iconst 1, 1) := by decide +kernel
theorem dX4_scale_100 : decode cX4_scale 100 = .ok (.iadd, 1) := by decide +kernel
theorem dX4_scale_101 : decode cX4_scale 101 = .ok (.putfield 15, 3) := by decide +kernel
theorem dX4_scale_104 : decode cX4_scale 104 = .ok (.return_, 1) := by decide +kernel
theorem dX0_multiply_0 : decode cX0_multiply 0 = .ok (.aload_n 0, 1) := by decide +kernel
theorem dX0_multiply_1 : decode cX0_multiply 1 = .ok (.getfield 9, 3) := by decide +kernel
theorem dX0_multiply_4 : decode cX0_multiply 4 = .ok (.lload_n 1, 1) := by decide +kernel
theorem dX0_multiply_5 : decode cX0_multiply 5 = .ok (.invokevirtual 42, 3) := by decide +kernel
theorem dX0_multiply_8 : decode cX0_multiply 8 = .ok (.aload_n 0, 1) := by decide +kernel
theorem dX0_multiply_9 : decode cX0_multiply 9 = .ok (.getfield 9, 3) := by decide +kernel
theorem dX0_multiply_12 : decode cX0_multiply 12 = .ok (.lload_n 3, 1) := by decide +kernel
theorem dX0_multiply_13 : decode cX0_multiply 13 = .ok (.bipush 32, 2) := by decide +kernel
theorem dX0_multiply_15 : decode cX0_multiply 15 = .ok (.lushr, 1) := by decide +kernel
theorem dX0_multiply_16 : decode cX0_multiply 16 = .ok (.lconst 0, 1) := by decide +kernel
theorem dX0_multiply_17 : decode cX0_multiply 17 = .ok (.invokevirtual 112, 3) := by decide +kernel
theorem dX0_multiply_20 : decode cX0_multiply 20 = .ok (.aload_n 0, 1) := by decide +kernel
theorem dX0_multiply_21 : decode cX0_multiply 21 = .ok (.getfield 9, 3) := by decide +kernel
theorem dX0_multiply_24 : decode cX0_multiply 24 = .ok (.bipush 32, 2) := by decide +kernel
theorem dX0_multiply_26 : decode cX0_multiply 26 = .ok (.invokevirtual 115, 3) := by decide +kernel
theorem dX0_multiply_29 : decode cX0_multiply 29 = .ok (.aload_n 0, 1) := by decide +kernel
theorem dX0_multiply_30 : decode cX0_multiply 30 = .ok (.getfield 15, 3) := by decide +kernel
theorem dX0_multiply_33 : decode cX0_multiply 33 = .ok (.lload_n 1, 1) := by decide +kernel
theorem dX0_multiply_34 : decode cX0_multiply 34 = .ok (.invokevirtual 42, 3) := by decide +kernel
theorem dX0_multiply_37 : decode cX0_multiply 37 = .ok (.aload_n 0, 1) := by decide +kernel
theorem dX0_multiply_38 : decode cX0_multiply 38 = .ok (.getfield 15, 3) := by decide +kernel
theorem dX0_multiply_41 : decode cX0_multiply 41 = .ok (.lload_n 3, 1) := by decide +kernel
theorem dX0_multiply_42 : decode cX0_multiply 42 = .ok (.ldc2_w 118, 3) := by decide +kernel
theorem dX0_multiply_45 : decode cX0_multiply 45 = .ok (.land, 1) := by decide +kernel
theorem dX0_multiply_46 : decode cX0_multiply 46 = .ok (.lconst 0, 1) := by decide +kernel
theorem dX0_multiply_47 : decode cX0_multiply 47 = .ok (.invokevirtual 112, 3) := by decide +kernel
theorem dX0_multiply_50 : decode cX0_multiply 50 = .ok (.aload_n 0, 1) := by decide +kernel
theorem dX0_multiply_51 : decode cX0_multiply 51 = .ok (.getfield 9, 3) := by decide +kernel
theorem dX0_multiply_54 : decode cX0_multiply 54 = .ok (.aload_n 0, 1) := by decide +kernel
theorem dX0_multiply_55 : decode cX0_multiply 55 = .ok (.getfield 15, 3) := by decide +kernel
theorem dX0_multiply_58 : decode cX0_multiply 58 = .ok (.invokevirtual 120, 3) := by decide +kernel
theorem dX0_multiply_61 : decode cX0_multiply 61 = .ok (.return_, 1) := by decide +kernel
theorem dX0_product_0 : decode cX0_product 0 = .ok (.aload_n 1, 1) := by decide +kernel
theorem dX0_product_1 : decode cX0_product 1 = .ok (.getfield 30, 3) := by decide +kernel
theorem dX0_product_4 : decode cX0_product 4 = .ok (.aload_n 2, 1) := by decide +kernel
theorem dX0_product_5 : decode cX0_product 5 = .ok (.getfield 30, 3) := by decide +kernel
theorem dX0_product_8 : decode cX0_product 8 = .ok (.if_icmp .eq 7, 3) := by decide +kernel
theorem dX0_product_11 : decode cX0_product 11 = .ok (.iconst 1, 1) := by decide +kernel
theorem dX0_product_12 : decode cX0_product 12 = .ok (.goto 4, 3) := by decide +kernel
theorem dX0_product_15 : decode cX0_product 15 = .ok (.iconst 0, 1) := by decide +kernel
theorem dX0_product_16 : decode cX0_product 16 = .ok (.istore 5, 2) := by decide +kernel
theorem dX0_product_18 : decode cX0_product 18 = .ok (.aload_n 1, 1) := by decide +kernel
theorem dX0_product_19 : decode cX0_product 19 = .ok (.aload_n 2, 1) := by decide +kernel
theorem dX0_product_20 : decode cX0_product 20 = .ok (.invokestatic 59, 3) := by decide +kernel
theorem dX0_product_23 : decode cX0_product 23 = .ok (.ifCond .eq 8, 3) := by decide +kernel
theorem dX0_product_26 : decode cX0_product 26 = .ok (.iload_n 3, 1) := by decide +kernel
theorem dX0_product_27 : decode cX0_product 27 = .ok (.invokestatic 24, 3) := by decide +kernel
theorem dX0_product_30 : decode cX0_product 30 = .ok (.lreturn, 1) := by decide +kernel
theorem dX0_product_31 : decode cX0_product 31 = .ok (.aload_n 1, 1) := by decide +kernel
theorem dX0_product_32 : decode cX0_product 32 = .ok (.getfield 18, 3) := by decide +kernel
theorem dX0_product_35 : decode cX0_product 35 = .ok (.iconst 3, 1) := by decide +kernel
theorem dX0_product_36 : decode cX0_product 36 = .ok (.if_icmp .eq 11, 3) := by decide +kernel
theorem dX0_product_39 : decode cX0_product 39 = .ok (.aload_n 2, 1) := by decide +kernel
theorem dX0_product_40 : decode cX0_product 40 = .ok (.getfield 18, 3) := by decide +kernel
theorem dX0_product_43 : decode cX0_product 43 = .ok (.iconst 3, 1) := by decide +kernel
theorem dX0_product_44 : decode cX0_product 44 = .ok (.if_icmp .ne 10, 3) := by decide +kernel
theorem dX0_product_47 : decode cX0_product 47 = .ok (.iload_n 3, 1) := by decide +kernel
theorem dX0_product_48 : decode cX0_product 48 = .ok (.iload 5, 2) := by decide +kernel
theorem dX0_product_50 : decode cX0_product 50 = .ok (.invokestatic 34, 3) := by decide +kernel
theorem dX0_product_53 : decode cX0_product 53 = .ok (.lreturn, 1) := by decide +kernel
theorem dX0_product_54 : decode cX0_product 54 = .ok (.aload_n 0, 1) := by decide +kernel
theorem dX0_product_55 : decode cX0_product 55 = .ok (.aload_n 1, 1) := by decide +kernel
theorem dX0_product_56 : decode cX0_product 56 = .ok (.getfield 38, 3) := by decide +kernel
theorem dX0_product_59 : decode cX0_product 59 = .ok (.aload_n 2, 1) := by decide +kernel
theorem dX0_product_60 : decode cX0_product 60 = .ok (.getfield 38, 3) := by decide +kernel
theorem dX0_product_63 : decode cX0_product 63 = .ok (.invokevirtual 63, 3) := by decide +kernel
theorem dX0_product_66 : decode cX0_product 66 = .ok (.iload 5, 2) := by decide +kernel
theorem dX0_product_68 : decode cX0_product 68 = .ok (.aload_n 0, 1) := by decide +kernel
theorem dX0_product_69 : decode cX0_product 69 = .ok (.getfield 9, 3) := by decide +kernel
theorem dX0_product_72 : decode cX0_product 72 = .ok (.aload_n 1, 1) := by decide +kernel
theorem dX0_product_73 : decode cX0_product 73 = .ok (.getfield 48, 3) := by decide +kernel
theorem dX0_product_76 : decode cX0_product 76 = .ok (.aload_n 2, 1) := by decide +kernel
theorem dX0_product_77 : decode cX0_product 77 = .ok (.getfield 48, 3) := by decide +kernel
theorem dX0_product_80 : decode cX0_product 80 = .ok (.iadd, 1) := by decide +kernel
theorem dX0_product_81 : decode cX0_product 81 = .ok (.iconst 0, 1) := by decide +kernel
theorem dX0_product_82 : decode cX0_product 82 = .ok (.iload_n 3, 1) := by decide +kernel
theorem dX0_product_83 : decode cX0_product 83 = .ok (.iload 4, 2) := by decide +kernel
theorem dX0_product_85 : decode cX0_product 85 = .ok (.invokestatic 51, 3) := by decide +kernel
theorem dX0_product_88 : decode cX0_product 88 = .ok (.lreturn, 1) := by decide +kernel
theorem dX0_productAndSum_0 : decode cX0_productAndSum 0 = .ok (.aload_n 1, 1) := by decide +kernel
theorem dX0_productAndSum_1 : decode cX0_productAndSum 1 = .ok (.aload_n 2, 1) := by decide +kernel
theorem dX0_productAndSum_2 : decode cX0_productAndSum 2 = .ok (.invokestatic 59, 3) := by decide +kernel
theorem dX0_productAndSum_5 : decode cX0_productAndSum 5 = .ok (.ifCond .ne 11, 3) := by decide +kernel
theorem dX0_productAndSum_8 : decode cX0_productAndSum 8 = .ok (.aload_n 3, 1) := by decide +kernel
theorem dX0_productAndSum_9 : decode cX0_productAndSum 9 = .ok (.getfield 18, 3) := by decide +kernel
theorem dX0_productAndSum_12 : decode cX0_productAndSum 12 = .ok (.iconst 4, 1) := by decide +kernel
theorem dX0_productAndSum_13 : decode cX0_productAndSum 13 = .ok (.if_icmp .ne 9, 3) := by decide +kernel
theorem dX0_productAndSum_16 : decode cX0_productAndSum 16 = .ok (.iload 4, 2) := by decide +kernel
theorem dX0_productAndSum_18 : decode cX0_productAndSum 18 = .ok (.invokestatic 24, 3) := by decide +kernel
theorem dX0_productAndSum_21 : decode cX0_productAndSum 21 = .ok (.lreturn, 1) := by decide +kernel
theorem dX0_productAndSum_22 : decode cX0_productAndSum 22 = .ok (.aload_n 0, 1) := by decide +kernel
theorem dX0_productAndSum_23 : decode cX0_productAndSum 23 = .ok (.aload_n 1, 1) := by decide +kernel
theorem dX0_productAndSum_24 : decode cX0_productAndSum 24 = .ok (.getfield 38, 3) := by decide +kernel
theorem dX0_productAndSum_27 : decode cX0_productAndSum 27 = .ok (.aload_n 2, 1) := by decide +kernel
theorem dX0_productAndSum_28 : decode cX0_productAndSum 28 = .ok (.getfield 38, 3) := by decide +kernel
theorem dX0_productAndSum_31 : decode cX0_productAndSum 31 = .ok (.invokevirtual 63, 3) := by decide +kernel
theorem dX0_productAndSum_34 : decode cX0_productAndSum 34 = .ok (.aload_n 1, 1) := by decide +kernel
theorem dX0_productAndSum_35 : decode cX0_productAndSum 35 = .ok (.getfield 18, 3) := by decide +kernel
theorem dX0_productAndSum_38 : decode cX0_productAndSum 38 = .ok (.iconst 3, 1) := by decide +kernel
theorem dX0_productAndSum_39 : decode cX0_productAndSum 39 = .ok (.if_icmp .eq 11, 3) := by decide +kernel
theorem dX0_productAndSum_42 : decode cX0_productAndSum 42 = .ok (.aload_n 2, 1) := by decide +kernel
theorem dX0_productAndSum_43 : decode cX0_productAndSum 43 = .ok (.getfield 18, 3) := by decide +kernel
theorem dX0_productAndSum_46 : decode cX0_productAndSum 46 = .ok (.iconst 3, 1) := by decide +kernel
theorem dX0_productAndSum_47 : decode cX0_productAndSum 47 = .ok (.if_icmp .ne 7, 3) := by decide +kernel
theorem dX0_productAndSum_50 : decode cX0_productAndSum 50 = .ok (.iconst 1, 1) := by decide +kernel
theorem dX0_productAndSum_51 : decode cX0_productAndSum 51 = .ok (.goto 4, 3) := by decide +kernel
theorem dX0_productAndSum_54 : decode cX0_productAndSum 54 = .ok (.iconst 0, 1) := by decide +kernel
theorem dX0_productAndSum_55 : decode cX0_productAndSum 55 = .ok (.istore 6, 2) := by decide +kernel
theorem dX0_productAndSum_57 : decode cX0_productAndSum 57 = .ok (.aload_n 0, 1) := by decide +kernel
theorem dX0_productAndSum_58 : decode cX0_productAndSum 58 = .ok (.iload 6, 2) := by decide +kernel
theorem dX0_productAndSum_60 : decode cX0_productAndSum 60 = .ok (.aload_n 1, 1) := by decide +kernel
theorem dX0_productAndSum_61 : decode cX0_productAndSum 61 = .ok (.getfield 30, 3) := by decide +kernel
theorem dX0_productAndSum_64 : decode cX0_productAndSum 64 = .ok (.aload_n 2, 1) := by decide +kernel
theorem dX0_productAndSum_65 : decode cX0_productAndSum 65 = .ok (.getfield 30, 3) := by decide +kernel
theorem dX0_productAndSum_68 : decode cX0_productAndSum 68 = .ok (.if_icmp .eq 7, 3) := by decide +kernel
theorem dX0_productAndSum_71 : decode cX0_productAndSum 71 = .ok (.iconst 1, 1) := by decide +kernel
theorem dX0_productAndSum_72 : decode cX0_productAndSum 72 = .ok (.goto 4, 3) := by decide +kernel
theorem dX0_productAndSum_75 : decode cX0_productAndSum 75 = .ok (.iconst 0, 1) := by decide +kernel
theorem dX0_productAndSum_76 : decode cX0_productAndSum 76 = .ok (.aload_n 1, 1) := by decide +kernel
theorem dX0_productAndSum_77 : decode cX0_productAndSum 77 = .ok (.getfield 48, 3) := by decide +kernel
theorem dX0_productAndSum_80 : decode cX0_productAndSum 80 = .ok (.aload_n 2, 1) := by decide +kernel
theorem dX0_productAndSum_81 : decode cX0_productAndSum 81 = .ok (.getfield 48, 3) := by decide +kernel
theorem dX0_productAndSum_84 : decode cX0_productAndSum 84 = .ok (.iadd, 1) := by decide +kernel
theorem dX0_productAndSum_85 : decode cX0_productAndSum 85 = .ok (.aload_n 3, 1) := by decide +kernel
theorem dX0_productAndSum_86 : decode cX0_productAndSum 86 = .ok (.iload 4, 2) := by decide +kernel
theorem dX0_productAndSum_88 : decode cX0_productAndSum 88 = .ok (.iload 5, 2) := by decide +kernel
theorem dX0_productAndSum_90 : decode cX0_productAndSum 90 = .ok (.invokevirtual 55, 3) := by decide +kernel
theorem dX0_productAndSum_93 : decode cX0_productAndSum 93 = .ok (.lreturn, 1) := by decide +kernel
theorem dX0_divided_0 : decode cX0_divided 0 = .ok (.aload_n 0, 1) := by decide +kernel
theorem dX0_divided_1 : decode cX0_divided 1 = .ok (.getfield 9, 3) := by decide +kernel
theorem dX0_divided_4 : decode cX0_divided 4 = .ok (.invokevirtual 135, 3) := by decide +kernel
theorem dX0_divided_7 : decode cX0_divided 7 = .ok (.aload_n 0, 1) := by decide +kernel
theorem dX0_divided_8 : decode cX0_divided 8 = .ok (.getfield 15, 3) := by decide +kernel
theorem dX0_divided_11 : decode cX0_divided 11 = .ok (.invokevirtual 135, 3) := by decide +kernel
theorem dX0_divided_14 : decode cX0_divided 14 = .ok (.isub, 1) := by decide +kernel
theorem dX0_divided_15 : decode cX0_divided 15 = .ok (.istore 5, 2) := by decide +kernel
theorem dX0_divided_17 : decode cX0_divided 17 = .ok (.aload_n 0, 1) := by decide +kernel
theorem dX0_divided_18 : decode cX0_divided 18 = .ok (.getfield 9, 3) := by decide +kernel
theorem dX0_divided_21 : decode cX0_divided 21 = .ok (.iload 5, 2) := by decide +kernel
theorem dX0_divided_23 : decode cX0_divided 23 = .ok (.ineg, 1) := by decide +kernel
theorem dX0_divided_24 : decode cX0_divided 24 = .ok (.invokevirtual 115, 3) := by decide +kernel
theorem dX0_divided_27 : decode cX0_divided 27 = .ok (.aload_n 0, 1) := by decide +kernel
theorem dX0_divided_28 : decode cX0_divided 28 = .ok (.getfield 15, 3) := by decide +kernel
theorem dX0_divided_31 : decode cX0_divided 31 = .ok (.iload 5, 2) := by decide +kernel
theorem dX0_divided_33 : decode cX0_divided 33 = .ok (.invokevirtual 115, 3) := by decide +kernel
theorem dX0_divided_36 : decode cX0_divided 36 = .ok (.lconst 0, 1) := by decide +kernel
theorem dX0_divided_37 : decode cX0_divided 37 = .ok (.lstore 6, 2) := by decide +kernel
theorem dX0_divided_39 : decode cX0_divided 39 = .ok (.iconst 0, 1) := by decide +kernel
theorem dX0_divided_40 : decode cX0_divided 40 = .ok (.istore 8, 2) := by decide +kernel
theorem dX0_divided_42 : decode cX0_divided 42 = .ok (.iload 8, 2) := by decide +kernel
theorem dX0_divided_44 : decode cX0_divided 44 = .ok (.bipush 58, 2) := by decide +kernel
theorem dX0_divided_46 : decode cX0_divided 46 = .ok (.if_icmp .ge 54, 3) := by decide +kernel
theorem dX0_divided_49 : decode cX0_divided 49 = .ok (.lload 6, 2) := by decide +kernel
theorem dX0_divided_51 : decode cX0_divided 51 = .ok (.iconst 1, 1) := by decide +kernel
theorem dX0_divided_52 : decode cX0_divided 52 = .ok (.lshl, 1) := by decide +kernel
theorem dX0_divided_53 : decode cX0_divided 53 = .ok (.lstore 6, 2) := by decide +kernel
theorem dX0_divided_55 : decode cX0_divided 55 = .ok (.aload_n 0, 1) := by decide +kernel
theorem dX0_divided_56 : decode cX0_divided 56 = .ok (.getfield 9, 3) := by decide +kernel
theorem dX0_divided_59 : decode cX0_divided 59 = .ok (.aload_n 0, 1) := by decide +kernel
theorem dX0_divided_60 : decode cX0_divided 60 = .ok (.getfield 15, 3) := by decide +kernel
theorem dX0_divided_63 : decode cX0_divided 63 = .ok (.invokevirtual 129, 3) := by decide +kernel
theorem dX0_divided_66 : decode cX0_divided 66 = .ok (.ifCond .lt 20, 3) := by decide +kernel
theorem dX0_divided_69 : decode cX0_divided 69 = .ok (.aload_n 0, 1) := by decide +kernel
theorem dX0_divided_70 : decode cX0_divided 70 = .ok (.getfield 9, 3) := by decide +kernel
theorem dX0_divided_73 : decode cX0_divided 73 = .ok (.aload_n 0, 1) := by decide +kernel
theorem dX0_divided_74 : decode cX0_divided 74 = .ok (.getfield 15, 3) := by decide +kernel
theorem dX0_divided_77 : decode cX0_divided 77 = .ok (.invokevirtual 133, 3) := by decide +kernel
theorem dX0_divided_80 : decode cX0_divided 80 = .ok (.lload 6, 2) := by decide +kernel
theorem dX0_divided_82 : decode cX0_divided 82 = .ok (.lconst 1, 1) := by decide +kernel
theorem dX0_divided_83 : decode cX0_divided 83 = .ok (.lor, 1) := by decide +kernel
theorem dX0_divided_84 : decode cX0_divided 84 = .ok (.lstore 6, 2) := by decide +kernel
theorem dX0_divided_86 : decode cX0_divided 86 = .ok (.aload_n 0, 1) := by decide +kernel
theorem dX0_divided_87 : decode cX0_divided 87 = .ok (.getfield 9, 3) := by decide +kernel
theorem dX0_divided_90 : decode cX0_divided 90 = .ok (.iconst 1, 1) := by decide +kernel
theorem dX0_divided_91 : decode cX0_divided 91 = .ok (.invokevirtual 115, 3) := by decide +kernel
theorem dX0_divided_94 : decode cX0_divided 94 = .ok (.iinc 8 1, 3) := by decide +kernel
theorem dX0_divided_97 : decode cX0_divided 97 = .ok (.goto (-55), 3) := by decide +kernel
theorem dX0_divided_100 : decode cX0_divided 100 = .ok (.aload_n 0, 1) := by decide +kernel
theorem dX0_divided_101 : decode cX0_divided 101 = .ok (.getfield 9, 3) := by decide +kernel
theorem dX0_divided_104 : decode cX0_divided 104 = .ok (.invokevirtual 92, 3) := by decide +kernel
theorem dX0_divided_107 : decode cX0_divided 107 = .ok (.ifCond .ne 7, 3) := by decide +kernel
theorem dX0_divided_110 : decode cX0_divided 110 = .ok (.iconst 1, 1) := by decide +kernel
theorem dX0_divided_111 : decode cX0_divided 111 = .ok (.goto 4, 3) := by decide +kernel
theorem dX0_divided_114 : decode cX0_divided 114 = .ok (.iconst 0, 1) := by decide +kernel
theorem dX0_divided_115 : decode cX0_divided 115 = .ok (.istore 8, 2) := by decide +kernel
theorem dX0_divided_117 : decode cX0_divided 117 = .ok (.aload_n 0, 1) := by decide +kernel
theorem dX0_divided_118 : decode cX0_divided 118 = .ok (.getfield 9, 3) := by decide +kernel
theorem dX0_divided_121 : decode cX0_divided 121 = .ok (.lload 6, 2) := by decide +kernel
theorem dX0_divided_123 : decode cX0_divided 123 = .ok (.invokevirtual 42, 3) := by decide +kernel
theorem dX0_divided_126 : decode cX0_divided 126 = .ok (.iload_n 1, 1) := by decide +kernel
theorem dX0_divided_127 : decode cX0_divided 127 = .ok (.aload_n 0, 1) := by decide +kernel
theorem dX0_divided_128 : decode cX0_divided 128 = .ok (.getfield 9, 3) := by decide +kernel
theorem dX0_divided_131 : decode cX0_divided 131 = .ok (.iload_n 2, 1) := by decide +kernel
theorem dX0_divided_132 : decode cX0_divided 132 = .ok (.iload 5, 2) := by decide +kernel
theorem dX0_divided_134 : decode cX0_divided 134 = .ok (.iadd, 1) := by decide +kernel
theorem dX0_divided_135 : decode cX0_divided 135 = .ok (.bipush 57, 2) := by decide +kernel
theorem dX0_divided_137 : decode cX0_divided 137 = .ok (.isub, 1) := by decide +kernel
theorem dX0_divided_138 : decode cX0_divided 138 = .ok (.iload 8, 2) := by decide +kernel
theorem dX0_divided_140 : decode cX0_divided 140 = .ok (.iload_n 3, 1) := by decide +kernel
theorem dX0_divided_141 : decode cX0_divided 141 = .ok (.iload 4, 2) := by decide +kernel
theorem dX0_divided_143 : decode cX0_divided 143 = .ok (.invokestatic 51, 3) := by decide +kernel
theorem dX0_divided_146 : decode cX0_divided 146 = .ok (.lreturn, 1) := by decide +kernel
theorem dX0_quotient_0 : decode cX0_quotient 0 = .ok (.aload_n 1, 1) := by decide +kernel
theorem dX0_quotient_1 : decode cX0_quotient 1 = .ok (.getfield 30, 3) := by decide +kernel
theorem dX0_quotient_4 : decode cX0_quotient 4 = .ok (.aload_n 2, 1) := by decide +kernel
theorem dX0_quotient_5 : decode cX0_quotient 5 = .ok (.getfield 30, 3) := by decide +kernel
theorem dX0_quotient_8 : decode cX0_quotient 8 = .ok (.if_icmp .eq 7, 3) := by decide +kernel
theorem dX0_quotient_11 : decode cX0_quotient 11 = .ok (.iconst 1, 1) := by decide +kernel
theorem dX0_quotient_12 : decode cX0_quotient 12 = .ok (.goto 4, 3) := by decide +kernel
theorem dX0_quotient_15 : decode cX0_quotient 15 = .ok (.iconst 0, 1) := by decide +kernel
theorem dX0_quotient_16 : decode cX0_quotient 16 = .ok (.istore 5, 2) := by decide +kernel
theorem dX0_quotient_18 : decode cX0_quotient 18 = .ok (.aload_n 1, 1) := by decide +kernel
theorem dX0_quotient_19 : decode cX0_quotient 19 = .ok (.getfield 18, 3) := by decide +kernel
theorem dX0_quotient_22 : decode cX0_quotient 22 = .ok (.ifCond .ne 14, 3) := by decide +kernel
theorem dX0_quotient_25 : decode cX0_quotient 25 = .ok (.aload_n 2, 1) := by decide +kernel
theorem dX0_quotient_26 : decode cX0_quotient 26 = .ok (.getfield 18, 3) := by decide +kernel
theorem dX0_quotient_29 : decode cX0_quotient 29 = .ok (.ifCond .ne 7, 3) := by decide +kernel
theorem dX0_quotient_32 : decode cX0_quotient 32 = .ok (.iconst 1, 1) := by decide +kernel
theorem dX0_quotient_33 : decode cX0_quotient 33 = .ok (.goto 4, 3) := by decide +kernel
theorem dX0_quotient_36 : decode cX0_quotient 36 = .ok (.iconst 0, 1) := by decide +kernel
theorem dX0_quotient_37 : decode cX0_quotient 37 = .ok (.istore 6, 2) := by decide +kernel
theorem dX0_quotient_39 : decode cX0_quotient 39 = .ok (.aload_n 1, 1) := by decide +kernel
theorem dX0_quotient_40 : decode cX0_quotient 40 = .ok (.getfield 18, 3) := by decide +kernel
theorem dX0_quotient_43 : decode cX0_quotient 43 = .ok (.iconst 3, 1) := by decide +kernel
theorem dX0_quotient_44 : decode cX0_quotient 44 = .ok (.if_icmp .ne 15, 3) := by decide +kernel
theorem dX0_quotient_47 : decode cX0_quotient 47 = .ok (.aload_n 2, 1) := by decide +kernel
theorem dX0_quotient_48 : decode cX0_quotient 48 = .ok (.getfield 18, 3) := by decide +kernel
theorem dX0_quotient_51 : decode cX0_quotient 51 = .ok (.iconst 3, 1) := by decide +kernel
theorem dX0_quotient_52 : decode cX0_quotient 52 = .ok (.if_icmp .ne 7, 3) := by decide +kernel
theorem dX0_quotient_55 : decode cX0_quotient 55 = .ok (.iconst 1, 1) := by decide +kernel
theorem dX0_quotient_56 : decode cX0_quotient 56 = .ok (.goto 4, 3) := by decide +kernel
theorem dX0_quotient_59 : decode cX0_quotient 59 = .ok (.iconst 0, 1) := by decide +kernel
theorem dX0_quotient_60 : decode cX0_quotient 60 = .ok (.istore 7, 2) := by decide +kernel
theorem dX0_quotient_62 : decode cX0_quotient 62 = .ok (.aload_n 1, 1) := by decide +kernel
theorem dX0_quotient_63 : decode cX0_quotient 63 = .ok (.getfield 18, 3) := by decide +kernel
theorem dX0_quotient_66 : decode cX0_quotient 66 = .ok (.iconst 4, 1) := by decide +kernel
theorem dX0_quotient_67 : decode cX0_quotient 67 = .ok (.if_icmp .eq 21, 3) := by decide +kernel
theorem dX0_quotient_70 : decode cX0_quotient 70 = .ok (.aload_n 2, 1) := by decide +kernel
theorem dX0_quotient_71 : decode cX0_quotient 71 = .ok (.getfield 18, 3) := by decide +kernel
theorem dX0_quotient_74 : decode cX0_quotient 74 = .ok (.iconst 4, 1) := by decide +kernel
theorem dX0_quotient_75 : decode cX0_quotient 75 = .ok (.if_icmp .eq 13, 3) := by decide +kernel
theorem dX0_quotient_78 : decode cX0_quotient 78 = .ok (.iload 6, 2) := by decide +kernel
theorem dX0_quotient_80 : decode cX0_quotient 80 = .ok (.ifCond .ne 8, 3) := by decide +kernel
theorem dX0_quotient_83 : decode cX0_quotient 83 = .ok (.iload 7, 2) := by decide +kernel
theorem dX0_quotient_85 : decode cX0_quotient 85 = .ok (.ifCond .eq 8, 3) := by decide +kernel
theorem dX0_quotient_88 : decode cX0_quotient 88 = .ok (.iload_n 3, 1) := by decide +kernel
theorem dX0_quotient_89 : decode cX0_quotient 89 = .ok (.invokestatic 24, 3) := by decide +kernel
theorem dX0_quotient_92 : decode cX0_quotient 92 = .ok (.lreturn, 1) := by decide +kernel
theorem dX0_quotient_93 : decode cX0_quotient 93 = .ok (.aload_n 1, 1) := by decide +kernel
theorem dX0_quotient_94 : decode cX0_quotient 94 = .ok (.getfield 18, 3) := by decide +kernel
theorem dX0_quotient_97 : decode cX0_quotient 97 = .ok (.iconst 3, 1) := by decide +kernel
theorem dX0_quotient_98 : decode cX0_quotient 98 = .ok (.if_icmp .eq 10, 3) := by decide +kernel
theorem dX0_quotient_101 : decode cX0_quotient 101 = .ok (.aload_n 2, 1) := by decide +kernel
theorem dX0_quotient_102 : decode cX0_quotient 102 = .ok (.getfield 18, 3) := by decide +kernel
theorem dX0_quotient_105 : decode cX0_quotient 105 = .ok (.ifCond .ne 10, 3) := by decide +kernel
theorem dX0_quotient_108 : decode cX0_quotient 108 = .ok (.iload_n 3, 1) := by decide +kernel
theorem dX0_quotient_109 : decode cX0_quotient 109 = .ok (.iload 5, 2) := by decide +kernel
theorem dX0_quotient_111 : decode cX0_quotient 111 = .ok (.invokestatic 34, 3) := by decide +kernel
theorem dX0_quotient_114 : decode cX0_quotient 114 = .ok (.lreturn, 1) := by decide +kernel
theorem dX0_quotient_115 : decode cX0_quotient 115 = .ok (.aload_n 1, 1) := by decide +kernel
theorem dX0_quotient_116 : decode cX0_quotient 116 = .ok (.getfield 18, 3) := by decide +kernel
theorem dX0_quotient_119 : decode cX0_quotient 119 = .ok (.ifCond .eq 11, 3) := by decide +kernel
theorem dX0_quotient_122 : decode cX0_quotient 122 = .ok (.aload_n 2, 1) := by decide +kernel
theorem dX0_quotient_123 : decode cX0_quotient 123 = .ok (.getfield 18, 3) := by decide +kernel
theorem dX0_quotient_126 : decode cX0_quotient 126 = .ok (.iconst 3, 1) := by decide +kernel
theorem dX0_quotient_127 : decode cX0_quotient 127 = .ok (.if_icmp .ne 10, 3) := by decide +kernel
theorem dX0_quotient_130 : decode cX0_quotient 130 = .ok (.iload_n 3, 1) := by decide +kernel
theorem dX0_quotient_131 : decode cX0_quotient 131 = .ok (.iload 5, 2) := by decide +kernel
theorem dX0_quotient_133 : decode cX0_quotient 133 = .ok (.invokestatic 67, 3) := by decide +kernel
theorem dX0_quotient_136 : decode cX0_quotient 136 = .ok (.lreturn, 1) := by decide +kernel
theorem dX0_quotient_137 : decode cX0_quotient 137 = .ok (.aload_n 0, 1) := by decide +kernel
theorem dX0_quotient_138 : decode cX0_quotient 138 = .ok (.getfield 9, 3) := by decide +kernel
theorem dX0_quotient_141 : decode cX0_quotient 141 = .ok (.aload_n 1, 1) := by decide +kernel
theorem dX0_quotient_142 : decode cX0_quotient 142 = .ok (.getfield 38, 3) := by decide +kernel
theorem dX0_quotient_145 : decode cX0_quotient 145 = .ok (.invokevirtual 42, 3) := by decide +kernel
theorem dX0_quotient_148 : decode cX0_quotient 148 = .ok (.aload_n 0, 1) := by decide +kernel
theorem dX0_quotient_149 : decode cX0_quotient 149 = .ok (.getfield 15, 3) := by decide +kernel
theorem dX0_quotient_152 : decode cX0_quotient 152 = .ok (.aload_n 2, 1) := by decide +kernel
theorem dX0_quotient_153 : decode cX0_quotient 153 = .ok (.getfield 38, 3) := by decide +kernel
theorem dX0_quotient_156 : decode cX0_quotient 156 = .ok (.invokevirtual 42, 3) := by decide +kernel
theorem dX0_quotient_159 : decode cX0_quotient 159 = .ok (.aload_n 0, 1) := by decide +kernel
theorem dX0_quotient_160 : decode cX0_quotient 160 = .ok (.iload 5, 2) := by decide +kernel
theorem dX0_quotient_162 : decode cX0_quotient 162 = .ok (.aload_n 1, 1) := by decide +kernel
theorem dX0_quotient_163 : decode cX0_quotient 163 = .ok (.getfield 48, 3) := by decide +kernel
theorem dX0_quotient_166 : decode cX0_quotient 166 = .ok (.aload_n 2, 1) := by decide +kernel
theorem dX0_quotient_167 : decode cX0_quotient 167 = .ok (.getfield 48, 3) := by decide +kernel
theorem dX0_quotient_170 : decode cX0_quotient 170 = .ok (.isub, 1) := by decide +kernel
theorem dX0_quotient_171 : decode cX0_quotient 171 = .ok (.iload_n 3, 1) := by decide +kernel
theorem dX0_quotient_172 : decode cX0_quotient 172 = .ok (.iload 4, 2) := by decide +kernel
theorem dX0_quotient_174 : decode cX0_quotient 174 = .ok (.invokevirtual 70, 3) := by decide +kernel
theorem dX0_quotient_177 : decode cX0_quotient 177 = .ok (.lreturn, 1) := by decide +kernel
theorem dX0_rootOf_0 : decode cX0_rootOf 0 = .ok (.lload_n 1, 1) := by decide +kernel
theorem dX0_rootOf_1 : decode cX0_rootOf 1 = .ok (.lstore 6, 2) := by decide +kernel
theorem dX0_rootOf_3 : decode cX0_rootOf 3 = .ok (.lconst 0, 1) := by decide +kernel
theorem dX0_rootOf_4 : decode cX0_rootOf 4 = .ok (.lstore 8, 2) := by decide +kernel
theorem dX0_rootOf_6 : decode cX0_rootOf 6 = .ok (.lconst 0, 1) := by decide +kernel
theorem dX0_rootOf_7 : decode cX0_rootOf 7 = .ok (.lstore 10, 2) := by decide +kernel
theorem dX0_rootOf_9 : decode cX0_rootOf 9 = .ok (.iconst 0, 1) := by decide +kernel
theorem dX0_rootOf_10 : decode cX0_rootOf 10 = .ok (.istore 12, 2) := by decide +kernel
theorem dX0_rootOf_12 : decode cX0_rootOf 12 = .ok (.iload 12, 2) := by decide +kernel
theorem dX0_rootOf_14 : decode cX0_rootOf 14 = .ok (.bipush 57, 2) := by decide +kernel
theorem dX0_rootOf_16 : decode cX0_rootOf 16 = .ok (.if_icmp .ge 62, 3) := by decide +kernel
theorem dX0_rootOf_19 : decode cX0_rootOf 19 = .ok (.lload 8, 2) := by decide +kernel
theorem dX0_rootOf_21 : decode cX0_rootOf 21 = .ok (.iconst 2, 1) := by decide +kernel
theorem dX0_rootOf_22 : decode cX0_rootOf 22 = .ok (.lshl, 1) := by decide +kernel
theorem dX0_rootOf_23 : decode cX0_rootOf 23 = .ok (.lload 6, 2) := by decide +kernel
theorem dX0_rootOf_25 : decode cX0_rootOf 25 = .ok (.bipush 62, 2) := by decide +kernel
theorem dX0_rootOf_27 : decode cX0_rootOf 27 = .ok (.lushr, 1) := by decide +kernel
theorem dX0_rootOf_28 : decode cX0_rootOf 28 = .ok (.lor, 1) := by decide +kernel
theorem dX0_rootOf_29 : decode cX0_rootOf 29 = .ok (.lstore 8, 2) := by decide +kernel
theorem dX0_rootOf_31 : decode cX0_rootOf 31 = .ok (.lload 6, 2) := by decide +kernel
theorem dX0_rootOf_33 : decode cX0_rootOf 33 = .ok (.iconst 2, 1) := by decide +kernel
theorem dX0_rootOf_34 : decode cX0_rootOf 34 = .ok (.lshl, 1) := by decide +kernel
theorem dX0_rootOf_35 : decode cX0_rootOf 35 = .ok (.lstore 6, 2) := by decide +kernel
theorem dX0_rootOf_37 : decode cX0_rootOf 37 = .ok (.lload 10, 2) := by decide +kernel
theorem dX0_rootOf_39 : decode cX0_rootOf 39 = .ok (.iconst 2, 1) := by decide +kernel
theorem dX0_rootOf_40 : decode cX0_rootOf 40 = .ok (.lshl, 1) := by decide +kernel
theorem dX0_rootOf_41 : decode cX0_rootOf 41 = .ok (.lconst 1, 1) := by decide +kernel
theorem dX0_rootOf_42 : decode cX0_rootOf 42 = .ok (.lor, 1) := by decide +kernel
theorem dX0_rootOf_43 : decode cX0_rootOf 43 = .ok (.lstore 13, 2) := by decide +kernel
theorem dX0_rootOf_45 : decode cX0_rootOf 45 = .ok (.lload 10, 2) := by decide +kernel
theorem dX0_rootOf_47 : decode cX0_rootOf 47 = .ok (.iconst 1, 1) := by decide +kernel
theorem dX0_rootOf_48 : decode cX0_rootOf 48 = .ok (.lshl, 1) := by decide +kernel
theorem dX0_rootOf_49 : decode cX0_rootOf 49 = .ok (.lstore 10, 2) := by decide +kernel
theorem dX0_rootOf_51 : decode cX0_rootOf 51 = .ok (.lload 8, 2) := by decide +kernel
theorem dX0_rootOf_53 : decode cX0_rootOf 53 = .ok (.lload 13, 2) := by decide +kernel
theorem dX0_rootOf_55 : decode cX0_rootOf 55 = .ok (.lcmp, 1) := by decide +kernel
theorem dX0_rootOf_56 : decode cX0_rootOf 56 = .ok (.ifCond .lt 16, 3) := by decide +kernel
theorem dX0_rootOf_59 : decode cX0_rootOf 59 = .ok (.lload 8, 2) := by decide +kernel
theorem dX0_rootOf_61 : decode cX0_rootOf 61 = .ok (.lload 13, 2) := by decide +kernel
theorem dX0_rootOf_63 : decode cX0_rootOf 63 = .ok (.lsub, 1) := by decide +kernel
theorem dX0_rootOf_64 : decode cX0_rootOf 64 = .ok (.lstore 8, 2) := by decide +kernel
theorem dX0_rootOf_66 : decode cX0_rootOf 66 = .ok (.lload 10, 2) := by decide +kernel
theorem dX0_rootOf_68 : decode cX0_rootOf 68 = .ok (.lconst 1, 1) := by decide +kernel
theorem dX0_rootOf_69 : decode cX0_rootOf 69 = .ok (.lor, 1) := by decide +kernel
theorem dX0_rootOf_70 : decode cX0_rootOf 70 = .ok (.lstore 10, 2) := by decide +kernel
theorem dX0_rootOf_72 : decode cX0_rootOf 72 = .ok (.iinc 12 1, 3) := by decide +kernel
theorem dX0_rootOf_75 : decode cX0_rootOf 75 = .ok (.goto (-63), 3) := by decide +kernel
theorem dX0_rootOf_78 : decode cX0_rootOf 78 = .ok (.aload_n 0, 1) := by decide +kernel
theorem dX0_rootOf_79 : decode cX0_rootOf 79 = .ok (.getfield 9, 3) := by decide +kernel
theorem dX0_rootOf_82 : decode cX0_rootOf 82 = .ok (.lload 10, 2) := by decide +kernel
theorem dX0_rootOf_84 : decode cX0_rootOf 84 = .ok (.invokevirtual 42, 3) := by decide +kernel
theorem dX0_rootOf_87 : decode cX0_rootOf 87 = .ok (.iconst 0, 1) := by decide +kernel
theorem dX0_rootOf_88 : decode cX0_rootOf 88 = .ok (.aload_n 0, 1) := by decide +kernel
theorem dX0_rootOf_89 : decode cX0_rootOf 89 = .ok (.getfield 9, 3) := by decide +kernel
theorem dX0_rootOf_92 : decode cX0_rootOf 92 = .ok (.iload_n 3, 1) := by decide +kernel
theorem dX0_rootOf_93 : decode cX0_rootOf 93 = .ok (.iconst 2, 1) := by decide +kernel
theorem dX0_rootOf_94 : decode cX0_rootOf 94 = .ok (.idiv, 1) := by decide +kernel
theorem dX0_rootOf_95 : decode cX0_rootOf 95 = .ok (.bipush 25, 2) := by decide +kernel
theorem dX0_rootOf_97 : decode cX0_rootOf 97 = .ok (.isub, 1) := by decide +kernel
theorem dX0_rootOf_98 : decode cX0_rootOf 98 = .ok (.lload 8, 2) := by decide +kernel
theorem dX0_rootOf_100 : decode cX0_rootOf 100 = .ok (.lconst 0, 1) := by decide +kernel
theorem dX0_rootOf_101 : decode cX0_rootOf 101 = .ok (.lcmp, 1) := by decide +kernel
theorem dX0_rootOf_102 : decode cX0_rootOf 102 = .ok (.ifCond .eq 7, 3) := by decide +kernel
theorem dX0_rootOf_105 : decode cX0_rootOf 105 = .ok (.iconst 1, 1) := by decide +kernel
theorem dX0_rootOf_106 : decode cX0_rootOf 106 = .ok (.goto 4, 3) := by decide +kernel
theorem dX0_rootOf_109 : decode cX0_rootOf 109 = .ok (.iconst 0, 1) := by decide +kernel
theorem dX0_rootOf_110 : decode cX0_rootOf 110 = .ok (.iload 4, 2) := by decide +kernel
theorem dX0_rootOf_112 : decode cX0_rootOf 112 = .ok (.iload 5, 2) := by decide +kernel
theorem dX0_rootOf_114 : decode cX0_rootOf 114 = .ok (.invokestatic 51, 3) := by decide +kernel
theorem dX0_rootOf_117 : decode cX0_rootOf 117 = .ok (.lreturn, 1) := by decide +kernel
theorem dX0_squareRoot_0 : decode cX0_squareRoot 0 = .ok (.aload_n 1, 1) := by decide +kernel
theorem dX0_squareRoot_1 : decode cX0_squareRoot 1 = .ok (.getfield 18, 3) := by decide +kernel
theorem dX0_squareRoot_4 : decode cX0_squareRoot 4 = .ok (.ifCond .ne 12, 3) := by decide +kernel
theorem dX0_squareRoot_7 : decode cX0_squareRoot 7 = .ok (.iload_n 2, 1) := by decide +kernel
theorem dX0_squareRoot_8 : decode cX0_squareRoot 8 = .ok (.aload_n 1, 1) := by decide +kernel
theorem dX0_squareRoot_9 : decode cX0_squareRoot 9 = .ok (.getfield 30, 3) := by decide +kernel
theorem dX0_squareRoot_12 : decode cX0_squareRoot 12 = .ok (.invokestatic 67, 3) := by decide +kernel
theorem dX0_squareRoot_15 : decode cX0_squareRoot 15 = .ok (.lreturn, 1) := by decide +kernel
theorem dX0_squareRoot_16 : decode cX0_squareRoot 16 = .ok (.aload_n 1, 1) := by decide +kernel
theorem dX0_squareRoot_17 : decode cX0_squareRoot 17 = .ok (.getfield 18, 3) := by decide +kernel
theorem dX0_squareRoot_20 : decode cX0_squareRoot 20 = .ok (.iconst 4, 1) := by decide +kernel
theorem dX0_squareRoot_21 : decode cX0_squareRoot 21 = .ok (.if_icmp .eq 10, 3) := by decide +kernel
theorem dX0_squareRoot_24 : decode cX0_squareRoot 24 = .ok (.aload_n 1, 1) := by decide +kernel
theorem dX0_squareRoot_25 : decode cX0_squareRoot 25 = .ok (.getfield 30, 3) := by decide +kernel
theorem dX0_squareRoot_28 : decode cX0_squareRoot 28 = .ok (.ifCond .eq 8, 3) := by decide +kernel
theorem dX0_squareRoot_31 : decode cX0_squareRoot 31 = .ok (.iload_n 2, 1) := by decide +kernel
theorem dX0_squareRoot_32 : decode cX0_squareRoot 32 = .ok (.invokestatic 24, 3) := by decide +kernel
theorem dX0_squareRoot_35 : decode cX0_squareRoot 35 = .ok (.lreturn, 1) := by decide +kernel
theorem dX0_squareRoot_36 : decode cX0_squareRoot 36 = .ok (.aload_n 1, 1) := by decide +kernel
theorem dX0_squareRoot_37 : decode cX0_squareRoot 37 = .ok (.getfield 18, 3) := by decide +kernel
theorem dX0_squareRoot_40 : decode cX0_squareRoot 40 = .ok (.iconst 3, 1) := by decide +kernel
theorem dX0_squareRoot_41 : decode cX0_squareRoot 41 = .ok (.if_icmp .ne 9, 3) := by decide +kernel
theorem dX0_squareRoot_44 : decode cX0_squareRoot 44 = .ok (.iload_n 2, 1) := by decide +kernel
theorem dX0_squareRoot_45 : decode cX0_squareRoot 45 = .ok (.iconst 0, 1) := by decide +kernel
theorem dX0_squareRoot_46 : decode cX0_squareRoot 46 = .ok (.invokestatic 34, 3) := by decide +kernel
theorem dX0_squareRoot_49 : decode cX0_squareRoot 49 = .ok (.lreturn, 1) := by decide +kernel
theorem dX0_squareRoot_50 : decode cX0_squareRoot 50 = .ok (.aload_n 1, 1) := by decide +kernel
theorem dX0_squareRoot_51 : decode cX0_squareRoot 51 = .ok (.getfield 38, 3) := by decide +kernel
theorem dX0_squareRoot_54 : decode cX0_squareRoot 54 = .ok (.invokestatic 74, 3) := by decide +kernel
theorem dX0_squareRoot_57 : decode cX0_squareRoot 57 = .ok (.istore 4, 2) := by decide +kernel
theorem dX0_squareRoot_59 : decode cX0_squareRoot 59 = .ok (.aload_n 1, 1) := by decide +kernel
theorem dX0_squareRoot_60 : decode cX0_squareRoot 60 = .ok (.getfield 48, 3) := by decide +kernel
theorem dX0_squareRoot_63 : decode cX0_squareRoot 63 = .ok (.iload 4, 2) := by decide +kernel
theorem dX0_squareRoot_65 : decode cX0_squareRoot 65 = .ok (.isub, 1) := by decide +kernel
theorem dX0_squareRoot_66 : decode cX0_squareRoot 66 = .ok (.iconst 2, 1) := by decide +kernel
theorem dX0_squareRoot_67 : decode cX0_squareRoot 67 = .ok (.irem, 1) := by decide +kernel
theorem dX0_squareRoot_68 : decode cX0_squareRoot 68 = .ok (.ifCond .ne 8, 3) := by decide +kernel
theorem dX0_squareRoot_71 : decode cX0_squareRoot 71 = .ok (.iload 4, 2) := by decide +kernel
theorem dX0_squareRoot_73 : decode cX0_squareRoot 73 = .ok (.goto 7, 3) := by decide +kernel
theorem dX0_squareRoot_76 : decode cX0_squareRoot 76 = .ok (.iload 4, 2) := by decide +kernel
theorem dX0_squareRoot_78 : decode cX0_squareRoot 78 = .ok (.iconst 1, 1) := by decide +kernel
theorem dX0_squareRoot_79 : decode cX0_squareRoot 79 = .ok (.isub, 1) := by decide +kernel
theorem dX0_squareRoot_80 : decode cX0_squareRoot 80 = .ok (.istore 5, 2) := by decide +kernel
theorem dX0_squareRoot_82 : decode cX0_squareRoot 82 = .ok (.aload_n 0, 1) := by decide +kernel
theorem dX0_squareRoot_83 : decode cX0_squareRoot 83 = .ok (.aload_n 1, 1) := by decide +kernel
theorem dX0_squareRoot_84 : decode cX0_squareRoot 84 = .ok (.getfield 38, 3) := by decide +kernel
theorem dX0_squareRoot_87 : decode cX0_squareRoot 87 = .ok (.iload 5, 2) := by decide +kernel
theorem dX0_squareRoot_89 : decode cX0_squareRoot 89 = .ok (.lshl, 1) := by decide +kernel
theorem dX0_squareRoot_90 : decode cX0_squareRoot 90 = .ok (.aload_n 1, 1) := by decide +kernel
theorem dX0_squareRoot_91 : decode cX0_squareRoot 91 = .ok (.getfield 48, 3) := by decide +kernel
theorem dX0_squareRoot_94 : decode cX0_squareRoot 94 = .ok (.iload 5, 2) := by decide +kernel
theorem dX0_squareRoot_96 : decode cX0_squareRoot 96 = .ok (.isub, 1) := by decide +kernel
theorem dX0_squareRoot_97 : decode cX0_squareRoot 97 = .ok (.iload_n 2, 1) := by decide +kernel
theorem dX0_squareRoot_98 : decode cX0_squareRoot 98 = .ok (.iload_n 3, 1) := by decide +kernel
theorem dX0_squareRoot_99 : decode cX0_squareRoot 99 = .ok (.invokevirtual 80, 3) := by decide +kernel
theorem dX0_squareRoot_102 : decode cX0_squareRoot 102 = .ok (.lreturn, 1) := by decide +kernel
theorem dX4_scaleByFives_0 : decode cX4_scaleByFives 0 = .ok (.iload_n 1, 1) := by decide +kernel
theorem dX4_scaleByFives_1 : decode cX4_scaleByFives 1 = .ok (.istore_n 2, 1) := by decide +kernel
theorem dX4_scaleByFives_2 : decode cX4_scaleByFives 2 = .ok (.iload_n 2, 1) := by decide +kernel
theorem dX4_scaleByFives_3 : decode cX4_scaleByFives 3 = .ok (.bipush 13, 2) := by decide +kernel
theorem dX4_scaleByFives_5 : decode cX4_scaleByFives 5 = .ok (.if_icmp .lt 17, 3) := by decide +kernel
theorem dX4_scaleByFives_8 : decode cX4_scaleByFives 8 = .ok (.aload_n 0, 1) := by decide +kernel
theorem dX4_scaleByFives_9 : decode cX4_scaleByFives 9 = .ok (.ldc2_w 22, 3) := by decide +kernel
theorem dX4_scaleByFives_12 : decode cX4_scaleByFives 12 = .ok (.lconst 0, 1) := by decide +kernel
theorem dX4_scaleByFives_13 : decode cX4_scaleByFives 13 = .ok (.invokevirtual 24, 3) := by decide +kernel
theorem dX4_scaleByFives_16 : decode cX4_scaleByFives 16 = .ok (.iinc 2 (-13), 3) := by decide +kernel
theorem dX4_scaleByFives_19 : decode cX4_scaleByFives 19 = .ok (.goto (-17), 3) := by decide +kernel
theorem dX4_scaleByFives_22 : decode cX4_scaleByFives 22 = .ok (.lconst 1, 1) := by decide +kernel
theorem dX4_scaleByFives_23 : decode cX4_scaleByFives 23 = .ok (.lstore_n 3, 1) := by decide +kernel
theorem dX4_scaleByFives_24 : decode cX4_scaleByFives 24 = .ok (.iload_n 2, 1) := by decide +kernel
theorem dX4_scaleByFives_25 : decode cX4_scaleByFives 25 = .ok (.ifCond .le 15, 3) := by decide +kernel
theorem dX4_scaleByFives_28 : decode cX4_scaleByFives 28 = .ok (.lload_n 3, 1) := by decide +kernel
theorem dX4_scaleByFives_29 : decode cX4_scaleByFives 29 = .ok (.ldc2_w 28, 3) := by decide +kernel
theorem dX4_scaleByFives_32 : decode cX4_scaleByFives 32 = .ok (.lmul, 1) := by decide +kernel
theorem dX4_scaleByFives_33 : decode cX4_scaleByFives 33 = .ok (.lstore_n 3, 1) := by decide +kernel
theorem dX4_scaleByFives_34 : decode cX4_scaleByFives 34 = .ok (.iinc 2 (-1), 3) := by decide +kernel
theorem dX4_scaleByFives_37 : decode cX4_scaleByFives 37 = .ok (.goto (-13), 3) := by decide +kernel
theorem dX4_scaleByFives_40 : decode cX4_scaleByFives 40 = .ok (.aload_n 0, 1) := by decide +kernel
theorem dX4_scaleByFives_41 : decode cX4_scaleByFives 41 = .ok (.lload_n 3, 1) := by decide +kernel
theorem dX4_scaleByFives_42 : decode cX4_scaleByFives 42 = .ok (.lconst 0, 1) := by decide +kernel
theorem dX4_scaleByFives_43 : decode cX4_scaleByFives 43 = .ok (.invokevirtual 24, 3) := by decide +kernel
theorem dX4_scaleByFives_46 : decode cX4_scaleByFives 46 = .ok (.return_, 1) := by decide +kernel
theorem dX7_at_0 : decode cX7_at 0 = .ok (.iload_n 1, 1) := by decide +kernel
theorem dX7_at_1 : decode cX7_at 1 = .ok (.ifCond .lt 27, 3) := by decide +kernel
theorem dX7_at_4 : decode cX7_at 4 = .ok (.iload_n 1, 1) := by decide +kernel
theorem dX7_at_5 : decode cX7_at 5 = .ok (.aload_n 0, 1) := by decide +kernel
theorem dX7_at_6 : decode cX7_at 6 = .ok (.getfield 15, 3) := by decide +kernel
theorem dX7_at_9 : decode cX7_at 9 = .ok (.if_icmp .ge 19, 3) := by decide +kernel
theorem dX7_at_12 : decode cX7_at 12 = .ok (.iload_n 1, 1) := by decide +kernel
theorem dX7_at_13 : decode cX7_at 13 = .ok (.sipush 1200, 3) := by decide +kernel
theorem dX7_at_16 : decode cX7_at 16 = .ok (.if_icmp .ge 12, 3) := by decide +kernel
theorem dX7_at_19 : decode cX7_at 19 = .ok (.aload_n 0, 1) := by decide +kernel
theorem dX7_at_20 : decode cX7_at 20 = .ok (.getfield 11, 3) := by decide +kernel
theorem dX7_at_23 : decode cX7_at 23 = .ok (.iload_n 1, 1) := by decide +kernel
theorem dX7_at_24 : decode cX7_at 24 = .ok (.iaload, 1) := by decide +kernel
theorem dX7_at_25 : decode cX7_at 25 = .ok (.goto 4, 3) := by decide +kernel
theorem dX7_at_28 : decode cX7_at 28 = .ok (.iconst (-1), 1) := by decide +kernel
theorem dX7_at_29 : decode cX7_at 29 = .ok (.ireturn, 1) := by decide +kernel
theorem dX7_isTenFigure_0 : decode cX7_isTenFigure 0 = .ok (.iload_n 0, 1) := by decide +kernel
theorem dX7_isTenFigure_1 : decode cX7_isTenFigure 1 = .ok (.bipush 48, 2) := by decide +kernel
theorem dX7_isTenFigure_3 : decode cX7_isTenFigure 3 = .ok (.if_icmp .lt 13, 3) := by decide +kernel
theorem dX7_isTenFigure_6 : decode cX7_isTenFigure 6 = .ok (.iload_n 0, 1) := by decide +kernel
theorem dX7_isTenFigure_7 : decode cX7_isTenFigure 7 = .ok (.bipush 57, 2) := by decide +kernel
theorem dX7_isTenFigure_9 : decode cX7_isTenFigure 9 = .ok (.if_icmp .gt 7, 3) := by decide +kernel
theorem dX7_isTenFigure_12 : decode cX7_isTenFigure 12 = .ok (.iconst 1, 1) := by decide +kernel
theorem dX7_isTenFigure_13 : decode cX7_isTenFigure 13 = .ok (.goto 4, 3) := by decide +kernel
theorem dX7_isTenFigure_16 : decode cX7_isTenFigure 16 = .ok (.iconst 0, 1) := by decide +kernel
theorem dX7_isTenFigure_17 : decode cX7_isTenFigure 17 = .ok (.ireturn, 1) := by decide +kernel
theorem dX7_figureAt_0 : decode cX7_figureAt 0 = .ok (.aload_n 0, 1) := by decide +kernel
theorem dX7_figureAt_1 : decode cX7_figureAt 1 = .ok (.iload_n 1, 1) := by decide +kernel
theorem dX7_figureAt_2 : decode cX7_figureAt 2 = .ok (.invokevirtual 19, 3) := by decide +kernel
theorem dX7_figureAt_5 : decode cX7_figureAt 5 = .ok (.istore_n 2, 1) := by decide +kernel
theorem dX7_figureAt_6 : decode cX7_figureAt 6 = .ok (.iload_n 2, 1) := by decide +kernel
theorem dX7_figureAt_7 : decode cX7_figureAt 7 = .ok (.invokestatic 90, 3) := by decide +kernel
theorem dX7_figureAt_10 : decode cX7_figureAt 10 = .ok (.ifCond .eq 8, 3) := by decide +kernel
theorem dX7_figureAt_13 : decode cX7_figureAt 13 = .ok (.iload_n 2, 1) := by decide +kernel
theorem dX7_figureAt_14 : decode cX7_figureAt 14 = .ok (.bipush 48, 2) := by decide +kernel
theorem dX7_figureAt_16 : decode cX7_figureAt 16 = .ok (.isub, 1) := by decide +kernel
theorem dX7_figureAt_17 : decode cX7_figureAt 17 = .ok (.ireturn, 1) := by decide +kernel
theorem dX7_figureAt_18 : decode cX7_figureAt 18 = .ok (.aload_n 0, 1) := by decide +kernel
theorem dX7_figureAt_19 : decode cX7_figureAt 19 = .ok (.getfield 41, 3) := by decide +kernel
theorem dX7_figureAt_22 : decode cX7_figureAt 22 = .ok (.ifCond .eq 25, 3) := by decide +kernel
theorem dX7_figureAt_25 : decode cX7_figureAt 25 = .ok (.iload_n 2, 1) := by decide +kernel
theorem dX7_figureAt_26 : decode cX7_figureAt 26 = .ok (.bipush 97, 2) := by decide +kernel
theorem dX7_figureAt_28 : decode cX7_figureAt 28 = .ok (.if_icmp .lt 19, 3) := by decide +kernel
theorem dX7_figureAt_31 : decode cX7_figureAt 31 = .ok (.iload_n 2, 1) := by decide +kernel
theorem dX7_figureAt_32 : decode cX7_figureAt 32 = .ok (.bipush 102, 2) := by decide +kernel
theorem dX7_figureAt_34 : decode cX7_figureAt 34 = .ok (.if_icmp .gt 13, 3) := by decide +kernel
theorem dX7_figureAt_37 : decode cX7_figureAt 37 = .ok (.iload_n 2, 1) := by decide +kernel
theorem dX7_figureAt_38 : decode cX7_figureAt 38 = .ok (.bipush 97, 2) := by decide +kernel
theorem dX7_figureAt_40 : decode cX7_figureAt 40 = .ok (.isub, 1) := by decide +kernel
theorem dX7_figureAt_41 : decode cX7_figureAt 41 = .ok (.bipush 10, 2) := by decide +kernel
theorem dX7_figureAt_43 : decode cX7_figureAt 43 = .ok (.iadd, 1) := by decide +kernel
theorem dX7_figureAt_44 : decode cX7_figureAt 44 = .ok (.goto 4, 3) := by decide +kernel
theorem dX7_figureAt_47 : decode cX7_figureAt 47 = .ok (.iconst (-1), 1) := by decide +kernel
theorem dX7_figureAt_48 : decode cX7_figureAt 48 = .ok (.ireturn, 1) := by decide +kernel
theorem dX7_gather_0 : decode cX7_gather 0 = .ok (.aload_n 0, 1) := by decide +kernel
theorem dX7_gather_1 : decode cX7_gather 1 = .ok (.getfield 41, 3) := by decide +kernel
theorem dX7_gather_4 : decode cX7_gather 4 = .ok (.ifCond .eq 8, 3) := by decide +kernel
theorem dX7_gather_7 : decode cX7_gather 7 = .ok (.bipush 16, 2) := by decide +kernel
theorem dX7_gather_9 : decode cX7_gather 9 = .ok (.goto 5, 3) := by decide +kernel
theorem dX7_gather_12 : decode cX7_gather 12 = .ok (.bipush 10, 2) := by decide +kernel
theorem dX7_gather_14 : decode cX7_gather 14 = .ok (.istore_n 2, 1) := by decide +kernel
theorem dX7_gather_15 : decode cX7_gather 15 = .ok (.lconst 0, 1) := by decide +kernel
theorem dX7_gather_16 : decode cX7_gather 16 = .ok (.lstore_n 3, 1) := by decide +kernel
theorem dX7_gather_17 : decode cX7_gather 17 = .ok (.lconst 1, 1) := by decide +kernel
theorem dX7_gather_18 : decode cX7_gather 18 = .ok (.lstore 5, 2) := by decide +kernel
theorem dX7_gather_20 : decode cX7_gather 20 = .ok (.aload_n 1, 1) := by decide +kernel
theorem dX7_gather_21 : decode cX7_gather 21 = .ok (.lconst 0, 1) := by decide +kernel
theorem dX7_gather_22 : decode cX7_gather 22 = .ok (.invokevirtual 60, 3) := by decide +kernel
theorem dX7_gather_25 : decode cX7_gather 25 = .ok (.aload_n 0, 1) := by decide +kernel
theorem dX7_gather_26 : decode cX7_gather 26 = .ok (.getfield 44, 3) := by decide +kernel
theorem dX7_gather_29 : decode cX7_gather 29 = .ok (.istore 7, 2) := by decide +kernel
theorem dX7_gather_31 : decode cX7_gather 31 = .ok (.iload 7, 2) := by decide +kernel
theorem dX7_gather_33 : decode cX7_gather 33 = .ok (.aload_n 0, 1) := by decide +kernel
theorem dX7_gather_34 : decode cX7_gather 34 = .ok (.getfield 51, 3) := by decide +kernel
theorem dX7_gather_37 : decode cX7_gather 37 = .ok (.if_icmp .ge 59, 3) := by decide +kernel
theorem dX7_gather_40 : decode cX7_gather 40 = .ok (.aload_n 0, 1) := by decide +kernel
theorem dX7_gather_41 : decode cX7_gather 41 = .ok (.iload 7, 2) := by decide +kernel
theorem dX7_gather_43 : decode cX7_gather 43 = .ok (.invokevirtual 66, 3) := by decide +kernel
theorem dX7_gather_46 : decode cX7_gather 46 = .ok (.istore 8, 2) := by decide +kernel
theorem dX7_gather_48 : decode cX7_gather 48 = .ok (.iload 8, 2) := by decide +kernel
theorem dX7_gather_50 : decode cX7_gather 50 = .ok (.ifCond .lt 19, 3) := by decide +kernel
theorem dX7_gather_53 : decode cX7_gather 53 = .ok (.lload_n 3, 1) := by decide +kernel
theorem dX7_gather_54 : decode cX7_gather 54 = .ok (.iload_n 2, 1) := by decide +kernel
theorem dX7_gather_55 : decode cX7_gather 55 = .ok (.i2l, 1) := by decide +kernel
theorem dX7_gather_56 : decode cX7_gather 56 = .ok (.lmul, 1) := by decide +kernel
theorem dX7_gather_57 : decode cX7_gather 57 = .ok (.iload 8, 2) := by decide +kernel
theorem dX7_gather_59 : decode cX7_gather 59 = .ok (.i2l, 1) := by decide +kernel
theorem dX7_gather_60 : decode cX7_gather 60 = .ok (.ladd, 1) := by decide +kernel
theorem dX7_gather_61 : decode cX7_gather 61 = .ok (.lstore_n 3, 1) := by decide +kernel
theorem dX7_gather_62 : decode cX7_gather 62 = .ok (.lload 5, 2) := by decide +kernel
theorem dX7_gather_64 : decode cX7_gather 64 = .ok (.iload_n 2, 1) := by decide +kernel
theorem dX7_gather_65 : decode cX7_gather 65 = .ok (.i2l, 1) := by decide +kernel
theorem dX7_gather_66 : decode cX7_gather 66 = .ok (.lmul, 1) := by decide +kernel
theorem dX7_gather_67 : decode cX7_gather 67 = .ok (.lstore 5, 2) := by decide +kernel
theorem dX7_gather_69 : decode cX7_gather 69 = .ok (.lload 5, 2) := by decide +kernel
theorem dX7_gather_71 : decode cX7_gather 71 = .ok (.ldc2_w 69, 3) := by decide +kernel
theorem dX7_gather_74 : decode cX7_gather 74 = .ok (.lcmp, 1) := by decide +kernel
theorem dX7_gather_75 : decode cX7_gather 75 = .ok (.ifCond .lt 15, 3) := by decide +kernel
theorem dX7_gather_78 : decode cX7_gather 78 = .ok (.aload_n 1, 1) := by decide +kernel
theorem dX7_gather_79 : decode cX7_gather 79 = .ok (.lload 5, 2) := by decide +kernel
theorem dX7_gather_81 : decode cX7_gather 81 = .ok (.lload_n 3, 1) := by decide +kernel
theorem dX7_gather_82 : decode cX7_gather 82 = .ok (.invokevirtual 71, 3) := by decide +kernel
theorem dX7_gather_85 : decode cX7_gather 85 = .ok (.lconst 0, 1) := by decide +kernel
theorem dX7_gather_86 : decode cX7_gather 86 = .ok (.lstore_n 3, 1) := by decide +kernel
theorem dX7_gather_87 : decode cX7_gather 87 = .ok (.lconst 1, 1) := by decide +kernel
theorem dX7_gather_88 : decode cX7_gather 88 = .ok (.lstore 5, 2) := by decide +kernel
theorem dX7_gather_90 : decode cX7_gather 90 = .ok (.iinc 7 1, 3) := by decide +kernel
theorem dX7_gather_93 : decode cX7_gather 93 = .ok (.goto (-62), 3) := by decide +kernel
theorem dX7_gather_96 : decode cX7_gather 96 = .ok (.aload_n 1, 1) := by decide +kernel
theorem dX7_gather_97 : decode cX7_gather 97 = .ok (.lload 5, 2) := by decide +kernel
theorem dX7_gather_99 : decode cX7_gather 99 = .ok (.lload_n 3, 1) := by decide +kernel
theorem dX7_gather_100 : decode cX7_gather 100 = .ok (.invokevirtual 71, 3) := by decide +kernel
theorem dX7_gather_103 : decode cX7_gather 103 = .ok (.return_, 1) := by decide +kernel
theorem dX0_valueOf_0 : decode cX0_valueOf 0 = .ok (.aload_n 1, 1) := by decide +kernel
theorem dX0_valueOf_1 : decode cX0_valueOf 1 = .ok (.getfield 84, 3) := by decide +kernel
theorem dX0_valueOf_4 : decode cX0_valueOf 4 = .ok (.iconst 4, 1) := by decide +kernel
theorem dX0_valueOf_5 : decode cX0_valueOf 5 = .ok (.if_icmp .ne 8, 3) := by decide +kernel
theorem dX0_valueOf_8 : decode cX0_valueOf 8 = .ok (.iload_n 2, 1) := by decide +kernel
theorem dX0_valueOf_9 : decode cX0_valueOf 9 = .ok (.invokestatic 24, 3) := by decide +kernel
theorem dX0_valueOf_12 : decode cX0_valueOf 12 = .ok (.lreturn, 1) := by decide +kernel
theorem dX0_valueOf_13 : decode cX0_valueOf 13 = .ok (.aload_n 1, 1) := by decide +kernel
theorem dX0_valueOf_14 : decode cX0_valueOf 14 = .ok (.getfield 84, 3) := by decide +kernel
theorem dX0_valueOf_17 : decode cX0_valueOf 17 = .ok (.iconst 3, 1) := by decide +kernel
theorem dX0_valueOf_18 : decode cX0_valueOf 18 = .ok (.if_icmp .ne 12, 3) := by decide +kernel
theorem dX0_valueOf_21 : decode cX0_valueOf 21 = .ok (.iload_n 2, 1) := by decide +kernel
theorem dX0_valueOf_22 : decode cX0_valueOf 22 = .ok (.aload_n 1, 1) := by decide +kernel
theorem dX0_valueOf_23 : decode cX0_valueOf 23 = .ok (.getfield 87, 3) := by decide +kernel
theorem dX0_valueOf_26 : decode cX0_valueOf 26 = .ok (.invokestatic 34, 3) := by decide +kernel
theorem dX0_valueOf_29 : decode cX0_valueOf 29 = .ok (.lreturn, 1) := by decide +kernel
theorem dX0_valueOf_30 : decode cX0_valueOf 30 = .ok (.aload_n 1, 1) := by decide +kernel
theorem dX0_valueOf_31 : decode cX0_valueOf 31 = .ok (.aload_n 0, 1) := by decide +kernel
theorem dX0_valueOf_32 : decode cX0_valueOf 32 = .ok (.getfield 9, 3) := by decide +kernel
theorem dX0_valueOf_35 : decode cX0_valueOf 35 = .ok (.invokevirtual 88, 3) := by decide +kernel
theorem dX0_valueOf_38 : decode cX0_valueOf 38 = .ok (.aload_n 0, 1) := by decide +kernel
theorem dX0_valueOf_39 : decode cX0_valueOf 39 = .ok (.getfield 9, 3) := by decide +kernel
theorem dX0_valueOf_42 : decode cX0_valueOf 42 = .ok (.invokevirtual 92, 3) := by decide +kernel
theorem dX0_valueOf_45 : decode cX0_valueOf 45 = .ok (.ifCond .ne 10, 3) := by decide +kernel
theorem dX0_valueOf_48 : decode cX0_valueOf 48 = .ok (.aload_n 1, 1) := by decide +kernel
theorem dX0_valueOf_49 : decode cX0_valueOf 49 = .ok (.getfield 96, 3) := by decide +kernel
theorem dX0_valueOf_52 : decode cX0_valueOf 52 = .ok (.ifCond .eq 29, 3) := by decide +kernel
theorem dX0_valueOf_55 : decode cX0_valueOf 55 = .ok (.aload_n 1, 1) := by decide +kernel
theorem dX0_valueOf_56 : decode cX0_valueOf 56 = .ok (.getfield 87, 3) := by decide +kernel
theorem dX0_valueOf_59 : decode cX0_valueOf 59 = .ok (.aload_n 0, 1) := by decide +kernel
theorem dX0_valueOf_60 : decode cX0_valueOf 60 = .ok (.getfield 9, 3) := by decide +kernel
theorem dX0_valueOf_63 : decode cX0_valueOf 63 = .ok (.aload_n 1, 1) := by decide +kernel
theorem dX0_valueOf_64 : decode cX0_valueOf 64 = .ok (.getfield 99, 3) := by decide +kernel
theorem dX0_valueOf_67 : decode cX0_valueOf 67 = .ok (.iconst 4, 1) := by decide +kernel
theorem dX0_valueOf_68 : decode cX0_valueOf 68 = .ok (.aload_n 1, 1) := by decide +kernel
theorem dX0_valueOf_69 : decode cX0_valueOf 69 = .ok (.getfield 102, 3) := by decide +kernel
theorem dX0_valueOf_72 : decode cX0_valueOf 72 = .ok (.imul, 1) := by decide +kernel
theorem dX0_valueOf_73 : decode cX0_valueOf 73 = .ok (.isub, 1) := by decide +kernel
theorem dX0_valueOf_74 : decode cX0_valueOf 74 = .ok (.iconst 0, 1) := by decide +kernel
theorem dX0_valueOf_75 : decode cX0_valueOf 75 = .ok (.iload_n 2, 1) := by decide +kernel
theorem dX0_valueOf_76 : decode cX0_valueOf 76 = .ok (.iload_n 3, 1) := by decide +kernel
theorem dX0_valueOf_77 : decode cX0_valueOf 77 = .ok (.invokestatic 51, 3) := by decide +kernel
theorem dX0_valueOf_80 : decode cX0_valueOf 80 = .ok (.lreturn, 1) := by decide +kernel
theorem dX0_valueOf_81 : decode cX0_valueOf 81 = .ok (.aload_n 1, 1) := by decide +kernel
theorem dX0_valueOf_82 : decode cX0_valueOf 82 = .ok (.getfield 99, 3) := by decide +kernel
theorem dX0_valueOf_85 : decode cX0_valueOf 85 = .ok (.aload_n 1, 1) := by decide +kernel
theorem dX0_valueOf_86 : decode cX0_valueOf 86 = .ok (.getfield 102, 3) := by decide +kernel
theorem dX0_valueOf_89 : decode cX0_valueOf 89 = .ok (.isub, 1) := by decide +kernel
theorem dX0_valueOf_90 : decode cX0_valueOf 90 = .ok (.istore 4, 2) := by decide +kernel
theorem dX0_valueOf_92 : decode cX0_valueOf 92 = .ok (.iload 4, 2) := by decide +kernel
theorem dX0_valueOf_94 : decode cX0_valueOf 94 = .ok (.aload_n 1, 1) := by decide +kernel
theorem dX0_valueOf_95 : decode cX0_valueOf 95 = .ok (.getfield 105, 3) := by decide +kernel
theorem dX0_valueOf_98 : decode cX0_valueOf 98 = .ok (.iadd, 1) := by decide +kernel
theorem dX0_valueOf_99 : decode cX0_valueOf 99 = .ok (.iconst 1, 1) := by decide +kernel
theorem dX0_valueOf_100 : decode cX0_valueOf 100 = .ok (.isub, 1) := by decide +kernel
theorem dX0_valueOf_101 : decode cX0_valueOf 101 = .ok (.istore 5, 2) := by decide +kernel
theorem dX0_valueOf_103 : decode cX0_valueOf 103 = .ok (.iload 5, 2) := by decide +kernel
theorem dX0_valueOf_105 : decode cX0_valueOf 105 = .ok (.sipush 400, 3) := by decide +kernel
theorem dX0_valueOf_108 : decode cX0_valueOf 108 = .ok (.if_icmp .gt 11, 3) := by decide +kernel
theorem dX0_valueOf_111 : decode cX0_valueOf 111 = .ok (.iload 5, 2) := by decide +kernel
theorem dX0_valueOf_113 : decode cX0_valueOf 113 = .ok (.sipush (-400), 3) := by decide +kernel
theorem dX0_valueOf_116 : decode cX0_valueOf 116 = .ok (.if_icmp .ge 40, 3) := by decide +kernel
theorem dX0_valueOf_119 : decode cX0_valueOf 119 = .ok (.aload_n 0, 1) := by decide +kernel
theorem dX0_valueOf_120 : decode cX0_valueOf 120 = .ok (.getfield 9, 3) := by decide +kernel
theorem dX0_valueOf_123 : decode cX0_valueOf 123 = .ok (.lconst 1, 1) := by decide +kernel
theorem dX0_valueOf_124 : decode cX0_valueOf 124 = .ok (.invokevirtual 42, 3) := by decide +kernel
theorem dX0_valueOf_127 : decode cX0_valueOf 127 = .ok (.aload_n 1, 1) := by decide +kernel
theorem dX0_valueOf_128 : decode cX0_valueOf 128 = .ok (.getfield 87, 3) := by decide +kernel
theorem dX0_valueOf_131 : decode cX0_valueOf 131 = .ok (.aload_n 0, 1) := by decide +kernel
theorem dX0_valueOf_132 : decode cX0_valueOf 132 = .ok (.getfield 9, 3) := by decide +kernel
theorem dX0_valueOf_135 : decode cX0_valueOf 135 = .ok (.iload 5, 2) := by decide +kernel
theorem dX0_valueOf_137 : decode cX0_valueOf 137 = .ok (.ifCond .ge 9, 3) := by decide +kernel
theorem dX0_valueOf_140 : decode cX0_valueOf 140 = .ok (.sipush (-5000), 3) := by decide +kernel
theorem dX0_valueOf_143 : decode cX0_valueOf 143 = .ok (.goto 6, 3) := by decide +kernel
theorem dX0_valueOf_146 : decode cX0_valueOf 146 = .ok (.sipush 5000, 3) := by decide +kernel
theorem dX0_valueOf_149 : decode cX0_valueOf 149 = .ok (.iconst 0, 1) := by decide +kernel
theorem dX0_valueOf_150 : decode cX0_valueOf 150 = .ok (.iload_n 2, 1) := by decide +kernel
theorem dX0_valueOf_151 : decode cX0_valueOf 151 = .ok (.iload_n 3, 1) := by decide +kernel
theorem dX0_valueOf_152 : decode cX0_valueOf 152 = .ok (.invokestatic 51, 3) := by decide +kernel
theorem dX0_valueOf_155 : decode cX0_valueOf 155 = .ok (.lreturn, 1) := by decide +kernel
theorem dX0_valueOf_156 : decode cX0_valueOf 156 = .ok (.iload 4, 2) := by decide +kernel
theorem dX0_valueOf_158 : decode cX0_valueOf 158 = .ok (.ifCond .lt 29, 3) := by decide +kernel
theorem dX0_valueOf_161 : decode cX0_valueOf 161 = .ok (.aload_n 0, 1) := by decide +kernel
theorem dX0_valueOf_162 : decode cX0_valueOf 162 = .ok (.getfield 9, 3) := by decide +kernel
theorem dX0_valueOf_165 : decode cX0_valueOf 165 = .ok (.iload 4, 2) := by decide +kernel
theorem dX0_valueOf_167 : decode cX0_valueOf 167 = .ok (.invokevirtual 108, 3) := by decide +kernel
theorem dX0_valueOf_170 : decode cX0_valueOf 170 = .ok (.aload_n 1, 1) := by decide +kernel
theorem dX0_valueOf_171 : decode cX0_valueOf 171 = .ok (.getfield 87, 3) := by decide +kernel
theorem dX0_valueOf_174 : decode cX0_valueOf 174 = .ok (.aload_n 0, 1) := by decide +kernel
theorem dX0_valueOf_175 : decode cX0_valueOf 175 = .ok (.getfield 9, 3) := by decide +kernel
theorem dX0_valueOf_178 : decode cX0_valueOf 178 = .ok (.iload 4, 2) := by decide +kernel
theorem dX0_valueOf_180 : decode cX0_valueOf 180 = .ok (.iconst 0, 1) := by decide +kernel
theorem dX0_valueOf_181 : decode cX0_valueOf 181 = .ok (.iload_n 2, 1) := by decide +kernel
theorem dX0_valueOf_182 : decode cX0_valueOf 182 = .ok (.iload_n 3, 1) := by decide +kernel
theorem dX0_valueOf_183 : decode cX0_valueOf 183 = .ok (.invokestatic 51, 3) := by decide +kernel
theorem dX0_valueOf_186 : decode cX0_valueOf 186 = .ok (.lreturn, 1) := by decide +kernel
theorem dX0_valueOf_187 : decode cX0_valueOf 187 = .ok (.aload_n 0, 1) := by decide +kernel
theorem dX0_valueOf_188 : decode cX0_valueOf 188 = .ok (.getfield 15, 3) := by decide +kernel
theorem dX0_valueOf_191 : decode cX0_valueOf 191 = .ok (.lconst 1, 1) := by decide +kernel
theorem dX0_valueOf_192 : decode cX0_valueOf 192 = .ok (.invokevirtual 42, 3) := by decide +kernel
theorem dX0_valueOf_195 : decode cX0_valueOf 195 = .ok (.aload_n 0, 1) := by decide +kernel
theorem dX0_valueOf_196 : decode cX0_valueOf 196 = .ok (.getfield 15, 3) := by decide +kernel
theorem dX0_valueOf_199 : decode cX0_valueOf 199 = .ok (.iload 4, 2) := by decide +kernel
theorem dX0_valueOf_201 : decode cX0_valueOf 201 = .ok (.ineg, 1) := by decide +kernel
theorem dX0_valueOf_202 : decode cX0_valueOf 202 = .ok (.invokevirtual 108, 3) := by decide +kernel
theorem dX0_valueOf_205 : decode cX0_valueOf 205 = .ok (.aload_n 0, 1) := by decide +kernel
theorem dX0_valueOf_206 : decode cX0_valueOf 206 = .ok (.aload_n 1, 1) := by decide +kernel
theorem dX0_valueOf_207 : decode cX0_valueOf 207 = .ok (.getfield 87, 3) := by decide +kernel
theorem dX0_valueOf_210 : decode cX0_valueOf 210 = .ok (.iload 4, 2) := by decide +kernel
theorem dX0_valueOf_212 : decode cX0_valueOf 212 = .ok (.iload_n 2, 1) := by decide +kernel
theorem dX0_valueOf_213 : decode cX0_valueOf 213 = .ok (.iload_n 3, 1) := by decide +kernel
theorem dX0_valueOf_214 : decode cX0_valueOf 214 = .ok (.invokevirtual 70, 3) := by decide +kernel
theorem dX0_valueOf_217 : decode cX0_valueOf 217 = .ok (.lreturn, 1) := by decide +kernel
theorem dX1_clear_0 : decode cX1_clear 0 = .ok (.aload_n 0, 1) := by decide +kernel
theorem dX1_clear_1 : decode cX1_clear 1 = .ok (.iconst 0, 1) := by decide +kernel
theorem dX1_clear_2 : decode cX1_clear 2 = .ok (.putfield 13, 3) := by decide +kernel
theorem dX1_clear_5 : decode cX1_clear 5 = .ok (.aload_n 0, 1) := by decide +kernel
theorem dX1_clear_6 : decode cX1_clear 6 = .ok (.iconst 0, 1) := by decide +kernel
theorem dX1_clear_7 : decode cX1_clear 7 = .ok (.putfield 17, 3) := by decide +kernel
theorem dX1_clear_10 : decode cX1_clear 10 = .ok (.return_, 1) := by decide +kernel
theorem dX1_at_0 : decode cX1_at 0 = .ok (.iload_n 1, 1) := by decide +kernel
theorem dX1_at_1 : decode cX1_at 1 = .ok (.ifCond .lt 27, 3) := by decide +kernel
theorem dX1_at_4 : decode cX1_at 4 = .ok (.iload_n 1, 1) := by decide +kernel
theorem dX1_at_5 : decode cX1_at 5 = .ok (.aload_n 0, 1) := by decide +kernel
theorem dX1_at_6 : decode cX1_at 6 = .ok (.getfield 13, 3) := by decide +kernel
theorem dX1_at_9 : decode cX1_at 9 = .ok (.if_icmp .ge 19, 3) := by decide +kernel
theorem dX1_at_12 : decode cX1_at 12 = .ok (.iload_n 1, 1) := by decide +kernel
theorem dX1_at_13 : decode cX1_at 13 = .ok (.sipush 792, 3) := by decide +kernel
theorem dX1_at_16 : decode cX1_at 16 = .ok (.if_icmp .ge 12, 3) := by decide +kernel
theorem dX1_at_19 : decode cX1_at 19 = .ok (.aload_n 0, 1) := by decide +kernel
theorem dX1_at_20 : decode cX1_at 20 = .ok (.getfield 9, 3) := by decide +kernel
theorem dX1_at_23 : decode cX1_at 23 = .ok (.iload_n 1, 1) := by decide +kernel
theorem dX1_at_24 : decode cX1_at 24 = .ok (.iaload, 1) := by decide +kernel
theorem dX1_at_25 : decode cX1_at 25 = .ok (.goto 4, 3) := by decide +kernel
theorem dX1_at_28 : decode cX1_at 28 = .ok (.iconst 0, 1) := by decide +kernel
theorem dX1_at_29 : decode cX1_at 29 = .ok (.ireturn, 1) := by decide +kernel
theorem dX1_append_0 : decode cX1_append 0 = .ok (.aload_n 0, 1) := by decide +kernel
theorem dX1_append_1 : decode cX1_append 1 = .ok (.getfield 13, 3) := by decide +kernel
theorem dX1_append_4 : decode cX1_append 4 = .ok (.sipush 792, 3) := by decide +kernel
theorem dX1_append_7 : decode cX1_append 7 = .ok (.if_icmp .ge 23, 3) := by decide +kernel
theorem dX1_append_10 : decode cX1_append 10 = .ok (.aload_n 0, 1) := by decide +kernel
theorem dX1_append_11 : decode cX1_append 11 = .ok (.getfield 9, 3) := by decide +kernel
theorem dX1_append_14 : decode cX1_append 14 = .ok (.aload_n 0, 1) := by decide +kernel
theorem dX1_append_15 : decode cX1_append 15 = .ok (.getfield 13, 3) := by decide +kernel
theorem dX1_append_18 : decode cX1_append 18 = .ok (.iload_n 1, 1) := by decide +kernel
theorem dX1_append_19 : decode cX1_append 19 = .ok (.iastore, 1) := by decide +kernel
theorem dX1_append_20 : decode cX1_append 20 = .ok (.aload_n 0, 1) := by decide +kernel
theorem dX1_append_21 : decode cX1_append 21 = .ok (.dup, 1) := by decide +kernel
theorem dX1_append_22 : decode cX1_append 22 = .ok (.getfield 13, 3) := by decide +kernel
theorem dX1_append_25 : decode cX1_append 25 = .ok (.iconst 1, 1) := by decide +kernel
theorem dX1_append_26 : decode cX1_append 26 = .ok (.iadd, 1) := by decide +kernel
theorem dX1_append_27 : decode cX1_append 27 = .ok (.putfield 13, 3) := by decide +kernel
theorem dX1_append_30 : decode cX1_append 30 = .ok (.return_, 1) := by decide +kernel
theorem dJ6_numberOfTrailingZeros_0f7a4_0 : decode cJ6_numberOfTrailingZeros_0f7a4 0 = .ok (.iload_n 0, 1) := by decide +kernel
theorem dJ6_numberOfTrailingZeros_0f7a4_1 : decode cJ6_numberOfTrailingZeros_0f7a4 1 = .ok (.iconst (-1), 1) := by decide +kernel
theorem dJ6_numberOfTrailingZeros_0f7a4_2 : decode cJ6_numberOfTrailingZeros_0f7a4 2 = .ok (.ixor, 1) := by decide +kernel
theorem dJ6_numberOfTrailingZeros_0f7a4_3 : decode cJ6_numberOfTrailingZeros_0f7a4 3 = .ok (.iload_n 0, 1) := by decide +kernel
theorem dJ6_numberOfTrailingZeros_0f7a4_4 : decode cJ6_numberOfTrailingZeros_0f7a4 4 = .ok (.iconst 1, 1) := by decide +kernel
theorem dJ6_numberOfTrailingZeros_0f7a4_5 : decode cJ6_numberOfTrailingZeros_0f7a4 5 = .ok (.isub, 1) := by decide +kernel
theorem dJ6_numberOfTrailingZeros_0f7a4_6 : decode cJ6_numberOfTrailingZeros_0f7a4 6 = .ok (.iand, 1) := by decide +kernel
theorem dJ6_numberOfTrailingZeros_0f7a4_7 : decode cJ6_numberOfTrailingZeros_0f7a4 7 = .ok (.istore_n 0, 1) := by decide +kernel
theorem dJ6_numberOfTrailingZeros_0f7a4_8 : decode cJ6_numberOfTrailingZeros_0f7a4 8 = .ok (.iload_n 0, 1) := by decide +kernel
theorem dJ6_numberOfTrailingZeros_0f7a4_9 : decode cJ6_numberOfTrailingZeros_0f7a4 9 = .ok (.ifCond .gt 8, 3) := by decide +kernel
theorem dJ6_numberOfTrailingZeros_0f7a4_12 : decode cJ6_numberOfTrailingZeros_0f7a4 12 = .ok (.iload_n 0, 1) := by decide +kernel
theorem dJ6_numberOfTrailingZeros_0f7a4_13 : decode cJ6_numberOfTrailingZeros_0f7a4 13 = .ok (.bipush 32, 2) := by decide +kernel
theorem dJ6_numberOfTrailingZeros_0f7a4_15 : decode cJ6_numberOfTrailingZeros_0f7a4 15 = .ok (.iand, 1) := by decide +kernel
theorem dJ6_numberOfTrailingZeros_0f7a4_16 : decode cJ6_numberOfTrailingZeros_0f7a4 16 = .ok (.ireturn, 1) := by decide +kernel
theorem dJ6_numberOfTrailingZeros_0f7a4_17 : decode cJ6_numberOfTrailingZeros_0f7a4 17 = .ok (.iconst 1, 1) := by decide +kernel
theorem dJ6_numberOfTrailingZeros_0f7a4_18 : decode cJ6_numberOfTrailingZeros_0f7a4 18 = .ok (.istore_n 1, 1) := by decide +kernel
theorem dJ6_numberOfTrailingZeros_0f7a4_19 : decode cJ6_numberOfTrailingZeros_0f7a4 19 = .ok (.iload_n 0, 1) := by decide +kernel
theorem dJ6_numberOfTrailingZeros_0f7a4_20 : decode cJ6_numberOfTrailingZeros_0f7a4 20 = .ok (.ldc_w 264, 3) := by decide +kernel
theorem dJ6_numberOfTrailingZeros_0f7a4_23 : decode cJ6_numberOfTrailingZeros_0f7a4 23 = .ok (.if_icmp .le 11, 3) := by decide +kernel
theorem dJ6_numberOfTrailingZeros_0f7a4_26 : decode cJ6_numberOfTrailingZeros_0f7a4 26 = .ok (.iinc 1 16, 3) := by decide +kernel
theorem dJ6_numberOfTrailingZeros_0f7a4_29 : decode cJ6_numberOfTrailingZeros_0f7a4 29 = .ok (.iload_n 0, 1) := by decide +kernel
theorem dJ6_numberOfTrailingZeros_0f7a4_30 : decode cJ6_numberOfTrailingZeros_0f7a4 30 = .ok (.bipush 16, 2) := by decide +kernel
theorem dJ6_numberOfTrailingZeros_0f7a4_32 : decode cJ6_numberOfTrailingZeros_0f7a4 32 = .ok (.iushr, 1) := by decide +kernel
theorem dJ6_numberOfTrailingZeros_0f7a4_33 : decode cJ6_numberOfTrailingZeros_0f7a4 33 = .ok (.istore_n 0, 1) := by decide +kernel
theorem dJ6_numberOfTrailingZeros_0f7a4_34 : decode cJ6_numberOfTrailingZeros_0f7a4 34 = .ok (.iload_n 0, 1) := by decide +kernel
theorem dJ6_numberOfTrailingZeros_0f7a4_35 : decode cJ6_numberOfTrailingZeros_0f7a4 35 = .ok (.sipush 256, 3) := by decide +kernel
theorem dJ6_numberOfTrailingZeros_0f7a4_38 : decode cJ6_numberOfTrailingZeros_0f7a4 38 = .ok (.if_icmp .le 11, 3) := by decide +kernel
theorem dJ6_numberOfTrailingZeros_0f7a4_41 : decode cJ6_numberOfTrailingZeros_0f7a4 41 = .ok (.iinc 1 8, 3) := by decide +kernel
theorem dJ6_numberOfTrailingZeros_0f7a4_44 : decode cJ6_numberOfTrailingZeros_0f7a4 44 = .ok (.iload_n 0, 1) := by decide +kernel
theorem dJ6_numberOfTrailingZeros_0f7a4_45 : decode cJ6_numberOfTrailingZeros_0f7a4 45 = .ok (.bipush 8, 2) := by decide +kernel
theorem dJ6_numberOfTrailingZeros_0f7a4_47 : decode cJ6_numberOfTrailingZeros_0f7a4 47 = .ok (.iushr, 1) := by decide +kernel
theorem dJ6_numberOfTrailingZeros_0f7a4_48 : decode cJ6_numberOfTrailingZeros_0f7a4 48 = .ok (.istore_n 0, 1) := by decide +kernel
theorem dJ6_numberOfTrailingZeros_0f7a4_49 : decode cJ6_numberOfTrailingZeros_0f7a4 49 = .ok (.iload_n 0, 1) := by decide +kernel
theorem dJ6_numberOfTrailingZeros_0f7a4_50 : decode cJ6_numberOfTrailingZeros_0f7a4 50 = .ok (.bipush 16, 2) := by decide +kernel
theorem dJ6_numberOfTrailingZeros_0f7a4_52 : decode cJ6_numberOfTrailingZeros_0f7a4 52 = .ok (.if_icmp .le 10, 3) := by decide +kernel
theorem dJ6_numberOfTrailingZeros_0f7a4_55 : decode cJ6_numberOfTrailingZeros_0f7a4 55 = .ok (.iinc 1 4, 3) := by decide +kernel
theorem dJ6_numberOfTrailingZeros_0f7a4_58 : decode cJ6_numberOfTrailingZeros_0f7a4 58 = .ok (.iload_n 0, 1) := by decide +kernel
theorem dJ6_numberOfTrailingZeros_0f7a4_59 : decode cJ6_numberOfTrailingZeros_0f7a4 59 = .ok (.iconst 4, 1) := by decide +kernel
theorem dJ6_numberOfTrailingZeros_0f7a4_60 : decode cJ6_numberOfTrailingZeros_0f7a4 60 = .ok (.iushr, 1) := by decide +kernel
theorem dJ6_numberOfTrailingZeros_0f7a4_61 : decode cJ6_numberOfTrailingZeros_0f7a4 61 = .ok (.istore_n 0, 1) := by decide +kernel
theorem dJ6_numberOfTrailingZeros_0f7a4_62 : decode cJ6_numberOfTrailingZeros_0f7a4 62 = .ok (.iload_n 0, 1) := by decide +kernel
theorem dJ6_numberOfTrailingZeros_0f7a4_63 : decode cJ6_numberOfTrailingZeros_0f7a4 63 = .ok (.iconst 4, 1) := by decide +kernel
theorem dJ6_numberOfTrailingZeros_0f7a4_64 : decode cJ6_numberOfTrailingZeros_0f7a4 64 = .ok (.if_icmp .le 10, 3) := by decide +kernel
theorem dJ6_numberOfTrailingZeros_0f7a4_67 : decode cJ6_numberOfTrailingZeros_0f7a4 67 = .ok (.iinc 1 2, 3) := by decide +kernel
theorem dJ6_numberOfTrailingZeros_0f7a4_70 : decode cJ6_numberOfTrailingZeros_0f7a4 70 = .ok (.iload_n 0, 1) := by decide +kernel
theorem dJ6_numberOfTrailingZeros_0f7a4_71 : decode cJ6_numberOfTrailingZeros_0f7a4 71 = .ok (.iconst 2, 1) := by decide +kernel
theorem dJ6_numberOfTrailingZeros_0f7a4_72 : decode cJ6_numberOfTrailingZeros_0f7a4 72 = .ok (.iushr, 1) := by decide +kernel
theorem dJ6_numberOfTrailingZeros_0f7a4_73 : decode cJ6_numberOfTrailingZeros_0f7a4 73 = .ok (.istore_n 0, 1) := by decide +kernel
theorem dJ6_numberOfTrailingZeros_0f7a4_74 : decode cJ6_numberOfTrailingZeros_0f7a4 74 = .ok (.iload_n 1, 1) := by decide +kernel
theorem dJ6_numberOfTrailingZeros_0f7a4_75 : decode cJ6_numberOfTrailingZeros_0f7a4 75 = .ok (.iload_n 0, 1) := by decide +kernel
theorem dJ6_numberOfTrailingZeros_0f7a4_76 : decode cJ6_numberOfTrailingZeros_0f7a4 76 = .ok (.iconst 1, 1) := by decide +kernel
theorem dJ6_numberOfTrailingZeros_0f7a4_77 : decode cJ6_numberOfTrailingZeros_0f7a4 77 = .ok (.iushr, 1) := by decide +kernel
theorem dJ6_numberOfTrailingZeros_0f7a4_78 : decode cJ6_numberOfTrailingZeros_0f7a4 78 = .ok (.iadd, 1) := by decide +kernel
theorem dJ6_numberOfTrailingZeros_0f7a4_79 : decode cJ6_numberOfTrailingZeros_0f7a4 79 = .ok (.ireturn, 1) := by decide +kernel
theorem dJ13_numberOfTrailingZeros_95d88_0 : decode cJ13_numberOfTrailingZeros_95d88 0 = .ok (.lload_n 0, 1) := by decide +kernel
theorem dJ13_numberOfTrailingZeros_95d88_1 : decode cJ13_numberOfTrailingZeros_95d88 1 = .ok (.l2i, 1) := by decide +kernel
theorem dJ13_numberOfTrailingZeros_95d88_2 : decode cJ13_numberOfTrailingZeros_95d88 2 = .ok (.istore_n 2, 1) := by decide +kernel
theorem dJ13_numberOfTrailingZeros_95d88_3 : decode cJ13_numberOfTrailingZeros_95d88 3 = .ok (.iload_n 2, 1) := by decide +kernel
theorem dJ13_numberOfTrailingZeros_95d88_4 : decode cJ13_numberOfTrailingZeros_95d88 4 = .ok (.ifCond .ne 17, 3) := by decide +kernel
theorem dJ13_numberOfTrailingZeros_95d88_7 : decode cJ13_numberOfTrailingZeros_95d88 7 = .ok (.bipush 32, 2) := by decide +kernel
theorem dJ13_numberOfTrailingZeros_95d88_9 : decode cJ13_numberOfTrailingZeros_95d88 9 = .ok (.lload_n 0, 1) := by decide +kernel
theorem dJ13_numberOfTrailingZeros_95d88_10 : decode cJ13_numberOfTrailingZeros_95d88 10 = .ok (.bipush 32, 2) := by decide +kernel
theorem dJ13_numberOfTrailingZeros_95d88_12 : decode cJ13_numberOfTrailingZeros_95d88 12 = .ok (.lushr, 1) := by decide +kernel
theorem dJ13_numberOfTrailingZeros_95d88_13 : decode cJ13_numberOfTrailingZeros_95d88 13 = .ok (.l2i, 1) := by decide +kernel
theorem dJ13_numberOfTrailingZeros_95d88_14 : decode cJ13_numberOfTrailingZeros_95d88 14 = .ok (.invokestatic 311, 3) := by decide +kernel
theorem dJ13_numberOfTrailingZeros_95d88_17 : decode cJ13_numberOfTrailingZeros_95d88 17 = .ok (.iadd, 1) := by decide +kernel
theorem dJ13_numberOfTrailingZeros_95d88_18 : decode cJ13_numberOfTrailingZeros_95d88 18 = .ok (.goto 7, 3) := by decide +kernel
theorem dJ13_numberOfTrailingZeros_95d88_21 : decode cJ13_numberOfTrailingZeros_95d88 21 = .ok (.iload_n 2, 1) := by decide +kernel
theorem dJ13_numberOfTrailingZeros_95d88_22 : decode cJ13_numberOfTrailingZeros_95d88 22 = .ok (.invokestatic 311, 3) := by decide +kernel
theorem dJ13_numberOfTrailingZeros_95d88_25 : decode cJ13_numberOfTrailingZeros_95d88 25 = .ok (.ireturn, 1) := by decide +kernel
theorem dX4_cutBillion_0 : decode cX4_cutBillion 0 = .ok (.lconst 0, 1) := by decide +kernel
theorem dX4_cutBillion_1 : decode cX4_cutBillion 1 = .ok (.lstore_n 1, 1) := by decide +kernel
theorem dX4_cutBillion_2 : decode cX4_cutBillion 2 = .ok (.aload_n 0, 1) := by decide +kernel
theorem dX4_cutBillion_3 : decode cX4_cutBillion 3 = .ok (.getfield 15, 3) := by decide +kernel
theorem dX4_cutBillion_6 : decode cX4_cutBillion 6 = .ok (.iconst 1, 1) := by decide +kernel
theorem dX4_cutBillion_7 : decode cX4_cutBillion 7 = .ok (.isub, 1) := by decide +kernel
theorem dX4_cutBillion_8 : decode cX4_cutBillion 8 = .ok (.istore_n 3, 1) := by decide +kernel
theorem dX4_cutBillion_9 : decode cX4_cutBillion 9 = .ok (.iload_n 3, 1) := by decide +kernel
theorem dX4_cutBillion_10 : decode cX4_cutBillion 10 = .ok (.ifCond .lt 38, 3) := by decide +kernel
theorem dX4_cutBillion_13 : decode cX4_cutBillion 13 = .ok (.lload_n 1, 1) := by decide +kernel
theorem dX4_cutBillion_14 : decode cX4_cutBillion 14 = .ok (.bipush 32, 2) := by decide +kernel
theorem dX4_cutBillion_16 : decode cX4_cutBillion 16 = .ok (.lshl, 1) := by decide +kernel
theorem dX4_cutBillion_17 : decode cX4_cutBillion 17 = .ok (.aload_n 0, 1) := by decide +kernel
theorem dX4_cutBillion_18 : decode cX4_cutBillion 18 = .ok (.getfield 9, 3) := by decide +kernel
theorem dX4_cutBillion_21 : decode cX4_cutBillion 21 = .ok (.iload_n 3, 1) := by decide +kernel
theorem dX4_cutBillion_22 : decode cX4_cutBillion 22 = .ok (.laload, 1) := by decide +kernel
theorem dX4_cutBillion_23 : decode cX4_cutBillion 23 = .ok (.lor, 1) := by decide +kernel
theorem dX4_cutBillion_24 : decode cX4_cutBillion 24 = .ok (.lstore_n 1, 1) := by decide +kernel
theorem dX4_cutBillion_25 : decode cX4_cutBillion 25 = .ok (.aload_n 0, 1) := by decide +kernel
theorem dX4_cutBillion_26 : decode cX4_cutBillion 26 = .ok (.getfield 9, 3) := by decide +kernel
theorem dX4_cutBillion_29 : decode cX4_cutBillion 29 = .ok (.iload_n 3, 1) := by decide +kernel
theorem dX4_cutBillion_30 : decode cX4_cutBillion 30 = .ok (.lload_n 1, 1) := by decide +kernel
theorem dX4_cutBillion_31 : decode cX4_cutBillion 31 = .ok (.ldc2_w 46, 3) := by decide +kernel
theorem dX4_cutBillion_34 : decode cX4_cutBillion 34 = .ok (.ldiv, 1) := by decide +kernel
theorem dX4_cutBillion_35 : decode cX4_cutBillion 35 = .ok (.lastore, 1) := by decide +kernel
theorem dX4_cutBillion_36 : decode cX4_cutBillion 36 = .ok (.lload_n 1, 1) := by decide +kernel
theorem dX4_cutBillion_37 : decode cX4_cutBillion 37 = .ok (.ldc2_w 46, 3) := by decide +kernel
theorem dX4_cutBillion_40 : decode cX4_cutBillion 40 = .ok (.lrem, 1) := by decide +kernel
theorem dX4_cutBillion_41 : decode cX4_cutBillion 41 = .ok (.lstore_n 1, 1) := by decide +kernel
theorem dX4_cutBillion_42 : decode cX4_cutBillion 42 = .ok (.iinc 3 (-1), 3) := by decide +kernel
theorem dX4_cutBillion_45 : decode cX4_cutBillion 45 = .ok (.goto (-36), 3) := by decide +kernel
theorem dX4_cutBillion_48 : decode cX4_cutBillion 48 = .ok (.aload_n 0, 1) := by decide +kernel
theorem dX4_cutBillion_49 : decode cX4_cutBillion 49 = .ok (.invokevirtual 19, 3) := by decide +kernel
theorem dX4_cutBillion_52 : decode cX4_cutBillion 52 = .ok (.lload_n 1, 1) := by decide +kernel
theorem dX4_cutBillion_53 : decode cX4_cutBillion 53 = .ok (.l2i, 1) := by decide +kernel
theorem dX4_cutBillion_54 : decode cX4_cutBillion 54 = .ok (.ireturn, 1) := by decide +kernel
theorem dX1_takeBackwards_0 : decode cX1_takeBackwards 0 = .ok (.aload_n 0, 1) := by decide +kernel
theorem dX1_takeBackwards_1 : decode cX1_takeBackwards 1 = .ok (.iconst 0, 1) := by decide +kernel
theorem dX1_takeBackwards_2 : decode cX1_takeBackwards 2 = .ok (.putfield 13, 3) := by decide +kernel
theorem dX1_takeBackwards_5 : decode cX1_takeBackwards 5 = .ok (.iconst 0, 1) := by decide +kernel
theorem dX1_takeBackwards_6 : decode cX1_takeBackwards 6 = .ok (.istore_n 2, 1) := by decide +kernel
theorem dX1_takeBackwards_7 : decode cX1_takeBackwards 7 = .ok (.iload_n 2, 1) := by decide +kernel
theorem dX1_takeBackwards_8 : decode cX1_takeBackwards 8 = .ok (.sipush 792, 3) := by decide +kernel
theorem dX1_takeBackwards_11 : decode cX1_takeBackwards 11 = .ok (.if_icmp .ge 50, 3) := by decide +kernel
theorem dX1_takeBackwards_14 : decode cX1_takeBackwards 14 = .ok (.aload_n 1, 1) := by decide +kernel
theorem dX1_takeBackwards_15 : decode cX1_takeBackwards 15 = .ok (.invokevirtual 84, 3) := by decide +kernel
theorem dX1_takeBackwards_18 : decode cX1_takeBackwards 18 = .ok (.ifCond .ne 43, 3) := by decide +kernel
theorem dX1_takeBackwards_21 : decode cX1_takeBackwards 21 = .ok (.aload_n 1, 1) := by decide +kernel
theorem dX1_takeBackwards_22 : decode cX1_takeBackwards 22 = .ok (.invokevirtual 88, 3) := by decide +kernel
theorem dX1_takeBackwards_25 : decode cX1_takeBackwards 25 = .ok (.istore_n 3, 1) := by decide +kernel
theorem dX1_takeBackwards_26 : decode cX1_takeBackwards 26 = .ok (.iconst 0, 1) := by decide +kernel
theorem dX1_takeBackwards_27 : decode cX1_takeBackwards 27 = .ok (.istore 4, 2) := by decide +kernel
theorem dX1_takeBackwards_29 : decode cX1_takeBackwards 29 = .ok (.iload 4, 2) := by decide +kernel
theorem dX1_takeBackwards_31 : decode cX1_takeBackwards 31 = .ok (.bipush 9, 2) := by decide +kernel
theorem dX1_takeBackwards_33 : decode cX1_takeBackwards 33 = .ok (.if_icmp .ge 22, 3) := by decide +kernel
theorem dX1_takeBackwards_36 : decode cX1_takeBackwards 36 = .ok (.aload_n 0, 1) := by decide +kernel
theorem dX1_takeBackwards_37 : decode cX1_takeBackwards 37 = .ok (.iload_n 3, 1) := by decide +kernel
theorem dX1_takeBackwards_38 : decode cX1_takeBackwards 38 = .ok (.bipush 10, 2) := by decide +kernel
theorem dX1_takeBackwards_40 : decode cX1_takeBackwards 40 = .ok (.irem, 1) := by decide +kernel
theorem dX1_takeBackwards_41 : decode cX1_takeBackwards 41 = .ok (.invokevirtual 81, 3) := by decide +kernel
theorem dX1_takeBackwards_44 : decode cX1_takeBackwards 44 = .ok (.iload_n 3, 1) := by decide +kernel
theorem dX1_takeBackwards_45 : decode cX1_takeBackwards 45 = .ok (.bipush 10, 2) := by decide +kernel
theorem dX1_takeBackwards_47 : decode cX1_takeBackwards 47 = .ok (.idiv, 1) := by decide +kernel
theorem dX1_takeBackwards_48 : decode cX1_takeBackwards 48 = .ok (.istore_n 3, 1) := by decide +kernel
theorem dX1_takeBackwards_49 : decode cX1_takeBackwards 49 = .ok (.iinc 4 1, 3) := by decide +kernel
theorem dX1_takeBackwards_52 : decode cX1_takeBackwards 52 = .ok (.goto (-23), 3) := by decide +kernel
theorem dX1_takeBackwards_55 : decode cX1_takeBackwards 55 = .ok (.iinc 2 9, 3) := by decide +kernel
theorem dX1_takeBackwards_58 : decode cX1_takeBackwards 58 = .ok (.goto (-51), 3) := by decide +kernel
theorem dX1_takeBackwards_61 : decode cX1_takeBackwards 61 = .ok (.return_, 1) := by decide +kernel
theorem dX1_trim_0 : decode cX1_trim 0 = .ok (.aload_n 0, 1) := by decide +kernel
theorem dX1_trim_1 : decode cX1_trim 1 = .ok (.getfield 13, 3) := by decide +kernel
theorem dX1_trim_4 : decode cX1_trim 4 = .ok (.ifCond .le 30, 3) := by decide +kernel
theorem dX1_trim_7 : decode cX1_trim 7 = .ok (.aload_n 0, 1) := by decide +kernel
theorem dX1_trim_8 : decode cX1_trim 8 = .ok (.getfield 9, 3) := by decide +kernel
theorem dX1_trim_11 : decode cX1_trim 11 = .ok (.aload_n 0, 1) := by decide +kernel
theorem dX1_trim_12 : decode cX1_trim 12 = .ok (.getfield 13, 3) := by decide +kernel
theorem dX1_trim_15 : decode cX1_trim 15 = .ok (.iconst 1, 1) := by decide +kernel
theorem dX1_trim_16 : decode cX1_trim 16 = .ok (.isub, 1) := by decide +kernel
theorem dX1_trim_17 : decode cX1_trim 17 = .ok (.iaload, 1) := by decide +kernel
theorem dX1_trim_18 : decode cX1_trim 18 = .ok (.ifCond .ne 16, 3) := by decide +kernel
theorem dX1_trim_21 : decode cX1_trim 21 = .ok (.aload_n 0, 1) := by decide +kernel
theorem dX1_trim_22 : decode cX1_trim 22 = .ok (.dup, 1) := by decide +kernel
theorem dX1_trim_23 : decode cX1_trim 23 = .ok (.getfield 13, 3) := by decide +kernel
theorem dX1_trim_26 : decode cX1_trim 26 = .ok (.iconst 1, 1) := by decide +kernel
theorem dX1_trim_27 : decode cX1_trim 27 = .ok (.isub, 1) := by decide +kernel
theorem dX1_trim_28 : decode cX1_trim 28 = .ok (.putfield 13, 3) := by decide +kernel
theorem dX1_trim_31 : decode cX1_trim 31 = .ok (.goto (-31), 3) := by decide +kernel
theorem dX1_trim_34 : decode cX1_trim 34 = .ok (.return_, 1) := by decide +kernel
theorem dX1_turn_0 : decode cX1_turn 0 = .ok (.iconst 0, 1) := by decide +kernel
theorem dX1_turn_1 : decode cX1_turn 1 = .ok (.istore_n 1, 1) := by decide +kernel
theorem dX1_turn_2 : decode cX1_turn 2 = .ok (.aload_n 0, 1) := by decide +kernel
theorem dX1_turn_3 : decode cX1_turn 3 = .ok (.getfield 13, 3) := by decide +kernel
theorem dX1_turn_6 : decode cX1_turn 6 = .ok (.iconst 1, 1) := by decide +kernel
theorem dX1_turn_7 : decode cX1_turn 7 = .ok (.isub, 1) := by decide +kernel
theorem dX1_turn_8 : decode cX1_turn 8 = .ok (.istore_n 2, 1) := by decide +kernel
theorem dX1_turn_9 : decode cX1_turn 9 = .ok (.iload_n 1, 1) := by decide +kernel
theorem dX1_turn_10 : decode cX1_turn 10 = .ok (.iload_n 2, 1) := by decide +kernel
theorem dX1_turn_11 : decode cX1_turn 11 = .ok (.if_icmp .ge 38, 3) := by decide +kernel
theorem dX1_turn_14 : decode cX1_turn 14 = .ok (.aload_n 0, 1) := by decide +kernel
theorem dX1_turn_15 : decode cX1_turn 15 = .ok (.getfield 9, 3) := by decide +kernel
theorem dX1_turn_18 : decode cX1_turn 18 = .ok (.iload_n 1, 1) := by decide +kernel
theorem dX1_turn_19 : decode cX1_turn 19 = .ok (.iaload, 1) := by decide +kernel
theorem dX1_turn_20 : decode cX1_turn 20 = .ok (.istore_n 3, 1) := by decide +kernel
theorem dX1_turn_21 : decode cX1_turn 21 = .ok (.aload_n 0, 1) := by decide +kernel
theorem dX1_turn_22 : decode cX1_turn 22 = .ok (.getfield 9, 3) := by decide +kernel
theorem dX1_turn_25 : decode cX1_turn 25 = .ok (.iload_n 1, 1) := by decide +kernel
theorem dX1_turn_26 : decode cX1_turn 26 = .ok (.aload_n 0, 1) := by decide +kernel
theorem dX1_turn_27 : decode cX1_turn 27 = .ok (.getfield 9, 3) := by decide +kernel
theorem dX1_turn_30 : decode cX1_turn 30 = .ok (.iload_n 2, 1) := by decide +kernel
theorem dX1_turn_31 : decode cX1_turn 31 = .ok (.iaload, 1) := by decide +kernel
theorem dX1_turn_32 : decode cX1_turn 32 = .ok (.iastore, 1) := by decide +kernel
theorem dX1_turn_33 : decode cX1_turn 33 = .ok (.aload_n 0, 1) := by decide +kernel
theorem dX1_turn_34 : decode cX1_turn 34 = .ok (.getfield 9, 3) := by decide +kernel
theorem dX1_turn_37 : decode cX1_turn 37 = .ok (.iload_n 2, 1) := by decide +kernel
theorem dX1_turn_38 : decode cX1_turn 38 = .ok (.iload_n 3, 1) := by decide +kernel
theorem dX1_turn_39 : decode cX1_turn 39 = .ok (.iastore, 1) := by decide +kernel
theorem dX1_turn_40 : decode cX1_turn 40 = .ok (.iinc 1 1, 3) := by decide +kernel
theorem dX1_turn_43 : decode cX1_turn 43 = .ok (.iinc 2 (-1), 3) := by decide +kernel
theorem dX1_turn_46 : decode cX1_turn 46 = .ok (.goto (-37), 3) := by decide +kernel
theorem dX1_turn_49 : decode cX1_turn 49 = .ok (.return_, 1) := by decide +kernel
theorem dX1_takeExactly_0 : decode cX1_takeExactly 0 = .ok (.aload_n 1, 1) := by decide +kernel
theorem dX1_takeExactly_1 : decode cX1_takeExactly 1 = .ok (.getfield 20, 3) := by decide +kernel
theorem dX1_takeExactly_4 : decode cX1_takeExactly 4 = .ok (.invokestatic 26, 3) := by decide +kernel
theorem dX1_takeExactly_7 : decode cX1_takeExactly 7 = .ok (.istore_n 3, 1) := by decide +kernel
theorem dX1_takeExactly_8 : decode cX1_takeExactly 8 = .ok (.aload_n 1, 1) := by decide +kernel
theorem dX1_takeExactly_9 : decode cX1_takeExactly 9 = .ok (.getfield 32, 3) := by decide +kernel
theorem dX1_takeExactly_12 : decode cX1_takeExactly 12 = .ok (.iload_n 3, 1) := by decide +kernel
theorem dX1_takeExactly_13 : decode cX1_takeExactly 13 = .ok (.iadd, 1) := by decide +kernel
theorem dX1_takeExactly_14 : decode cX1_takeExactly 14 = .ok (.istore 4, 2) := by decide +kernel
theorem dX1_takeExactly_16 : decode cX1_takeExactly 16 = .ok (.aload_n 2, 1) := by decide +kernel
theorem dX1_takeExactly_17 : decode cX1_takeExactly 17 = .ok (.aload_n 1, 1) := by decide +kernel
theorem dX1_takeExactly_18 : decode cX1_takeExactly 18 = .ok (.getfield 20, 3) := by decide +kernel
theorem dX1_takeExactly_21 : decode cX1_takeExactly 21 = .ok (.iload_n 3, 1) := by decide +kernel
theorem dX1_takeExactly_22 : decode cX1_takeExactly 22 = .ok (.lushr, 1) := by decide +kernel
theorem dX1_takeExactly_23 : decode cX1_takeExactly 23 = .ok (.invokevirtual 35, 3) := by decide +kernel
theorem dX1_takeExactly_26 : decode cX1_takeExactly 26 = .ok (.iload 4, 2) := by decide +kernel
theorem dX1_takeExactly_28 : decode cX1_takeExactly 28 = .ok (.ifCond .lt 12, 3) := by decide +kernel
theorem dX1_takeExactly_31 : decode cX1_takeExactly 31 = .ok (.aload_n 2, 1) := by decide +kernel
theorem dX1_takeExactly_32 : decode cX1_takeExactly 32 = .ok (.iload 4, 2) := by decide +kernel
theorem dX1_takeExactly_34 : decode cX1_takeExactly 34 = .ok (.invokevirtual 41, 3) := by decide +kernel
theorem dX1_takeExactly_37 : decode cX1_takeExactly 37 = .ok (.goto 10, 3) := by decide +kernel
theorem dX1_takeExactly_40 : decode cX1_takeExactly 40 = .ok (.aload_n 2, 1) := by decide +kernel
theorem dX1_takeExactly_41 : decode cX1_takeExactly 41 = .ok (.iload 4, 2) := by decide +kernel
theorem dX1_takeExactly_43 : decode cX1_takeExactly 43 = .ok (.ineg, 1) := by decide +kernel
theorem dX1_takeExactly_44 : decode cX1_takeExactly 44 = .ok (.invokevirtual 45, 3) := by decide +kernel
theorem dX1_takeExactly_47 : decode cX1_takeExactly 47 = .ok (.aload_n 0, 1) := by decide +kernel
theorem dX1_takeExactly_48 : decode cX1_takeExactly 48 = .ok (.aload_n 2, 1) := by decide +kernel
theorem dX1_takeExactly_49 : decode cX1_takeExactly 49 = .ok (.invokevirtual 48, 3) := by decide +kernel
theorem dX1_takeExactly_52 : decode cX1_takeExactly 52 = .ok (.aload_n 0, 1) := by decide +kernel
theorem dX1_takeExactly_53 : decode cX1_takeExactly 53 = .ok (.invokevirtual 52, 3) := by decide +kernel
theorem dX1_takeExactly_56 : decode cX1_takeExactly 56 = .ok (.aload_n 0, 1) := by decide +kernel
theorem dX1_takeExactly_57 : decode cX1_takeExactly 57 = .ok (.invokevirtual 55, 3) := by decide +kernel
theorem dX1_takeExactly_60 : decode cX1_takeExactly 60 = .ok (.aload_n 0, 1) := by decide +kernel
theorem dX1_takeExactly_61 : decode cX1_takeExactly 61 = .ok (.aload_n 0, 1) := by decide +kernel
theorem dX1_takeExactly_62 : decode cX1_takeExactly 62 = .ok (.getfield 13, 3) := by decide +kernel
theorem dX1_takeExactly_65 : decode cX1_takeExactly 65 = .ok (.iconst 1, 1) := by decide +kernel
theorem dX1_takeExactly_66 : decode cX1_takeExactly 66 = .ok (.isub, 1) := by decide +kernel
theorem dX1_takeExactly_67 : decode cX1_takeExactly 67 = .ok (.iload 4, 2) := by decide +kernel
theorem dX1_takeExactly_69 : decode cX1_takeExactly 69 = .ok (.iconst 0, 1) := by decide +kernel
theorem dX1_takeExactly_70 : decode cX1_takeExactly 70 = .ok (.invokestatic 58, 3) := by decide +kernel
theorem dX1_takeExactly_73 : decode cX1_takeExactly 73 = .ok (.iadd, 1) := by decide +kernel
theorem dX1_takeExactly_74 : decode cX1_takeExactly 74 = .ok (.putfield 17, 3) := by decide +kernel
theorem dX1_takeExactly_77 : decode cX1_takeExactly 77 = .ok (.aload_n 0, 1) := by decide +kernel
theorem dX1_takeExactly_78 : decode cX1_takeExactly 78 = .ok (.invokevirtual 52, 3) := by decide +kernel
theorem dX1_takeExactly_81 : decode cX1_takeExactly 81 = .ok (.return_, 1) := by decide +kernel
theorem dX1_addOneAt_0 : decode cX1_addOneAt 0 = .ok (.iload_n 2, 1) := by decide +kernel
theorem dX1_addOneAt_1 : decode cX1_addOneAt 1 = .ok (.ifCond .gt 19, 3) := by decide +kernel
theorem dX1_addOneAt_4 : decode cX1_addOneAt 4 = .ok (.aload_n 0, 1) := by decide +kernel
theorem dX1_addOneAt_5 : decode cX1_addOneAt 5 = .ok (.iconst 0, 1) := by decide +kernel
theorem dX1_addOneAt_6 : decode cX1_addOneAt 6 = .ok (.putfield 13, 3) := by decide +kernel
theorem dX1_addOneAt_9 : decode cX1_addOneAt 9 = .ok (.aload_n 0, 1) := by decide +kernel
theorem dX1_addOneAt_10 : decode cX1_addOneAt 10 = .ok (.iload_n 1, 1) := by decide +kernel
theorem dX1_addOneAt_11 : decode cX1_addOneAt 11 = .ok (.putfield 17, 3) := by decide +kernel
theorem dX1_addOneAt_14 : decode cX1_addOneAt 14 = .ok (.aload_n 0, 1) := by decide +kernel
theorem dX1_addOneAt_15 : decode cX1_addOneAt 15 = .ok (.iconst 1, 1) := by decide +kernel
theorem dX1_addOneAt_16 : decode cX1_addOneAt 16 = .ok (.invokevirtual 81, 3) := by decide +kernel
theorem dX1_addOneAt_19 : decode cX1_addOneAt 19 = .ok (.return_, 1) := by decide +kernel
theorem dX1_addOneAt_20 : decode cX1_addOneAt 20 = .ok (.aload_n 0, 1) := by decide +kernel
theorem dX1_addOneAt_21 : decode cX1_addOneAt 21 = .ok (.getfield 13, 3) := by decide +kernel
theorem dX1_addOneAt_24 : decode cX1_addOneAt 24 = .ok (.iload_n 2, 1) := by decide +kernel
theorem dX1_addOneAt_25 : decode cX1_addOneAt 25 = .ok (.if_icmp .ge 36, 3) := by decide +kernel
theorem dX1_addOneAt_28 : decode cX1_addOneAt 28 = .ok (.aload_n 0, 1) := by decide +kernel
theorem dX1_addOneAt_29 : decode cX1_addOneAt 29 = .ok (.getfield 13, 3) := by decide +kernel
theorem dX1_addOneAt_32 : decode cX1_addOneAt 32 = .ok (.sipush 792, 3) := by decide +kernel
theorem dX1_addOneAt_35 : decode cX1_addOneAt 35 = .ok (.if_icmp .ge 26, 3) := by decide +kernel
theorem dX1_addOneAt_38 : decode cX1_addOneAt 38 = .ok (.aload_n 0, 1) := by decide +kernel
theorem dX1_addOneAt_39 : decode cX1_addOneAt 39 = .ok (.getfield 9, 3) := by decide +kernel
theorem dX1_addOneAt_42 : decode cX1_addOneAt 42 = .ok (.aload_n 0, 1) := by decide +kernel
theorem dX1_addOneAt_43 : decode cX1_addOneAt 43 = .ok (.getfield 13, 3) := by decide +kernel
theorem dX1_addOneAt_46 : decode cX1_addOneAt 46 = .ok (.iconst 0, 1) := by decide +kernel
theorem dX1_addOneAt_47 : decode cX1_addOneAt 47 = .ok (.iastore, 1) := by decide +kernel
theorem dX1_addOneAt_48 : decode cX1_addOneAt 48 = .ok (.aload_n 0, 1) := by decide +kernel
theorem dX1_addOneAt_49 : decode cX1_addOneAt 49 = .ok (.dup, 1) := by decide +kernel
theorem dX1_addOneAt_50 : decode cX1_addOneAt 50 = .ok (.getfield 13, 3) := by decide +kernel
theorem dX1_addOneAt_53 : decode cX1_addOneAt 53 = .ok (.iconst 1, 1) := by decide +kernel
theorem dX1_addOneAt_54 : decode cX1_addOneAt 54 = .ok (.iadd, 1) := by decide +kernel
theorem dX1_addOneAt_55 : decode cX1_addOneAt 55 = .ok (.putfield 13, 3) := by decide +kernel
theorem dX1_addOneAt_58 : decode cX1_addOneAt 58 = .ok (.goto (-38), 3) := by decide +kernel
theorem dX1_addOneAt_61 : decode cX1_addOneAt 61 = .ok (.aload_n 0, 1) := by decide +kernel
theorem dX1_addOneAt_62 : decode cX1_addOneAt 62 = .ok (.getfield 13, 3) := by decide +kernel
theorem dX1_addOneAt_65 : decode cX1_addOneAt 65 = .ok (.ifCond .le 32, 3) := by decide +kernel
theorem dX1_addOneAt_68 : decode cX1_addOneAt 68 = .ok (.aload_n 0, 1) := by decide +kernel
theorem dX1_addOneAt_69 : decode cX1_addOneAt 69 = .ok (.getfield 9, 3) := by decide +kernel
theorem dX1_addOneAt_72 : decode cX1_addOneAt 72 = .ok (.aload_n 0, 1) := by decide +kernel
theorem dX1_addOneAt_73 : decode cX1_addOneAt 73 = .ok (.getfield 13, 3) := by decide +kernel
theorem dX1_addOneAt_76 : decode cX1_addOneAt 76 = .ok (.iconst 1, 1) := by decide +kernel
theorem dX1_addOneAt_77 : decode cX1_addOneAt 77 = .ok (.isub, 1) := by decide +kernel
theorem dX1_addOneAt_78 : decode cX1_addOneAt 78 = .ok (.iaload, 1) := by decide +kernel
theorem dX1_addOneAt_79 : decode cX1_addOneAt 79 = .ok (.bipush 9, 2) := by decide +kernel
theorem dX1_addOneAt_81 : decode cX1_addOneAt 81 = .ok (.if_icmp .ne 16, 3) := by decide +kernel
theorem dX1_addOneAt_84 : decode cX1_addOneAt 84 = .ok (.aload_n 0, 1) := by decide +kernel
theorem dX1_addOneAt_85 : decode cX1_addOneAt 85 = .ok (.dup, 1) := by decide +kernel
theorem dX1_addOneAt_86 : decode cX1_addOneAt 86 = .ok (.getfield 13, 3) := by decide +kernel
theorem dX1_addOneAt_89 : decode cX1_addOneAt 89 = .ok (.iconst 1, 1) := by decide +kernel
theorem dX1_addOneAt_90 : decode cX1_addOneAt 90 = .ok (.isub, 1) := by decide +kernel
theorem dX1_addOneAt_91 : decode cX1_addOneAt 91 = .ok (.putfield 13, 3) := by decide +kernel
theorem dX1_addOneAt_94 : decode cX1_addOneAt 94 = .ok (.goto (-33), 3) := by decide +kernel
theorem dX1_addOneAt_97 : decode cX1_addOneAt 97 = .ok (.aload_n 0, 1) := by decide +kernel
theorem dX1_addOneAt_98 : decode cX1_addOneAt 98 = .ok (.getfield 13, 3) := by decide +kernel
theorem dX1_addOneAt_101 : decode cX1_addOneAt 101 = .ok (.ifCond .le 21, 3) := by decide +kernel
theorem dX1_addOneAt_104 : decode cX1_addOneAt 104 = .ok (.aload_n 0, 1) := by decide +kernel
theorem dX1_addOneAt_105 : decode cX1_addOneAt 105 = .ok (.getfield 9, 3) := by decide +kernel
theorem dX1_addOneAt_108 : decode cX1_addOneAt 108 = .ok (.aload_n 0, 1) := by decide +kernel
theorem dX1_addOneAt_109 : decode cX1_addOneAt 109 = .ok (.getfield 13, 3) := by decide +kernel
theorem dX1_addOneAt_112 : decode cX1_addOneAt 112 = .ok (.iconst 1, 1) := by decide +kernel
theorem dX1_addOneAt_113 : decode cX1_addOneAt 113 = .ok (.isub, 1) := by decide +kernel
theorem dX1_addOneAt_114 : decode cX1_addOneAt 114 = .ok (.dup2, 1) := by decide +kernel
theorem dX1_addOneAt_115 : decode cX1_addOneAt 115 = .ok (.iaload, 1) := by decide +kernel
theorem dX1_addOneAt_116 : decode cX1_addOneAt 116 = .ok (.iconst 1, 1) := by decide +kernel
theorem dX1_addOneAt_117 : decode cX1_addOneAt 117 = .ok (.iadd, 1) := by decide +kernel
theorem dX1_addOneAt_118 : decode cX1_addOneAt 118 = .ok (.iastore, 1) := by decide +kernel
theorem dX1_addOneAt_119 : decode cX1_addOneAt 119 = .ok (.goto 18, 3) := by decide +kernel
theorem dX1_addOneAt_122 : decode cX1_addOneAt 122 = .ok (.aload_n 0, 1) := by decide +kernel
theorem dX1_addOneAt_123 : decode cX1_addOneAt 123 = .ok (.dup, 1) := by decide +kernel
theorem dX1_addOneAt_124 : decode cX1_addOneAt 124 = .ok (.getfield 17, 3) := by decide +kernel
theorem dX1_addOneAt_127 : decode cX1_addOneAt 127 = .ok (.iconst 1, 1) := by decide +kernel
theorem dX1_addOneAt_128 : decode cX1_addOneAt 128 = .ok (.iadd, 1) := by decide +kernel
theorem dX1_addOneAt_129 : decode cX1_addOneAt 129 = .ok (.putfield 17, 3) := by decide +kernel
theorem dX1_addOneAt_132 : decode cX1_addOneAt 132 = .ok (.aload_n 0, 1) := by decide +kernel
theorem dX1_addOneAt_133 : decode cX1_addOneAt 133 = .ok (.iconst 1, 1) := by decide +kernel
theorem dX1_addOneAt_134 : decode cX1_addOneAt 134 = .ok (.invokevirtual 81, 3) := by decide +kernel
theorem dX1_addOneAt_137 : decode cX1_addOneAt 137 = .ok (.return_, 1) := by decide +kernel
theorem dX1_cut_0 : decode cX1_cut 0 = .ok (.iload_n 1, 1) := by decide +kernel
theorem dX1_cut_1 : decode cX1_cut 1 = .ok (.aload_n 0, 1) := by decide +kernel
theorem dX1_cut_2 : decode cX1_cut 2 = .ok (.getfield 13, 3) := by decide +kernel
theorem dX1_cut_5 : decode cX1_cut 5 = .ok (.if_icmp .lt 4, 3) := by decide +kernel
theorem dX1_cut_8 : decode cX1_cut 8 = .ok (.return_, 1) := by decide +kernel
theorem dX1_cut_9 : decode cX1_cut 9 = .ok (.iload_n 1, 1) := by decide +kernel
theorem dX1_cut_10 : decode cX1_cut 10 = .ok (.ifCond .ge 7, 3) := by decide +kernel
theorem dX1_cut_13 : decode cX1_cut 13 = .ok (.iconst 0, 1) := by decide +kernel
theorem dX1_cut_14 : decode cX1_cut 14 = .ok (.goto 8, 3) := by decide +kernel
theorem dX1_cut_17 : decode cX1_cut 17 = .ok (.aload_n 0, 1) := by decide +kernel
theorem dX1_cut_18 : decode cX1_cut 18 = .ok (.iload_n 1, 1) := by decide +kernel
theorem dX1_cut_19 : decode cX1_cut 19 = .ok (.invokevirtual 64, 3) := by decide +kernel
theorem dX1_cut_22 : decode cX1_cut 22 = .ok (.istore 4, 2) := by decide +kernel
theorem dX1_cut_24 : decode cX1_cut 24 = .ok (.iload 4, 2) := by decide +kernel
theorem dX1_cut_26 : decode cX1_cut 26 = .ok (.iconst 5, 1) := by decide +kernel
theorem dX1_cut_27 : decode cX1_cut 27 = .ok (.if_icmp .lt 7, 3) := by decide +kernel
theorem dX1_cut_30 : decode cX1_cut 30 = .ok (.iconst 1, 1) := by decide +kernel
theorem dX1_cut_31 : decode cX1_cut 31 = .ok (.goto 4, 3) := by decide +kernel
theorem dX1_cut_34 : decode cX1_cut 34 = .ok (.iconst 0, 1) := by decide +kernel
theorem dX1_cut_35 : decode cX1_cut 35 = .ok (.istore 5, 2) := by decide +kernel
theorem dX1_cut_37 : decode cX1_cut 37 = .ok (.iload 4, 2) := by decide +kernel
theorem dX1_cut_39 : decode cX1_cut 39 = .ok (.iconst 5, 1) := by decide +kernel
theorem dX1_cut_40 : decode cX1_cut 40 = .ok (.irem, 1) := by decide +kernel
theorem dX1_cut_41 : decode cX1_cut 41 = .ok (.ifCond .ne 13, 3) := by decide +kernel
theorem dX1_cut_44 : decode cX1_cut 44 = .ok (.iload_n 1, 1) := by decide +kernel
theorem dX1_cut_45 : decode cX1_cut 45 = .ok (.iconst 1, 1) := by decide +kernel
theorem dX1_cut_46 : decode cX1_cut 46 = .ok (.iadd, 1) := by decide +kernel
theorem dX1_cut_47 : decode cX1_cut 47 = .ok (.aload_n 0, 1) := by decide +kernel
theorem dX1_cut_48 : decode cX1_cut 48 = .ok (.getfield 13, 3) := by decide +kernel
theorem dX1_cut_51 : decode cX1_cut 51 = .ok (.if_icmp .ge 7, 3) := by decide +kernel
theorem dX1_cut_54 : decode cX1_cut 54 = .ok (.iconst 1, 1) := by decide +kernel
theorem dX1_cut_55 : decode cX1_cut 55 = .ok (.goto 4, 3) := by decide +kernel
theorem dX1_cut_58 : decode cX1_cut 58 = .ok (.iconst 0, 1) := by decide +kernel
theorem dX1_cut_59 : decode cX1_cut 59 = .ok (.istore 6, 2) := by decide +kernel
theorem dX1_cut_61 : decode cX1_cut 61 = .ok (.aload_n 0, 1) := by decide +kernel
theorem dX1_cut_62 : decode cX1_cut 62 = .ok (.iload_n 1, 1) := by decide +kernel
theorem dX1_cut_63 : decode cX1_cut 63 = .ok (.iconst 1, 1) := by decide +kernel
theorem dX1_cut_64 : decode cX1_cut 64 = .ok (.isub, 1) := by decide +kernel
theorem dX1_cut_65 : decode cX1_cut 65 = .ok (.invokevirtual 64, 3) := by decide +kernel
theorem dX1_cut_68 : decode cX1_cut 68 = .ok (.iconst 1, 1) := by decide +kernel
theorem dX1_cut_69 : decode cX1_cut 69 = .ok (.iand, 1) := by decide +kernel
theorem dX1_cut_70 : decode cX1_cut 70 = .ok (.ifCond .eq 7, 3) := by decide +kernel
theorem dX1_cut_73 : decode cX1_cut 73 = .ok (.iconst 1, 1) := by decide +kernel
theorem dX1_cut_74 : decode cX1_cut 74 = .ok (.goto 4, 3) := by decide +kernel
theorem dX1_cut_77 : decode cX1_cut 77 = .ok (.iconst 0, 1) := by decide +kernel
theorem dX1_cut_78 : decode cX1_cut 78 = .ok (.istore 7, 2) := by decide +kernel
theorem dX1_cut_80 : decode cX1_cut 80 = .ok (.iload_n 3, 1) := by decide +kernel
theorem dX1_cut_81 : decode cX1_cut 81 = .ok (.iload_n 2, 1) := by decide +kernel
theorem dX1_cut_82 : decode cX1_cut 82 = .ok (.iload 7, 2) := by decide +kernel
theorem dX1_cut_84 : decode cX1_cut 84 = .ok (.iload 5, 2) := by decide +kernel
theorem dX1_cut_86 : decode cX1_cut 86 = .ok (.iload 6, 2) := by decide +kernel
theorem dX1_cut_88 : decode cX1_cut 88 = .ok (.invokestatic 68, 3) := by decide +kernel
theorem dX1_cut_91 : decode cX1_cut 91 = .ok (.istore 8, 2) := by decide +kernel
theorem dX1_cut_93 : decode cX1_cut 93 = .ok (.aload_n 0, 1) := by decide +kernel
theorem dX1_cut_94 : decode cX1_cut 94 = .ok (.getfield 17, 3) := by decide +kernel
theorem dX1_cut_97 : decode cX1_cut 97 = .ok (.iload_n 1, 1) := by decide +kernel
theorem dX1_cut_98 : decode cX1_cut 98 = .ok (.isub, 1) := by decide +kernel
theorem dX1_cut_99 : decode cX1_cut 99 = .ok (.iconst 1, 1) := by decide +kernel
theorem dX1_cut_100 : decode cX1_cut 100 = .ok (.iadd, 1) := by decide +kernel
theorem dX1_cut_101 : decode cX1_cut 101 = .ok (.istore 9, 2) := by decide +kernel
theorem dX1_cut_103 : decode cX1_cut 103 = .ok (.aload_n 0, 1) := by decide +kernel
theorem dX1_cut_104 : decode cX1_cut 104 = .ok (.iload_n 1, 1) := by decide +kernel
theorem dX1_cut_105 : decode cX1_cut 105 = .ok (.iconst 0, 1) := by decide +kernel
theorem dX1_cut_106 : decode cX1_cut 106 = .ok (.invokestatic 74, 3) := by decide +kernel
theorem dX1_cut_109 : decode cX1_cut 109 = .ok (.putfield 13, 3) := by decide +kernel
theorem dX1_cut_112 : decode cX1_cut 112 = .ok (.aload_n 0, 1) := by decide +kernel
theorem dX1_cut_113 : decode cX1_cut 113 = .ok (.invokevirtual 52, 3) := by decide +kernel
theorem dX1_cut_116 : decode cX1_cut 116 = .ok (.iload 8, 2) := by decide +kernel
theorem dX1_cut_118 : decode cX1_cut 118 = .ok (.ifCond .eq 10, 3) := by decide +kernel
theorem dX1_cut_121 : decode cX1_cut 121 = .ok (.aload_n 0, 1) := by decide +kernel
theorem dX1_cut_122 : decode cX1_cut 122 = .ok (.iload 9, 2) := by decide +kernel
theorem dX1_cut_124 : decode cX1_cut 124 = .ok (.iload_n 1, 1) := by decide +kernel
theorem dX1_cut_125 : decode cX1_cut 125 = .ok (.invokevirtual 77, 3) := by decide +kernel
theorem dX1_cut_128 : decode cX1_cut 128 = .ok (.return_, 1) := by decide +kernel
theorem dX2_beside_0 : decode cX2_beside 0 = .ok (.lload_n 1, 1) := by decide +kernel
theorem dX2_beside_1 : decode cX2_beside 1 = .ok (.iload_n 0, 1) := by decide +kernel
theorem dX2_beside_2 : decode cX2_beside 2 = .ok (.invokestatic 19, 3) := by decide +kernel
theorem dX2_beside_5 : decode cX2_beside 5 = .ok (.ldc2_w 36, 3) := by decide +kernel
theorem dX2_beside_8 : decode cX2_beside 8 = .ok (.lxor, 1) := by decide +kernel
theorem dX2_beside_9 : decode cX2_beside 9 = .ok (.land, 1) := by decide +kernel
theorem dX2_beside_10 : decode cX2_beside 10 = .ok (.lstore 4, 2) := by decide +kernel
theorem dX2_beside_12 : decode cX2_beside 12 = .ok (.lload 4, 2) := by decide +kernel
theorem dX2_beside_14 : decode cX2_beside 14 = .ok (.lload_n 1, 1) := by decide +kernel
theorem dX2_beside_15 : decode cX2_beside 15 = .ok (.lcmp, 1) := by decide +kernel
theorem dX2_beside_16 : decode cX2_beside 16 = .ok (.ifCond .eq 7, 3) := by decide +kernel
theorem dX2_beside_19 : decode cX2_beside 19 = .ok (.iconst 1, 1) := by decide +kernel
theorem dX2_beside_20 : decode cX2_beside 20 = .ok (.goto 4, 3) := by decide +kernel
theorem dX2_beside_23 : decode cX2_beside 23 = .ok (.iconst 0, 1) := by decide +kernel
theorem dX2_beside_24 : decode cX2_beside 24 = .ok (.istore 6, 2) := by decide +kernel
theorem dX2_beside_26 : decode cX2_beside 26 = .ok (.iload_n 0, 1) := by decide +kernel
theorem dX2_beside_27 : decode cX2_beside 27 = .ok (.invokestatic 29, 3) := by decide +kernel
theorem dX2_beside_30 : decode cX2_beside 30 = .ok (.lstore 7, 2) := by decide +kernel
theorem dX2_beside_32 : decode cX2_beside 32 = .ok (.lload 4, 2) := by decide +kernel
theorem dX2_beside_34 : decode cX2_beside 34 = .ok (.lload 7, 2) := by decide +kernel
theorem dX2_beside_36 : decode cX2_beside 36 = .ok (.lcmp, 1) := by decide +kernel
theorem dX2_beside_37 : decode cX2_beside 37 = .ok (.ifCond .le 5, 3) := by decide +kernel
theorem dX2_beside_40 : decode cX2_beside 40 = .ok (.lload_n 1, 1) := by decide +kernel
theorem dX2_beside_41 : decode cX2_beside 41 = .ok (.lreturn, 1) := by decide +kernel
theorem dX2_beside_42 : decode cX2_beside 42 = .ok (.lload 4, 2) := by decide +kernel
theorem dX2_beside_44 : decode cX2_beside 44 = .ok (.lconst 0, 1) := by decide +kernel
theorem dX2_beside_45 : decode cX2_beside 45 = .ok (.lcmp, 1) := by decide +kernel
theorem dX2_beside_46 : decode cX2_beside 46 = .ok (.ifCond .ne 18, 3) := by decide +kernel
theorem dX2_beside_49 : decode cX2_beside 49 = .ok (.iload_n 0, 1) := by decide +kernel
theorem dX2_beside_50 : decode cX2_beside 50 = .ok (.iload_n 3, 1) := by decide +kernel
theorem dX2_beside_51 : decode cX2_beside 51 = .ok (.ifCond .ne 7, 3) := by decide +kernel
theorem dX2_beside_54 : decode cX2_beside 54 = .ok (.iconst 1, 1) := by decide +kernel
theorem dX2_beside_55 : decode cX2_beside 55 = .ok (.goto 4, 3) := by decide +kernel
theorem dX2_beside_58 : decode cX2_beside 58 = .ok (.iconst 0, 1) := by decide +kernel
theorem dX2_beside_59 : decode cX2_beside 59 = .ok (.lconst 1, 1) := by decide +kernel
theorem dX2_beside_60 : decode cX2_beside 60 = .ok (.invokestatic 25, 3) := by decide +kernel
theorem dX2_beside_63 : decode cX2_beside 63 = .ok (.lreturn, 1) := by decide +kernel
theorem dX2_beside_64 : decode cX2_beside 64 = .ok (.iload_n 3, 1) := by decide +kernel
theorem dX2_beside_65 : decode cX2_beside 65 = .ok (.iload 6, 2) := by decide +kernel
theorem dX2_beside_67 : decode cX2_beside 67 = .ok (.if_icmp .ne 14, 3) := by decide +kernel
theorem dX2_beside_70 : decode cX2_beside 70 = .ok (.iload_n 0, 1) := by decide +kernel
theorem dX2_beside_71 : decode cX2_beside 71 = .ok (.iload 6, 2) := by decide +kernel
theorem dX2_beside_73 : decode cX2_beside 73 = .ok (.lload 4, 2) := by decide +kernel
theorem dX2_beside_75 : decode cX2_beside 75 = .ok (.lconst 1, 1) := by decide +kernel
theorem dX2_beside_76 : decode cX2_beside 76 = .ok (.lsub, 1) := by decide +kernel
theorem dX2_beside_77 : decode cX2_beside 77 = .ok (.invokestatic 25, 3) := by decide +kernel
theorem dX2_beside_80 : decode cX2_beside 80 = .ok (.lreturn, 1) := by decide +kernel
theorem dX2_beside_81 : decode cX2_beside 81 = .ok (.lload 4, 2) := by decide +kernel
theorem dX2_beside_83 : decode cX2_beside 83 = .ok (.lload 7, 2) := by decide +kernel
theorem dX2_beside_85 : decode cX2_beside 85 = .ok (.lcmp, 1) := by decide +kernel
theorem dX2_beside_86 : decode cX2_beside 86 = .ok (.ifCond .ne 7, 3) := by decide +kernel
theorem dX2_beside_89 : decode cX2_beside 89 = .ok (.lload_n 1, 1) := by decide +kernel
theorem dX2_beside_90 : decode cX2_beside 90 = .ok (.goto 13, 3) := by decide +kernel
theorem dX2_beside_93 : decode cX2_beside 93 = .ok (.iload_n 0, 1) := by decide +kernel
theorem dX2_beside_94 : decode cX2_beside 94 = .ok (.iload 6, 2) := by decide +kernel
theorem dX2_beside_96 : decode cX2_beside 96 = .ok (.lload 4, 2) := by decide +kernel
theorem dX2_beside_98 : decode cX2_beside 98 = .ok (.lconst 1, 1) := by decide +kernel
theorem dX2_beside_99 : decode cX2_beside 99 = .ok (.ladd, 1) := by decide +kernel
theorem dX2_beside_100 : decode cX2_beside 100 = .ok (.invokestatic 25, 3) := by decide +kernel
theorem dX2_beside_103 : decode cX2_beside 103 = .ok (.lreturn, 1) := by decide +kernel
theorem dX6_begin_0 : decode cX6_begin 0 = .ok (.aload_n 0, 1) := by decide +kernel
theorem dX6_begin_1 : decode cX6_begin 1 = .ok (.aload_n 1, 1) := by decide +kernel
theorem dX6_begin_2 : decode cX6_begin 2 = .ok (.getfield 70, 3) := by decide +kernel
theorem dX6_begin_5 : decode cX6_begin 5 = .ok (.lconst 1, 1) := by decide +kernel
theorem dX6_begin_6 : decode cX6_begin 6 = .ok (.land, 1) := by decide +kernel
theorem dX6_begin_7 : decode cX6_begin 7 = .ok (.lconst 0, 1) := by decide +kernel
theorem dX6_begin_8 : decode cX6_begin 8 = .ok (.lcmp, 1) := by decide +kernel
theorem dX6_begin_9 : decode cX6_begin 9 = .ok (.ifCond .ne 7, 3) := by decide +kernel
theorem dX6_begin_12 : decode cX6_begin 12 = .ok (.iconst 1, 1) := by decide +kernel
theorem dX6_begin_13 : decode cX6_begin 13 = .ok (.goto 4, 3) := by decide +kernel
theorem dX6_begin_16 : decode cX6_begin 16 = .ok (.iconst 0, 1) := by decide +kernel
theorem dX6_begin_17 : decode cX6_begin 17 = .ok (.putfield 76, 3) := by decide +kernel
theorem dX6_begin_20 : decode cX6_begin 20 = .ok (.aload_n 0, 1) := by decide +kernel
theorem dX6_begin_21 : decode cX6_begin 21 = .ok (.aload_n 1, 1) := by decide +kernel
theorem dX6_begin_22 : decode cX6_begin 22 = .ok (.getfield 80, 3) := by decide +kernel
theorem dX6_begin_25 : decode cX6_begin 25 = .ok (.putfield 83, 3) := by decide +kernel
theorem dX6_begin_28 : decode cX6_begin 28 = .ok (.aload_n 0, 1) := by decide +kernel
theorem dX6_begin_29 : decode cX6_begin 29 = .ok (.getfield 83, 3) := by decide +kernel
theorem dX6_begin_32 : decode cX6_begin 32 = .ok (.ifCond .eq 7, 3) := by decide +kernel
theorem dX6_begin_35 : decode cX6_begin 35 = .ok (.iconst 2, 1) := by decide +kernel
theorem dX6_begin_36 : decode cX6_begin 36 = .ok (.goto 4, 3) := by decide +kernel
theorem dX6_begin_39 : decode cX6_begin 39 = .ok (.iconst 1, 1) := by decide +kernel
theorem dX6_begin_40 : decode cX6_begin 40 = .ok (.istore_n 2, 1) := by decide +kernel
theorem dX6_begin_41 : decode cX6_begin 41 = .ok (.aload_n 1, 1) := by decide +kernel
theorem dX6_begin_42 : decode cX6_begin 42 = .ok (.getfield 86, 3) := by decide +kernel
theorem dX6_begin_45 : decode cX6_begin 45 = .ok (.iload_n 2, 1) := by decide +kernel
theorem dX6_begin_46 : decode cX6_begin 46 = .ok (.isub, 1) := by decide +kernel
theorem dX6_begin_47 : decode cX6_begin 47 = .ok (.istore_n 3, 1) := by decide +kernel
theorem dX6_begin_48 : decode cX6_begin 48 = .ok (.aload_n 0, 1) := by decide +kernel
theorem dX6_begin_49 : decode cX6_begin 49 = .ok (.getfield 19, 3) := by decide +kernel
theorem dX6_begin_52 : decode cX6_begin 52 = .ok (.aload_n 1, 1) := by decide +kernel
theorem dX6_begin_53 : decode cX6_begin 53 = .ok (.getfield 70, 3) := by decide +kernel
theorem dX6_begin_56 : decode cX6_begin 56 = .ok (.iload_n 2, 1) := by decide +kernel
theorem dX6_begin_57 : decode cX6_begin 57 = .ok (.lshl, 1) := by decide +kernel
theorem dX6_begin_58 : decode cX6_begin 58 = .ok (.invokevirtual 89, 3) := by decide +kernel
theorem dX6_begin_61 : decode cX6_begin 61 = .ok (.aload_n 0, 1) := by decide +kernel
theorem dX6_begin_62 : decode cX6_begin 62 = .ok (.getfield 10, 3) := by decide +kernel
theorem dX6_begin_65 : decode cX6_begin 65 = .ok (.lconst 1, 1) := by decide +kernel
theorem dX6_begin_66 : decode cX6_begin 66 = .ok (.invokevirtual 89, 3) := by decide +kernel
theorem dX6_begin_69 : decode cX6_begin 69 = .ok (.aload_n 0, 1) := by decide +kernel
theorem dX6_begin_70 : decode cX6_begin 70 = .ok (.getfield 22, 3) := by decide +kernel
theorem dX6_begin_73 : decode cX6_begin 73 = .ok (.lconst 1, 1) := by decide +kernel
theorem dX6_begin_74 : decode cX6_begin 74 = .ok (.invokevirtual 89, 3) := by decide +kernel
theorem dX6_begin_77 : decode cX6_begin 77 = .ok (.aload_n 0, 1) := by decide +kernel
theorem dX6_begin_78 : decode cX6_begin 78 = .ok (.getfield 19, 3) := by decide +kernel
theorem dX6_begin_81 : decode cX6_begin 81 = .ok (.iload_n 3, 1) := by decide +kernel
theorem dX6_begin_82 : decode cX6_begin 82 = .ok (.invokevirtual 93, 3) := by decide +kernel
theorem dX6_begin_85 : decode cX6_begin 85 = .ok (.aload_n 0, 1) := by decide +kernel
theorem dX6_begin_86 : decode cX6_begin 86 = .ok (.getfield 10, 3) := by decide +kernel
theorem dX6_begin_89 : decode cX6_begin 89 = .ok (.iload_n 3, 1) := by decide +kernel
theorem dX6_begin_90 : decode cX6_begin 90 = .ok (.invokevirtual 93, 3) := by decide +kernel
theorem dX6_begin_93 : decode cX6_begin 93 = .ok (.aload_n 0, 1) := by decide +kernel
theorem dX6_begin_94 : decode cX6_begin 94 = .ok (.getfield 22, 3) := by decide +kernel
theorem dX6_begin_97 : decode cX6_begin 97 = .ok (.iload_n 3, 1) := by decide +kernel
theorem dX6_begin_98 : decode cX6_begin 98 = .ok (.ineg, 1) := by decide +kernel
theorem dX6_begin_99 : decode cX6_begin 99 = .ok (.invokevirtual 93, 3) := by decide +kernel
theorem dX6_begin_102 : decode cX6_begin 102 = .ok (.return_, 1) := by decide +kernel
theorem dX4_copy_0 : decode cX4_copy 0 = .ok (.iconst 0, 1) := by decide +kernel
theorem dX4_copy_1 : decode cX4_copy 1 = .ok (.istore_n 2, 1) := by decide +kernel
theorem dX4_copy_2 : decode cX4_copy 2 = .ok (.iload_n 2, 1) := by decide +kernel
theorem dX4_copy_3 : decode cX4_copy 3 = .ok (.aload_n 1, 1) := by decide +kernel
theorem dX4_copy_4 : decode cX4_copy 4 = .ok (.getfield 15, 3) := by decide +kernel
theorem dX4_copy_7 : decode cX4_copy 7 = .ok (.if_icmp .ge 21, 3) := by decide +kernel
theorem dX4_copy_10 : decode cX4_copy 10 = .ok (.aload_n 0, 1) := by decide +kernel
theorem dX4_copy_11 : decode cX4_copy 11 = .ok (.getfield 9, 3) := by decide +kernel
theorem dX4_copy_14 : decode cX4_copy 14 = .ok (.iload_n 2, 1) := by decide +kernel
theorem dX4_copy_15 : decode cX4_copy 15 = .ok (.aload_n 1, 1) := by decide +kernel
theorem dX4_copy_16 : decode cX4_copy 16 = .ok (.getfield 9, 3) := by decide +kernel
theorem dX4_copy_19 : decode cX4_copy 19 = .ok (.iload_n 2, 1) := by decide +kernel
theorem dX4_copy_20 : decode cX4_copy 20 = .ok (.laload, 1) := by decide +kernel
theorem dX4_copy_21 : decode cX4_copy 21 = .ok (.lastore, 1) := by decide +kernel
theorem dX4_copy_22 : decode cX4_copy 22 = .ok (.iinc 2 1, 3) := by decide +kernel
theorem dX4_copy_25 : decode cX4_copy 25 = .ok (.goto (-23), 3) := by decide +kernel
theorem dX4_copy_28 : decode cX4_copy 28 = .ok (.aload_n 0, 1) := by decide +kernel
theorem dX4_copy_29 : decode cX4_copy 29 = .ok (.aload_n 1, 1) := by decide +kernel
theorem dX4_copy_30 : decode cX4_copy 30 = .ok (.getfield 15, 3) := by decide +kernel
theorem dX4_copy_33 : decode cX4_copy 33 = .ok (.putfield 15, 3) := by decide +kernel
theorem dX4_copy_36 : decode cX4_copy 36 = .ok (.return_, 1) := by decide +kernel
theorem dX6_isAboveMiddle_0 : decode cX6_isAboveMiddle 0 = .ok (.aload_n 0, 1) := by decide +kernel
theorem dX6_isAboveMiddle_1 : decode cX6_isAboveMiddle 1 = .ok (.getfield 16, 3) := by decide +kernel
theorem dX6_isAboveMiddle_4 : decode cX6_isAboveMiddle 4 = .ok (.aload_n 0, 1) := by decide +kernel
theorem dX6_isAboveMiddle_5 : decode cX6_isAboveMiddle 5 = .ok (.getfield 19, 3) := by decide +kernel
theorem dX6_isAboveMiddle_8 : decode cX6_isAboveMiddle 8 = .ok (.invokevirtual 112, 3) := by decide +kernel
theorem dX6_isAboveMiddle_11 : decode cX6_isAboveMiddle 11 = .ok (.aload_n 0, 1) := by decide +kernel
theorem dX6_isAboveMiddle_12 : decode cX6_isAboveMiddle 12 = .ok (.getfield 16, 3) := by decide +kernel
theorem dX6_isAboveMiddle_15 : decode cX6_isAboveMiddle 15 = .ok (.iconst 1, 1) := by decide +kernel
theorem dX6_isAboveMiddle_16 : decode cX6_isAboveMiddle 16 = .ok (.invokevirtual 93, 3) := by decide +kernel
theorem dX6_isAboveMiddle_19 : decode cX6_isAboveMiddle 19 = .ok (.aload_n 0, 1) := by decide +kernel
theorem dX6_isAboveMiddle_20 : decode cX6_isAboveMiddle 20 = .ok (.getfield 16, 3) := by decide +kernel
theorem dX6_isAboveMiddle_23 : decode cX6_isAboveMiddle 23 = .ok (.aload_n 0, 1) := by decide +kernel
theorem dX6_isAboveMiddle_24 : decode cX6_isAboveMiddle 24 = .ok (.getfield 22, 3) := by decide +kernel
theorem dX6_isAboveMiddle_27 : decode cX6_isAboveMiddle 27 = .ok (.invokevirtual 116, 3) := by decide +kernel
theorem dX6_isAboveMiddle_30 : decode cX6_isAboveMiddle 30 = .ok (.ifCond .le 7, 3) := by decide +kernel
theorem dX6_isAboveMiddle_33 : decode cX6_isAboveMiddle 33 = .ok (.iconst 1, 1) := by decide +kernel
theorem dX6_isAboveMiddle_34 : decode cX6_isAboveMiddle 34 = .ok (.goto 4, 3) := by decide +kernel
theorem dX6_isAboveMiddle_37 : decode cX6_isAboveMiddle 37 = .ok (.iconst 0, 1) := by decide +kernel
theorem dX6_isAboveMiddle_38 : decode cX6_isAboveMiddle 38 = .ok (.ireturn, 1) := by decide +kernel
theorem dX6_leadsBackAbove_0 : decode cX6_leadsBackAbove 0 = .ok (.aload_n 0, 1) := by decide +kernel
theorem dX6_leadsBackAbove_1 : decode cX6_leadsBackAbove 1 = .ok (.getfield 16, 3) := by decide +kernel
theorem dX6_leadsBackAbove_4 : decode cX6_leadsBackAbove 4 = .ok (.aload_n 0, 1) := by decide +kernel
theorem dX6_leadsBackAbove_5 : decode cX6_leadsBackAbove 5 = .ok (.getfield 19, 3) := by decide +kernel
theorem dX6_leadsBackAbove_8 : decode cX6_leadsBackAbove 8 = .ok (.invokevirtual 112, 3) := by decide +kernel
theorem dX6_leadsBackAbove_11 : decode cX6_leadsBackAbove 11 = .ok (.aload_n 0, 1) := by decide +kernel
theorem dX6_leadsBackAbove_12 : decode cX6_leadsBackAbove 12 = .ok (.getfield 16, 3) := by decide +kernel
theorem dX6_leadsBackAbove_15 : decode cX6_leadsBackAbove 15 = .ok (.aload_n 0, 1) := by decide +kernel
theorem dX6_leadsBackAbove_16 : decode cX6_leadsBackAbove 16 = .ok (.getfield 10, 3) := by decide +kernel
theorem dX6_leadsBackAbove_19 : decode cX6_leadsBackAbove 19 = .ok (.invokevirtual 123, 3) := by decide +kernel
theorem dX6_leadsBackAbove_22 : decode cX6_leadsBackAbove 22 = .ok (.aload_n 0, 1) := by decide +kernel
theorem dX6_leadsBackAbove_23 : decode cX6_leadsBackAbove 23 = .ok (.getfield 83, 3) := by decide +kernel
theorem dX6_leadsBackAbove_26 : decode cX6_leadsBackAbove 26 = .ok (.ifCond .eq 14, 3) := by decide +kernel
theorem dX6_leadsBackAbove_29 : decode cX6_leadsBackAbove 29 = .ok (.aload_n 0, 1) := by decide +kernel
theorem dX6_leadsBackAbove_30 : decode cX6_leadsBackAbove 30 = .ok (.getfield 16, 3) := by decide +kernel
theorem dX6_leadsBackAbove_33 : decode cX6_leadsBackAbove 33 = .ok (.aload_n 0, 1) := by decide +kernel
theorem dX6_leadsBackAbove_34 : decode cX6_leadsBackAbove 34 = .ok (.getfield 10, 3) := by decide +kernel
theorem dX6_leadsBackAbove_37 : decode cX6_leadsBackAbove 37 = .ok (.invokevirtual 123, 3) := by decide +kernel
theorem dX6_leadsBackAbove_40 : decode cX6_leadsBackAbove 40 = .ok (.aload_n 0, 1) := by decide +kernel
theorem dX6_leadsBackAbove_41 : decode cX6_leadsBackAbove 41 = .ok (.getfield 16, 3) := by decide +kernel
theorem dX6_leadsBackAbove_44 : decode cX6_leadsBackAbove 44 = .ok (.aload_n 0, 1) := by decide +kernel
theorem dX6_leadsBackAbove_45 : decode cX6_leadsBackAbove 45 = .ok (.getfield 22, 3) := by decide +kernel
theorem dX6_leadsBackAbove_48 : decode cX6_leadsBackAbove 48 = .ok (.invokevirtual 116, 3) := by decide +kernel
theorem dX6_leadsBackAbove_51 : decode cX6_leadsBackAbove 51 = .ok (.istore_n 1, 1) := by decide +kernel
theorem dX6_leadsBackAbove_52 : decode cX6_leadsBackAbove 52 = .ok (.iload_n 1, 1) := by decide +kernel
theorem dX6_leadsBackAbove_53 : decode cX6_leadsBackAbove 53 = .ok (.ifCond .gt 14, 3) := by decide +kernel
theorem dX6_leadsBackAbove_56 : decode cX6_leadsBackAbove 56 = .ok (.iload_n 1, 1) := by decide +kernel
theorem dX6_leadsBackAbove_57 : decode cX6_leadsBackAbove 57 = .ok (.ifCond .ne 14, 3) := by decide +kernel
theorem dX6_leadsBackAbove_60 : decode cX6_leadsBackAbove 60 = .ok (.aload_n 0, 1) := by decide +kernel
theorem dX6_leadsBackAbove_61 : decode cX6_leadsBackAbove 61 = .ok (.getfield 76, 3) := by decide +kernel
theorem dX6_leadsBackAbove_64 : decode cX6_leadsBackAbove 64 = .ok (.ifCond .eq 7, 3) := by decide +kernel
theorem dX6_leadsBackAbove_67 : decode cX6_leadsBackAbove 67 = .ok (.iconst 1, 1) := by decide +kernel
theorem dX6_leadsBackAbove_68 : decode cX6_leadsBackAbove 68 = .ok (.goto 4, 3) := by decide +kernel
theorem dX6_leadsBackAbove_71 : decode cX6_leadsBackAbove 71 = .ok (.iconst 0, 1) := by decide +kernel
theorem dX6_leadsBackAbove_72 : decode cX6_leadsBackAbove 72 = .ok (.ireturn, 1) := by decide +kernel
theorem dX6_leadsBackBelow_0 : decode cX6_leadsBackBelow 0 = .ok (.aload_n 0, 1) := by decide +kernel
theorem dX6_leadsBackBelow_1 : decode cX6_leadsBackBelow 1 = .ok (.getfield 19, 3) := by decide +kernel
theorem dX6_leadsBackBelow_4 : decode cX6_leadsBackBelow 4 = .ok (.aload_n 0, 1) := by decide +kernel
theorem dX6_leadsBackBelow_5 : decode cX6_leadsBackBelow 5 = .ok (.getfield 10, 3) := by decide +kernel
theorem dX6_leadsBackBelow_8 : decode cX6_leadsBackBelow 8 = .ok (.invokevirtual 116, 3) := by decide +kernel
theorem dX6_leadsBackBelow_11 : decode cX6_leadsBackBelow 11 = .ok (.istore_n 1, 1) := by decide +kernel
theorem dX6_leadsBackBelow_12 : decode cX6_leadsBackBelow 12 = .ok (.iload_n 1, 1) := by decide +kernel
theorem dX6_leadsBackBelow_13 : decode cX6_leadsBackBelow 13 = .ok (.ifCond .lt 14, 3) := by decide +kernel
theorem dX6_leadsBackBelow_16 : decode cX6_leadsBackBelow 16 = .ok (.iload_n 1, 1) := by decide +kernel
theorem dX6_leadsBackBelow_17 : decode cX6_leadsBackBelow 17 = .ok (.ifCond .ne 14, 3) := by decide +kernel
theorem dX6_leadsBackBelow_20 : decode cX6_leadsBackBelow 20 = .ok (.aload_n 0, 1) := by decide +kernel
theorem dX6_leadsBackBelow_21 : decode cX6_leadsBackBelow 21 = .ok (.getfield 76, 3) := by decide +kernel
theorem dX6_leadsBackBelow_24 : decode cX6_leadsBackBelow 24 = .ok (.ifCond .eq 7, 3) := by decide +kernel
theorem dX6_leadsBackBelow_27 : decode cX6_leadsBackBelow 27 = .ok (.iconst 1, 1) := by decide +kernel
theorem dX6_leadsBackBelow_28 : decode cX6_leadsBackBelow 28 = .ok (.goto 4, 3) := by decide +kernel
theorem dX6_leadsBackBelow_31 : decode cX6_leadsBackBelow 31 = .ok (.iconst 0, 1) := by decide +kernel
theorem dX6_leadsBackBelow_32 : decode cX6_leadsBackBelow 32 = .ok (.ireturn, 1) := by decide +kernel
theorem dJ9_floorDiv_f86c9_0 : decode cJ9_floorDiv_f86c9 0 = .ok (.lload_n 0, 1) := by decide +kernel
theorem dJ9_floorDiv_f86c9_1 : decode cJ9_floorDiv_f86c9 1 = .ok (.lload_n 2, 1) := by decide +kernel
theorem dJ9_floorDiv_f86c9_2 : decode cJ9_floorDiv_f86c9 2 = .ok (.ldiv, 1) := by decide +kernel
theorem dJ9_floorDiv_f86c9_3 : decode cJ9_floorDiv_f86c9 3 = .ok (.lstore 4, 2) := by decide +kernel
theorem dJ9_floorDiv_f86c9_5 : decode cJ9_floorDiv_f86c9 5 = .ok (.lload_n 0, 1) := by decide +kernel
theorem dJ9_floorDiv_f86c9_6 : decode cJ9_floorDiv_f86c9 6 = .ok (.lload_n 2, 1) := by decide +kernel
theorem dJ9_floorDiv_f86c9_7 : decode cJ9_floorDiv_f86c9 7 = .ok (.lxor, 1) := by decide +kernel
theorem dJ9_floorDiv_f86c9_8 : decode cJ9_floorDiv_f86c9 8 = .ok (.lconst 0, 1) := by decide +kernel
theorem dJ9_floorDiv_f86c9_9 : decode cJ9_floorDiv_f86c9 9 = .ok (.lcmp, 1) := by decide +kernel
theorem dJ9_floorDiv_f86c9_10 : decode cJ9_floorDiv_f86c9 10 = .ok (.ifCond .ge 17, 3) := by decide +kernel
theorem dJ9_floorDiv_f86c9_13 : decode cJ9_floorDiv_f86c9 13 = .ok (.lload 4, 2) := by decide +kernel
theorem dJ9_floorDiv_f86c9_15 : decode cJ9_floorDiv_f86c9 15 = .ok (.lload_n 2, 1) := by decide +kernel
theorem dJ9_floorDiv_f86c9_16 : decode cJ9_floorDiv_f86c9 16 = .ok (.lmul, 1) := by decide +kernel
theorem dJ9_floorDiv_f86c9_17 : decode cJ9_floorDiv_f86c9 17 = .ok (.lload_n 0, 1) := by decide +kernel
theorem dJ9_floorDiv_f86c9_18 : decode cJ9_floorDiv_f86c9 18 = .ok (.lcmp, 1) := by decide +kernel
theorem dJ9_floorDiv_f86c9_19 : decode cJ9_floorDiv_f86c9 19 = .ok (.ifCond .eq 8, 3) := by decide +kernel
theorem dJ9_floorDiv_f86c9_22 : decode cJ9_floorDiv_f86c9 22 = .ok (.lload 4, 2) := by decide +kernel
theorem dJ9_floorDiv_f86c9_24 : decode cJ9_floorDiv_f86c9 24 = .ok (.lconst 1, 1) := by decide +kernel
theorem dJ9_floorDiv_f86c9_25 : decode cJ9_floorDiv_f86c9 25 = .ok (.lsub, 1) := by decide +kernel
theorem dJ9_floorDiv_f86c9_26 : decode cJ9_floorDiv_f86c9 26 = .ok (.lreturn, 1) := by decide +kernel
theorem dJ9_floorDiv_f86c9_27 : decode cJ9_floorDiv_f86c9 27 = .ok (.lload 4, 2) := by decide +kernel
theorem dJ9_floorDiv_f86c9_29 : decode cJ9_floorDiv_f86c9 29 = .ok (.lreturn, 1) := by decide +kernel
theorem dX8_bits_0 : decode cX8_bits 0 = .ok (.bipush 64, 2) := by decide +kernel
theorem dX8_bits_2 : decode cX8_bits 2 = .ok (.aload_n 0, 1) := by decide +kernel
theorem dX8_bits_3 : decode cX8_bits 3 = .ok (.getfield 27, 3) := by decide +kernel
theorem dX8_bits_6 : decode cX8_bits 6 = .ok (.invokestatic 47, 3) := by decide +kernel
theorem dX8_bits_9 : decode cX8_bits 9 = .ok (.isub, 1) := by decide +kernel
theorem dX8_bits_10 : decode cX8_bits 10 = .ok (.ireturn, 1) := by decide +kernel
theorem dX6_scaleToFirstFigure_0 : decode cX6_scaleToFirstFigure 0 = .ok (.aload_n 1, 1) := by decide +kernel
theorem dX6_scaleToFirstFigure_1 : decode cX6_scaleToFirstFigure 1 = .ok (.invokevirtual 96, 3) := by decide +kernel
theorem dX6_scaleToFirstFigure_4 : decode cX6_scaleToFirstFigure 4 = .ok (.aload_n 1, 1) := by decide +kernel
theorem dX6_scaleToFirstFigure_5 : decode cX6_scaleToFirstFigure 5 = .ok (.getfield 86, 3) := by decide +kernel
theorem dX6_scaleToFirstFigure_8 : decode cX6_scaleToFirstFigure 8 = .ok (.iadd, 1) := by decide +kernel
theorem dX6_scaleToFirstFigure_9 : decode cX6_scaleToFirstFigure 9 = .ok (.iconst 1, 1) := by decide +kernel
theorem dX6_scaleToFirstFigure_10 : decode cX6_scaleToFirstFigure 10 = .ok (.isub, 1) := by decide +kernel
theorem dX6_scaleToFirstFigure_11 : decode cX6_scaleToFirstFigure 11 = .ok (.i2l, 1) := by decide +kernel
theorem dX6_scaleToFirstFigure_12 : decode cX6_scaleToFirstFigure 12 = .ok (.ldc2_w 99, 3) := by decide +kernel
theorem dX6_scaleToFirstFigure_15 : decode cX6_scaleToFirstFigure 15 = .ok (.lmul, 1) := by decide +kernel
theorem dX6_scaleToFirstFigure_16 : decode cX6_scaleToFirstFigure 16 = .ok (.ldc2_w 101, 3) := by decide +kernel
theorem dX6_scaleToFirstFigure_19 : decode cX6_scaleToFirstFigure 19 = .ok (.invokestatic 103, 3) := by decide +kernel
theorem dX6_scaleToFirstFigure_22 : decode cX6_scaleToFirstFigure 22 = .ok (.l2i, 1) := by decide +kernel
theorem dX6_scaleToFirstFigure_23 : decode cX6_scaleToFirstFigure 23 = .ok (.istore_n 2, 1) := by decide +kernel
theorem dX6_scaleToFirstFigure_24 : decode cX6_scaleToFirstFigure 24 = .ok (.iload_n 2, 1) := by decide +kernel
theorem dX6_scaleToFirstFigure_25 : decode cX6_scaleToFirstFigure 25 = .ok (.ifCond .lt 22, 3) := by decide +kernel
theorem dX6_scaleToFirstFigure_28 : decode cX6_scaleToFirstFigure 28 = .ok (.aload_n 0, 1) := by decide +kernel
theorem dX6_scaleToFirstFigure_29 : decode cX6_scaleToFirstFigure 29 = .ok (.getfield 22, 3) := by decide +kernel
theorem dX6_scaleToFirstFigure_32 : decode cX6_scaleToFirstFigure 32 = .ok (.iload_n 2, 1) := by decide +kernel
theorem dX6_scaleToFirstFigure_33 : decode cX6_scaleToFirstFigure 33 = .ok (.invokevirtual 109, 3) := by decide +kernel
theorem dX6_scaleToFirstFigure_36 : decode cX6_scaleToFirstFigure 36 = .ok (.aload_n 0, 1) := by decide +kernel
theorem dX6_scaleToFirstFigure_37 : decode cX6_scaleToFirstFigure 37 = .ok (.getfield 22, 3) := by decide +kernel
theorem dX6_scaleToFirstFigure_40 : decode cX6_scaleToFirstFigure 40 = .ok (.iload_n 2, 1) := by decide +kernel
theorem dX6_scaleToFirstFigure_41 : decode cX6_scaleToFirstFigure 41 = .ok (.invokevirtual 93, 3) := by decide +kernel
theorem dX6_scaleToFirstFigure_44 : decode cX6_scaleToFirstFigure 44 = .ok (.goto 39, 3) := by decide +kernel
theorem dX6_scaleToFirstFigure_47 : decode cX6_scaleToFirstFigure 47 = .ok (.aload_n 0, 1) := by decide +kernel
theorem dX6_scaleToFirstFigure_48 : decode cX6_scaleToFirstFigure 48 = .ok (.getfield 19, 3) := by decide +kernel
theorem dX6_scaleToFirstFigure_51 : decode cX6_scaleToFirstFigure 51 = .ok (.iload_n 2, 1) := by decide +kernel
theorem dX6_scaleToFirstFigure_52 : decode cX6_scaleToFirstFigure 52 = .ok (.ineg, 1) := by decide +kernel
theorem dX6_scaleToFirstFigure_53 : decode cX6_scaleToFirstFigure 53 = .ok (.invokevirtual 109, 3) := by decide +kernel
theorem dX6_scaleToFirstFigure_56 : decode cX6_scaleToFirstFigure 56 = .ok (.aload_n 0, 1) := by decide +kernel
theorem dX6_scaleToFirstFigure_57 : decode cX6_scaleToFirstFigure 57 = .ok (.getfield 19, 3) := by decide +kernel
theorem dX6_scaleToFirstFigure_60 : decode cX6_scaleToFirstFigure 60 = .ok (.iload_n 2, 1) := by decide +kernel
theorem dX6_scaleToFirstFigure_61 : decode cX6_scaleToFirstFigure 61 = .ok (.ineg, 1) := by decide +kernel
theorem dX6_scaleToFirstFigure_62 : decode cX6_scaleToFirstFigure 62 = .ok (.invokevirtual 93, 3) := by decide +kernel
theorem dX6_scaleToFirstFigure_65 : decode cX6_scaleToFirstFigure 65 = .ok (.aload_n 0, 1) := by decide +kernel
theorem dX6_scaleToFirstFigure_66 : decode cX6_scaleToFirstFigure 66 = .ok (.getfield 10, 3) := by decide +kernel
theorem dX6_scaleToFirstFigure_69 : decode cX6_scaleToFirstFigure 69 = .ok (.iload_n 2, 1) := by decide +kernel
theorem dX6_scaleToFirstFigure_70 : decode cX6_scaleToFirstFigure 70 = .ok (.ineg, 1) := by decide +kernel
theorem dX6_scaleToFirstFigure_71 : decode cX6_scaleToFirstFigure 71 = .ok (.invokevirtual 109, 3) := by decide +kernel
theorem dX6_scaleToFirstFigure_74 : decode cX6_scaleToFirstFigure 74 = .ok (.aload_n 0, 1) := by decide +kernel
theorem dX6_scaleToFirstFigure_75 : decode cX6_scaleToFirstFigure 75 = .ok (.getfield 10, 3) := by decide +kernel
theorem dX6_scaleToFirstFigure_78 : decode cX6_scaleToFirstFigure 78 = .ok (.iload_n 2, 1) := by decide +kernel
theorem dX6_scaleToFirstFigure_79 : decode cX6_scaleToFirstFigure 79 = .ok (.ineg, 1) := by decide +kernel
theorem dX6_scaleToFirstFigure_80 : decode cX6_scaleToFirstFigure 80 = .ok (.invokevirtual 93, 3) := by decide +kernel
theorem dX6_scaleToFirstFigure_83 : decode cX6_scaleToFirstFigure 83 = .ok (.aload_n 0, 1) := by decide +kernel
theorem dX6_scaleToFirstFigure_84 : decode cX6_scaleToFirstFigure 84 = .ok (.getfield 16, 3) := by decide +kernel
theorem dX6_scaleToFirstFigure_87 : decode cX6_scaleToFirstFigure 87 = .ok (.aload_n 0, 1) := by decide +kernel
theorem dX6_scaleToFirstFigure_88 : decode cX6_scaleToFirstFigure 88 = .ok (.getfield 22, 3) := by decide +kernel
theorem dX6_scaleToFirstFigure_91 : decode cX6_scaleToFirstFigure 91 = .ok (.invokevirtual 112, 3) := by decide +kernel
theorem dX6_scaleToFirstFigure_94 : decode cX6_scaleToFirstFigure 94 = .ok (.aload_n 0, 1) := by decide +kernel
theorem dX6_scaleToFirstFigure_95 : decode cX6_scaleToFirstFigure 95 = .ok (.getfield 16, 3) := by decide +kernel
theorem dX6_scaleToFirstFigure_98 : decode cX6_scaleToFirstFigure 98 = .ok (.ldc2_w 64, 3) := by decide +kernel
theorem dX6_scaleToFirstFigure_101 : decode cX6_scaleToFirstFigure 101 = .ok (.lconst 0, 1) := by decide +kernel
theorem dX6_scaleToFirstFigure_102 : decode cX6_scaleToFirstFigure 102 = .ok (.invokevirtual 66, 3) := by decide +kernel
theorem dX6_scaleToFirstFigure_105 : decode cX6_scaleToFirstFigure 105 = .ok (.aload_n 0, 1) := by decide +kernel
theorem dX6_scaleToFirstFigure_106 : decode cX6_scaleToFirstFigure 106 = .ok (.getfield 19, 3) := by decide +kernel
theorem dX6_scaleToFirstFigure_109 : decode cX6_scaleToFirstFigure 109 = .ok (.aload_n 0, 1) := by decide +kernel
theorem dX6_scaleToFirstFigure_110 : decode cX6_scaleToFirstFigure 110 = .ok (.getfield 16, 3) := by decide +kernel
theorem dX6_scaleToFirstFigure_113 : decode cX6_scaleToFirstFigure 113 = .ok (.invokevirtual 116, 3) := by decide +kernel
theorem dX6_scaleToFirstFigure_116 : decode cX6_scaleToFirstFigure 116 = .ok (.ifCond .lt 18, 3) := by decide +kernel
theorem dX6_scaleToFirstFigure_119 : decode cX6_scaleToFirstFigure 119 = .ok (.aload_n 0, 1) := by decide +kernel
theorem dX6_scaleToFirstFigure_120 : decode cX6_scaleToFirstFigure 120 = .ok (.getfield 22, 3) := by decide +kernel
theorem dX6_scaleToFirstFigure_123 : decode cX6_scaleToFirstFigure 123 = .ok (.aload_n 0, 1) := by decide +kernel
theorem dX6_scaleToFirstFigure_124 : decode cX6_scaleToFirstFigure 124 = .ok (.getfield 16, 3) := by decide +kernel
theorem dX6_scaleToFirstFigure_127 : decode cX6_scaleToFirstFigure 127 = .ok (.invokevirtual 112, 3) := by decide +kernel
theorem dX6_scaleToFirstFigure_130 : decode cX6_scaleToFirstFigure 130 = .ok (.iload_n 2, 1) := by decide +kernel
theorem dX6_scaleToFirstFigure_131 : decode cX6_scaleToFirstFigure 131 = .ok (.iconst 1, 1) := by decide +kernel
theorem dX6_scaleToFirstFigure_132 : decode cX6_scaleToFirstFigure 132 = .ok (.iadd, 1) := by decide +kernel
theorem dX6_scaleToFirstFigure_133 : decode cX6_scaleToFirstFigure 133 = .ok (.ireturn, 1) := by decide +kernel
theorem dX6_scaleToFirstFigure_134 : decode cX6_scaleToFirstFigure 134 = .ok (.iload_n 2, 1) := by decide +kernel
theorem dX6_scaleToFirstFigure_135 : decode cX6_scaleToFirstFigure 135 = .ok (.ireturn, 1) := by decide +kernel
theorem dX6_takeFigure_0 : decode cX6_takeFigure 0 = .ok (.iconst 0, 1) := by decide +kernel
theorem dX6_takeFigure_1 : decode cX6_takeFigure 1 = .ok (.istore_n 1, 1) := by decide +kernel
theorem dX6_takeFigure_2 : decode cX6_takeFigure 2 = .ok (.iload_n 1, 1) := by decide +kernel
theorem dX6_takeFigure_3 : decode cX6_takeFigure 3 = .ok (.bipush 9, 2) := by decide +kernel
theorem dX6_takeFigure_5 : decode cX6_takeFigure 5 = .ok (.if_icmp .ge 34, 3) := by decide +kernel
theorem dX6_takeFigure_8 : decode cX6_takeFigure 8 = .ok (.aload_n 0, 1) := by decide +kernel
theorem dX6_takeFigure_9 : decode cX6_takeFigure 9 = .ok (.getfield 19, 3) := by decide +kernel
theorem dX6_takeFigure_12 : decode cX6_takeFigure 12 = .ok (.aload_n 0, 1) := by decide +kernel
theorem dX6_takeFigure_13 : decode cX6_takeFigure 13 = .ok (.getfield 22, 3) := by decide +kernel
theorem dX6_takeFigure_16 : decode cX6_takeFigure 16 = .ok (.invokevirtual 116, 3) := by decide +kernel
theorem dX6_takeFigure_19 : decode cX6_takeFigure 19 = .ok (.ifCond .lt 20, 3) := by decide +kernel
theorem dX6_takeFigure_22 : decode cX6_takeFigure 22 = .ok (.aload_n 0, 1) := by decide +kernel
theorem dX6_takeFigure_23 : decode cX6_takeFigure 23 = .ok (.getfield 19, 3) := by decide +kernel
theorem dX6_takeFigure_26 : decode cX6_takeFigure 26 = .ok (.aload_n 0, 1) := by decide +kernel
theorem dX6_takeFigure_27 : decode cX6_takeFigure 27 = .ok (.getfield 22, 3) := by decide +kernel
theorem dX6_takeFigure_30 : decode cX6_takeFigure 30 = .ok (.invokevirtual 120, 3) := by decide +kernel
theorem dX6_takeFigure_33 : decode cX6_takeFigure 33 = .ok (.iinc 1 1, 3) := by decide +kernel
theorem dX6_takeFigure_36 : decode cX6_takeFigure 36 = .ok (.goto (-34), 3) := by decide +kernel
theorem dX6_takeFigure_39 : decode cX6_takeFigure 39 = .ok (.iload_n 1, 1) := by decide +kernel
theorem dX6_takeFigure_40 : decode cX6_takeFigure 40 = .ok (.ireturn, 1) := by decide +kernel
theorem dX6_find_0 : decode cX6_find 0 = .ok (.aload_n 0, 1) := by decide +kernel
theorem dX6_find_1 : decode cX6_find 1 = .ok (.aload_n 1, 1) := by decide +kernel
theorem dX6_find_2 : decode cX6_find 2 = .ok (.invokevirtual 25, 3) := by decide +kernel
theorem dX6_find_5 : decode cX6_find 5 = .ok (.aload_n 2, 1) := by decide +kernel
theorem dX6_find_6 : decode cX6_find 6 = .ok (.invokevirtual 29, 3) := by decide +kernel
theorem dX6_find_9 : decode cX6_find 9 = .ok (.aload_n 2, 1) := by decide +kernel
theorem dX6_find_10 : decode cX6_find 10 = .ok (.aload_n 0, 1) := by decide +kernel
theorem dX6_find_11 : decode cX6_find 11 = .ok (.aload_n 1, 1) := by decide +kernel
theorem dX6_find_12 : decode cX6_find 12 = .ok (.invokevirtual 34, 3) := by decide +kernel
theorem dX6_find_15 : decode cX6_find 15 = .ok (.putfield 38, 3) := by decide +kernel
theorem dX6_find_18 : decode cX6_find 18 = .ok (.iconst 0, 1) := by decide +kernel
theorem dX6_find_19 : decode cX6_find 19 = .ok (.istore_n 3, 1) := by decide +kernel
theorem dX6_find_20 : decode cX6_find 20 = .ok (.iload_n 3, 1) := by decide +kernel
theorem dX6_find_21 : decode cX6_find 21 = .ok (.bipush 20, 2) := by decide +kernel
theorem dX6_find_23 : decode cX6_find 23 = .ok (.if_icmp .ge 92, 3) := by decide +kernel
theorem dX6_find_26 : decode cX6_find 26 = .ok (.aload_n 2, 1) := by decide +kernel
theorem dX6_find_27 : decode cX6_find 27 = .ok (.aload_n 0, 1) := by decide +kernel
theorem dX6_find_28 : decode cX6_find 28 = .ok (.invokevirtual 42, 3) := by decide +kernel
theorem dX6_find_31 : decode cX6_find 31 = .ok (.invokevirtual 46, 3) := by decide +kernel
theorem dX6_find_34 : decode cX6_find 34 = .ok (.aload_n 0, 1) := by decide +kernel
theorem dX6_find_35 : decode cX6_find 35 = .ok (.invokevirtual 50, 3) := by decide +kernel
theorem dX6_find_38 : decode cX6_find 38 = .ok (.istore 4, 2) := by decide +kernel
theorem dX6_find_40 : decode cX6_find 40 = .ok (.aload_n 0, 1) := by decide +kernel
theorem dX6_find_41 : decode cX6_find 41 = .ok (.invokevirtual 54, 3) := by decide +kernel
theorem dX6_find_44 : decode cX6_find 44 = .ok (.istore 5, 2) := by decide +kernel
theorem dX6_find_46 : decode cX6_find 46 = .ok (.iload 4, 2) := by decide +kernel
theorem dX6_find_48 : decode cX6_find 48 = .ok (.ifCond .ne 8, 3) := by decide +kernel
theorem dX6_find_51 : decode cX6_find 51 = .ok (.iload 5, 2) := by decide +kernel
theorem dX6_find_53 : decode cX6_find 53 = .ok (.ifCond .eq 34, 3) := by decide +kernel
theorem dX6_find_56 : decode cX6_find 56 = .ok (.iload 5, 2) := by decide +kernel
theorem dX6_find_58 : decode cX6_find 58 = .ok (.ifCond .eq 28, 3) := by decide +kernel
theorem dX6_find_61 : decode cX6_find 61 = .ok (.iload 4, 2) := by decide +kernel
theorem dX6_find_63 : decode cX6_find 63 = .ok (.ifCond .eq 10, 3) := by decide +kernel
theorem dX6_find_66 : decode cX6_find 66 = .ok (.aload_n 0, 1) := by decide +kernel
theorem dX6_find_67 : decode cX6_find 67 = .ok (.invokevirtual 57, 3) := by decide +kernel
theorem dX6_find_70 : decode cX6_find 70 = .ok (.ifCond .eq 16, 3) := by decide +kernel
theorem dX6_find_73 : decode cX6_find 73 = .ok (.aload_n 2, 1) := by decide +kernel
theorem dX6_find_74 : decode cX6_find 74 = .ok (.aload_n 2, 1) := by decide +kernel
theorem dX6_find_75 : decode cX6_find 75 = .ok (.getfield 38, 3) := by decide +kernel
theorem dX6_find_78 : decode cX6_find 78 = .ok (.iload_n 3, 1) := by decide +kernel
theorem dX6_find_79 : decode cX6_find 79 = .ok (.isub, 1) := by decide +kernel
theorem dX6_find_80 : decode cX6_find 80 = .ok (.iload_n 3, 1) := by decide +kernel
theorem dX6_find_81 : decode cX6_find 81 = .ok (.iconst 1, 1) := by decide +kernel
theorem dX6_find_82 : decode cX6_find 82 = .ok (.iadd, 1) := by decide +kernel
theorem dX6_find_83 : decode cX6_find 83 = .ok (.invokevirtual 60, 3) := by decide +kernel
theorem dX6_find_86 : decode cX6_find 86 = .ok (.return_, 1) := by decide +kernel
theorem dX6_find_87 : decode cX6_find 87 = .ok (.aload_n 0, 1) := by decide +kernel
theorem dX6_find_88 : decode cX6_find 88 = .ok (.getfield 19, 3) := by decide +kernel
theorem dX6_find_91 : decode cX6_find 91 = .ok (.ldc2_w 64, 3) := by decide +kernel
theorem dX6_find_94 : decode cX6_find 94 = .ok (.lconst 0, 1) := by decide +kernel
theorem dX6_find_95 : decode cX6_find 95 = .ok (.invokevirtual 66, 3) := by decide +kernel
theorem dX6_find_98 : decode cX6_find 98 = .ok (.aload_n 0, 1) := by decide +kernel
theorem dX6_find_99 : decode cX6_find 99 = .ok (.getfield 10, 3) := by decide +kernel
theorem dX6_find_102 : decode cX6_find 102 = .ok (.ldc2_w 64, 3) := by decide +kernel
theorem dX6_find_105 : decode cX6_find 105 = .ok (.lconst 0, 1) := by decide +kernel
theorem dX6_find_106 : decode cX6_find 106 = .ok (.invokevirtual 66, 3) := by decide +kernel
theorem dX6_find_109 : decode cX6_find 109 = .ok (.iinc 3 1, 3) := by decide +kernel
theorem dX6_find_112 : decode cX6_find 112 = .ok (.goto (-92), 3) := by decide +kernel
theorem dX6_find_115 : decode cX6_find 115 = .ok (.return_, 1) := by decide +kernel
theorem dX3_findFigures_0 : decode cX3_findFigures 0 = .ok (.aload_n 0, 1) := by decide +kernel
theorem dX3_findFigures_1 : decode cX3_findFigures 1 = .ok (.getfield 21, 3) := by decide +kernel
theorem dX3_findFigures_4 : decode cX3_findFigures 4 = .ok (.invokevirtual 70, 3) := by decide +kernel
theorem dX3_findFigures_7 : decode cX3_findFigures 7 = .ok (.aload_n 1, 1) := by decide +kernel
theorem dX3_findFigures_8 : decode cX3_findFigures 8 = .ok (.getfield 36, 3) := by decide +kernel
theorem dX3_findFigures_11 : decode cX3_findFigures 11 = .ok (.ifCond .ne 4, 3) := by decide +kernel
theorem dX3_findFigures_14 : decode cX3_findFigures 14 = .ok (.return_, 1) := by decide +kernel
theorem dX3_findFigures_15 : decode cX3_findFigures 15 = .ok (.iload_n 2, 1) := by decide +kernel
theorem dX3_findFigures_16 : decode cX3_findFigures 16 = .ok (.ifCond .eq 8, 3) := by decide +kernel
theorem dX3_findFigures_19 : decode cX3_findFigures 19 = .ok (.iload_n 2, 1) := by decide +kernel
theorem dX3_findFigures_20 : decode cX3_findFigures 20 = .ok (.iconst 1, 1) := by decide +kernel
theorem dX3_findFigures_21 : decode cX3_findFigures 21 = .ok (.if_icmp .ne 16, 3) := by decide +kernel
theorem dX3_findFigures_24 : decode cX3_findFigures 24 = .ok (.aload_n 0, 1) := by decide +kernel
theorem dX3_findFigures_25 : decode cX3_findFigures 25 = .ok (.getfield 25, 3) := by decide +kernel
theorem dX3_findFigures_28 : decode cX3_findFigures 28 = .ok (.aload_n 1, 1) := by decide +kernel
theorem dX3_findFigures_29 : decode cX3_findFigures 29 = .ok (.aload_n 0, 1) := by decide +kernel
theorem dX3_findFigures_30 : decode cX3_findFigures 30 = .ok (.getfield 21, 3) := by decide +kernel
theorem dX3_findFigures_33 : decode cX3_findFigures 33 = .ok (.invokevirtual 71, 3) := by decide +kernel
theorem dX3_findFigures_36 : decode cX3_findFigures 36 = .ok (.return_, 1) := by decide +kernel
theorem dX3_findFigures_37 : decode cX3_findFigures 37 = .ok (.aload_n 0, 1) := by decide +kernel
theorem dX3_findFigures_38 : decode cX3_findFigures 38 = .ok (.getfield 21, 3) := by decide +kernel
theorem dX3_findFigures_41 : decode cX3_findFigures 41 = .ok (.aload_n 1, 1) := by decide +kernel
theorem dX3_findFigures_42 : decode cX3_findFigures 42 = .ok (.aload_n 0, 1) := by decide +kernel
theorem dX3_findFigures_43 : decode cX3_findFigures 43 = .ok (.getfield 29, 3) := by decide +kernel
theorem dX3_findFigures_46 : decode cX3_findFigures 46 = .ok (.invokevirtual 77, 3) := by decide +kernel
theorem dX3_findFigures_49 : decode cX3_findFigures 49 = .ok (.iload_n 2, 1) := by decide +kernel
theorem dX3_findFigures_50 : decode cX3_findFigures 50 = .ok (.iconst 2, 1) := by decide +kernel
theorem dX3_findFigures_51 : decode cX3_findFigures 51 = .ok (.if_icmp .ne 30, 3) := by decide +kernel
theorem dX3_findFigures_54 : decode cX3_findFigures 54 = .ok (.aload_n 0, 1) := by decide +kernel
theorem dX3_findFigures_55 : decode cX3_findFigures 55 = .ok (.getfield 21, 3) := by decide +kernel
theorem dX3_findFigures_58 : decode cX3_findFigures 58 = .ok (.aload_n 0, 1) := by decide +kernel
theorem dX3_findFigures_59 : decode cX3_findFigures 59 = .ok (.getfield 21, 3) := by decide +kernel
theorem dX3_findFigures_62 : decode cX3_findFigures 62 = .ok (.getfield 81, 3) := by decide +kernel
theorem dX3_findFigures_65 : decode cX3_findFigures 65 = .ok (.iconst 1, 1) := by decide +kernel
theorem dX3_findFigures_66 : decode cX3_findFigures 66 = .ok (.iadd, 1) := by decide +kernel
theorem dX3_findFigures_67 : decode cX3_findFigures 67 = .ok (.iload_n 3, 1) := by decide +kernel
theorem dX3_findFigures_68 : decode cX3_findFigures 68 = .ok (.iadd, 1) := by decide +kernel
theorem dX3_findFigures_69 : decode cX3_findFigures 69 = .ok (.aload_n 1, 1) := by decide +kernel
theorem dX3_findFigures_70 : decode cX3_findFigures 70 = .ok (.getfield 48, 3) := by decide +kernel
theorem dX3_findFigures_73 : decode cX3_findFigures 73 = .ok (.iload 4, 2) := by decide +kernel
theorem dX3_findFigures_75 : decode cX3_findFigures 75 = .ok (.invokevirtual 84, 3) := by decide +kernel
theorem dX3_findFigures_78 : decode cX3_findFigures 78 = .ok (.goto 22, 3) := by decide +kernel
theorem dX3_findFigures_81 : decode cX3_findFigures 81 = .ok (.iload_n 2, 1) := by decide +kernel
theorem dX3_findFigures_82 : decode cX3_findFigures 82 = .ok (.iconst 3, 1) := by decide +kernel
theorem dX3_findFigures_83 : decode cX3_findFigures 83 = .ok (.if_icmp .ne 17, 3) := by decide +kernel
theorem dX3_findFigures_86 : decode cX3_findFigures 86 = .ok (.aload_n 0, 1) := by decide +kernel
theorem dX3_findFigures_87 : decode cX3_findFigures 87 = .ok (.getfield 21, 3) := by decide +kernel
theorem dX3_findFigures_90 : decode cX3_findFigures 90 = .ok (.iload_n 3, 1) := by decide +kernel
theorem dX3_findFigures_91 : decode cX3_findFigures 91 = .ok (.aload_n 1, 1) := by decide +kernel
theorem dX3_findFigures_92 : decode cX3_findFigures 92 = .ok (.getfield 48, 3) := by decide +kernel
theorem dX3_findFigures_95 : decode cX3_findFigures 95 = .ok (.iload 4, 2) := by decide +kernel
theorem dX3_findFigures_97 : decode cX3_findFigures 97 = .ok (.invokevirtual 84, 3) := by decide +kernel
theorem dX3_findFigures_100 : decode cX3_findFigures 100 = .ok (.return_, 1) := by decide +kernel
theorem dX5_put_0 : decode cX5_put 0 = .ok (.aload_n 0, 1) := by decide +kernel
theorem dX5_put_1 : decode cX5_put 1 = .ok (.getfield 13, 3) := by decide +kernel
theorem dX5_put_4 : decode cX5_put 4 = .ok (.sipush 1077, 3) := by decide +kernel
theorem dX5_put_7 : decode cX5_put 7 = .ok (.if_icmp .ge 23, 3) := by decide +kernel
theorem dX5_put_10 : decode cX5_put 10 = .ok (.aload_n 0, 1) := by decide +kernel
theorem dX5_put_11 : decode cX5_put 11 = .ok (.getfield 9, 3) := by decide +kernel
theorem dX5_put_14 : decode cX5_put 14 = .ok (.aload_n 0, 1) := by decide +kernel
theorem dX5_put_15 : decode cX5_put 15 = .ok (.getfield 13, 3) := by decide +kernel
theorem dX5_put_18 : decode cX5_put 18 = .ok (.iload_n 1, 1) := by decide +kernel
theorem dX5_put_19 : decode cX5_put 19 = .ok (.iastore, 1) := by decide +kernel
theorem dX5_put_20 : decode cX5_put 20 = .ok (.aload_n 0, 1) := by decide +kernel
theorem dX5_put_21 : decode cX5_put 21 = .ok (.dup, 1) := by decide +kernel
theorem dX5_put_22 : decode cX5_put 22 = .ok (.getfield 13, 3) := by decide +kernel
theorem dX5_put_25 : decode cX5_put 25 = .ok (.iconst 1, 1) := by decide +kernel
theorem dX5_put_26 : decode cX5_put 26 = .ok (.iadd, 1) := by decide +kernel
theorem dX5_put_27 : decode cX5_put 27 = .ok (.putfield 13, 3) := by decide +kernel
theorem dX5_put_30 : decode cX5_put 30 = .ok (.return_, 1) := by decide +kernel
theorem dX3_printInPlace_0 : decode cX3_printInPlace 0 = .ok (.aload_n 0, 1) := by decide +kernel
theorem dX3_printInPlace_1 : decode cX3_printInPlace 1 = .ok (.getfield 21, 3) := by decide +kernel
theorem dX3_printInPlace_4 : decode cX3_printInPlace 4 = .ok (.getfield 81, 3) := by decide +kernel
theorem dX3_printInPlace_7 : decode cX3_printInPlace 7 = .ok (.iconst 0, 1) := by decide +kernel
theorem dX3_printInPlace_8 : decode cX3_printInPlace 8 = .ok (.invokestatic 91, 3) := by decide +kernel
theorem dX3_printInPlace_11 : decode cX3_printInPlace 11 = .ok (.istore_n 2, 1) := by decide +kernel
theorem dX3_printInPlace_12 : decode cX3_printInPlace 12 = .ok (.iload_n 2, 1) := by decide +kernel
theorem dX3_printInPlace_13 : decode cX3_printInPlace 13 = .ok (.iload_n 1, 1) := by decide +kernel
theorem dX3_printInPlace_14 : decode cX3_printInPlace 14 = .ok (.ineg, 1) := by decide +kernel
theorem dX3_printInPlace_15 : decode cX3_printInPlace 15 = .ok (.if_icmp .lt 49, 3) := by decide +kernel
theorem dX3_printInPlace_18 : decode cX3_printInPlace 18 = .ok (.iload_n 2, 1) := by decide +kernel
theorem dX3_printInPlace_19 : decode cX3_printInPlace 19 = .ok (.iconst (-1), 1) := by decide +kernel
theorem dX3_printInPlace_20 : decode cX3_printInPlace 20 = .ok (.if_icmp .ne 12, 3) := by decide +kernel
theorem dX3_printInPlace_23 : decode cX3_printInPlace 23 = .ok (.aload_n 0, 1) := by decide +kernel
theorem dX3_printInPlace_24 : decode cX3_printInPlace 24 = .ok (.getfield 12, 3) := by decide +kernel
theorem dX3_printInPlace_27 : decode cX3_printInPlace 27 = .ok (.bipush 46, 2) := by decide +kernel
theorem dX3_printInPlace_29 : decode cX3_printInPlace 29 = .ok (.invokevirtual 52, 3) := by decide +kernel
theorem dX3_printInPlace_32 : decode cX3_printInPlace 32 = .ok (.aload_n 0, 1) := by decide +kernel
theorem dX3_printInPlace_33 : decode cX3_printInPlace 33 = .ok (.getfield 12, 3) := by decide +kernel
theorem dX3_printInPlace_36 : decode cX3_printInPlace 36 = .ok (.bipush 48, 2) := by decide +kernel
theorem dX3_printInPlace_38 : decode cX3_printInPlace 38 = .ok (.aload_n 0, 1) := by decide +kernel
theorem dX3_printInPlace_39 : decode cX3_printInPlace 39 = .ok (.getfield 21, 3) := by decide +kernel
theorem dX3_printInPlace_42 : decode cX3_printInPlace 42 = .ok (.aload_n 0, 1) := by decide +kernel
theorem dX3_printInPlace_43 : decode cX3_printInPlace 43 = .ok (.getfield 21, 3) := by decide +kernel
theorem dX3_printInPlace_46 : decode cX3_printInPlace 46 = .ok (.getfield 81, 3) := by decide +kernel
theorem dX3_printInPlace_49 : decode cX3_printInPlace 49 = .ok (.iload_n 2, 1) := by decide +kernel
theorem dX3_printInPlace_50 : decode cX3_printInPlace 50 = .ok (.isub, 1) := by decide +kernel
theorem dX3_printInPlace_51 : decode cX3_printInPlace 51 = .ok (.invokevirtual 103, 3) := by decide +kernel
theorem dX3_printInPlace_54 : decode cX3_printInPlace 54 = .ok (.iadd, 1) := by decide +kernel
theorem dX3_printInPlace_55 : decode cX3_printInPlace 55 = .ok (.invokevirtual 52, 3) := by decide +kernel
theorem dX3_printInPlace_58 : decode cX3_printInPlace 58 = .ok (.iinc 2 (-1), 3) := by decide +kernel
theorem dX3_printInPlace_61 : decode cX3_printInPlace 61 = .ok (.goto (-49), 3) := by decide +kernel
theorem dX3_printInPlace_64 : decode cX3_printInPlace 64 = .ok (.return_, 1) := by decide +kernel
theorem dJ9_abs_0f7a4_0 : decode cJ9_abs_0f7a4 0 = .ok (.iload_n 0, 1) := by decide +kernel
theorem dJ9_abs_0f7a4_1 : decode cJ9_abs_0f7a4 1 = .ok (.ifCond .ge 8, 3) := by decide +kernel
theorem dJ9_abs_0f7a4_4 : decode cJ9_abs_0f7a4 4 = .ok (.iload_n 0, 1) := by decide +kernel
theorem dJ9_abs_0f7a4_5 : decode cJ9_abs_0f7a4 5 = .ok (.ineg, 1) := by decide +kernel
theorem dJ9_abs_0f7a4_6 : decode cJ9_abs_0f7a4 6 = .ok (.goto 4, 3) := by decide +kernel
theorem dJ9_abs_0f7a4_9 : decode cJ9_abs_0f7a4 9 = .ok (.iload_n 0, 1) := by decide +kernel
theorem dJ9_abs_0f7a4_10 : decode cJ9_abs_0f7a4 10 = .ok (.ireturn, 1) := by decide +kernel
theorem dX5_putNumber_0 : decode cX5_putNumber 0 = .ok (.iload_n 1, 1) := by decide +kernel
theorem dX5_putNumber_1 : decode cX5_putNumber 1 = .ok (.ifCond .ge 9, 3) := by decide +kernel
theorem dX5_putNumber_4 : decode cX5_putNumber 4 = .ok (.aload_n 0, 1) := by decide +kernel
theorem dX5_putNumber_5 : decode cX5_putNumber 5 = .ok (.bipush 45, 2) := by decide +kernel
theorem dX5_putNumber_7 : decode cX5_putNumber 7 = .ok (.invokevirtual 26, 3) := by decide +kernel
theorem dX5_putNumber_10 : decode cX5_putNumber 10 = .ok (.iload_n 1, 1) := by decide +kernel
theorem dX5_putNumber_11 : decode cX5_putNumber 11 = .ok (.invokestatic 30, 3) := by decide +kernel
theorem dX5_putNumber_14 : decode cX5_putNumber 14 = .ok (.istore_n 2, 1) := by decide +kernel
theorem dX5_putNumber_15 : decode cX5_putNumber 15 = .ok (.iload_n 2, 1) := by decide +kernel
theorem dX5_putNumber_16 : decode cX5_putNumber 16 = .ok (.sipush 1000, 3) := by decide +kernel
theorem dX5_putNumber_19 : decode cX5_putNumber 19 = .ok (.if_icmp .lt 18, 3) := by decide +kernel
theorem dX5_putNumber_22 : decode cX5_putNumber 22 = .ok (.aload_n 0, 1) := by decide +kernel
theorem dX5_putNumber_23 : decode cX5_putNumber 23 = .ok (.bipush 48, 2) := by decide +kernel
theorem dX5_putNumber_25 : decode cX5_putNumber 25 = .ok (.iload_n 2, 1) := by decide +kernel
theorem dX5_putNumber_26 : decode cX5_putNumber 26 = .ok (.sipush 1000, 3) := by decide +kernel
theorem dX5_putNumber_29 : decode cX5_putNumber 29 = .ok (.idiv, 1) := by decide +kernel
theorem dX5_putNumber_30 : decode cX5_putNumber 30 = .ok (.bipush 10, 2) := by decide +kernel
theorem dX5_putNumber_32 : decode cX5_putNumber 32 = .ok (.irem, 1) := by decide +kernel
theorem dX5_putNumber_33 : decode cX5_putNumber 33 = .ok (.iadd, 1) := by decide +kernel
theorem dX5_putNumber_34 : decode cX5_putNumber 34 = .ok (.invokevirtual 26, 3) := by decide +kernel
theorem dX5_putNumber_37 : decode cX5_putNumber 37 = .ok (.iload_n 2, 1) := by decide +kernel
theorem dX5_putNumber_38 : decode cX5_putNumber 38 = .ok (.bipush 100, 2) := by decide +kernel
theorem dX5_putNumber_40 : decode cX5_putNumber 40 = .ok (.if_icmp .lt 17, 3) := by decide +kernel
theorem dX5_putNumber_43 : decode cX5_putNumber 43 = .ok (.aload_n 0, 1) := by decide +kernel
theorem dX5_putNumber_44 : decode cX5_putNumber 44 = .ok (.bipush 48, 2) := by decide +kernel
theorem dX5_putNumber_46 : decode cX5_putNumber 46 = .ok (.iload_n 2, 1) := by decide +kernel
theorem dX5_putNumber_47 : decode cX5_putNumber 47 = .ok (.bipush 100, 2) := by decide +kernel
theorem dX5_putNumber_49 : decode cX5_putNumber 49 = .ok (.idiv, 1) := by decide +kernel
theorem dX5_putNumber_50 : decode cX5_putNumber 50 = .ok (.bipush 10, 2) := by decide +kernel
theorem dX5_putNumber_52 : decode cX5_putNumber 52 = .ok (.irem, 1) := by decide +kernel
theorem dX5_putNumber_53 : decode cX5_putNumber 53 = .ok (.iadd, 1) := by decide +kernel
theorem dX5_putNumber_54 : decode cX5_putNumber 54 = .ok (.invokevirtual 26, 3) := by decide +kernel
theorem dX5_putNumber_57 : decode cX5_putNumber 57 = .ok (.iload_n 2, 1) := by decide +kernel
theorem dX5_putNumber_58 : decode cX5_putNumber 58 = .ok (.bipush 10, 2) := by decide +kernel
theorem dX5_putNumber_60 : decode cX5_putNumber 60 = .ok (.if_icmp .lt 17, 3) := by decide +kernel
theorem dX5_putNumber_63 : decode cX5_putNumber 63 = .ok (.aload_n 0, 1) := by decide +kernel
theorem dX5_putNumber_64 : decode cX5_putNumber 64 = .ok (.bipush 48, 2) := by decide +kernel
theorem dX5_putNumber_66 : decode cX5_putNumber 66 = .ok (.iload_n 2, 1) := by decide +kernel
theorem dX5_putNumber_67 : decode cX5_putNumber 67 = .ok (.bipush 10, 2) := by decide +kernel
theorem dX5_putNumber_69 : decode cX5_putNumber 69 = .ok (.idiv, 1) := by decide +kernel
theorem dX5_putNumber_70 : decode cX5_putNumber 70 = .ok (.bipush 10, 2) := by decide +kernel
theorem dX5_putNumber_72 : decode cX5_putNumber 72 = .ok (.irem, 1) := by decide +kernel
theorem dX5_putNumber_73 : decode cX5_putNumber 73 = .ok (.iadd, 1) := by decide +kernel
theorem dX5_putNumber_74 : decode cX5_putNumber 74 = .ok (.invokevirtual 26, 3) := by decide +kernel
theorem dX5_putNumber_77 : decode cX5_putNumber 77 = .ok (.aload_n 0, 1) := by decide +kernel
theorem dX5_putNumber_78 : decode cX5_putNumber 78 = .ok (.bipush 48, 2) := by decide +kernel
theorem dX5_putNumber_80 : decode cX5_putNumber 80 = .ok (.iload_n 2, 1) := by decide +kernel
theorem dX5_putNumber_81 : decode cX5_putNumber 81 = .ok (.bipush 10, 2) := by decide +kernel
theorem dX5_putNumber_83 : decode cX5_putNumber 83 = .ok (.irem, 1) := by decide +kernel
theorem dX5_putNumber_84 : decode cX5_putNumber 84 = .ok (.iadd, 1) := by decide +kernel
theorem dX5_putNumber_85 : decode cX5_putNumber 85 = .ok (.invokevirtual 26, 3) := by decide +kernel
theorem dX5_putNumber_88 : decode cX5_putNumber 88 = .ok (.return_, 1) := by decide +kernel
theorem dX3_printPowered_0 : decode cX3_printPowered 0 = .ok (.aload_n 0, 1) := by decide +kernel
theorem dX3_printPowered_1 : decode cX3_printPowered 1 = .ok (.getfield 12, 3) := by decide +kernel
theorem dX3_printPowered_4 : decode cX3_printPowered 4 = .ok (.bipush 48, 2) := by decide +kernel
theorem dX3_printPowered_6 : decode cX3_printPowered 6 = .ok (.aload_n 0, 1) := by decide +kernel
theorem dX3_printPowered_7 : decode cX3_printPowered 7 = .ok (.getfield 21, 3) := by decide +kernel
theorem dX3_printPowered_10 : decode cX3_printPowered 10 = .ok (.iconst 0, 1) := by decide +kernel
theorem dX3_printPowered_11 : decode cX3_printPowered 11 = .ok (.invokevirtual 103, 3) := by decide +kernel
theorem dX3_printPowered_14 : decode cX3_printPowered 14 = .ok (.iadd, 1) := by decide +kernel
theorem dX3_printPowered_15 : decode cX3_printPowered 15 = .ok (.invokevirtual 52, 3) := by decide +kernel
theorem dX3_printPowered_18 : decode cX3_printPowered 18 = .ok (.iload_n 1, 1) := by decide +kernel
theorem dX3_printPowered_19 : decode cX3_printPowered 19 = .ok (.iconst 1, 1) := by decide +kernel
theorem dX3_printPowered_20 : decode cX3_printPowered 20 = .ok (.if_icmp .le 12, 3) := by decide +kernel
theorem dX3_printPowered_23 : decode cX3_printPowered 23 = .ok (.aload_n 0, 1) := by decide +kernel
theorem dX3_printPowered_24 : decode cX3_printPowered 24 = .ok (.getfield 12, 3) := by decide +kernel
theorem dX3_printPowered_27 : decode cX3_printPowered 27 = .ok (.bipush 46, 2) := by decide +kernel
theorem dX3_printPowered_29 : decode cX3_printPowered 29 = .ok (.invokevirtual 52, 3) := by decide +kernel
theorem dX3_printPowered_32 : decode cX3_printPowered 32 = .ok (.iconst 1, 1) := by decide +kernel
theorem dX3_printPowered_33 : decode cX3_printPowered 33 = .ok (.istore_n 2, 1) := by decide +kernel
theorem dX3_printPowered_34 : decode cX3_printPowered 34 = .ok (.iload_n 2, 1) := by decide +kernel
theorem dX3_printPowered_35 : decode cX3_printPowered 35 = .ok (.iload_n 1, 1) := by decide +kernel
theorem dX3_printPowered_36 : decode cX3_printPowered 36 = .ok (.if_icmp .ge 27, 3) := by decide +kernel
theorem dX3_printPowered_39 : decode cX3_printPowered 39 = .ok (.aload_n 0, 1) := by decide +kernel
theorem dX3_printPowered_40 : decode cX3_printPowered 40 = .ok (.getfield 12, 3) := by decide +kernel
theorem dX3_printPowered_43 : decode cX3_printPowered 43 = .ok (.bipush 48, 2) := by decide +kernel
theorem dX3_printPowered_45 : decode cX3_printPowered 45 = .ok (.aload_n 0, 1) := by decide +kernel
theorem dX3_printPowered_46 : decode cX3_printPowered 46 = .ok (.getfield 21, 3) := by decide +kernel
theorem dX3_printPowered_49 : decode cX3_printPowered 49 = .ok (.iload_n 2, 1) := by decide +kernel
theorem dX3_printPowered_50 : decode cX3_printPowered 50 = .ok (.invokevirtual 103, 3) := by decide +kernel
theorem dX3_printPowered_53 : decode cX3_printPowered 53 = .ok (.iadd, 1) := by decide +kernel
theorem dX3_printPowered_54 : decode cX3_printPowered 54 = .ok (.invokevirtual 52, 3) := by decide +kernel
theorem dX3_printPowered_57 : decode cX3_printPowered 57 = .ok (.iinc 2 1, 3) := by decide +kernel
theorem dX3_printPowered_60 : decode cX3_printPowered 60 = .ok (.goto (-26), 3) := by decide +kernel
theorem dX3_printPowered_63 : decode cX3_printPowered 63 = .ok (.aload_n 0, 1) := by decide +kernel
theorem dX3_printPowered_64 : decode cX3_printPowered 64 = .ok (.getfield 12, 3) := by decide +kernel
theorem dX3_printPowered_67 : decode cX3_printPowered 67 = .ok (.bipush 101, 2) := by decide +kernel
theorem dX3_printPowered_69 : decode cX3_printPowered 69 = .ok (.invokevirtual 52, 3) := by decide +kernel
theorem dX3_printPowered_72 : decode cX3_printPowered 72 = .ok (.aload_n 0, 1) := by decide +kernel
theorem dX3_printPowered_73 : decode cX3_printPowered 73 = .ok (.getfield 12, 3) := by decide +kernel
theorem dX3_printPowered_76 : decode cX3_printPowered 76 = .ok (.aload_n 0, 1) := by decide +kernel
theorem dX3_printPowered_77 : decode cX3_printPowered 77 = .ok (.getfield 21, 3) := by decide +kernel
theorem dX3_printPowered_80 : decode cX3_printPowered 80 = .ok (.getfield 81, 3) := by decide +kernel
theorem dX3_printPowered_83 : decode cX3_printPowered 83 = .ok (.invokevirtual 107, 3) := by decide +kernel
theorem dX3_printPowered_86 : decode cX3_printPowered 86 = .ok (.return_, 1) := by decide +kernel
theorem dX3_printFigures_0 : decode cX3_printFigures 0 = .ok (.iload_n 1, 1) := by decide +kernel
theorem dX3_printFigures_1 : decode cX3_printFigures 1 = .ok (.tableswitch 61 1 3 #[27, 45, 53], 27) := by decide +kernel
theorem dX3_printFigures_28 : decode cX3_printFigures 28 = .ok (.aload_n 0, 1) := by decide +kernel
theorem dX3_printFigures_29 : decode cX3_printFigures 29 = .ok (.aload_n 0, 1) := by decide +kernel
theorem dX3_printFigures_30 : decode cX3_printFigures 30 = .ok (.getfield 21, 3) := by decide +kernel
theorem dX3_printFigures_33 : decode cX3_printFigures 33 = .ok (.getfield 88, 3) := by decide +kernel
theorem dX3_printFigures_36 : decode cX3_printFigures 36 = .ok (.iconst 1, 1) := by decide +kernel
theorem dX3_printFigures_37 : decode cX3_printFigures 37 = .ok (.invokestatic 91, 3) := by decide +kernel
theorem dX3_printFigures_40 : decode cX3_printFigures 40 = .ok (.invokevirtual 97, 3) := by decide +kernel
theorem dX3_printFigures_43 : decode cX3_printFigures 43 = .ok (.goto 44, 3) := by decide +kernel
theorem dX3_printFigures_46 : decode cX3_printFigures 46 = .ok (.aload_n 0, 1) := by decide +kernel
theorem dX3_printFigures_47 : decode cX3_printFigures 47 = .ok (.iload_n 2, 1) := by decide +kernel
theorem dX3_printFigures_48 : decode cX3_printFigures 48 = .ok (.invokevirtual 100, 3) := by decide +kernel
theorem dX3_printFigures_51 : decode cX3_printFigures 51 = .ok (.goto 36, 3) := by decide +kernel
theorem dX3_printFigures_54 : decode cX3_printFigures 54 = .ok (.aload_n 0, 1) := by decide +kernel
theorem dX3_printFigures_55 : decode cX3_printFigures 55 = .ok (.iload_n 2, 1) := by decide +kernel
theorem dX3_printFigures_56 : decode cX3_printFigures 56 = .ok (.invokevirtual 97, 3) := by decide +kernel
theorem dX3_printFigures_59 : decode cX3_printFigures 59 = .ok (.goto 28, 3) := by decide +kernel
theorem dX3_printFigures_62 : decode cX3_printFigures 62 = .ok (.aload_n 0, 1) := by decide +kernel
theorem dX3_printFigures_63 : decode cX3_printFigures 63 = .ok (.aload_n 0, 1) := by decide +kernel
theorem dX3_printFigures_64 : decode cX3_printFigures 64 = .ok (.getfield 21, 3) := by decide +kernel
theorem dX3_printFigures_67 : decode cX3_printFigures 67 = .ok (.getfield 88, 3) := by decide +kernel
theorem dX3_printFigures_70 : decode cX3_printFigures 70 = .ok (.iconst 1, 1) := by decide +kernel
theorem dX3_printFigures_71 : decode cX3_printFigures 71 = .ok (.isub, 1) := by decide +kernel
theorem dX3_printFigures_72 : decode cX3_printFigures 72 = .ok (.aload_n 0, 1) := by decide +kernel
theorem dX3_printFigures_73 : decode cX3_printFigures 73 = .ok (.getfield 21, 3) := by decide +kernel
theorem dX3_printFigures_76 : decode cX3_printFigures 76 = .ok (.getfield 81, 3) := by decide +kernel
theorem dX3_printFigures_79 : decode cX3_printFigures 79 = .ok (.isub, 1) := by decide +kernel
theorem dX3_printFigures_80 : decode cX3_printFigures 80 = .ok (.iconst 0, 1) := by decide +kernel
theorem dX3_printFigures_81 : decode cX3_printFigures 81 = .ok (.invokestatic 91, 3) := by decide +kernel
theorem dX3_printFigures_84 : decode cX3_printFigures 84 = .ok (.invokevirtual 100, 3) := by decide +kernel
theorem dX3_printFigures_87 : decode cX3_printFigures 87 = .ok (.return_, 1) := by decide +kernel
theorem dX5_putText_0 : decode cX5_putText 0 = .ok (.iconst 0, 1) := by decide +kernel
theorem dX5_putText_1 : decode cX5_putText 1 = .ok (.istore_n 2, 1) := by decide +kernel
theorem dX5_putText_2 : decode cX5_putText 2 = .ok (.iload_n 2, 1) := by decide +kernel
theorem dX5_putText_3 : decode cX5_putText 3 = .ok (.aload_n 1, 1) := by decide +kernel
theorem dX5_putText_4 : decode cX5_putText 4 = .ok (.invokevirtual 17, 3) := by decide +kernel
theorem dX5_putText_7 : decode cX5_putText 7 = .ok (.if_icmp .ge 18, 3) := by decide +kernel
theorem dX5_putText_10 : decode cX5_putText 10 = .ok (.aload_n 0, 1) := by decide +kernel
theorem dX5_putText_11 : decode cX5_putText 11 = .ok (.aload_n 1, 1) := by decide +kernel
theorem dX5_putText_12 : decode cX5_putText 12 = .ok (.iload_n 2, 1) := by decide +kernel
theorem dX5_putText_13 : decode cX5_putText 13 = .ok (.invokevirtual 22, 3) := by decide +kernel
theorem dX5_putText_16 : decode cX5_putText 16 = .ok (.invokevirtual 26, 3) := by decide +kernel
theorem dX5_putText_19 : decode cX5_putText 19 = .ok (.iinc 2 1, 3) := by decide +kernel
theorem dX5_putText_22 : decode cX5_putText 22 = .ok (.goto (-20), 3) := by decide +kernel
theorem dX5_putText_25 : decode cX5_putText 25 = .ok (.return_, 1) := by decide +kernel
theorem dX3_printSixteens_0 : decode cX3_printSixteens 0 = .ok (.aload_n 1, 1) := by decide +kernel
theorem dX3_printSixteens_1 : decode cX3_printSixteens 1 = .ok (.getfield 36, 3) := by decide +kernel
theorem dX3_printSixteens_4 : decode cX3_printSixteens 4 = .ok (.ifCond .ne 13, 3) := by decide +kernel
theorem dX3_printSixteens_7 : decode cX3_printSixteens 7 = .ok (.aload_n 0, 1) := by decide +kernel
theorem dX3_printSixteens_8 : decode cX3_printSixteens 8 = .ok (.getfield 12, 3) := by decide +kernel
theorem dX3_printSixteens_11 : decode cX3_printSixteens 11 = .ok (.ldc 110, 2) := by decide +kernel
theorem dX3_printSixteens_13 : decode cX3_printSixteens 13 = .ok (.invokevirtual 44, 3) := by decide +kernel
theorem dX3_printSixteens_16 : decode cX3_printSixteens 16 = .ok (.return_, 1) := by decide +kernel
theorem dX3_printSixteens_17 : decode cX3_printSixteens 17 = .ok (.aload_n 0, 1) := by decide +kernel
theorem dX3_printSixteens_18 : decode cX3_printSixteens 18 = .ok (.getfield 12, 3) := by decide +kernel
theorem dX3_printSixteens_21 : decode cX3_printSixteens 21 = .ok (.ldc 112, 2) := by decide +kernel
theorem dX3_printSixteens_23 : decode cX3_printSixteens 23 = .ok (.invokevirtual 44, 3) := by decide +kernel
theorem dX3_printSixteens_26 : decode cX3_printSixteens 26 = .ok (.aload_n 1, 1) := by decide +kernel
theorem dX3_printSixteens_27 : decode cX3_printSixteens 27 = .ok (.getfield 114, 3) := by decide +kernel
theorem dX3_printSixteens_30 : decode cX3_printSixteens 30 = .ok (.bipush 64, 2) := by decide +kernel
theorem dX3_printSixteens_32 : decode cX3_printSixteens 32 = .ok (.aload_n 1, 1) := by decide +kernel
theorem dX3_printSixteens_33 : decode cX3_printSixteens 33 = .ok (.invokevirtual 118, 3) := by decide +kernel
theorem dX3_printSixteens_36 : decode cX3_printSixteens 36 = .ok (.isub, 1) := by decide +kernel
theorem dX3_printSixteens_37 : decode cX3_printSixteens 37 = .ok (.lshl, 1) := by decide +kernel
theorem dX3_printSixteens_38 : decode cX3_printSixteens 38 = .ok (.iconst 1, 1) := by decide +kernel
theorem dX3_printSixteens_39 : decode cX3_printSixteens 39 = .ok (.lshl, 1) := by decide +kernel
theorem dX3_printSixteens_40 : decode cX3_printSixteens 40 = .ok (.lstore_n 2, 1) := by decide +kernel
theorem dX3_printSixteens_41 : decode cX3_printSixteens 41 = .ok (.lload_n 2, 1) := by decide +kernel
theorem dX3_printSixteens_42 : decode cX3_printSixteens 42 = .ok (.lconst 0, 1) := by decide +kernel
theorem dX3_printSixteens_43 : decode cX3_printSixteens 43 = .ok (.lcmp, 1) := by decide +kernel
theorem dX3_printSixteens_44 : decode cX3_printSixteens 44 = .ok (.ifCond .eq 12, 3) := by decide +kernel
theorem dX3_printSixteens_47 : decode cX3_printSixteens 47 = .ok (.aload_n 0, 1) := by decide +kernel
theorem dX3_printSixteens_48 : decode cX3_printSixteens 48 = .ok (.getfield 12, 3) := by decide +kernel
theorem dX3_printSixteens_51 : decode cX3_printSixteens 51 = .ok (.bipush 46, 2) := by decide +kernel
theorem dX3_printSixteens_53 : decode cX3_printSixteens 53 = .ok (.invokevirtual 52, 3) := by decide +kernel
theorem dX3_printSixteens_56 : decode cX3_printSixteens 56 = .ok (.iconst 0, 1) := by decide +kernel
theorem dX3_printSixteens_57 : decode cX3_printSixteens 57 = .ok (.istore 4, 2) := by decide +kernel
theorem dX3_printSixteens_59 : decode cX3_printSixteens 59 = .ok (.iload 4, 2) := by decide +kernel
theorem dX3_printSixteens_61 : decode cX3_printSixteens 61 = .ok (.bipush 16, 2) := by decide +kernel
theorem dX3_printSixteens_63 : decode cX3_printSixteens 63 = .ok (.if_icmp .ge 56, 3) := by decide +kernel
theorem dX3_printSixteens_66 : decode cX3_printSixteens 66 = .ok (.lload_n 2, 1) := by decide +kernel
theorem dX3_printSixteens_67 : decode cX3_printSixteens 67 = .ok (.lconst 0, 1) := by decide +kernel
theorem dX3_printSixteens_68 : decode cX3_printSixteens 68 = .ok (.lcmp, 1) := by decide +kernel
theorem dX3_printSixteens_69 : decode cX3_printSixteens 69 = .ok (.ifCond .eq 50, 3) := by decide +kernel
theorem dX3_printSixteens_72 : decode cX3_printSixteens 72 = .ok (.lload_n 2, 1) := by decide +kernel
theorem dX3_printSixteens_73 : decode cX3_printSixteens 73 = .ok (.bipush 60, 2) := by decide +kernel
theorem dX3_printSixteens_75 : decode cX3_printSixteens 75 = .ok (.lushr, 1) := by decide +kernel
theorem dX3_printSixteens_76 : decode cX3_printSixteens 76 = .ok (.l2i, 1) := by decide +kernel
theorem dX3_printSixteens_77 : decode cX3_printSixteens 77 = .ok (.istore 5, 2) := by decide +kernel
theorem dX3_printSixteens_79 : decode cX3_printSixteens 79 = .ok (.aload_n 0, 1) := by decide +kernel
theorem dX3_printSixteens_80 : decode cX3_printSixteens 80 = .ok (.getfield 12, 3) := by decide +kernel
theorem dX3_printSixteens_83 : decode cX3_printSixteens 83 = .ok (.iload 5, 2) := by decide +kernel
theorem dX3_printSixteens_85 : decode cX3_printSixteens 85 = .ok (.bipush 10, 2) := by decide +kernel
theorem dX3_printSixteens_87 : decode cX3_printSixteens 87 = .ok (.if_icmp .ge 11, 3) := by decide +kernel
theorem dX3_printSixteens_90 : decode cX3_printSixteens 90 = .ok (.bipush 48, 2) := by decide +kernel
theorem dX3_printSixteens_92 : decode cX3_printSixteens 92 = .ok (.iload 5, 2) := by decide +kernel
theorem dX3_printSixteens_94 : decode cX3_printSixteens 94 = .ok (.iadd, 1) := by decide +kernel
theorem dX3_printSixteens_95 : decode cX3_printSixteens 95 = .ok (.goto 11, 3) := by decide +kernel
theorem dX3_printSixteens_98 : decode cX3_printSixteens 98 = .ok (.bipush 97, 2) := by decide +kernel
theorem dX3_printSixteens_100 : decode cX3_printSixteens 100 = .ok (.iload 5, 2) := by decide +kernel
theorem dX3_printSixteens_102 : decode cX3_printSixteens 102 = .ok (.iadd, 1) := by decide +kernel
theorem dX3_printSixteens_103 : decode cX3_printSixteens 103 = .ok (.bipush 10, 2) := by decide +kernel
theorem dX3_printSixteens_105 : decode cX3_printSixteens 105 = .ok (.isub, 1) := by decide +kernel
theorem dX3_printSixteens_106 : decode cX3_printSixteens 106 = .ok (.invokevirtual 52, 3) := by decide +kernel
theorem dX3_printSixteens_109 : decode cX3_printSixteens 109 = .ok (.lload_n 2, 1) := by decide +kernel
theorem dX3_printSixteens_110 : decode cX3_printSixteens 110 = .ok (.iconst 4, 1) := by decide +kernel
theorem dX3_printSixteens_111 : decode cX3_printSixteens 111 = .ok (.lshl, 1) := by decide +kernel
theorem dX3_printSixteens_112 : decode cX3_printSixteens 112 = .ok (.lstore_n 2, 1) := by decide +kernel
theorem dX3_printSixteens_113 : decode cX3_printSixteens 113 = .ok (.iinc 4 1, 3) := by decide +kernel
theorem dX3_printSixteens_116 : decode cX3_printSixteens 116 = .ok (.goto (-57), 3) := by decide +kernel
theorem dX3_printSixteens_119 : decode cX3_printSixteens 119 = .ok (.aload_n 0, 1) := by decide +kernel
theorem dX3_printSixteens_120 : decode cX3_printSixteens 120 = .ok (.getfield 12, 3) := by decide +kernel
theorem dX3_printSixteens_123 : decode cX3_printSixteens 123 = .ok (.bipush 112, 2) := by decide +kernel
theorem dX3_printSixteens_125 : decode cX3_printSixteens 125 = .ok (.invokevirtual 52, 3) := by decide +kernel
theorem dX3_printSixteens_128 : decode cX3_printSixteens 128 = .ok (.aload_n 0, 1) := by decide +kernel
theorem dX3_printSixteens_129 : decode cX3_printSixteens 129 = .ok (.getfield 12, 3) := by decide +kernel
theorem dX3_printSixteens_132 : decode cX3_printSixteens 132 = .ok (.aload_n 1, 1) := by decide +kernel
theorem dX3_printSixteens_133 : decode cX3_printSixteens 133 = .ok (.getfield 122, 3) := by decide +kernel
theorem dX3_printSixteens_136 : decode cX3_printSixteens 136 = .ok (.aload_n 1, 1) := by decide +kernel
theorem dX3_printSixteens_137 : decode cX3_printSixteens 137 = .ok (.invokevirtual 118, 3) := by decide +kernel
theorem dX3_printSixteens_140 : decode cX3_printSixteens 140 = .ok (.iadd, 1) := by decide +kernel
theorem dX3_printSixteens_141 : decode cX3_printSixteens 141 = .ok (.iconst 1, 1) := by decide +kernel
theorem dX3_printSixteens_142 : decode cX3_printSixteens 142 = .ok (.isub, 1) := by decide +kernel
theorem dX3_printSixteens_143 : decode cX3_printSixteens 143 = .ok (.invokevirtual 107, 3) := by decide +kernel
theorem dX3_printSixteens_146 : decode cX3_printSixteens 146 = .ok (.return_, 1) := by decide +kernel
theorem dX5_clear_0 : decode cX5_clear 0 = .ok (.aload_n 0, 1) := by decide +kernel
theorem dX5_clear_1 : decode cX5_clear 1 = .ok (.iconst 0, 1) := by decide +kernel
theorem dX5_clear_2 : decode cX5_clear 2 = .ok (.putfield 13, 3) := by decide +kernel
theorem dX5_clear_5 : decode cX5_clear 5 = .ok (.return_, 1) := by decide +kernel
theorem dX3_print_0 : decode cX3_print 0 = .ok (.aload_n 0, 1) := by decide +kernel
theorem dX3_print_1 : decode cX3_print 1 = .ok (.getfield 12, 3) := by decide +kernel
theorem dX3_print_4 : decode cX3_print 4 = .ok (.invokevirtual 33, 3) := by decide +kernel
theorem dX3_print_7 : decode cX3_print 7 = .ok (.aload_n 1, 1) := by decide +kernel
theorem dX3_print_8 : decode cX3_print 8 = .ok (.getfield 36, 3) := by decide +kernel
theorem dX3_print_11 : decode cX3_print 11 = .ok (.iconst 4, 1) := by decide +kernel
theorem dX3_print_12 : decode cX3_print 12 = .ok (.if_icmp .ne 13, 3) := by decide +kernel
theorem dX3_print_15 : decode cX3_print 15 = .ok (.aload_n 0, 1) := by decide +kernel
theorem dX3_print_16 : decode cX3_print 16 = .ok (.getfield 12, 3) := by decide +kernel
theorem dX3_print_19 : decode cX3_print 19 = .ok (.ldc 42, 2) := by decide +kernel
theorem dX3_print_21 : decode cX3_print 21 = .ok (.invokevirtual 44, 3) := by decide +kernel
theorem dX3_print_24 : decode cX3_print 24 = .ok (.return_, 1) := by decide +kernel
theorem dX3_print_25 : decode cX3_print 25 = .ok (.aload_n 1, 1) := by decide +kernel
theorem dX3_print_26 : decode cX3_print 26 = .ok (.getfield 48, 3) := by decide +kernel
theorem dX3_print_29 : decode cX3_print 29 = .ok (.ifCond .eq 12, 3) := by decide +kernel
theorem dX3_print_32 : decode cX3_print 32 = .ok (.aload_n 0, 1) := by decide +kernel
theorem dX3_print_33 : decode cX3_print 33 = .ok (.getfield 12, 3) := by decide +kernel
theorem dX3_print_36 : decode cX3_print 36 = .ok (.bipush 45, 2) := by decide +kernel
theorem dX3_print_38 : decode cX3_print 38 = .ok (.invokevirtual 52, 3) := by decide +kernel
theorem dX3_print_41 : decode cX3_print 41 = .ok (.aload_n 1, 1) := by decide +kernel
theorem dX3_print_42 : decode cX3_print 42 = .ok (.getfield 36, 3) := by decide +kernel
theorem dX3_print_45 : decode cX3_print 45 = .ok (.iconst 3, 1) := by decide +kernel
theorem dX3_print_46 : decode cX3_print 46 = .ok (.if_icmp .ne 15, 3) := by decide +kernel
theorem dX3_print_49 : decode cX3_print 49 = .ok (.aload_n 0, 1) := by decide +kernel
theorem dX3_print_50 : decode cX3_print 50 = .ok (.getfield 12, 3) := by decide +kernel
theorem dX3_print_53 : decode cX3_print 53 = .ok (.ldc 56, 2) := by decide +kernel
theorem dX3_print_55 : decode cX3_print 55 = .ok (.invokevirtual 44, 3) := by decide +kernel
theorem dX3_print_58 : decode cX3_print 58 = .ok (.goto 31, 3) := by decide +kernel
theorem dX3_print_61 : decode cX3_print 61 = .ok (.iload_n 2, 1) := by decide +kernel
theorem dX3_print_62 : decode cX3_print 62 = .ok (.iconst 4, 1) := by decide +kernel
theorem dX3_print_63 : decode cX3_print 63 = .ok (.if_icmp .ne 11, 3) := by decide +kernel
theorem dX3_print_66 : decode cX3_print 66 = .ok (.aload_n 0, 1) := by decide +kernel
theorem dX3_print_67 : decode cX3_print 67 = .ok (.aload_n 1, 1) := by decide +kernel
theorem dX3_print_68 : decode cX3_print 68 = .ok (.invokevirtual 58, 3) := by decide +kernel
theorem dX3_print_71 : decode cX3_print 71 = .ok (.goto 18, 3) := by decide +kernel
theorem dX3_print_74 : decode cX3_print 74 = .ok (.aload_n 0, 1) := by decide +kernel
theorem dX3_print_75 : decode cX3_print 75 = .ok (.aload_n 1, 1) := by decide +kernel
theorem dX3_print_76 : decode cX3_print 76 = .ok (.iload_n 2, 1) := by decide +kernel
theorem dX3_print_77 : decode cX3_print 77 = .ok (.iload_n 3, 1) := by decide +kernel
theorem dX3_print_78 : decode cX3_print 78 = .ok (.iload 4, 2) := by decide +kernel
theorem dX3_print_80 : decode cX3_print 80 = .ok (.invokevirtual 62, 3) := by decide +kernel
theorem dX3_print_83 : decode cX3_print 83 = .ok (.aload_n 0, 1) := by decide +kernel
theorem dX3_print_84 : decode cX3_print 84 = .ok (.iload_n 2, 1) := by decide +kernel
theorem dX3_print_85 : decode cX3_print 85 = .ok (.iload_n 3, 1) := by decide +kernel
theorem dX3_print_86 : decode cX3_print 86 = .ok (.invokevirtual 66, 3) := by decide +kernel
theorem dX3_print_89 : decode cX3_print 89 = .ok (.return_, 1) := by decide +kernel
theorem dX5_at_0 : decode cX5_at 0 = .ok (.iload_n 1, 1) := by decide +kernel
theorem dX5_at_1 : decode cX5_at 1 = .ok (.ifCond .lt 27, 3) := by decide +kernel
theorem dX5_at_4 : decode cX5_at 4 = .ok (.iload_n 1, 1) := by decide +kernel
theorem dX5_at_5 : decode cX5_at 5 = .ok (.aload_n 0, 1) := by decide +kernel
theorem dX5_at_6 : decode cX5_at 6 = .ok (.getfield 13, 3) := by decide +kernel
theorem dX5_at_9 : decode cX5_at 9 = .ok (.if_icmp .ge 19, 3) := by decide +kernel
theorem dX5_at_12 : decode cX5_at 12 = .ok (.iload_n 1, 1) := by decide +kernel
theorem dX5_at_13 : decode cX5_at 13 = .ok (.sipush 1077, 3) := by decide +kernel
theorem dX5_at_16 : decode cX5_at 16 = .ok (.if_icmp .ge 12, 3) := by decide +kernel
theorem dX5_at_19 : decode cX5_at 19 = .ok (.aload_n 0, 1) := by decide +kernel
theorem dX5_at_20 : decode cX5_at 20 = .ok (.getfield 9, 3) := by decide +kernel
theorem dX5_at_23 : decode cX5_at 23 = .ok (.iload_n 1, 1) := by decide +kernel
theorem dX5_at_24 : decode cX5_at 24 = .ok (.iaload, 1) := by decide +kernel
theorem dX5_at_25 : decode cX5_at 25 = .ok (.goto 4, 3) := by decide +kernel
theorem dX5_at_28 : decode cX5_at 28 = .ok (.iconst (-1), 1) := by decide +kernel
theorem dX5_at_29 : decode cX5_at 29 = .ok (.ireturn, 1) := by decide +kernel
theorem dX7_hasRoomFor_0 : decode cX7_hasRoomFor 0 = .ok (.iload_n 1, 1) := by decide +kernel
theorem dX7_hasRoomFor_1 : decode cX7_hasRoomFor 1 = .ok (.sipush 1200, 3) := by decide +kernel
theorem dX7_hasRoomFor_4 : decode cX7_hasRoomFor 4 = .ok (.aload_n 0, 1) := by decide +kernel
theorem dX7_hasRoomFor_5 : decode cX7_hasRoomFor 5 = .ok (.getfield 15, 3) := by decide +kernel
theorem dX7_hasRoomFor_8 : decode cX7_hasRoomFor 8 = .ok (.isub, 1) := by decide +kernel
theorem dX7_hasRoomFor_9 : decode cX7_hasRoomFor 9 = .ok (.if_icmp .gt 7, 3) := by decide +kernel
theorem dX7_hasRoomFor_12 : decode cX7_hasRoomFor 12 = .ok (.iconst 1, 1) := by decide +kernel
theorem dX7_hasRoomFor_13 : decode cX7_hasRoomFor 13 = .ok (.goto 4, 3) := by decide +kernel
theorem dX7_hasRoomFor_16 : decode cX7_hasRoomFor 16 = .ok (.iconst 0, 1) := by decide +kernel
theorem dX7_hasRoomFor_17 : decode cX7_hasRoomFor 17 = .ok (.ireturn, 1) := by decide +kernel
theorem dX7_append_0 : decode cX7_append 0 = .ok (.aload_n 0, 1) := by decide +kernel
theorem dX7_append_1 : decode cX7_append 1 = .ok (.getfield 15, 3) := by decide +kernel
theorem dX7_append_4 : decode cX7_append 4 = .ok (.sipush 1200, 3) := by decide +kernel
theorem dX7_append_7 : decode cX7_append 7 = .ok (.if_icmp .ge 23, 3) := by decide +kernel
theorem dX7_append_10 : decode cX7_append 10 = .ok (.aload_n 0, 1) := by decide +kernel
theorem dX7_append_11 : decode cX7_append 11 = .ok (.getfield 11, 3) := by decide +kernel
theorem dX7_append_14 : decode cX7_append 14 = .ok (.aload_n 0, 1) := by decide +kernel
theorem dX7_append_15 : decode cX7_append 15 = .ok (.getfield 15, 3) := by decide +kernel
theorem dX7_append_18 : decode cX7_append 18 = .ok (.iload_n 1, 1) := by decide +kernel
theorem dX7_append_19 : decode cX7_append 19 = .ok (.iastore, 1) := by decide +kernel
theorem dX7_append_20 : decode cX7_append 20 = .ok (.aload_n 0, 1) := by decide +kernel
theorem dX7_append_21 : decode cX7_append 21 = .ok (.dup, 1) := by decide +kernel
theorem dX7_append_22 : decode cX7_append 22 = .ok (.getfield 15, 3) := by decide +kernel
theorem dX7_append_25 : decode cX7_append 25 = .ok (.iconst 1, 1) := by decide +kernel
theorem dX7_append_26 : decode cX7_append 26 = .ok (.iadd, 1) := by decide +kernel
theorem dX7_append_27 : decode cX7_append 27 = .ok (.putfield 15, 3) := by decide +kernel
theorem dX7_append_30 : decode cX7_append 30 = .ok (.return_, 1) := by decide +kernel
theorem dX7_clear_0 : decode cX7_clear 0 = .ok (.aload_n 0, 1) := by decide +kernel
theorem dX7_clear_1 : decode cX7_clear 1 = .ok (.iconst 0, 1) := by decide +kernel
theorem dX7_clear_2 : decode cX7_clear 2 = .ok (.putfield 15, 3) := by decide +kernel
theorem dX7_clear_5 : decode cX7_clear 5 = .ok (.return_, 1) := by decide +kernel
theorem dX7_parseFigures_0 : decode cX7_parseFigures 0 = .ok (.iconst 0, 1) := by decide +kernel
theorem dX7_parseFigures_1 : decode cX7_parseFigures 1 = .ok (.istore_n 1, 1) := by decide +kernel
theorem dX7_parseFigures_2 : decode cX7_parseFigures 2 = .ok (.iconst 0, 1) := by decide +kernel
theorem dX7_parseFigures_3 : decode cX7_parseFigures 3 = .ok (.istore_n 2, 1) := by decide +kernel
theorem dX7_parseFigures_4 : decode cX7_parseFigures 4 = .ok (.aload_n 0, 1) := by decide +kernel
theorem dX7_parseFigures_5 : decode cX7_parseFigures 5 = .ok (.iconst 0, 1) := by decide +kernel
theorem dX7_parseFigures_6 : decode cX7_parseFigures 6 = .ok (.putfield 84, 3) := by decide +kernel
theorem dX7_parseFigures_9 : decode cX7_parseFigures 9 = .ok (.aload_n 0, 1) := by decide +kernel
theorem dX7_parseFigures_10 : decode cX7_parseFigures 10 = .ok (.iconst 0, 1) := by decide +kernel
theorem dX7_parseFigures_11 : decode cX7_parseFigures 11 = .ok (.putfield 87, 3) := by decide +kernel
theorem dX7_parseFigures_14 : decode cX7_parseFigures 14 = .ok (.aload_n 0, 1) := by decide +kernel
theorem dX7_parseFigures_15 : decode cX7_parseFigures 15 = .ok (.aload_n 0, 1) := by decide +kernel
theorem dX7_parseFigures_16 : decode cX7_parseFigures 16 = .ok (.getfield 44, 3) := by decide +kernel
theorem dX7_parseFigures_19 : decode cX7_parseFigures 19 = .ok (.putfield 51, 3) := by decide +kernel
theorem dX7_parseFigures_22 : decode cX7_parseFigures 22 = .ok (.aload_n 0, 1) := by decide +kernel
theorem dX7_parseFigures_23 : decode cX7_parseFigures 23 = .ok (.getfield 51, 3) := by decide +kernel
theorem dX7_parseFigures_26 : decode cX7_parseFigures 26 = .ok (.aload_n 0, 1) := by decide +kernel
theorem dX7_parseFigures_27 : decode cX7_parseFigures 27 = .ok (.getfield 15, 3) := by decide +kernel
theorem dX7_parseFigures_30 : decode cX7_parseFigures 30 = .ok (.if_icmp .ge 101, 3) := by decide +kernel
theorem dX7_parseFigures_33 : decode cX7_parseFigures 33 = .ok (.aload_n 0, 1) := by decide +kernel
theorem dX7_parseFigures_34 : decode cX7_parseFigures 34 = .ok (.aload_n 0, 1) := by decide +kernel
theorem dX7_parseFigures_35 : decode cX7_parseFigures 35 = .ok (.getfield 51, 3) := by decide +kernel
theorem dX7_parseFigures_38 : decode cX7_parseFigures 38 = .ok (.invokevirtual 66, 3) := by decide +kernel
theorem dX7_parseFigures_41 : decode cX7_parseFigures 41 = .ok (.istore_n 3, 1) := by decide +kernel
theorem dX7_parseFigures_42 : decode cX7_parseFigures 42 = .ok (.iload_n 3, 1) := by decide +kernel
theorem dX7_parseFigures_43 : decode cX7_parseFigures 43 = .ok (.ifCond .lt 51, 3) := by decide +kernel
theorem dX7_parseFigures_46 : decode cX7_parseFigures 46 = .ok (.iconst 1, 1) := by decide +kernel
theorem dX7_parseFigures_47 : decode cX7_parseFigures 47 = .ok (.istore_n 1, 1) := by decide +kernel
theorem dX7_parseFigures_48 : decode cX7_parseFigures 48 = .ok (.aload_n 0, 1) := by decide +kernel
theorem dX7_parseFigures_49 : decode cX7_parseFigures 49 = .ok (.dup, 1) := by decide +kernel
theorem dX7_parseFigures_50 : decode cX7_parseFigures 50 = .ok (.getfield 84, 3) := by decide +kernel
theorem dX7_parseFigures_53 : decode cX7_parseFigures 53 = .ok (.iload_n 2, 1) := by decide +kernel
theorem dX7_parseFigures_54 : decode cX7_parseFigures 54 = .ok (.ifCond .eq 7, 3) := by decide +kernel
theorem dX7_parseFigures_57 : decode cX7_parseFigures 57 = .ok (.iconst 1, 1) := by decide +kernel
theorem dX7_parseFigures_58 : decode cX7_parseFigures 58 = .ok (.goto 4, 3) := by decide +kernel
theorem dX7_parseFigures_61 : decode cX7_parseFigures 61 = .ok (.iconst 0, 1) := by decide +kernel
theorem dX7_parseFigures_62 : decode cX7_parseFigures 62 = .ok (.iadd, 1) := by decide +kernel
theorem dX7_parseFigures_63 : decode cX7_parseFigures 63 = .ok (.putfield 84, 3) := by decide +kernel
theorem dX7_parseFigures_66 : decode cX7_parseFigures 66 = .ok (.aload_n 0, 1) := by decide +kernel
theorem dX7_parseFigures_67 : decode cX7_parseFigures 67 = .ok (.dup, 1) := by decide +kernel
theorem dX7_parseFigures_68 : decode cX7_parseFigures 68 = .ok (.getfield 87, 3) := by decide +kernel
theorem dX7_parseFigures_71 : decode cX7_parseFigures 71 = .ok (.aload_n 0, 1) := by decide +kernel
theorem dX7_parseFigures_72 : decode cX7_parseFigures 72 = .ok (.getfield 87, 3) := by decide +kernel
theorem dX7_parseFigures_75 : decode cX7_parseFigures 75 = .ok (.ifCond .gt 7, 3) := by decide +kernel
theorem dX7_parseFigures_78 : decode cX7_parseFigures 78 = .ok (.iload_n 3, 1) := by decide +kernel
theorem dX7_parseFigures_79 : decode cX7_parseFigures 79 = .ok (.ifCond .le 7, 3) := by decide +kernel
theorem dX7_parseFigures_82 : decode cX7_parseFigures 82 = .ok (.iconst 1, 1) := by decide +kernel
theorem dX7_parseFigures_83 : decode cX7_parseFigures 83 = .ok (.goto 4, 3) := by decide +kernel
theorem dX7_parseFigures_86 : decode cX7_parseFigures 86 = .ok (.iconst 0, 1) := by decide +kernel
theorem dX7_parseFigures_87 : decode cX7_parseFigures 87 = .ok (.iadd, 1) := by decide +kernel
theorem dX7_parseFigures_88 : decode cX7_parseFigures 88 = .ok (.putfield 87, 3) := by decide +kernel
theorem dX7_parseFigures_91 : decode cX7_parseFigures 91 = .ok (.goto 27, 3) := by decide +kernel
theorem dX7_parseFigures_94 : decode cX7_parseFigures 94 = .ok (.aload_n 0, 1) := by decide +kernel
theorem dX7_parseFigures_95 : decode cX7_parseFigures 95 = .ok (.aload_n 0, 1) := by decide +kernel
theorem dX7_parseFigures_96 : decode cX7_parseFigures 96 = .ok (.getfield 51, 3) := by decide +kernel
theorem dX7_parseFigures_99 : decode cX7_parseFigures 99 = .ok (.invokevirtual 19, 3) := by decide +kernel
theorem dX7_parseFigures_102 : decode cX7_parseFigures 102 = .ok (.bipush 46, 2) := by decide +kernel
theorem dX7_parseFigures_104 : decode cX7_parseFigures 104 = .ok (.if_icmp .ne 12, 3) := by decide +kernel
theorem dX7_parseFigures_107 : decode cX7_parseFigures 107 = .ok (.iload_n 2, 1) := by decide +kernel
theorem dX7_parseFigures_108 : decode cX7_parseFigures 108 = .ok (.ifCond .ne 8, 3) := by decide +kernel
theorem dX7_parseFigures_111 : decode cX7_parseFigures 111 = .ok (.iconst 1, 1) := by decide +kernel
theorem dX7_parseFigures_112 : decode cX7_parseFigures 112 = .ok (.istore_n 2, 1) := by decide +kernel
theorem dX7_parseFigures_113 : decode cX7_parseFigures 113 = .ok (.goto 5, 3) := by decide +kernel
theorem dX7_parseFigures_116 : decode cX7_parseFigures 116 = .ok (.iload_n 1, 1) := by decide +kernel
theorem dX7_parseFigures_117 : decode cX7_parseFigures 117 = .ok (.ireturn, 1) := by decide +kernel
theorem dX7_parseFigures_118 : decode cX7_parseFigures 118 = .ok (.aload_n 0, 1) := by decide +kernel
theorem dX7_parseFigures_119 : decode cX7_parseFigures 119 = .ok (.dup, 1) := by decide +kernel
theorem dX7_parseFigures_120 : decode cX7_parseFigures 120 = .ok (.getfield 51, 3) := by decide +kernel
theorem dX7_parseFigures_123 : decode cX7_parseFigures 123 = .ok (.iconst 1, 1) := by decide +kernel
theorem dX7_parseFigures_124 : decode cX7_parseFigures 124 = .ok (.iadd, 1) := by decide +kernel
theorem dX7_parseFigures_125 : decode cX7_parseFigures 125 = .ok (.putfield 51, 3) := by decide +kernel
theorem dX7_parseFigures_128 : decode cX7_parseFigures 128 = .ok (.goto (-106), 3) := by decide +kernel
theorem dX7_parseFigures_131 : decode cX7_parseFigures 131 = .ok (.iload_n 1, 1) := by decide +kernel
theorem dX7_parseFigures_132 : decode cX7_parseFigures 132 = .ok (.ireturn, 1) := by decide +kernel
theorem dX7_signLength_0 : decode cX7_signLength 0 = .ok (.aload_n 0, 1) := by decide +kernel
theorem dX7_signLength_1 : decode cX7_signLength 1 = .ok (.iload_n 1, 1) := by decide +kernel
theorem dX7_signLength_2 : decode cX7_signLength 2 = .ok (.invokevirtual 19, 3) := by decide +kernel
theorem dX7_signLength_5 : decode cX7_signLength 5 = .ok (.bipush 45, 2) := by decide +kernel
theorem dX7_signLength_7 : decode cX7_signLength 7 = .ok (.if_icmp .eq 13, 3) := by decide +kernel
theorem dX7_signLength_10 : decode cX7_signLength 10 = .ok (.aload_n 0, 1) := by decide +kernel
theorem dX7_signLength_11 : decode cX7_signLength 11 = .ok (.iload_n 1, 1) := by decide +kernel
theorem dX7_signLength_12 : decode cX7_signLength 12 = .ok (.invokevirtual 19, 3) := by decide +kernel
theorem dX7_signLength_15 : decode cX7_signLength 15 = .ok (.bipush 43, 2) := by decide +kernel
theorem dX7_signLength_17 : decode cX7_signLength 17 = .ok (.if_icmp .ne 7, 3) := by decide +kernel
theorem dX7_signLength_20 : decode cX7_signLength 20 = .ok (.iconst 1, 1) := by decide +kernel
theorem dX7_signLength_21 : decode cX7_signLength 21 = .ok (.goto 4, 3) := by decide +kernel
theorem dX7_signLength_24 : decode cX7_signLength 24 = .ok (.iconst 0, 1) := by decide +kernel
theorem dX7_signLength_25 : decode cX7_signLength 25 = .ok (.ireturn, 1) := by decide +kernel
theorem dX7_parsePower_0 : decode cX7_parsePower 0 = .ok (.iload_n 1, 1) := by decide +kernel
theorem dX7_parsePower_1 : decode cX7_parsePower 1 = .ok (.aload_n 0, 1) := by decide +kernel
theorem dX7_parsePower_2 : decode cX7_parsePower 2 = .ok (.iload_n 1, 1) := by decide +kernel
theorem dX7_parsePower_3 : decode cX7_parsePower 3 = .ok (.invokevirtual 27, 3) := by decide +kernel
theorem dX7_parsePower_6 : decode cX7_parsePower 6 = .ok (.iadd, 1) := by decide +kernel
theorem dX7_parsePower_7 : decode cX7_parsePower 7 = .ok (.istore_n 2, 1) := by decide +kernel
theorem dX7_parsePower_8 : decode cX7_parsePower 8 = .ok (.iload_n 2, 1) := by decide +kernel
theorem dX7_parsePower_9 : decode cX7_parsePower 9 = .ok (.istore_n 3, 1) := by decide +kernel
theorem dX7_parsePower_10 : decode cX7_parsePower 10 = .ok (.iload_n 3, 1) := by decide +kernel
theorem dX7_parsePower_11 : decode cX7_parsePower 11 = .ok (.iload_n 2, 1) := by decide +kernel
theorem dX7_parsePower_12 : decode cX7_parsePower 12 = .ok (.bipush 6, 2) := by decide +kernel
theorem dX7_parsePower_14 : decode cX7_parsePower 14 = .ok (.iadd, 1) := by decide +kernel
theorem dX7_parsePower_15 : decode cX7_parsePower 15 = .ok (.if_icmp .ge 40, 3) := by decide +kernel
theorem dX7_parsePower_18 : decode cX7_parsePower 18 = .ok (.aload_n 0, 1) := by decide +kernel
theorem dX7_parsePower_19 : decode cX7_parsePower 19 = .ok (.iload_n 3, 1) := by decide +kernel
theorem dX7_parsePower_20 : decode cX7_parsePower 20 = .ok (.invokevirtual 19, 3) := by decide +kernel
theorem dX7_parsePower_23 : decode cX7_parsePower 23 = .ok (.invokestatic 90, 3) := by decide +kernel
theorem dX7_parsePower_26 : decode cX7_parsePower 26 = .ok (.ifCond .eq 29, 3) := by decide +kernel
theorem dX7_parsePower_29 : decode cX7_parsePower 29 = .ok (.aload_n 0, 1) := by decide +kernel
theorem dX7_parsePower_30 : decode cX7_parsePower 30 = .ok (.bipush 10, 2) := by decide +kernel
theorem dX7_parsePower_32 : decode cX7_parsePower 32 = .ok (.aload_n 0, 1) := by decide +kernel
theorem dX7_parsePower_33 : decode cX7_parsePower 33 = .ok (.getfield 54, 3) := by decide +kernel
theorem dX7_parsePower_36 : decode cX7_parsePower 36 = .ok (.imul, 1) := by decide +kernel
theorem dX7_parsePower_37 : decode cX7_parsePower 37 = .ok (.aload_n 0, 1) := by decide +kernel
theorem dX7_parsePower_38 : decode cX7_parsePower 38 = .ok (.iload_n 3, 1) := by decide +kernel
theorem dX7_parsePower_39 : decode cX7_parsePower 39 = .ok (.invokevirtual 19, 3) := by decide +kernel
theorem dX7_parsePower_42 : decode cX7_parsePower 42 = .ok (.iadd, 1) := by decide +kernel
theorem dX7_parsePower_43 : decode cX7_parsePower 43 = .ok (.bipush 48, 2) := by decide +kernel
theorem dX7_parsePower_45 : decode cX7_parsePower 45 = .ok (.isub, 1) := by decide +kernel
theorem dX7_parsePower_46 : decode cX7_parsePower 46 = .ok (.putfield 54, 3) := by decide +kernel
theorem dX7_parsePower_49 : decode cX7_parsePower 49 = .ok (.iinc 3 1, 3) := by decide +kernel
theorem dX7_parsePower_52 : decode cX7_parsePower 52 = .ok (.goto (-42), 3) := by decide +kernel
theorem dX7_parsePower_55 : decode cX7_parsePower 55 = .ok (.aload_n 0, 1) := by decide +kernel
theorem dX7_parsePower_56 : decode cX7_parsePower 56 = .ok (.iload_n 1, 1) := by decide +kernel
theorem dX7_parsePower_57 : decode cX7_parsePower 57 = .ok (.invokevirtual 19, 3) := by decide +kernel
theorem dX7_parsePower_60 : decode cX7_parsePower 60 = .ok (.bipush 45, 2) := by decide +kernel
theorem dX7_parsePower_62 : decode cX7_parsePower 62 = .ok (.if_icmp .ne 12, 3) := by decide +kernel
theorem dX7_parsePower_65 : decode cX7_parsePower 65 = .ok (.aload_n 0, 1) := by decide +kernel
theorem dX7_parsePower_66 : decode cX7_parsePower 66 = .ok (.aload_n 0, 1) := by decide +kernel
theorem dX7_parsePower_67 : decode cX7_parsePower 67 = .ok (.getfield 54, 3) := by decide +kernel
theorem dX7_parsePower_70 : decode cX7_parsePower 70 = .ok (.ineg, 1) := by decide +kernel
theorem dX7_parsePower_71 : decode cX7_parsePower 71 = .ok (.putfield 54, 3) := by decide +kernel
theorem dX7_parsePower_74 : decode cX7_parsePower 74 = .ok (.iload_n 3, 1) := by decide +kernel
theorem dX7_parsePower_75 : decode cX7_parsePower 75 = .ok (.iload_n 2, 1) := by decide +kernel
theorem dX7_parsePower_76 : decode cX7_parsePower 76 = .ok (.if_icmp .le 15, 3) := by decide +kernel
theorem dX7_parsePower_79 : decode cX7_parsePower 79 = .ok (.iload_n 3, 1) := by decide +kernel
theorem dX7_parsePower_80 : decode cX7_parsePower 80 = .ok (.aload_n 0, 1) := by decide +kernel
theorem dX7_parsePower_81 : decode cX7_parsePower 81 = .ok (.getfield 15, 3) := by decide +kernel
theorem dX7_parsePower_84 : decode cX7_parsePower 84 = .ok (.if_icmp .ne 7, 3) := by decide +kernel
theorem dX7_parsePower_87 : decode cX7_parsePower 87 = .ok (.iconst (-1), 1) := by decide +kernel
theorem dX7_parsePower_88 : decode cX7_parsePower 88 = .ok (.goto 4, 3) := by decide +kernel
theorem dX7_parsePower_91 : decode cX7_parsePower 91 = .ok (.iload_n 3, 1) := by decide +kernel
theorem dX7_parsePower_92 : decode cX7_parsePower 92 = .ok (.ireturn, 1) := by decide +kernel
theorem dX7_parseWord_0 : decode cX7_parseWord 0 = .ok (.iconst 0, 1) := by decide +kernel
theorem dX7_parseWord_1 : decode cX7_parseWord 1 = .ok (.istore_n 3, 1) := by decide +kernel
theorem dX7_parseWord_2 : decode cX7_parseWord 2 = .ok (.iload_n 3, 1) := by decide +kernel
theorem dX7_parseWord_3 : decode cX7_parseWord 3 = .ok (.aload_n 1, 1) := by decide +kernel
theorem dX7_parseWord_4 : decode cX7_parseWord 4 = .ok (.invokevirtual 75, 3) := by decide +kernel
theorem dX7_parseWord_7 : decode cX7_parseWord 7 = .ok (.if_icmp .ge 28, 3) := by decide +kernel
theorem dX7_parseWord_10 : decode cX7_parseWord 10 = .ok (.aload_n 0, 1) := by decide +kernel
theorem dX7_parseWord_11 : decode cX7_parseWord 11 = .ok (.iload_n 2, 1) := by decide +kernel
theorem dX7_parseWord_12 : decode cX7_parseWord 12 = .ok (.iload_n 3, 1) := by decide +kernel
theorem dX7_parseWord_13 : decode cX7_parseWord 13 = .ok (.iadd, 1) := by decide +kernel
theorem dX7_parseWord_14 : decode cX7_parseWord 14 = .ok (.invokevirtual 19, 3) := by decide +kernel
theorem dX7_parseWord_17 : decode cX7_parseWord 17 = .ok (.aload_n 1, 1) := by decide +kernel
theorem dX7_parseWord_18 : decode cX7_parseWord 18 = .ok (.iload_n 3, 1) := by decide +kernel
theorem dX7_parseWord_19 : decode cX7_parseWord 19 = .ok (.invokevirtual 80, 3) := by decide +kernel
theorem dX7_parseWord_22 : decode cX7_parseWord 22 = .ok (.if_icmp .eq 7, 3) := by decide +kernel
theorem dX7_parseWord_25 : decode cX7_parseWord 25 = .ok (.iload_n 2, 1) := by decide +kernel
theorem dX7_parseWord_26 : decode cX7_parseWord 26 = .ok (.iload_n 3, 1) := by decide +kernel
theorem dX7_parseWord_27 : decode cX7_parseWord 27 = .ok (.iadd, 1) := by decide +kernel
theorem dX7_parseWord_28 : decode cX7_parseWord 28 = .ok (.ireturn, 1) := by decide +kernel
theorem dX7_parseWord_29 : decode cX7_parseWord 29 = .ok (.iinc 3 1, 3) := by decide +kernel
theorem dX7_parseWord_32 : decode cX7_parseWord 32 = .ok (.goto (-30), 3) := by decide +kernel
theorem dX7_parseWord_35 : decode cX7_parseWord 35 = .ok (.iload_n 2, 1) := by decide +kernel
theorem dX7_parseWord_36 : decode cX7_parseWord 36 = .ok (.aload_n 1, 1) := by decide +kernel
theorem dX7_parseWord_37 : decode cX7_parseWord 37 = .ok (.invokevirtual 75, 3) := by decide +kernel
theorem dX7_parseWord_40 : decode cX7_parseWord 40 = .ok (.iadd, 1) := by decide +kernel
theorem dX7_parseWord_41 : decode cX7_parseWord 41 = .ok (.istore_n 3, 1) := by decide +kernel
theorem dX7_parseWord_42 : decode cX7_parseWord 42 = .ok (.iload_n 3, 1) := by decide +kernel
theorem dX7_parseWord_43 : decode cX7_parseWord 43 = .ok (.aload_n 0, 1) := by decide +kernel
theorem dX7_parseWord_44 : decode cX7_parseWord 44 = .ok (.getfield 15, 3) := by decide +kernel
theorem dX7_parseWord_47 : decode cX7_parseWord 47 = .ok (.if_icmp .ne 7, 3) := by decide +kernel
theorem dX7_parseWord_50 : decode cX7_parseWord 50 = .ok (.iconst (-1), 1) := by decide +kernel
theorem dX7_parseWord_51 : decode cX7_parseWord 51 = .ok (.goto 4, 3) := by decide +kernel
theorem dX7_parseWord_54 : decode cX7_parseWord 54 = .ok (.iload_n 3, 1) := by decide +kernel
theorem dX7_parseWord_55 : decode cX7_parseWord 55 = .ok (.ireturn, 1) := by decide +kernel
theorem dX7_parse_0 : decode cX7_parse 0 = .ok (.aload_n 0, 1) := by decide +kernel
theorem dX7_parse_1 : decode cX7_parse 1 = .ok (.aload_n 0, 1) := by decide +kernel
theorem dX7_parse_2 : decode cX7_parse 2 = .ok (.iconst 0, 1) := by decide +kernel
theorem dX7_parse_3 : decode cX7_parse 3 = .ok (.invokevirtual 19, 3) := by decide +kernel
theorem dX7_parse_6 : decode cX7_parse 6 = .ok (.bipush 45, 2) := by decide +kernel
theorem dX7_parse_8 : decode cX7_parse 8 = .ok (.if_icmp .ne 7, 3) := by decide +kernel
theorem dX7_parse_11 : decode cX7_parse 11 = .ok (.iconst 1, 1) := by decide +kernel
theorem dX7_parse_12 : decode cX7_parse 12 = .ok (.goto 4, 3) := by decide +kernel
theorem dX7_parse_15 : decode cX7_parse 15 = .ok (.iconst 0, 1) := by decide +kernel
theorem dX7_parse_16 : decode cX7_parse 16 = .ok (.putfield 23, 3) := by decide +kernel
theorem dX7_parse_19 : decode cX7_parse 19 = .ok (.aload_n 0, 1) := by decide +kernel
theorem dX7_parse_20 : decode cX7_parse 20 = .ok (.iconst 0, 1) := by decide +kernel
theorem dX7_parse_21 : decode cX7_parse 21 = .ok (.invokevirtual 27, 3) := by decide +kernel
theorem dX7_parse_24 : decode cX7_parse 24 = .ok (.istore_n 1, 1) := by decide +kernel
theorem dX7_parse_25 : decode cX7_parse 25 = .ok (.aload_n 0, 1) := by decide +kernel
theorem dX7_parse_26 : decode cX7_parse 26 = .ok (.iload_n 1, 1) := by decide +kernel
theorem dX7_parse_27 : decode cX7_parse 27 = .ok (.invokevirtual 19, 3) := by decide +kernel
theorem dX7_parse_30 : decode cX7_parse 30 = .ok (.bipush 105, 2) := by decide +kernel
theorem dX7_parse_32 : decode cX7_parse 32 = .ok (.if_icmp .ne 16, 3) := by decide +kernel
theorem dX7_parse_35 : decode cX7_parse 35 = .ok (.aload_n 0, 1) := by decide +kernel
theorem dX7_parse_36 : decode cX7_parse 36 = .ok (.iconst 3, 1) := by decide +kernel
theorem dX7_parse_37 : decode cX7_parse 37 = .ok (.putfield 30, 3) := by decide +kernel
theorem dX7_parse_40 : decode cX7_parse 40 = .ok (.aload_n 0, 1) := by decide +kernel
theorem dX7_parse_41 : decode cX7_parse 41 = .ok (.ldc 33, 2) := by decide +kernel
theorem dX7_parse_43 : decode cX7_parse 43 = .ok (.iload_n 1, 1) := by decide +kernel
theorem dX7_parse_44 : decode cX7_parse 44 = .ok (.invokevirtual 35, 3) := by decide +kernel
theorem dX7_parse_47 : decode cX7_parse 47 = .ok (.ireturn, 1) := by decide +kernel
theorem dX7_parse_48 : decode cX7_parse 48 = .ok (.aload_n 0, 1) := by decide +kernel
theorem dX7_parse_49 : decode cX7_parse 49 = .ok (.iload_n 1, 1) := by decide +kernel
theorem dX7_parse_50 : decode cX7_parse 50 = .ok (.invokevirtual 19, 3) := by decide +kernel
theorem dX7_parse_53 : decode cX7_parse 53 = .ok (.bipush 110, 2) := by decide +kernel
theorem dX7_parse_55 : decode cX7_parse 55 = .ok (.if_icmp .ne 16, 3) := by decide +kernel
theorem dX7_parse_58 : decode cX7_parse 58 = .ok (.aload_n 0, 1) := by decide +kernel
theorem dX7_parse_59 : decode cX7_parse 59 = .ok (.iconst 4, 1) := by decide +kernel
theorem dX7_parse_60 : decode cX7_parse 60 = .ok (.putfield 30, 3) := by decide +kernel
theorem dX7_parse_63 : decode cX7_parse 63 = .ok (.aload_n 0, 1) := by decide +kernel
theorem dX7_parse_64 : decode cX7_parse 64 = .ok (.ldc 39, 2) := by decide +kernel
theorem dX7_parse_66 : decode cX7_parse 66 = .ok (.iload_n 1, 1) := by decide +kernel
theorem dX7_parse_67 : decode cX7_parse 67 = .ok (.invokevirtual 35, 3) := by decide +kernel
theorem dX7_parse_70 : decode cX7_parse 70 = .ok (.ireturn, 1) := by decide +kernel
theorem dX7_parse_71 : decode cX7_parse 71 = .ok (.aload_n 0, 1) := by decide +kernel
theorem dX7_parse_72 : decode cX7_parse 72 = .ok (.iconst 2, 1) := by decide +kernel
theorem dX7_parse_73 : decode cX7_parse 73 = .ok (.putfield 30, 3) := by decide +kernel
theorem dX7_parse_76 : decode cX7_parse 76 = .ok (.aload_n 0, 1) := by decide +kernel
theorem dX7_parse_77 : decode cX7_parse 77 = .ok (.aload_n 0, 1) := by decide +kernel
theorem dX7_parse_78 : decode cX7_parse 78 = .ok (.iload_n 1, 1) := by decide +kernel
theorem dX7_parse_79 : decode cX7_parse 79 = .ok (.invokevirtual 19, 3) := by decide +kernel
theorem dX7_parse_82 : decode cX7_parse 82 = .ok (.bipush 48, 2) := by decide +kernel
theorem dX7_parse_84 : decode cX7_parse 84 = .ok (.if_icmp .ne 19, 3) := by decide +kernel
theorem dX7_parse_87 : decode cX7_parse 87 = .ok (.aload_n 0, 1) := by decide +kernel
theorem dX7_parse_88 : decode cX7_parse 88 = .ok (.iload_n 1, 1) := by decide +kernel
theorem dX7_parse_89 : decode cX7_parse 89 = .ok (.iconst 1, 1) := by decide +kernel
theorem dX7_parse_90 : decode cX7_parse 90 = .ok (.iadd, 1) := by decide +kernel
theorem dX7_parse_91 : decode cX7_parse 91 = .ok (.invokevirtual 19, 3) := by decide +kernel
theorem dX7_parse_94 : decode cX7_parse 94 = .ok (.bipush 120, 2) := by decide +kernel
theorem dX7_parse_96 : decode cX7_parse 96 = .ok (.if_icmp .ne 7, 3) := by decide +kernel
theorem dX7_parse_99 : decode cX7_parse 99 = .ok (.iconst 1, 1) := by decide +kernel
theorem dX7_parse_100 : decode cX7_parse 100 = .ok (.goto 4, 3) := by decide +kernel
theorem dX7_parse_103 : decode cX7_parse 103 = .ok (.iconst 0, 1) := by decide +kernel
theorem dX7_parse_104 : decode cX7_parse 104 = .ok (.putfield 41, 3) := by decide +kernel
theorem dX7_parse_107 : decode cX7_parse 107 = .ok (.aload_n 0, 1) := by decide +kernel
theorem dX7_parse_108 : decode cX7_parse 108 = .ok (.aload_n 0, 1) := by decide +kernel
theorem dX7_parse_109 : decode cX7_parse 109 = .ok (.getfield 41, 3) := by decide +kernel
theorem dX7_parse_112 : decode cX7_parse 112 = .ok (.ifCond .eq 9, 3) := by decide +kernel
theorem dX7_parse_115 : decode cX7_parse 115 = .ok (.iload_n 1, 1) := by decide +kernel
theorem dX7_parse_116 : decode cX7_parse 116 = .ok (.iconst 2, 1) := by decide +kernel
theorem dX7_parse_117 : decode cX7_parse 117 = .ok (.iadd, 1) := by decide +kernel
theorem dX7_parse_118 : decode cX7_parse 118 = .ok (.goto 4, 3) := by decide +kernel
theorem dX7_parse_121 : decode cX7_parse 121 = .ok (.iload_n 1, 1) := by decide +kernel
theorem dX7_parse_122 : decode cX7_parse 122 = .ok (.putfield 44, 3) := by decide +kernel
theorem dX7_parse_125 : decode cX7_parse 125 = .ok (.aload_n 0, 1) := by decide +kernel
theorem dX7_parse_126 : decode cX7_parse 126 = .ok (.invokevirtual 47, 3) := by decide +kernel
theorem dX7_parse_129 : decode cX7_parse 129 = .ok (.ifCond .ne 8, 3) := by decide +kernel
theorem dX7_parse_132 : decode cX7_parse 132 = .ok (.aload_n 0, 1) := by decide +kernel
theorem dX7_parse_133 : decode cX7_parse 133 = .ok (.getfield 51, 3) := by decide +kernel
theorem dX7_parse_136 : decode cX7_parse 136 = .ok (.ireturn, 1) := by decide +kernel
theorem dX7_parse_137 : decode cX7_parse 137 = .ok (.aload_n 0, 1) := by decide +kernel
theorem dX7_parse_138 : decode cX7_parse 138 = .ok (.iconst 0, 1) := by decide +kernel
theorem dX7_parse_139 : decode cX7_parse 139 = .ok (.putfield 54, 3) := by decide +kernel
theorem dX7_parse_142 : decode cX7_parse 142 = .ok (.aload_n 0, 1) := by decide +kernel
theorem dX7_parse_143 : decode cX7_parse 143 = .ok (.getfield 51, 3) := by decide +kernel
theorem dX7_parse_146 : decode cX7_parse 146 = .ok (.aload_n 0, 1) := by decide +kernel
theorem dX7_parse_147 : decode cX7_parse 147 = .ok (.getfield 15, 3) := by decide +kernel
theorem dX7_parse_150 : decode cX7_parse 150 = .ok (.if_icmp .ne 5, 3) := by decide +kernel
theorem dX7_parse_153 : decode cX7_parse 153 = .ok (.iconst (-1), 1) := by decide +kernel
theorem dX7_parse_154 : decode cX7_parse 154 = .ok (.ireturn, 1) := by decide +kernel
theorem dX7_parse_155 : decode cX7_parse 155 = .ok (.aload_n 0, 1) := by decide +kernel
theorem dX7_parse_156 : decode cX7_parse 156 = .ok (.aload_n 0, 1) := by decide +kernel
theorem dX7_parse_157 : decode cX7_parse 157 = .ok (.getfield 51, 3) := by decide +kernel
theorem dX7_parse_160 : decode cX7_parse 160 = .ok (.invokevirtual 19, 3) := by decide +kernel
theorem dX7_parse_163 : decode cX7_parse 163 = .ok (.aload_n 0, 1) := by decide +kernel
theorem dX7_parse_164 : decode cX7_parse 164 = .ok (.getfield 41, 3) := by decide +kernel
theorem dX7_parse_167 : decode cX7_parse 167 = .ok (.ifCond .eq 8, 3) := by decide +kernel
theorem dX7_parse_170 : decode cX7_parse 170 = .ok (.bipush 112, 2) := by decide +kernel
theorem dX7_parse_172 : decode cX7_parse 172 = .ok (.goto 5, 3) := by decide +kernel
theorem dX7_parse_175 : decode cX7_parse 175 = .ok (.bipush 101, 2) := by decide +kernel
theorem dX7_parse_177 : decode cX7_parse 177 = .ok (.if_icmp .ne 16, 3) := by decide +kernel
theorem dX7_parse_180 : decode cX7_parse 180 = .ok (.aload_n 0, 1) := by decide +kernel
theorem dX7_parse_181 : decode cX7_parse 181 = .ok (.aload_n 0, 1) := by decide +kernel
theorem dX7_parse_182 : decode cX7_parse 182 = .ok (.getfield 51, 3) := by decide +kernel
theorem dX7_parse_185 : decode cX7_parse 185 = .ok (.iconst 1, 1) := by decide +kernel
theorem dX7_parse_186 : decode cX7_parse 186 = .ok (.iadd, 1) := by decide +kernel
theorem dX7_parse_187 : decode cX7_parse 187 = .ok (.invokevirtual 57, 3) := by decide +kernel
theorem dX7_parse_190 : decode cX7_parse 190 = .ok (.goto 7, 3) := by decide +kernel
theorem dX7_parse_193 : decode cX7_parse 193 = .ok (.aload_n 0, 1) := by decide +kernel
theorem dX7_parse_194 : decode cX7_parse 194 = .ok (.getfield 51, 3) := by decide +kernel
theorem dX7_parse_197 : decode cX7_parse 197 = .ok (.ireturn, 1) := by decide +kernel
theorem dX8_unpack_0 : decode cX8_unpack 0 = .ok (.iload_n 1, 1) := by decide +kernel
theorem dX8_unpack_1 : decode cX8_unpack 1 = .ok (.invokestatic 9, 3) := by decide +kernel
theorem dX8_unpack_4 : decode cX8_unpack 4 = .ok (.iconst 1, 1) := by decide +kernel
theorem dX8_unpack_5 : decode cX8_unpack 5 = .ok (.isub, 1) := by decide +kernel
theorem dX8_unpack_6 : decode cX8_unpack 6 = .ok (.istore 4, 2) := by decide +kernel
theorem dX8_unpack_8 : decode cX8_unpack 8 = .ok (.lload_n 2, 1) := by decide +kernel
theorem dX8_unpack_9 : decode cX8_unpack 9 = .ok (.iload_n 1, 1) := by decide +kernel
theorem dX8_unpack_10 : decode cX8_unpack 10 = .ok (.invokestatic 15, 3) := by decide +kernel
theorem dX8_unpack_13 : decode cX8_unpack 13 = .ok (.ldc2_w 19, 3) := by decide +kernel
theorem dX8_unpack_16 : decode cX8_unpack 16 = .ok (.lxor, 1) := by decide +kernel
theorem dX8_unpack_17 : decode cX8_unpack 17 = .ok (.land, 1) := by decide +kernel
theorem dX8_unpack_18 : decode cX8_unpack 18 = .ok (.lstore 5, 2) := by decide +kernel
theorem dX8_unpack_20 : decode cX8_unpack 20 = .ok (.lload 5, 2) := by decide +kernel
theorem dX8_unpack_22 : decode cX8_unpack 22 = .ok (.lconst 1, 1) := by decide +kernel
theorem dX8_unpack_23 : decode cX8_unpack 23 = .ok (.iload 4, 2) := by decide +kernel
theorem dX8_unpack_25 : decode cX8_unpack 25 = .ok (.lshl, 1) := by decide +kernel
theorem dX8_unpack_26 : decode cX8_unpack 26 = .ok (.lconst 1, 1) := by decide +kernel
theorem dX8_unpack_27 : decode cX8_unpack 27 = .ok (.lsub, 1) := by decide +kernel
theorem dX8_unpack_28 : decode cX8_unpack 28 = .ok (.land, 1) := by decide +kernel
theorem dX8_unpack_29 : decode cX8_unpack 29 = .ok (.lstore 7, 2) := by decide +kernel
theorem dX8_unpack_31 : decode cX8_unpack 31 = .ok (.lload 5, 2) := by decide +kernel
theorem dX8_unpack_33 : decode cX8_unpack 33 = .ok (.iload 4, 2) := by decide +kernel
theorem dX8_unpack_35 : decode cX8_unpack 35 = .ok (.lushr, 1) := by decide +kernel
theorem dX8_unpack_36 : decode cX8_unpack 36 = .ok (.l2i, 1) := by decide +kernel
theorem dX8_unpack_37 : decode cX8_unpack 37 = .ok (.istore 9, 2) := by decide +kernel
theorem dX8_unpack_39 : decode cX8_unpack 39 = .ok (.aload_n 0, 1) := by decide +kernel
theorem dX8_unpack_40 : decode cX8_unpack 40 = .ok (.lload 5, 2) := by decide +kernel
theorem dX8_unpack_42 : decode cX8_unpack 42 = .ok (.lload_n 2, 1) := by decide +kernel
theorem dX8_unpack_43 : decode cX8_unpack 43 = .ok (.lcmp, 1) := by decide +kernel
theorem dX8_unpack_44 : decode cX8_unpack 44 = .ok (.ifCond .eq 7, 3) := by decide +kernel
theorem dX8_unpack_47 : decode cX8_unpack 47 = .ok (.iconst 1, 1) := by decide +kernel
theorem dX8_unpack_48 : decode cX8_unpack 48 = .ok (.goto 4, 3) := by decide +kernel
theorem dX8_unpack_51 : decode cX8_unpack 51 = .ok (.iconst 0, 1) := by decide +kernel
theorem dX8_unpack_52 : decode cX8_unpack 52 = .ok (.putfield 21, 3) := by decide +kernel
theorem dX8_unpack_55 : decode cX8_unpack 55 = .ok (.aload_n 0, 1) := by decide +kernel
theorem dX8_unpack_56 : decode cX8_unpack 56 = .ok (.lconst 0, 1) := by decide +kernel
theorem dX8_unpack_57 : decode cX8_unpack 57 = .ok (.putfield 27, 3) := by decide +kernel
theorem dX8_unpack_60 : decode cX8_unpack 60 = .ok (.aload_n 0, 1) := by decide +kernel
theorem dX8_unpack_61 : decode cX8_unpack 61 = .ok (.iconst 0, 1) := by decide +kernel
theorem dX8_unpack_62 : decode cX8_unpack 62 = .ok (.putfield 31, 3) := by decide +kernel
theorem dX8_unpack_65 : decode cX8_unpack 65 = .ok (.aload_n 0, 1) := by decide +kernel
theorem dX8_unpack_66 : decode cX8_unpack 66 = .ok (.iconst 0, 1) := by decide +kernel
theorem dX8_unpack_67 : decode cX8_unpack 67 = .ok (.putfield 35, 3) := by decide +kernel
theorem dX8_unpack_70 : decode cX8_unpack 70 = .ok (.lload 5, 2) := by decide +kernel
theorem dX8_unpack_72 : decode cX8_unpack 72 = .ok (.iload_n 1, 1) := by decide +kernel
theorem dX8_unpack_73 : decode cX8_unpack 73 = .ok (.invokestatic 38, 3) := by decide +kernel
theorem dX8_unpack_76 : decode cX8_unpack 76 = .ok (.lcmp, 1) := by decide +kernel
theorem dX8_unpack_77 : decode cX8_unpack 77 = .ok (.ifCond .lt 22, 3) := by decide +kernel
theorem dX8_unpack_80 : decode cX8_unpack 80 = .ok (.aload_n 0, 1) := by decide +kernel
theorem dX8_unpack_81 : decode cX8_unpack 81 = .ok (.lload 7, 2) := by decide +kernel
theorem dX8_unpack_83 : decode cX8_unpack 83 = .ok (.lconst 0, 1) := by decide +kernel
theorem dX8_unpack_84 : decode cX8_unpack 84 = .ok (.lcmp, 1) := by decide +kernel
theorem dX8_unpack_85 : decode cX8_unpack 85 = .ok (.ifCond .ne 7, 3) := by decide +kernel
theorem dX8_unpack_88 : decode cX8_unpack 88 = .ok (.iconst 3, 1) := by decide +kernel
theorem dX8_unpack_89 : decode cX8_unpack 89 = .ok (.goto 4, 3) := by decide +kernel
theorem dX8_unpack_92 : decode cX8_unpack 92 = .ok (.iconst 4, 1) := by decide +kernel
theorem dX8_unpack_93 : decode cX8_unpack 93 = .ok (.putfield 41, 3) := by decide +kernel
theorem dX8_unpack_96 : decode cX8_unpack 96 = .ok (.goto 92, 3) := by decide +kernel
theorem dX8_unpack_99 : decode cX8_unpack 99 = .ok (.iload 9, 2) := by decide +kernel
theorem dX8_unpack_101 : decode cX8_unpack 101 = .ok (.ifCond .ne 36, 3) := by decide +kernel
theorem dX8_unpack_104 : decode cX8_unpack 104 = .ok (.aload_n 0, 1) := by decide +kernel
theorem dX8_unpack_105 : decode cX8_unpack 105 = .ok (.lload 7, 2) := by decide +kernel
theorem dX8_unpack_107 : decode cX8_unpack 107 = .ok (.lconst 0, 1) := by decide +kernel
theorem dX8_unpack_108 : decode cX8_unpack 108 = .ok (.lcmp, 1) := by decide +kernel
theorem dX8_unpack_109 : decode cX8_unpack 109 = .ok (.ifCond .ne 7, 3) := by decide +kernel
theorem dX8_unpack_112 : decode cX8_unpack 112 = .ok (.iconst 0, 1) := by decide +kernel
theorem dX8_unpack_113 : decode cX8_unpack 113 = .ok (.goto 4, 3) := by decide +kernel
theorem dX8_unpack_116 : decode cX8_unpack 116 = .ok (.iconst 1, 1) := by decide +kernel
theorem dX8_unpack_117 : decode cX8_unpack 117 = .ok (.putfield 41, 3) := by decide +kernel
theorem dX8_unpack_120 : decode cX8_unpack 120 = .ok (.aload_n 0, 1) := by decide +kernel
theorem dX8_unpack_121 : decode cX8_unpack 121 = .ok (.lload 7, 2) := by decide +kernel
theorem dX8_unpack_123 : decode cX8_unpack 123 = .ok (.putfield 27, 3) := by decide +kernel
theorem dX8_unpack_126 : decode cX8_unpack 126 = .ok (.aload_n 0, 1) := by decide +kernel
theorem dX8_unpack_127 : decode cX8_unpack 127 = .ok (.iload_n 1, 1) := by decide +kernel
theorem dX8_unpack_128 : decode cX8_unpack 128 = .ok (.invokestatic 44, 3) := by decide +kernel
theorem dX8_unpack_131 : decode cX8_unpack 131 = .ok (.putfield 31, 3) := by decide +kernel
theorem dX8_unpack_134 : decode cX8_unpack 134 = .ok (.goto 54, 3) := by decide +kernel
theorem dX8_unpack_137 : decode cX8_unpack 137 = .ok (.aload_n 0, 1) := by decide +kernel
theorem dX8_unpack_138 : decode cX8_unpack 138 = .ok (.iconst 2, 1) := by decide +kernel
theorem dX8_unpack_139 : decode cX8_unpack 139 = .ok (.putfield 41, 3) := by decide +kernel
theorem dX8_unpack_142 : decode cX8_unpack 142 = .ok (.aload_n 0, 1) := by decide +kernel
theorem dX8_unpack_143 : decode cX8_unpack 143 = .ok (.lload 7, 2) := by decide +kernel
theorem dX8_unpack_145 : decode cX8_unpack 145 = .ok (.lconst 1, 1) := by decide +kernel
theorem dX8_unpack_146 : decode cX8_unpack 146 = .ok (.iload 4, 2) := by decide +kernel
theorem dX8_unpack_148 : decode cX8_unpack 148 = .ok (.lshl, 1) := by decide +kernel
theorem dX8_unpack_149 : decode cX8_unpack 149 = .ok (.lor, 1) := by decide +kernel
theorem dX8_unpack_150 : decode cX8_unpack 150 = .ok (.putfield 27, 3) := by decide +kernel
theorem dX8_unpack_153 : decode cX8_unpack 153 = .ok (.aload_n 0, 1) := by decide +kernel
theorem dX8_unpack_154 : decode cX8_unpack 154 = .ok (.iload_n 1, 1) := by decide +kernel
theorem dX8_unpack_155 : decode cX8_unpack 155 = .ok (.invokestatic 44, 3) := by decide +kernel
theorem dX8_unpack_158 : decode cX8_unpack 158 = .ok (.iconst 1, 1) := by decide +kernel
theorem dX8_unpack_159 : decode cX8_unpack 159 = .ok (.isub, 1) := by decide +kernel
theorem dX8_unpack_160 : decode cX8_unpack 160 = .ok (.iload 9, 2) := by decide +kernel
theorem dX8_unpack_162 : decode cX8_unpack 162 = .ok (.iadd, 1) := by decide +kernel
theorem dX8_unpack_163 : decode cX8_unpack 163 = .ok (.putfield 31, 3) := by decide +kernel
theorem dX8_unpack_166 : decode cX8_unpack 166 = .ok (.aload_n 0, 1) := by decide +kernel
theorem dX8_unpack_167 : decode cX8_unpack 167 = .ok (.lload 7, 2) := by decide +kernel
theorem dX8_unpack_169 : decode cX8_unpack 169 = .ok (.lconst 0, 1) := by decide +kernel
theorem dX8_unpack_170 : decode cX8_unpack 170 = .ok (.lcmp, 1) := by decide +kernel
theorem dX8_unpack_171 : decode cX8_unpack 171 = .ok (.ifCond .ne 13, 3) := by decide +kernel
theorem dX8_unpack_174 : decode cX8_unpack 174 = .ok (.iload 9, 2) := by decide +kernel
theorem dX8_unpack_176 : decode cX8_unpack 176 = .ok (.iconst 1, 1) := by decide +kernel
theorem dX8_unpack_177 : decode cX8_unpack 177 = .ok (.if_icmp .le 7, 3) := by decide +kernel
theorem dX8_unpack_180 : decode cX8_unpack 180 = .ok (.iconst 1, 1) := by decide +kernel
theorem dX8_unpack_181 : decode cX8_unpack 181 = .ok (.goto 4, 3) := by decide +kernel
theorem dX8_unpack_184 : decode cX8_unpack 184 = .ok (.iconst 0, 1) := by decide +kernel
theorem dX8_unpack_185 : decode cX8_unpack 185 = .ok (.putfield 35, 3) := by decide +kernel
theorem dX8_unpack_188 : decode cX8_unpack 188 = .ok (.return_, 1) := by decide +kernel
theorem dX8_isNumber_0 : decode cX8_isNumber 0 = .ok (.aload_n 0, 1) := by decide +kernel
theorem dX8_isNumber_1 : decode cX8_isNumber 1 = .ok (.getfield 41, 3) := by decide +kernel
theorem dX8_isNumber_4 : decode cX8_isNumber 4 = .ok (.iconst 3, 1) := by decide +kernel
theorem dX8_isNumber_5 : decode cX8_isNumber 5 = .ok (.if_icmp .ge 7, 3) := by decide +kernel
theorem dX8_isNumber_8 : decode cX8_isNumber 8 = .ok (.iconst 1, 1) := by decide +kernel
theorem dX8_isNumber_9 : decode cX8_isNumber 9 = .ok (.goto 4, 3) := by decide +kernel
theorem dX8_isNumber_12 : decode cX8_isNumber 12 = .ok (.iconst 0, 1) := by decide +kernel
theorem dX8_isNumber_13 : decode cX8_isNumber 13 = .ok (.ireturn, 1) := by decide +kernel
theorem dJ13_bitCount_95d88_0 : decode cJ13_bitCount_95d88 0 = .ok (.lload_n 0, 1) := by decide +kernel
theorem dJ13_bitCount_95d88_1 : decode cJ13_bitCount_95d88 1 = .ok (.lload_n 0, 1) := by decide +kernel
theorem dJ13_bitCount_95d88_2 : decode cJ13_bitCount_95d88 2 = .ok (.iconst 1, 1) := by decide +kernel
theorem dJ13_bitCount_95d88_3 : decode cJ13_bitCount_95d88 3 = .ok (.lushr, 1) := by decide +kernel
theorem dJ13_bitCount_95d88_4 : decode cJ13_bitCount_95d88 4 = .ok (.ldc2_w 314, 3) := by decide +kernel
theorem dJ13_bitCount_95d88_7 : decode cJ13_bitCount_95d88 7 = .ok (.land, 1) := by decide +kernel
theorem dJ13_bitCount_95d88_8 : decode cJ13_bitCount_95d88 8 = .ok (.lsub, 1) := by decide +kernel
theorem dJ13_bitCount_95d88_9 : decode cJ13_bitCount_95d88 9 = .ok (.lstore_n 0, 1) := by decide +kernel
theorem dJ13_bitCount_95d88_10 : decode cJ13_bitCount_95d88 10 = .ok (.lload_n 0, 1) := by decide +kernel
theorem dJ13_bitCount_95d88_11 : decode cJ13_bitCount_95d88 11 = .ok (.ldc2_w 316, 3) := by decide +kernel
theorem dJ13_bitCount_95d88_14 : decode cJ13_bitCount_95d88 14 = .ok (.land, 1) := by decide +kernel
theorem dJ13_bitCount_95d88_15 : decode cJ13_bitCount_95d88 15 = .ok (.lload_n 0, 1) := by decide +kernel
theorem dJ13_bitCount_95d88_16 : decode cJ13_bitCount_95d88 16 = .ok (.iconst 2, 1) := by decide +kernel
theorem dJ13_bitCount_95d88_17 : decode cJ13_bitCount_95d88 17 = .ok (.lushr, 1) := by decide +kernel
theorem dJ13_bitCount_95d88_18 : decode cJ13_bitCount_95d88 18 = .ok (.ldc2_w 316, 3) := by decide +kernel
theorem dJ13_bitCount_95d88_21 : decode cJ13_bitCount_95d88 21 = .ok (.land, 1) := by decide +kernel
theorem dJ13_bitCount_95d88_22 : decode cJ13_bitCount_95d88 22 = .ok (.ladd, 1) := by decide +kernel
theorem dJ13_bitCount_95d88_23 : decode cJ13_bitCount_95d88 23 = .ok (.lstore_n 0, 1) := by decide +kernel
theorem dJ13_bitCount_95d88_24 : decode cJ13_bitCount_95d88 24 = .ok (.lload_n 0, 1) := by decide +kernel
theorem dJ13_bitCount_95d88_25 : decode cJ13_bitCount_95d88 25 = .ok (.lload_n 0, 1) := by decide +kernel
theorem dJ13_bitCount_95d88_26 : decode cJ13_bitCount_95d88 26 = .ok (.iconst 4, 1) := by decide +kernel
theorem dJ13_bitCount_95d88_27 : decode cJ13_bitCount_95d88 27 = .ok (.lushr, 1) := by decide +kernel
theorem dJ13_bitCount_95d88_28 : decode cJ13_bitCount_95d88 28 = .ok (.ladd, 1) := by decide +kernel
theorem dJ13_bitCount_95d88_29 : decode cJ13_bitCount_95d88 29 = .ok (.ldc2_w 318, 3) := by decide +kernel
theorem dJ13_bitCount_95d88_32 : decode cJ13_bitCount_95d88 32 = .ok (.land, 1) := by decide +kernel
theorem dJ13_bitCount_95d88_33 : decode cJ13_bitCount_95d88 33 = .ok (.lstore_n 0, 1) := by decide +kernel
theorem dJ13_bitCount_95d88_34 : decode cJ13_bitCount_95d88 34 = .ok (.lload_n 0, 1) := by decide +kernel
theorem dJ13_bitCount_95d88_35 : decode cJ13_bitCount_95d88 35 = .ok (.lload_n 0, 1) := by decide +kernel
theorem dJ13_bitCount_95d88_36 : decode cJ13_bitCount_95d88 36 = .ok (.bipush 8, 2) := by decide +kernel
theorem dJ13_bitCount_95d88_38 : decode cJ13_bitCount_95d88 38 = .ok (.lushr, 1) := by decide +kernel
theorem dJ13_bitCount_95d88_39 : decode cJ13_bitCount_95d88 39 = .ok (.ladd, 1) := by decide +kernel
theorem dJ13_bitCount_95d88_40 : decode cJ13_bitCount_95d88 40 = .ok (.lstore_n 0, 1) := by decide +kernel
theorem dJ13_bitCount_95d88_41 : decode cJ13_bitCount_95d88 41 = .ok (.lload_n 0, 1) := by decide +kernel
theorem dJ13_bitCount_95d88_42 : decode cJ13_bitCount_95d88 42 = .ok (.lload_n 0, 1) := by decide +kernel
theorem dJ13_bitCount_95d88_43 : decode cJ13_bitCount_95d88 43 = .ok (.bipush 16, 2) := by decide +kernel
theorem dJ13_bitCount_95d88_45 : decode cJ13_bitCount_95d88 45 = .ok (.lushr, 1) := by decide +kernel
theorem dJ13_bitCount_95d88_46 : decode cJ13_bitCount_95d88 46 = .ok (.ladd, 1) := by decide +kernel
theorem dJ13_bitCount_95d88_47 : decode cJ13_bitCount_95d88 47 = .ok (.lstore_n 0, 1) := by decide +kernel
theorem dJ13_bitCount_95d88_48 : decode cJ13_bitCount_95d88 48 = .ok (.lload_n 0, 1) := by decide +kernel
theorem dJ13_bitCount_95d88_49 : decode cJ13_bitCount_95d88 49 = .ok (.lload_n 0, 1) := by decide +kernel
theorem dJ13_bitCount_95d88_50 : decode cJ13_bitCount_95d88 50 = .ok (.bipush 32, 2) := by decide +kernel
theorem dJ13_bitCount_95d88_52 : decode cJ13_bitCount_95d88 52 = .ok (.lushr, 1) := by decide +kernel
theorem dJ13_bitCount_95d88_53 : decode cJ13_bitCount_95d88 53 = .ok (.ladd, 1) := by decide +kernel
theorem dJ13_bitCount_95d88_54 : decode cJ13_bitCount_95d88 54 = .ok (.lstore_n 0, 1) := by decide +kernel
theorem dJ13_bitCount_95d88_55 : decode cJ13_bitCount_95d88 55 = .ok (.lload_n 0, 1) := by decide +kernel
theorem dJ13_bitCount_95d88_56 : decode cJ13_bitCount_95d88 56 = .ok (.l2i, 1) := by decide +kernel
theorem dJ13_bitCount_95d88_57 : decode cJ13_bitCount_95d88 57 = .ok (.bipush 127, 2) := by decide +kernel
theorem dJ13_bitCount_95d88_59 : decode cJ13_bitCount_95d88 59 = .ok (.iand, 1) := by decide +kernel
theorem dJ13_bitCount_95d88_60 : decode cJ13_bitCount_95d88 60 = .ok (.ireturn, 1) := by decide +kernel
theorem dX8_fitsLong_0 : decode cX8_fitsLong 0 = .ok (.aload_n 0, 1) := by decide +kernel
theorem dX8_fitsLong_1 : decode cX8_fitsLong 1 = .ok (.invokevirtual 53, 3) := by decide +kernel
theorem dX8_fitsLong_4 : decode cX8_fitsLong 4 = .ok (.ifCond .ne 5, 3) := by decide +kernel
theorem dX8_fitsLong_7 : decode cX8_fitsLong 7 = .ok (.iconst 0, 1) := by decide +kernel
theorem dX8_fitsLong_8 : decode cX8_fitsLong 8 = .ok (.ireturn, 1) := by decide +kernel
theorem dX8_fitsLong_9 : decode cX8_fitsLong 9 = .ok (.aload_n 0, 1) := by decide +kernel
theorem dX8_fitsLong_10 : decode cX8_fitsLong 10 = .ok (.getfield 21, 3) := by decide +kernel
theorem dX8_fitsLong_13 : decode cX8_fitsLong 13 = .ok (.ifCond .eq 32, 3) := by decide +kernel
theorem dX8_fitsLong_16 : decode cX8_fitsLong 16 = .ok (.aload_n 0, 1) := by decide +kernel
theorem dX8_fitsLong_17 : decode cX8_fitsLong 17 = .ok (.invokevirtual 57, 3) := by decide +kernel
theorem dX8_fitsLong_20 : decode cX8_fitsLong 20 = .ok (.aload_n 0, 1) := by decide +kernel
theorem dX8_fitsLong_21 : decode cX8_fitsLong 21 = .ok (.getfield 31, 3) := by decide +kernel
theorem dX8_fitsLong_24 : decode cX8_fitsLong 24 = .ok (.iadd, 1) := by decide +kernel
theorem dX8_fitsLong_25 : decode cX8_fitsLong 25 = .ok (.bipush 64, 2) := by decide +kernel
theorem dX8_fitsLong_27 : decode cX8_fitsLong 27 = .ok (.if_icmp .ne 18, 3) := by decide +kernel
theorem dX8_fitsLong_30 : decode cX8_fitsLong 30 = .ok (.aload_n 0, 1) := by decide +kernel
theorem dX8_fitsLong_31 : decode cX8_fitsLong 31 = .ok (.getfield 27, 3) := by decide +kernel
theorem dX8_fitsLong_34 : decode cX8_fitsLong 34 = .ok (.invokestatic 61, 3) := by decide +kernel
theorem dX8_fitsLong_37 : decode cX8_fitsLong 37 = .ok (.iconst 1, 1) := by decide +kernel
theorem dX8_fitsLong_38 : decode cX8_fitsLong 38 = .ok (.if_icmp .ne 7, 3) := by decide +kernel
theorem dX8_fitsLong_41 : decode cX8_fitsLong 41 = .ok (.iconst 1, 1) := by decide +kernel
theorem dX8_fitsLong_42 : decode cX8_fitsLong 42 = .ok (.goto 4, 3) := by decide +kernel
theorem dX8_fitsLong_45 : decode cX8_fitsLong 45 = .ok (.iconst 0, 1) := by decide +kernel
theorem dX8_fitsLong_46 : decode cX8_fitsLong 46 = .ok (.istore_n 1, 1) := by decide +kernel
theorem dX8_fitsLong_47 : decode cX8_fitsLong 47 = .ok (.aload_n 0, 1) := by decide +kernel
theorem dX8_fitsLong_48 : decode cX8_fitsLong 48 = .ok (.getfield 27, 3) := by decide +kernel
theorem dX8_fitsLong_51 : decode cX8_fitsLong 51 = .ok (.lconst 0, 1) := by decide +kernel
theorem dX8_fitsLong_52 : decode cX8_fitsLong 52 = .ok (.lcmp, 1) := by decide +kernel
theorem dX8_fitsLong_53 : decode cX8_fitsLong 53 = .ok (.ifCond .eq 21, 3) := by decide +kernel
theorem dX8_fitsLong_56 : decode cX8_fitsLong 56 = .ok (.aload_n 0, 1) := by decide +kernel
theorem dX8_fitsLong_57 : decode cX8_fitsLong 57 = .ok (.invokevirtual 57, 3) := by decide +kernel
theorem dX8_fitsLong_60 : decode cX8_fitsLong 60 = .ok (.aload_n 0, 1) := by decide +kernel
theorem dX8_fitsLong_61 : decode cX8_fitsLong 61 = .ok (.getfield 31, 3) := by decide +kernel
theorem dX8_fitsLong_64 : decode cX8_fitsLong 64 = .ok (.iadd, 1) := by decide +kernel
theorem dX8_fitsLong_65 : decode cX8_fitsLong 65 = .ok (.bipush 64, 2) := by decide +kernel
theorem dX8_fitsLong_67 : decode cX8_fitsLong 67 = .ok (.if_icmp .lt 7, 3) := by decide +kernel
theorem dX8_fitsLong_70 : decode cX8_fitsLong 70 = .ok (.iload_n 1, 1) := by decide +kernel
theorem dX8_fitsLong_71 : decode cX8_fitsLong 71 = .ok (.ifCond .eq 7, 3) := by decide +kernel
theorem dX8_fitsLong_74 : decode cX8_fitsLong 74 = .ok (.iconst 1, 1) := by decide +kernel
theorem dX8_fitsLong_75 : decode cX8_fitsLong 75 = .ok (.goto 4, 3) := by decide +kernel
theorem dX8_fitsLong_78 : decode cX8_fitsLong 78 = .ok (.iconst 0, 1) := by decide +kernel
theorem dX8_fitsLong_79 : decode cX8_fitsLong 79 = .ok (.ireturn, 1) := by decide +kernel
theorem dX8_asLong_0 : decode cX8_asLong 0 = .ok (.aload_n 0, 1) := by decide +kernel
theorem dX8_asLong_1 : decode cX8_asLong 1 = .ok (.getfield 31, 3) := by decide +kernel
theorem dX8_asLong_4 : decode cX8_asLong 4 = .ok (.ifCond .lt 16, 3) := by decide +kernel
theorem dX8_asLong_7 : decode cX8_asLong 7 = .ok (.aload_n 0, 1) := by decide +kernel
theorem dX8_asLong_8 : decode cX8_asLong 8 = .ok (.getfield 27, 3) := by decide +kernel
theorem dX8_asLong_11 : decode cX8_asLong 11 = .ok (.aload_n 0, 1) := by decide +kernel
theorem dX8_asLong_12 : decode cX8_asLong 12 = .ok (.getfield 31, 3) := by decide +kernel
theorem dX8_asLong_15 : decode cX8_asLong 15 = .ok (.lshl, 1) := by decide +kernel
theorem dX8_asLong_16 : decode cX8_asLong 16 = .ok (.lstore_n 2, 1) := by decide +kernel
theorem dX8_asLong_17 : decode cX8_asLong 17 = .ok (.goto 117, 3) := by decide +kernel
theorem dX8_asLong_20 : decode cX8_asLong 20 = .ok (.aload_n 0, 1) := by decide +kernel
theorem dX8_asLong_21 : decode cX8_asLong 21 = .ok (.getfield 31, 3) := by decide +kernel
theorem dX8_asLong_24 : decode cX8_asLong 24 = .ok (.ineg, 1) := by decide +kernel
theorem dX8_asLong_25 : decode cX8_asLong 25 = .ok (.bipush 62, 2) := by decide +kernel
theorem dX8_asLong_27 : decode cX8_asLong 27 = .ok (.invokestatic 64, 3) := by decide +kernel
theorem dX8_asLong_30 : decode cX8_asLong 30 = .ok (.istore 4, 2) := by decide +kernel
theorem dX8_asLong_32 : decode cX8_asLong 32 = .ok (.aload_n 0, 1) := by decide +kernel
theorem dX8_asLong_33 : decode cX8_asLong 33 = .ok (.getfield 27, 3) := by decide +kernel
theorem dX8_asLong_36 : decode cX8_asLong 36 = .ok (.lconst 1, 1) := by decide +kernel
theorem dX8_asLong_37 : decode cX8_asLong 37 = .ok (.iload 4, 2) := by decide +kernel
theorem dX8_asLong_39 : decode cX8_asLong 39 = .ok (.lshl, 1) := by decide +kernel
theorem dX8_asLong_40 : decode cX8_asLong 40 = .ok (.lconst 1, 1) := by decide +kernel
theorem dX8_asLong_41 : decode cX8_asLong 41 = .ok (.lsub, 1) := by decide +kernel
theorem dX8_asLong_42 : decode cX8_asLong 42 = .ok (.land, 1) := by decide +kernel
theorem dX8_asLong_43 : decode cX8_asLong 43 = .ok (.lstore 5, 2) := by decide +kernel
theorem dX8_asLong_45 : decode cX8_asLong 45 = .ok (.lconst 1, 1) := by decide +kernel
theorem dX8_asLong_46 : decode cX8_asLong 46 = .ok (.iload 4, 2) := by decide +kernel
theorem dX8_asLong_48 : decode cX8_asLong 48 = .ok (.iconst 1, 1) := by decide +kernel
theorem dX8_asLong_49 : decode cX8_asLong 49 = .ok (.isub, 1) := by decide +kernel
theorem dX8_asLong_50 : decode cX8_asLong 50 = .ok (.lshl, 1) := by decide +kernel
theorem dX8_asLong_51 : decode cX8_asLong 51 = .ok (.lstore 7, 2) := by decide +kernel
theorem dX8_asLong_53 : decode cX8_asLong 53 = .ok (.lload 5, 2) := by decide +kernel
theorem dX8_asLong_55 : decode cX8_asLong 55 = .ok (.lload 7, 2) := by decide +kernel
theorem dX8_asLong_57 : decode cX8_asLong 57 = .ok (.lcmp, 1) := by decide +kernel
theorem dX8_asLong_58 : decode cX8_asLong 58 = .ok (.ifCond .lt 7, 3) := by decide +kernel
theorem dX8_asLong_61 : decode cX8_asLong 61 = .ok (.iconst 1, 1) := by decide +kernel
theorem dX8_asLong_62 : decode cX8_asLong 62 = .ok (.goto 4, 3) := by decide +kernel
theorem dX8_asLong_65 : decode cX8_asLong 65 = .ok (.iconst 0, 1) := by decide +kernel
theorem dX8_asLong_66 : decode cX8_asLong 66 = .ok (.istore 9, 2) := by decide +kernel
theorem dX8_asLong_68 : decode cX8_asLong 68 = .ok (.lload 5, 2) := by decide +kernel
theorem dX8_asLong_70 : decode cX8_asLong 70 = .ok (.lconst 0, 1) := by decide +kernel
theorem dX8_asLong_71 : decode cX8_asLong 71 = .ok (.lcmp, 1) := by decide +kernel
theorem dX8_asLong_72 : decode cX8_asLong 72 = .ok (.ifCond .eq 15, 3) := by decide +kernel
theorem dX8_asLong_75 : decode cX8_asLong 75 = .ok (.lload 5, 2) := by decide +kernel
theorem dX8_asLong_77 : decode cX8_asLong 77 = .ok (.lload 7, 2) := by decide +kernel
theorem dX8_asLong_79 : decode cX8_asLong 79 = .ok (.lcmp, 1) := by decide +kernel
theorem dX8_asLong_80 : decode cX8_asLong 80 = .ok (.ifCond .eq 7, 3) := by decide +kernel
theorem dX8_asLong_83 : decode cX8_asLong 83 = .ok (.iconst 1, 1) := by decide +kernel
theorem dX8_asLong_84 : decode cX8_asLong 84 = .ok (.goto 4, 3) := by decide +kernel
theorem dX8_asLong_87 : decode cX8_asLong 87 = .ok (.iconst 0, 1) := by decide +kernel
theorem dX8_asLong_88 : decode cX8_asLong 88 = .ok (.istore 10, 2) := by decide +kernel
theorem dX8_asLong_90 : decode cX8_asLong 90 = .ok (.aload_n 0, 1) := by decide +kernel
theorem dX8_asLong_91 : decode cX8_asLong 91 = .ok (.getfield 27, 3) := by decide +kernel
theorem dX8_asLong_94 : decode cX8_asLong 94 = .ok (.iload 4, 2) := by decide +kernel
theorem dX8_asLong_96 : decode cX8_asLong 96 = .ok (.lushr, 1) := by decide +kernel
theorem dX8_asLong_97 : decode cX8_asLong 97 = .ok (.lstore_n 2, 1) := by decide +kernel
theorem dX8_asLong_98 : decode cX8_asLong 98 = .ok (.lload_n 2, 1) := by decide +kernel
theorem dX8_asLong_99 : decode cX8_asLong 99 = .ok (.iload_n 1, 1) := by decide +kernel
theorem dX8_asLong_100 : decode cX8_asLong 100 = .ok (.aload_n 0, 1) := by decide +kernel
theorem dX8_asLong_101 : decode cX8_asLong 101 = .ok (.getfield 21, 3) := by decide +kernel
theorem dX8_asLong_104 : decode cX8_asLong 104 = .ok (.lload_n 2, 1) := by decide +kernel
theorem dX8_asLong_105 : decode cX8_asLong 105 = .ok (.lconst 1, 1) := by decide +kernel
theorem dX8_asLong_106 : decode cX8_asLong 106 = .ok (.land, 1) := by decide +kernel
theorem dX8_asLong_107 : decode cX8_asLong 107 = .ok (.lconst 0, 1) := by decide +kernel
theorem dX8_asLong_108 : decode cX8_asLong 108 = .ok (.lcmp, 1) := by decide +kernel
theorem dX8_asLong_109 : decode cX8_asLong 109 = .ok (.ifCond .eq 7, 3) := by decide +kernel
theorem dX8_asLong_112 : decode cX8_asLong 112 = .ok (.iconst 1, 1) := by decide +kernel
theorem dX8_asLong_113 : decode cX8_asLong 113 = .ok (.goto 4, 3) := by decide +kernel
theorem dX8_asLong_116 : decode cX8_asLong 116 = .ok (.iconst 0, 1) := by decide +kernel
theorem dX8_asLong_117 : decode cX8_asLong 117 = .ok (.iload 9, 2) := by decide +kernel
theorem dX8_asLong_119 : decode cX8_asLong 119 = .ok (.iload 10, 2) := by decide +kernel
theorem dX8_asLong_121 : decode cX8_asLong 121 = .ok (.invokestatic 70, 3) := by decide +kernel
theorem dX8_asLong_124 : decode cX8_asLong 124 = .ok (.ifCond .eq 7, 3) := by decide +kernel
theorem dX8_asLong_127 : decode cX8_asLong 127 = .ok (.lconst 1, 1) := by decide +kernel
theorem dX8_asLong_128 : decode cX8_asLong 128 = .ok (.goto 4, 3) := by decide +kernel
theorem dX8_asLong_131 : decode cX8_asLong 131 = .ok (.lconst 0, 1) := by decide +kernel
theorem dX8_asLong_132 : decode cX8_asLong 132 = .ok (.ladd, 1) := by decide +kernel
theorem dX8_asLong_133 : decode cX8_asLong 133 = .ok (.lstore_n 2, 1) := by decide +kernel
theorem dX8_asLong_134 : decode cX8_asLong 134 = .ok (.aload_n 0, 1) := by decide +kernel
theorem dX8_asLong_135 : decode cX8_asLong 135 = .ok (.getfield 21, 3) := by decide +kernel
theorem dX8_asLong_138 : decode cX8_asLong 138 = .ok (.ifCond .eq 8, 3) := by decide +kernel
theorem dX8_asLong_141 : decode cX8_asLong 141 = .ok (.lload_n 2, 1) := by decide +kernel
theorem dX8_asLong_142 : decode cX8_asLong 142 = .ok (.lneg, 1) := by decide +kernel
theorem dX8_asLong_143 : decode cX8_asLong 143 = .ok (.goto 4, 3) := by decide +kernel
theorem dX8_asLong_146 : decode cX8_asLong 146 = .ok (.lload_n 2, 1) := by decide +kernel
theorem dX8_asLong_147 : decode cX8_asLong 147 = .ok (.lreturn, 1) := by decide +kernel
theorem dX8_side_0 : decode cX8_side 0 = .ok (.aload_n 0, 1) := by decide +kernel
theorem dX8_side_1 : decode cX8_side 1 = .ok (.getfield 41, 3) := by decide +kernel
theorem dX8_side_4 : decode cX8_side 4 = .ok (.ifCond .ne 5, 3) := by decide +kernel
theorem dX8_side_7 : decode cX8_side 7 = .ok (.iconst 0, 1) := by decide +kernel
theorem dX8_side_8 : decode cX8_side 8 = .ok (.ireturn, 1) := by decide +kernel
theorem dX8_side_9 : decode cX8_side 9 = .ok (.aload_n 0, 1) := by decide +kernel
theorem dX8_side_10 : decode cX8_side 10 = .ok (.getfield 21, 3) := by decide +kernel
theorem dX8_side_13 : decode cX8_side 13 = .ok (.ifCond .eq 7, 3) := by decide +kernel
theorem dX8_side_16 : decode cX8_side 16 = .ok (.iconst (-1), 1) := by decide +kernel
theorem dX8_side_17 : decode cX8_side 17 = .ok (.goto 4, 3) := by decide +kernel
theorem dX8_side_20 : decode cX8_side 20 = .ok (.iconst 1, 1) := by decide +kernel
theorem dX8_side_21 : decode cX8_side 21 = .ok (.ireturn, 1) := by decide +kernel
theorem dJ13_compare_74951_0 : decode cJ13_compare_74951 0 = .ok (.lload_n 0, 1) := by decide +kernel
theorem dJ13_compare_74951_1 : decode cJ13_compare_74951 1 = .ok (.lload_n 2, 1) := by decide +kernel
theorem dJ13_compare_74951_2 : decode cJ13_compare_74951 2 = .ok (.lcmp, 1) := by decide +kernel
theorem dJ13_compare_74951_3 : decode cJ13_compare_74951 3 = .ok (.ifCond .ge 7, 3) := by decide +kernel
theorem dJ13_compare_74951_6 : decode cJ13_compare_74951 6 = .ok (.iconst (-1), 1) := by decide +kernel
theorem dJ13_compare_74951_7 : decode cJ13_compare_74951 7 = .ok (.goto 14, 3) := by decide +kernel
theorem dJ13_compare_74951_10 : decode cJ13_compare_74951 10 = .ok (.lload_n 0, 1) := by decide +kernel
theorem dJ13_compare_74951_11 : decode cJ13_compare_74951 11 = .ok (.lload_n 2, 1) := by decide +kernel
theorem dJ13_compare_74951_12 : decode cJ13_compare_74951 12 = .ok (.lcmp, 1) := by decide +kernel
theorem dJ13_compare_74951_13 : decode cJ13_compare_74951 13 = .ok (.ifCond .ne 7, 3) := by decide +kernel
theorem dJ13_compare_74951_16 : decode cJ13_compare_74951 16 = .ok (.iconst 0, 1) := by decide +kernel
theorem dJ13_compare_74951_17 : decode cJ13_compare_74951 17 = .ok (.goto 4, 3) := by decide +kernel
theorem dJ13_compare_74951_20 : decode cJ13_compare_74951 20 = .ok (.iconst 1, 1) := by decide +kernel
theorem dJ13_compare_74951_21 : decode cJ13_compare_74951 21 = .ok (.ireturn, 1) := by decide +kernel
theorem dJ6_compare_7cf53_0 : decode cJ6_compare_7cf53 0 = .ok (.iload_n 0, 1) := by decide +kernel
theorem dJ6_compare_7cf53_1 : decode cJ6_compare_7cf53 1 = .ok (.iload_n 1, 1) := by decide +kernel
theorem dJ6_compare_7cf53_2 : decode cJ6_compare_7cf53 2 = .ok (.if_icmp .ge 7, 3) := by decide +kernel
theorem dJ6_compare_7cf53_5 : decode cJ6_compare_7cf53 5 = .ok (.iconst (-1), 1) := by decide +kernel
theorem dJ6_compare_7cf53_6 : decode cJ6_compare_7cf53 6 = .ok (.goto 13, 3) := by decide +kernel
theorem dJ6_compare_7cf53_9 : decode cJ6_compare_7cf53 9 = .ok (.iload_n 0, 1) := by decide +kernel
theorem dJ6_compare_7cf53_10 : decode cJ6_compare_7cf53 10 = .ok (.iload_n 1, 1) := by decide +kernel
theorem dJ6_compare_7cf53_11 : decode cJ6_compare_7cf53 11 = .ok (.if_icmp .ne 7, 3) := by decide +kernel
theorem dJ6_compare_7cf53_14 : decode cJ6_compare_7cf53 14 = .ok (.iconst 0, 1) := by decide +kernel
theorem dJ6_compare_7cf53_15 : decode cJ6_compare_7cf53 15 = .ok (.goto 4, 3) := by decide +kernel
theorem dJ6_compare_7cf53_18 : decode cJ6_compare_7cf53 18 = .ok (.iconst 1, 1) := by decide +kernel
theorem dJ6_compare_7cf53_19 : decode cJ6_compare_7cf53 19 = .ok (.ireturn, 1) := by decide +kernel
theorem dX8_comparedSizes_0 : decode cX8_comparedSizes 0 = .ok (.aload_n 0, 1) := by decide +kernel
theorem dX8_comparedSizes_1 : decode cX8_comparedSizes 1 = .ok (.getfield 41, 3) := by decide +kernel
theorem dX8_comparedSizes_4 : decode cX8_comparedSizes 4 = .ok (.iconst 3, 1) := by decide +kernel
theorem dX8_comparedSizes_5 : decode cX8_comparedSizes 5 = .ok (.if_icmp .eq 11, 3) := by decide +kernel
theorem dX8_comparedSizes_8 : decode cX8_comparedSizes 8 = .ok (.aload_n 1, 1) := by decide +kernel
theorem dX8_comparedSizes_9 : decode cX8_comparedSizes 9 = .ok (.getfield 41, 3) := by decide +kernel
theorem dX8_comparedSizes_12 : decode cX8_comparedSizes 12 = .ok (.iconst 3, 1) := by decide +kernel
theorem dX8_comparedSizes_13 : decode cX8_comparedSizes 13 = .ok (.if_icmp .ne 33, 3) := by decide +kernel
theorem dX8_comparedSizes_16 : decode cX8_comparedSizes 16 = .ok (.aload_n 0, 1) := by decide +kernel
theorem dX8_comparedSizes_17 : decode cX8_comparedSizes 17 = .ok (.getfield 41, 3) := by decide +kernel
theorem dX8_comparedSizes_20 : decode cX8_comparedSizes 20 = .ok (.iconst 3, 1) := by decide +kernel
theorem dX8_comparedSizes_21 : decode cX8_comparedSizes 21 = .ok (.if_icmp .ne 7, 3) := by decide +kernel
theorem dX8_comparedSizes_24 : decode cX8_comparedSizes 24 = .ok (.iconst 1, 1) := by decide +kernel
theorem dX8_comparedSizes_25 : decode cX8_comparedSizes 25 = .ok (.goto 4, 3) := by decide +kernel
theorem dX8_comparedSizes_28 : decode cX8_comparedSizes 28 = .ok (.iconst 0, 1) := by decide +kernel
theorem dX8_comparedSizes_29 : decode cX8_comparedSizes 29 = .ok (.aload_n 1, 1) := by decide +kernel
theorem dX8_comparedSizes_30 : decode cX8_comparedSizes 30 = .ok (.getfield 41, 3) := by decide +kernel
theorem dX8_comparedSizes_33 : decode cX8_comparedSizes 33 = .ok (.iconst 3, 1) := by decide +kernel
theorem dX8_comparedSizes_34 : decode cX8_comparedSizes 34 = .ok (.if_icmp .ne 7, 3) := by decide +kernel
theorem dX8_comparedSizes_37 : decode cX8_comparedSizes 37 = .ok (.iconst 1, 1) := by decide +kernel
theorem dX8_comparedSizes_38 : decode cX8_comparedSizes 38 = .ok (.goto 4, 3) := by decide +kernel
theorem dX8_comparedSizes_41 : decode cX8_comparedSizes 41 = .ok (.iconst 0, 1) := by decide +kernel
theorem dX8_comparedSizes_42 : decode cX8_comparedSizes 42 = .ok (.invokestatic 81, 3) := by decide +kernel
theorem dX8_comparedSizes_45 : decode cX8_comparedSizes 45 = .ok (.ireturn, 1) := by decide +kernel
theorem dX8_comparedSizes_46 : decode cX8_comparedSizes 46 = .ok (.aload_n 0, 1) := by decide +kernel
theorem dX8_comparedSizes_47 : decode cX8_comparedSizes 47 = .ok (.invokevirtual 57, 3) := by decide +kernel
theorem dX8_comparedSizes_50 : decode cX8_comparedSizes 50 = .ok (.aload_n 0, 1) := by decide +kernel
theorem dX8_comparedSizes_51 : decode cX8_comparedSizes 51 = .ok (.getfield 31, 3) := by decide +kernel
theorem dX8_comparedSizes_54 : decode cX8_comparedSizes 54 = .ok (.iadd, 1) := by decide +kernel
theorem dX8_comparedSizes_55 : decode cX8_comparedSizes 55 = .ok (.istore_n 2, 1) := by decide +kernel
theorem dX8_comparedSizes_56 : decode cX8_comparedSizes 56 = .ok (.aload_n 1, 1) := by decide +kernel
theorem dX8_comparedSizes_57 : decode cX8_comparedSizes 57 = .ok (.invokevirtual 57, 3) := by decide +kernel
theorem dX8_comparedSizes_60 : decode cX8_comparedSizes 60 = .ok (.aload_n 1, 1) := by decide +kernel
theorem dX8_comparedSizes_61 : decode cX8_comparedSizes 61 = .ok (.getfield 31, 3) := by decide +kernel
theorem dX8_comparedSizes_64 : decode cX8_comparedSizes 64 = .ok (.iadd, 1) := by decide +kernel
theorem dX8_comparedSizes_65 : decode cX8_comparedSizes 65 = .ok (.istore_n 3, 1) := by decide +kernel
theorem dX8_comparedSizes_66 : decode cX8_comparedSizes 66 = .ok (.iload_n 2, 1) := by decide +kernel
theorem dX8_comparedSizes_67 : decode cX8_comparedSizes 67 = .ok (.iload_n 3, 1) := by decide +kernel
theorem dX8_comparedSizes_68 : decode cX8_comparedSizes 68 = .ok (.if_icmp .eq 14, 3) := by decide +kernel
theorem dX8_comparedSizes_71 : decode cX8_comparedSizes 71 = .ok (.iload_n 2, 1) := by decide +kernel
theorem dX8_comparedSizes_72 : decode cX8_comparedSizes 72 = .ok (.iload_n 3, 1) := by decide +kernel
theorem dX8_comparedSizes_73 : decode cX8_comparedSizes 73 = .ok (.if_icmp .ge 7, 3) := by decide +kernel
theorem dX8_comparedSizes_76 : decode cX8_comparedSizes 76 = .ok (.iconst (-1), 1) := by decide +kernel
theorem dX8_comparedSizes_77 : decode cX8_comparedSizes 77 = .ok (.goto 4, 3) := by decide +kernel
theorem dX8_comparedSizes_80 : decode cX8_comparedSizes 80 = .ok (.iconst 1, 1) := by decide +kernel
theorem dX8_comparedSizes_81 : decode cX8_comparedSizes 81 = .ok (.ireturn, 1) := by decide +kernel
theorem dX8_comparedSizes_82 : decode cX8_comparedSizes 82 = .ok (.aload_n 0, 1) := by decide +kernel
theorem dX8_comparedSizes_83 : decode cX8_comparedSizes 83 = .ok (.getfield 27, 3) := by decide +kernel
theorem dX8_comparedSizes_86 : decode cX8_comparedSizes 86 = .ok (.bipush 63, 2) := by decide +kernel
theorem dX8_comparedSizes_88 : decode cX8_comparedSizes 88 = .ok (.aload_n 0, 1) := by decide +kernel
theorem dX8_comparedSizes_89 : decode cX8_comparedSizes 89 = .ok (.invokevirtual 57, 3) := by decide +kernel
theorem dX8_comparedSizes_92 : decode cX8_comparedSizes 92 = .ok (.isub, 1) := by decide +kernel
theorem dX8_comparedSizes_93 : decode cX8_comparedSizes 93 = .ok (.lshl, 1) := by decide +kernel
theorem dX8_comparedSizes_94 : decode cX8_comparedSizes 94 = .ok (.aload_n 1, 1) := by decide +kernel
theorem dX8_comparedSizes_95 : decode cX8_comparedSizes 95 = .ok (.getfield 27, 3) := by decide +kernel
theorem dX8_comparedSizes_98 : decode cX8_comparedSizes 98 = .ok (.bipush 63, 2) := by decide +kernel
theorem dX8_comparedSizes_100 : decode cX8_comparedSizes 100 = .ok (.aload_n 1, 1) := by decide +kernel
theorem dX8_comparedSizes_101 : decode cX8_comparedSizes 101 = .ok (.invokevirtual 57, 3) := by decide +kernel
theorem dX8_comparedSizes_104 : decode cX8_comparedSizes 104 = .ok (.isub, 1) := by decide +kernel
theorem dX8_comparedSizes_105 : decode cX8_comparedSizes 105 = .ok (.lshl, 1) := by decide +kernel
theorem dX8_comparedSizes_106 : decode cX8_comparedSizes 106 = .ok (.invokestatic 86, 3) := by decide +kernel
theorem dX8_comparedSizes_109 : decode cX8_comparedSizes 109 = .ok (.ireturn, 1) := by decide +kernel
theorem dX8_compared_0 : decode cX8_compared 0 = .ok (.aload_n 0, 1) := by decide +kernel
theorem dX8_compared_1 : decode cX8_compared 1 = .ok (.getfield 41, 3) := by decide +kernel
theorem dX8_compared_4 : decode cX8_compared 4 = .ok (.iconst 4, 1) := by decide +kernel
theorem dX8_compared_5 : decode cX8_compared 5 = .ok (.if_icmp .eq 11, 3) := by decide +kernel
theorem dX8_compared_8 : decode cX8_compared 8 = .ok (.aload_n 1, 1) := by decide +kernel
theorem dX8_compared_9 : decode cX8_compared 9 = .ok (.getfield 41, 3) := by decide +kernel
theorem dX8_compared_12 : decode cX8_compared 12 = .ok (.iconst 4, 1) := by decide +kernel
theorem dX8_compared_13 : decode cX8_compared 13 = .ok (.if_icmp .ne 5, 3) := by decide +kernel
theorem dX8_compared_16 : decode cX8_compared 16 = .ok (.iconst 2, 1) := by decide +kernel
theorem dX8_compared_17 : decode cX8_compared 17 = .ok (.ireturn, 1) := by decide +kernel
theorem dX8_compared_18 : decode cX8_compared 18 = .ok (.aload_n 0, 1) := by decide +kernel
theorem dX8_compared_19 : decode cX8_compared 19 = .ok (.invokevirtual 74, 3) := by decide +kernel
theorem dX8_compared_22 : decode cX8_compared 22 = .ok (.aload_n 1, 1) := by decide +kernel
theorem dX8_compared_23 : decode cX8_compared 23 = .ok (.invokevirtual 74, 3) := by decide +kernel
theorem dX8_compared_26 : decode cX8_compared 26 = .ok (.if_icmp .eq 20, 3) := by decide +kernel
theorem dX8_compared_29 : decode cX8_compared 29 = .ok (.aload_n 0, 1) := by decide +kernel
theorem dX8_compared_30 : decode cX8_compared 30 = .ok (.invokevirtual 74, 3) := by decide +kernel
theorem dX8_compared_33 : decode cX8_compared 33 = .ok (.aload_n 1, 1) := by decide +kernel
theorem dX8_compared_34 : decode cX8_compared 34 = .ok (.invokevirtual 74, 3) := by decide +kernel
theorem dX8_compared_37 : decode cX8_compared 37 = .ok (.if_icmp .ge 7, 3) := by decide +kernel
theorem dX8_compared_40 : decode cX8_compared 40 = .ok (.iconst (-1), 1) := by decide +kernel
theorem dX8_compared_41 : decode cX8_compared 41 = .ok (.goto 4, 3) := by decide +kernel
theorem dX8_compared_44 : decode cX8_compared 44 = .ok (.iconst 1, 1) := by decide +kernel
theorem dX8_compared_45 : decode cX8_compared 45 = .ok (.ireturn, 1) := by decide +kernel
theorem dX8_compared_46 : decode cX8_compared 46 = .ok (.aload_n 0, 1) := by decide +kernel
theorem dX8_compared_47 : decode cX8_compared 47 = .ok (.invokevirtual 74, 3) := by decide +kernel
theorem dX8_compared_50 : decode cX8_compared 50 = .ok (.aload_n 0, 1) := by decide +kernel
theorem dX8_compared_51 : decode cX8_compared 51 = .ok (.aload_n 1, 1) := by decide +kernel
theorem dX8_compared_52 : decode cX8_compared 52 = .ok (.invokestatic 77, 3) := by decide +kernel
theorem dX8_compared_55 : decode cX8_compared 55 = .ok (.imul, 1) := by decide +kernel
theorem dX8_compared_56 : decode cX8_compared 56 = .ok (.ireturn, 1) := by decide +kernel
theorem dX9_needFormat_0 : decode cX9_needFormat 0 = .ok (.iload_n 0, 1) := by decide +kernel
theorem dX9_needFormat_1 : decode cX9_needFormat 1 = .ok (.ifCond .eq 18, 3) := by decide +kernel
theorem dX9_needFormat_4 : decode cX9_needFormat 4 = .ok (.iload_n 0, 1) := by decide +kernel
theorem dX9_needFormat_5 : decode cX9_needFormat 5 = .ok (.iconst 1, 1) := by decide +kernel
theorem dX9_needFormat_6 : decode cX9_needFormat 6 = .ok (.if_icmp .eq 13, 3) := by decide +kernel
theorem dX9_needFormat_9 : decode cX9_needFormat 9 = .ok (.new 89, 3) := by decide +kernel
theorem dX9_needFormat_12 : decode cX9_needFormat 12 = .ok (.dup, 1) := by decide +kernel
theorem dX9_needFormat_13 : decode cX9_needFormat 13 = .ok (.ldc 202, 2) := by decide +kernel
theorem dX9_needFormat_15 : decode cX9_needFormat 15 = .ok (.invokespecial 93, 3) := by decide +kernel
theorem dX9_needFormat_18 : decode cX9_needFormat 18 = .ok (.athrow, 1) := by decide +kernel
theorem dX9_needFormat_19 : decode cX9_needFormat 19 = .ok (.return_, 1) := by decide +kernel
theorem dX9_needPlace_0 : decode cX9_needPlace 0 = .ok (.iload_n 0, 1) := by decide +kernel
theorem dX9_needPlace_1 : decode cX9_needPlace 1 = .ok (.ifCond .lt 9, 3) := by decide +kernel
theorem dX9_needPlace_4 : decode cX9_needPlace 4 = .ok (.iload_n 0, 1) := by decide +kernel
theorem dX9_needPlace_5 : decode cX9_needPlace 5 = .ok (.bipush 16, 2) := by decide +kernel
theorem dX9_needPlace_7 : decode cX9_needPlace 7 = .ok (.if_icmp .lt 13, 3) := by decide +kernel
theorem dX9_needPlace_10 : decode cX9_needPlace 10 = .ok (.new 197, 3) := by decide +kernel
theorem dX9_needPlace_13 : decode cX9_needPlace 13 = .ok (.dup, 1) := by decide +kernel
theorem dX9_needPlace_14 : decode cX9_needPlace 14 = .ok (.ldc 199, 2) := by decide +kernel
theorem dX9_needPlace_16 : decode cX9_needPlace 16 = .ok (.invokespecial 201, 3) := by decide +kernel
theorem dX9_needPlace_19 : decode cX9_needPlace 19 = .ok (.athrow, 1) := by decide +kernel
theorem dX9_needPlace_20 : decode cX9_needPlace 20 = .ok (.return_, 1) := by decide +kernel
theorem dX9_put_0 : decode cX9_put 0 = .ok (.aload_n 0, 1) := by decide +kernel
theorem dX9_put_1 : decode cX9_put 1 = .ok (.getfield 9, 3) := by decide +kernel
theorem dX9_put_4 : decode cX9_put 4 = .ok (.iload_n 1, 1) := by decide +kernel
theorem dX9_put_5 : decode cX9_put 5 = .ok (.iload_n 2, 1) := by decide +kernel
theorem dX9_put_6 : decode cX9_put 6 = .ok (.iastore, 1) := by decide +kernel
theorem dX9_put_7 : decode cX9_put 7 = .ok (.aload_n 0, 1) := by decide +kernel
theorem dX9_put_8 : decode cX9_put 8 = .ok (.getfield 13, 3) := by decide +kernel
theorem dX9_put_11 : decode cX9_put 11 = .ok (.iload_n 1, 1) := by decide +kernel
theorem dX9_put_12 : decode cX9_put 12 = .ok (.lload_n 3, 1) := by decide +kernel
theorem dX9_put_13 : decode cX9_put 13 = .ok (.lastore, 1) := by decide +kernel
theorem dX9_put_14 : decode cX9_put 14 = .ok (.return_, 1) := by decide +kernel
theorem dX9_set_0 : decode cX9_set 0 = .ok (.iload_n 1, 1) := by decide +kernel
theorem dX9_set_1 : decode cX9_set 1 = .ok (.invokestatic 61, 3) := by decide +kernel
theorem dX9_set_4 : decode cX9_set 4 = .ok (.iload_n 2, 1) := by decide +kernel
theorem dX9_set_5 : decode cX9_set 5 = .ok (.invokestatic 65, 3) := by decide +kernel
theorem dX9_set_8 : decode cX9_set 8 = .ok (.aload_n 0, 1) := by decide +kernel
theorem dX9_set_9 : decode cX9_set 9 = .ok (.iload_n 1, 1) := by decide +kernel
theorem dX9_set_10 : decode cX9_set 10 = .ok (.iload_n 2, 1) := by decide +kernel
theorem dX9_set_11 : decode cX9_set 11 = .ok (.iload_n 2, 1) := by decide +kernel
theorem dX9_set_12 : decode cX9_set 12 = .ok (.ifCond .ne 11, 3) := by decide +kernel
theorem dX9_set_15 : decode cX9_set 15 = .ok (.lload_n 3, 1) := by decide +kernel
theorem dX9_set_16 : decode cX9_set 16 = .ok (.ldc2_w 68, 3) := by decide +kernel
theorem dX9_set_19 : decode cX9_set 19 = .ok (.land, 1) := by decide +kernel
theorem dX9_set_20 : decode cX9_set 20 = .ok (.goto 4, 3) := by decide +kernel
theorem dX9_set_23 : decode cX9_set 23 = .ok (.lload_n 3, 1) := by decide +kernel
theorem dX9_set_24 : decode cX9_set 24 = .ok (.invokevirtual 70, 3) := by decide +kernel
theorem dX9_set_27 : decode cX9_set 27 = .ok (.return_, 1) := by decide +kernel
theorem dX9_pattern_0 : decode cX9_pattern 0 = .ok (.iload_n 1, 1) := by decide +kernel
theorem dX9_pattern_1 : decode cX9_pattern 1 = .ok (.invokestatic 61, 3) := by decide +kernel
theorem dX9_pattern_4 : decode cX9_pattern 4 = .ok (.aload_n 0, 1) := by decide +kernel
theorem dX9_pattern_5 : decode cX9_pattern 5 = .ok (.getfield 13, 3) := by decide +kernel
theorem dX9_pattern_8 : decode cX9_pattern 8 = .ok (.iload_n 1, 1) := by decide +kernel
theorem dX9_pattern_9 : decode cX9_pattern 9 = .ok (.laload, 1) := by decide +kernel
theorem dX9_pattern_10 : decode cX9_pattern 10 = .ok (.lreturn, 1) := by decide +kernel
theorem dX9_look_0 : decode cX9_look 0 = .ok (.aload_n 2, 1) := by decide +kernel
theorem dX9_look_1 : decode cX9_look 1 = .ok (.aload_n 0, 1) := by decide +kernel
theorem dX9_look_2 : decode cX9_look 2 = .ok (.getfield 9, 3) := by decide +kernel
theorem dX9_look_5 : decode cX9_look 5 = .ok (.iload_n 1, 1) := by decide +kernel
theorem dX9_look_6 : decode cX9_look 6 = .ok (.iaload, 1) := by decide +kernel
theorem dX9_look_7 : decode cX9_look 7 = .ok (.aload_n 0, 1) := by decide +kernel
theorem dX9_look_8 : decode cX9_look 8 = .ok (.getfield 13, 3) := by decide +kernel
theorem dX9_look_11 : decode cX9_look 11 = .ok (.iload_n 1, 1) := by decide +kernel
theorem dX9_look_12 : decode cX9_look 12 = .ok (.laload, 1) := by decide +kernel
theorem dX9_look_13 : decode cX9_look 13 = .ok (.invokevirtual 210, 3) := by decide +kernel
theorem dX9_look_16 : decode cX9_look 16 = .ok (.return_, 1) := by decide +kernel
theorem dX9_told_0 : decode cX9_told 0 = .ok (.iload_n 1, 1) := by decide +kernel
theorem dX9_told_1 : decode cX9_told 1 = .ok (.invokestatic 61, 3) := by decide +kernel
theorem dX9_told_4 : decode cX9_told 4 = .ok (.aload_n 0, 1) := by decide +kernel
theorem dX9_told_5 : decode cX9_told 5 = .ok (.iload_n 1, 1) := by decide +kernel
theorem dX9_told_6 : decode cX9_told 6 = .ok (.aload_n 0, 1) := by decide +kernel
theorem dX9_told_7 : decode cX9_told 7 = .ok (.getfield 20, 3) := by decide +kernel
theorem dX9_told_10 : decode cX9_told 10 = .ok (.invokevirtual 74, 3) := by decide +kernel
theorem dX9_told_13 : decode cX9_told 13 = .ok (.iload_n 2, 1) := by decide +kernel
theorem dX9_told_14 : decode cX9_told 14 = .ok (.tableswitch 69 0 3 #[30, 37, 45, 61], 30) := by decide +kernel
theorem dX9_told_44 : decode cX9_told 44 = .ok (.aload_n 0, 1) := by decide +kernel
theorem dX9_told_45 : decode cX9_told 45 = .ok (.getfield 9, 3) := by decide +kernel
theorem dX9_told_48 : decode cX9_told 48 = .ok (.iload_n 1, 1) := by decide +kernel
theorem dX9_told_49 : decode cX9_told 49 = .ok (.iaload, 1) := by decide +kernel
theorem dX9_told_50 : decode cX9_told 50 = .ok (.ireturn, 1) := by decide +kernel
theorem dX9_told_51 : decode cX9_told 51 = .ok (.aload_n 0, 1) := by decide +kernel
theorem dX9_told_52 : decode cX9_told 52 = .ok (.getfield 20, 3) := by decide +kernel
theorem dX9_told_55 : decode cX9_told 55 = .ok (.getfield 78, 3) := by decide +kernel
theorem dX9_told_58 : decode cX9_told 58 = .ok (.ireturn, 1) := by decide +kernel
theorem dX9_told_59 : decode cX9_told 59 = .ok (.aload_n 0, 1) := by decide +kernel
theorem dX9_told_60 : decode cX9_told 60 = .ok (.getfield 20, 3) := by decide +kernel
theorem dX9_told_63 : decode cX9_told 63 = .ok (.getfield 82, 3) := by decide +kernel
theorem dX9_told_66 : decode cX9_told 66 = .ok (.ifCond .eq 7, 3) := by decide +kernel
theorem dX9_told_69 : decode cX9_told 69 = .ok (.iconst 1, 1) := by decide +kernel
theorem dX9_told_70 : decode cX9_told 70 = .ok (.goto 4, 3) := by decide +kernel
theorem dX9_told_73 : decode cX9_told 73 = .ok (.iconst 0, 1) := by decide +kernel
theorem dX9_told_74 : decode cX9_told 74 = .ok (.ireturn, 1) := by decide +kernel
theorem dX9_told_75 : decode cX9_told 75 = .ok (.aload_n 0, 1) := by decide +kernel
theorem dX9_told_76 : decode cX9_told 76 = .ok (.getfield 20, 3) := by decide +kernel
theorem dX9_told_79 : decode cX9_told 79 = .ok (.getfield 86, 3) := by decide +kernel
theorem dX9_told_82 : decode cX9_told 82 = .ok (.ireturn, 1) := by decide +kernel
theorem dX9_told_83 : decode cX9_told 83 = .ok (.new 89, 3) := by decide +kernel
theorem dX9_told_86 : decode cX9_told 86 = .ok (.dup, 1) := by decide +kernel
theorem dX9_told_87 : decode cX9_told 87 = .ok (.ldc 91, 2) := by decide +kernel
theorem dX9_told_89 : decode cX9_told 89 = .ok (.invokespecial 93, 3) := by decide +kernel
theorem dX9_told_92 : decode cX9_told 92 = .ok (.athrow, 1) := by decide +kernel
theorem dX9_whole_0 : decode cX9_whole 0 = .ok (.iload_n 1, 1) := by decide +kernel
theorem dX9_whole_1 : decode cX9_whole 1 = .ok (.invokestatic 61, 3) := by decide +kernel
theorem dX9_whole_4 : decode cX9_whole 4 = .ok (.aload_n 0, 1) := by decide +kernel
theorem dX9_whole_5 : decode cX9_whole 5 = .ok (.iload_n 1, 1) := by decide +kernel
theorem dX9_whole_6 : decode cX9_whole 6 = .ok (.aload_n 0, 1) := by decide +kernel
theorem dX9_whole_7 : decode cX9_whole 7 = .ok (.getfield 20, 3) := by decide +kernel
theorem dX9_whole_10 : decode cX9_whole 10 = .ok (.invokevirtual 74, 3) := by decide +kernel
theorem dX9_whole_13 : decode cX9_whole 13 = .ok (.aload_n 0, 1) := by decide +kernel
theorem dX9_whole_14 : decode cX9_whole 14 = .ok (.getfield 20, 3) := by decide +kernel
theorem dX9_whole_17 : decode cX9_whole 17 = .ok (.getfield 96, 3) := by decide +kernel
theorem dX9_whole_20 : decode cX9_whole 20 = .ok (.lreturn, 1) := by decide +kernel
theorem dX9_needWay_0 : decode cX9_needWay 0 = .ok (.iload_n 0, 1) := by decide +kernel
theorem dX9_needWay_1 : decode cX9_needWay 1 = .ok (.ifCond .lt 8, 3) := by decide +kernel
theorem dX9_needWay_4 : decode cX9_needWay 4 = .ok (.iload_n 0, 1) := by decide +kernel
theorem dX9_needWay_5 : decode cX9_needWay 5 = .ok (.iconst 3, 1) := by decide +kernel
theorem dX9_needWay_6 : decode cX9_needWay 6 = .ok (.if_icmp .le 13, 3) := by decide +kernel
theorem dX9_needWay_9 : decode cX9_needWay 9 = .ok (.new 89, 3) := by decide +kernel
theorem dX9_needWay_12 : decode cX9_needWay 12 = .ok (.dup, 1) := by decide +kernel
theorem dX9_needWay_13 : decode cX9_needWay 13 = .ok (.ldc 204, 2) := by decide +kernel
theorem dX9_needWay_15 : decode cX9_needWay 15 = .ok (.invokespecial 93, 3) := by decide +kernel
theorem dX9_needWay_18 : decode cX9_needWay 18 = .ok (.athrow, 1) := by decide +kernel
theorem dX9_needWay_19 : decode cX9_needWay 19 = .ok (.return_, 1) := by decide +kernel
theorem dX9_convert_0 : decode cX9_convert 0 = .ok (.iload_n 1, 1) := by decide +kernel
theorem dX9_convert_1 : decode cX9_convert 1 = .ok (.invokestatic 61, 3) := by decide +kernel
theorem dX9_convert_4 : decode cX9_convert 4 = .ok (.iload_n 2, 1) := by decide +kernel
theorem dX9_convert_5 : decode cX9_convert 5 = .ok (.invokestatic 61, 3) := by decide +kernel
theorem dX9_convert_8 : decode cX9_convert 8 = .ok (.iload_n 3, 1) := by decide +kernel
theorem dX9_convert_9 : decode cX9_convert 9 = .ok (.invokestatic 65, 3) := by decide +kernel
theorem dX9_convert_12 : decode cX9_convert 12 = .ok (.iload 4, 2) := by decide +kernel
theorem dX9_convert_14 : decode cX9_convert 14 = .ok (.invokestatic 100, 3) := by decide +kernel
theorem dX9_convert_17 : decode cX9_convert 17 = .ok (.aload_n 0, 1) := by decide +kernel
theorem dX9_convert_18 : decode cX9_convert 18 = .ok (.iload_n 1, 1) := by decide +kernel
theorem dX9_convert_19 : decode cX9_convert 19 = .ok (.aload_n 0, 1) := by decide +kernel
theorem dX9_convert_20 : decode cX9_convert 20 = .ok (.getfield 20, 3) := by decide +kernel
theorem dX9_convert_23 : decode cX9_convert 23 = .ok (.invokevirtual 74, 3) := by decide +kernel
theorem dX9_convert_26 : decode cX9_convert 26 = .ok (.aload_n 0, 1) := by decide +kernel
theorem dX9_convert_27 : decode cX9_convert 27 = .ok (.iload_n 2, 1) := by decide +kernel
theorem dX9_convert_28 : decode cX9_convert 28 = .ok (.iload_n 3, 1) := by decide +kernel
theorem dX9_convert_29 : decode cX9_convert 29 = .ok (.aload_n 0, 1) := by decide +kernel
theorem dX9_convert_30 : decode cX9_convert 30 = .ok (.getfield 45, 3) := by decide +kernel
theorem dX9_convert_33 : decode cX9_convert 33 = .ok (.aload_n 0, 1) := by decide +kernel
theorem dX9_convert_34 : decode cX9_convert 34 = .ok (.getfield 20, 3) := by decide +kernel
theorem dX9_convert_37 : decode cX9_convert 37 = .ok (.iload_n 3, 1) := by decide +kernel
theorem dX9_convert_38 : decode cX9_convert 38 = .ok (.iload 4, 2) := by decide +kernel
theorem dX9_convert_40 : decode cX9_convert 40 = .ok (.invokevirtual 103, 3) := by decide +kernel
theorem dX9_convert_43 : decode cX9_convert 43 = .ok (.invokevirtual 70, 3) := by decide +kernel
theorem dX9_convert_46 : decode cX9_convert 46 = .ok (.return_, 1) := by decide +kernel
theorem dX9_from_0 : decode cX9_from 0 = .ok (.iload_n 1, 1) := by decide +kernel
theorem dX9_from_1 : decode cX9_from 1 = .ok (.invokestatic 61, 3) := by decide +kernel
theorem dX9_from_4 : decode cX9_from 4 = .ok (.iload_n 2, 1) := by decide +kernel
theorem dX9_from_5 : decode cX9_from 5 = .ok (.invokestatic 65, 3) := by decide +kernel
theorem dX9_from_8 : decode cX9_from 8 = .ok (.iload 5, 2) := by decide +kernel
theorem dX9_from_10 : decode cX9_from 10 = .ok (.invokestatic 100, 3) := by decide +kernel
theorem dX9_from_13 : decode cX9_from 13 = .ok (.aload_n 0, 1) := by decide +kernel
theorem dX9_from_14 : decode cX9_from 14 = .ok (.iload_n 1, 1) := by decide +kernel
theorem dX9_from_15 : decode cX9_from 15 = .ok (.iload_n 2, 1) := by decide +kernel
theorem dX9_from_16 : decode cX9_from 16 = .ok (.aload_n 0, 1) := by decide +kernel
theorem dX9_from_17 : decode cX9_from 17 = .ok (.getfield 45, 3) := by decide +kernel
theorem dX9_from_20 : decode cX9_from 20 = .ok (.lload_n 3, 1) := by decide +kernel
theorem dX9_from_21 : decode cX9_from 21 = .ok (.iload_n 2, 1) := by decide +kernel
theorem dX9_from_22 : decode cX9_from 22 = .ok (.iload 5, 2) := by decide +kernel
theorem dX9_from_24 : decode cX9_from 24 = .ok (.invokevirtual 107, 3) := by decide +kernel
theorem dX9_from_27 : decode cX9_from 27 = .ok (.invokevirtual 70, 3) := by decide +kernel
theorem dX9_from_30 : decode cX9_from 30 = .ok (.return_, 1) := by decide +kernel
theorem dX9_to_0 : decode cX9_to 0 = .ok (.iload_n 1, 1) := by decide +kernel
theorem dX9_to_1 : decode cX9_to 1 = .ok (.invokestatic 61, 3) := by decide +kernel
theorem dX9_to_4 : decode cX9_to 4 = .ok (.iload_n 2, 1) := by decide +kernel
theorem dX9_to_5 : decode cX9_to 5 = .ok (.invokestatic 100, 3) := by decide +kernel
theorem dX9_to_8 : decode cX9_to 8 = .ok (.aload_n 0, 1) := by decide +kernel
theorem dX9_to_9 : decode cX9_to 9 = .ok (.iload_n 1, 1) := by decide +kernel
theorem dX9_to_10 : decode cX9_to 10 = .ok (.aload_n 0, 1) := by decide +kernel
theorem dX9_to_11 : decode cX9_to 11 = .ok (.getfield 20, 3) := by decide +kernel
theorem dX9_to_14 : decode cX9_to 14 = .ok (.invokevirtual 74, 3) := by decide +kernel
theorem dX9_to_17 : decode cX9_to 17 = .ok (.aload_n 0, 1) := by decide +kernel
theorem dX9_to_18 : decode cX9_to 18 = .ok (.getfield 20, 3) := by decide +kernel
theorem dX9_to_21 : decode cX9_to 21 = .ok (.invokevirtual 111, 3) := by decide +kernel
theorem dX9_to_24 : decode cX9_to 24 = .ok (.ifCond .ne 13, 3) := by decide +kernel
theorem dX9_to_27 : decode cX9_to 27 = .ok (.new 115, 3) := by decide +kernel
theorem dX9_to_30 : decode cX9_to 30 = .ok (.dup, 1) := by decide +kernel
theorem dX9_to_31 : decode cX9_to 31 = .ok (.ldc 117, 2) := by decide +kernel
theorem dX9_to_33 : decode cX9_to 33 = .ok (.invokespecial 119, 3) := by decide +kernel
theorem dX9_to_36 : decode cX9_to 36 = .ok (.athrow, 1) := by decide +kernel
theorem dX9_to_37 : decode cX9_to 37 = .ok (.aload_n 0, 1) := by decide +kernel
theorem dX9_to_38 : decode cX9_to 38 = .ok (.getfield 20, 3) := by decide +kernel
theorem dX9_to_41 : decode cX9_to 41 = .ok (.iload_n 2, 1) := by decide +kernel
theorem dX9_to_42 : decode cX9_to 42 = .ok (.invokevirtual 120, 3) := by decide +kernel
theorem dX9_to_45 : decode cX9_to 45 = .ok (.lreturn, 1) := by decide +kernel
theorem dX9_order_0 : decode cX9_order 0 = .ok (.iload_n 1, 1) := by decide +kernel
theorem dX9_order_1 : decode cX9_order 1 = .ok (.invokestatic 61, 3) := by decide +kernel
theorem dX9_order_4 : decode cX9_order 4 = .ok (.iload_n 2, 1) := by decide +kernel
theorem dX9_order_5 : decode cX9_order 5 = .ok (.invokestatic 61, 3) := by decide +kernel
theorem dX9_order_8 : decode cX9_order 8 = .ok (.aload_n 0, 1) := by decide +kernel
theorem dX9_order_9 : decode cX9_order 9 = .ok (.iload_n 1, 1) := by decide +kernel
theorem dX9_order_10 : decode cX9_order 10 = .ok (.aload_n 0, 1) := by decide +kernel
theorem dX9_order_11 : decode cX9_order 11 = .ok (.getfield 20, 3) := by decide +kernel
theorem dX9_order_14 : decode cX9_order 14 = .ok (.invokevirtual 74, 3) := by decide +kernel
theorem dX9_order_17 : decode cX9_order 17 = .ok (.aload_n 0, 1) := by decide +kernel
theorem dX9_order_18 : decode cX9_order 18 = .ok (.iload_n 2, 1) := by decide +kernel
theorem dX9_order_19 : decode cX9_order 19 = .ok (.aload_n 0, 1) := by decide +kernel
theorem dX9_order_20 : decode cX9_order 20 = .ok (.getfield 24, 3) := by decide +kernel
theorem dX9_order_23 : decode cX9_order 23 = .ok (.invokevirtual 74, 3) := by decide +kernel
theorem dX9_order_26 : decode cX9_order 26 = .ok (.aload_n 0, 1) := by decide +kernel
theorem dX9_order_27 : decode cX9_order 27 = .ok (.getfield 20, 3) := by decide +kernel
theorem dX9_order_30 : decode cX9_order 30 = .ok (.aload_n 0, 1) := by decide +kernel
theorem dX9_order_31 : decode cX9_order 31 = .ok (.getfield 24, 3) := by decide +kernel
theorem dX9_order_34 : decode cX9_order 34 = .ok (.invokestatic 124, 3) := by decide +kernel
theorem dX9_order_37 : decode cX9_order 37 = .ok (.ireturn, 1) := by decide +kernel
theorem dX9_step_0 : decode cX9_step 0 = .ok (.iload_n 1, 1) := by decide +kernel
theorem dX9_step_1 : decode cX9_step 1 = .ok (.invokestatic 61, 3) := by decide +kernel
theorem dX9_step_4 : decode cX9_step 4 = .ok (.aload_n 0, 1) := by decide +kernel
theorem dX9_step_5 : decode cX9_step 5 = .ok (.getfield 13, 3) := by decide +kernel
theorem dX9_step_8 : decode cX9_step 8 = .ok (.iload_n 1, 1) := by decide +kernel
theorem dX9_step_9 : decode cX9_step 9 = .ok (.aload_n 0, 1) := by decide +kernel
theorem dX9_step_10 : decode cX9_step 10 = .ok (.getfield 9, 3) := by decide +kernel
theorem dX9_step_13 : decode cX9_step 13 = .ok (.iload_n 1, 1) := by decide +kernel
theorem dX9_step_14 : decode cX9_step 14 = .ok (.iaload, 1) := by decide +kernel
theorem dX9_step_15 : decode cX9_step 15 = .ok (.aload_n 0, 1) := by decide +kernel
theorem dX9_step_16 : decode cX9_step 16 = .ok (.getfield 13, 3) := by decide +kernel
theorem dX9_step_19 : decode cX9_step 19 = .ok (.iload_n 1, 1) := by decide +kernel
theorem dX9_step_20 : decode cX9_step 20 = .ok (.laload, 1) := by decide +kernel
theorem dX9_step_21 : decode cX9_step 21 = .ok (.iload_n 2, 1) := by decide +kernel
theorem dX9_step_22 : decode cX9_step 22 = .ok (.invokestatic 128, 3) := by decide +kernel
theorem dX9_step_25 : decode cX9_step 25 = .ok (.lastore, 1) := by decide +kernel
theorem dX9_step_26 : decode cX9_step 26 = .ok (.return_, 1) := by decide +kernel
theorem dX9_lookAtTwo_0 : decode cX9_lookAtTwo 0 = .ok (.iload_n 1, 1) := by decide +kernel
theorem dX9_lookAtTwo_1 : decode cX9_lookAtTwo 1 = .ok (.invokestatic 61, 3) := by decide +kernel
theorem dX9_lookAtTwo_4 : decode cX9_lookAtTwo 4 = .ok (.iload_n 2, 1) := by decide +kernel
theorem dX9_lookAtTwo_5 : decode cX9_lookAtTwo 5 = .ok (.invokestatic 61, 3) := by decide +kernel
theorem dX9_lookAtTwo_8 : decode cX9_lookAtTwo 8 = .ok (.iload_n 3, 1) := by decide +kernel
theorem dX9_lookAtTwo_9 : decode cX9_lookAtTwo 9 = .ok (.invokestatic 61, 3) := by decide +kernel
theorem dX9_lookAtTwo_12 : decode cX9_lookAtTwo 12 = .ok (.iload 4, 2) := by decide +kernel
theorem dX9_lookAtTwo_14 : decode cX9_lookAtTwo 14 = .ok (.invokestatic 100, 3) := by decide +kernel
theorem dX9_lookAtTwo_17 : decode cX9_lookAtTwo 17 = .ok (.aload_n 0, 1) := by decide +kernel
theorem dX9_lookAtTwo_18 : decode cX9_lookAtTwo 18 = .ok (.iload_n 1, 1) := by decide +kernel
theorem dX9_lookAtTwo_19 : decode cX9_lookAtTwo 19 = .ok (.aload_n 0, 1) := by decide +kernel
theorem dX9_lookAtTwo_20 : decode cX9_lookAtTwo 20 = .ok (.getfield 20, 3) := by decide +kernel
theorem dX9_lookAtTwo_23 : decode cX9_lookAtTwo 23 = .ok (.invokevirtual 74, 3) := by decide +kernel
theorem dX9_lookAtTwo_26 : decode cX9_lookAtTwo 26 = .ok (.aload_n 0, 1) := by decide +kernel
theorem dX9_lookAtTwo_27 : decode cX9_lookAtTwo 27 = .ok (.iload_n 2, 1) := by decide +kernel
theorem dX9_lookAtTwo_28 : decode cX9_lookAtTwo 28 = .ok (.aload_n 0, 1) := by decide +kernel
theorem dX9_lookAtTwo_29 : decode cX9_lookAtTwo 29 = .ok (.getfield 24, 3) := by decide +kernel
theorem dX9_lookAtTwo_32 : decode cX9_lookAtTwo 32 = .ok (.invokevirtual 74, 3) := by decide +kernel
theorem dX9_lookAtTwo_35 : decode cX9_lookAtTwo 35 = .ok (.return_, 1) := by decide +kernel
theorem dX9_add_0 : decode cX9_add 0 = .ok (.aload_n 0, 1) := by decide +kernel
theorem dX9_add_1 : decode cX9_add 1 = .ok (.iload_n 1, 1) := by decide +kernel
theorem dX9_add_2 : decode cX9_add 2 = .ok (.iload_n 2, 1) := by decide +kernel
theorem dX9_add_3 : decode cX9_add 3 = .ok (.iload_n 3, 1) := by decide +kernel
theorem dX9_add_4 : decode cX9_add 4 = .ok (.iload 4, 2) := by decide +kernel
theorem dX9_add_6 : decode cX9_add 6 = .ok (.invokevirtual 134, 3) := by decide +kernel
theorem dX9_add_9 : decode cX9_add 9 = .ok (.aload_n 0, 1) := by decide +kernel
theorem dX9_add_10 : decode cX9_add 10 = .ok (.getfield 13, 3) := by decide +kernel
theorem dX9_add_13 : decode cX9_add 13 = .ok (.iload_n 3, 1) := by decide +kernel
theorem dX9_add_14 : decode cX9_add 14 = .ok (.aload_n 0, 1) := by decide +kernel
theorem dX9_add_15 : decode cX9_add 15 = .ok (.getfield 45, 3) := by decide +kernel
theorem dX9_add_18 : decode cX9_add 18 = .ok (.aload_n 0, 1) := by decide +kernel
theorem dX9_add_19 : decode cX9_add 19 = .ok (.getfield 20, 3) := by decide +kernel
theorem dX9_add_22 : decode cX9_add 22 = .ok (.aload_n 0, 1) := by decide +kernel
theorem dX9_add_23 : decode cX9_add 23 = .ok (.getfield 24, 3) := by decide +kernel
theorem dX9_add_26 : decode cX9_add 26 = .ok (.aload_n 0, 1) := by decide +kernel
theorem dX9_add_27 : decode cX9_add 27 = .ok (.getfield 9, 3) := by decide +kernel
theorem dX9_add_30 : decode cX9_add 30 = .ok (.iload_n 3, 1) := by decide +kernel
theorem dX9_add_31 : decode cX9_add 31 = .ok (.iaload, 1) := by decide +kernel
theorem dX9_add_32 : decode cX9_add 32 = .ok (.iload 4, 2) := by decide +kernel
theorem dX9_add_34 : decode cX9_add 34 = .ok (.invokevirtual 138, 3) := by decide +kernel
theorem dX9_add_37 : decode cX9_add 37 = .ok (.lastore, 1) := by decide +kernel
theorem dX9_add_38 : decode cX9_add 38 = .ok (.return_, 1) := by decide +kernel
theorem dX9_less_0 : decode cX9_less 0 = .ok (.aload_n 0, 1) := by decide +kernel
theorem dX9_less_1 : decode cX9_less 1 = .ok (.iload_n 1, 1) := by decide +kernel
theorem dX9_less_2 : decode cX9_less 2 = .ok (.iload_n 2, 1) := by decide +kernel
theorem dX9_less_3 : decode cX9_less 3 = .ok (.iload_n 3, 1) := by decide +kernel
theorem dX9_less_4 : decode cX9_less 4 = .ok (.iload 4, 2) := by decide +kernel
theorem dX9_less_6 : decode cX9_less 6 = .ok (.invokevirtual 134, 3) := by decide +kernel
theorem dX9_less_9 : decode cX9_less 9 = .ok (.aload_n 0, 1) := by decide +kernel
theorem dX9_less_10 : decode cX9_less 10 = .ok (.getfield 24, 3) := by decide +kernel
theorem dX9_less_13 : decode cX9_less 13 = .ok (.aload_n 0, 1) := by decide +kernel
theorem dX9_less_14 : decode cX9_less 14 = .ok (.getfield 24, 3) := by decide +kernel
theorem dX9_less_17 : decode cX9_less 17 = .ok (.getfield 82, 3) := by decide +kernel
theorem dX9_less_20 : decode cX9_less 20 = .ok (.ifCond .ne 7, 3) := by decide +kernel
theorem dX9_less_23 : decode cX9_less 23 = .ok (.iconst 1, 1) := by decide +kernel
theorem dX9_less_24 : decode cX9_less 24 = .ok (.goto 4, 3) := by decide +kernel
theorem dX9_less_27 : decode cX9_less 27 = .ok (.iconst 0, 1) := by decide +kernel
theorem dX9_less_28 : decode cX9_less 28 = .ok (.putfield 82, 3) := by decide +kernel
theorem dX9_less_31 : decode cX9_less 31 = .ok (.aload_n 0, 1) := by decide +kernel
theorem dX9_less_32 : decode cX9_less 32 = .ok (.getfield 13, 3) := by decide +kernel
theorem dX9_less_35 : decode cX9_less 35 = .ok (.iload_n 3, 1) := by decide +kernel
theorem dX9_less_36 : decode cX9_less 36 = .ok (.aload_n 0, 1) := by decide +kernel
theorem dX9_less_37 : decode cX9_less 37 = .ok (.getfield 45, 3) := by decide +kernel
theorem dX9_less_40 : decode cX9_less 40 = .ok (.aload_n 0, 1) := by decide +kernel
theorem dX9_less_41 : decode cX9_less 41 = .ok (.getfield 20, 3) := by decide +kernel
theorem dX9_less_44 : decode cX9_less 44 = .ok (.aload_n 0, 1) := by decide +kernel
theorem dX9_less_45 : decode cX9_less 45 = .ok (.getfield 24, 3) := by decide +kernel
theorem dX9_less_48 : decode cX9_less 48 = .ok (.aload_n 0, 1) := by decide +kernel
theorem dX9_less_49 : decode cX9_less 49 = .ok (.getfield 9, 3) := by decide +kernel
theorem dX9_less_52 : decode cX9_less 52 = .ok (.iload_n 3, 1) := by decide +kernel
theorem dX9_less_53 : decode cX9_less 53 = .ok (.iaload, 1) := by decide +kernel
theorem dX9_less_54 : decode cX9_less 54 = .ok (.iload 4, 2) := by decide +kernel
theorem dX9_less_56 : decode cX9_less 56 = .ok (.invokevirtual 138, 3) := by decide +kernel
theorem dX9_less_59 : decode cX9_less 59 = .ok (.lastore, 1) := by decide +kernel
theorem dX9_less_60 : decode cX9_less 60 = .ok (.return_, 1) := by decide +kernel
theorem dX9_times_0 : decode cX9_times 0 = .ok (.aload_n 0, 1) := by decide +kernel
theorem dX9_times_1 : decode cX9_times 1 = .ok (.iload_n 1, 1) := by decide +kernel
theorem dX9_times_2 : decode cX9_times 2 = .ok (.iload_n 2, 1) := by decide +kernel
theorem dX9_times_3 : decode cX9_times 3 = .ok (.iload_n 3, 1) := by decide +kernel
theorem dX9_times_4 : decode cX9_times 4 = .ok (.iload 4, 2) := by decide +kernel
theorem dX9_times_6 : decode cX9_times 6 = .ok (.invokevirtual 134, 3) := by decide +kernel
theorem dX9_times_9 : decode cX9_times 9 = .ok (.aload_n 0, 1) := by decide +kernel
theorem dX9_times_10 : decode cX9_times 10 = .ok (.getfield 13, 3) := by decide +kernel
theorem dX9_times_13 : decode cX9_times 13 = .ok (.iload_n 3, 1) := by decide +kernel
theorem dX9_times_14 : decode cX9_times 14 = .ok (.aload_n 0, 1) := by decide +kernel
theorem dX9_times_15 : decode cX9_times 15 = .ok (.getfield 45, 3) := by decide +kernel
theorem dX9_times_18 : decode cX9_times 18 = .ok (.aload_n 0, 1) := by decide +kernel
theorem dX9_times_19 : decode cX9_times 19 = .ok (.getfield 20, 3) := by decide +kernel
theorem dX9_times_22 : decode cX9_times 22 = .ok (.aload_n 0, 1) := by decide +kernel
theorem dX9_times_23 : decode cX9_times 23 = .ok (.getfield 24, 3) := by decide +kernel
theorem dX9_times_26 : decode cX9_times 26 = .ok (.aload_n 0, 1) := by decide +kernel
theorem dX9_times_27 : decode cX9_times 27 = .ok (.getfield 9, 3) := by decide +kernel
theorem dX9_times_30 : decode cX9_times 30 = .ok (.iload_n 3, 1) := by decide +kernel
theorem dX9_times_31 : decode cX9_times 31 = .ok (.iaload, 1) := by decide +kernel
theorem dX9_times_32 : decode cX9_times 32 = .ok (.iload 4, 2) := by decide +kernel
theorem dX9_times_34 : decode cX9_times 34 = .ok (.invokevirtual 142, 3) := by decide +kernel
theorem dX9_times_37 : decode cX9_times 37 = .ok (.lastore, 1) := by decide +kernel
theorem dX9_times_38 : decode cX9_times 38 = .ok (.return_, 1) := by decide +kernel
theorem dX9_over_0 : decode cX9_over 0 = .ok (.aload_n 0, 1) := by decide +kernel
theorem dX9_over_1 : decode cX9_over 1 = .ok (.iload_n 1, 1) := by decide +kernel
theorem dX9_over_2 : decode cX9_over 2 = .ok (.iload_n 2, 1) := by decide +kernel
theorem dX9_over_3 : decode cX9_over 3 = .ok (.iload_n 3, 1) := by decide +kernel
theorem dX9_over_4 : decode cX9_over 4 = .ok (.iload 4, 2) := by decide +kernel
theorem dX9_over_6 : decode cX9_over 6 = .ok (.invokevirtual 134, 3) := by decide +kernel
theorem dX9_over_9 : decode cX9_over 9 = .ok (.aload_n 0, 1) := by decide +kernel
theorem dX9_over_10 : decode cX9_over 10 = .ok (.getfield 13, 3) := by decide +kernel
theorem dX9_over_13 : decode cX9_over 13 = .ok (.iload_n 3, 1) := by decide +kernel
theorem dX9_over_14 : decode cX9_over 14 = .ok (.aload_n 0, 1) := by decide +kernel
theorem dX9_over_15 : decode cX9_over 15 = .ok (.getfield 45, 3) := by decide +kernel
theorem dX9_over_18 : decode cX9_over 18 = .ok (.aload_n 0, 1) := by decide +kernel
theorem dX9_over_19 : decode cX9_over 19 = .ok (.getfield 20, 3) := by decide +kernel
theorem dX9_over_22 : decode cX9_over 22 = .ok (.aload_n 0, 1) := by decide +kernel
theorem dX9_over_23 : decode cX9_over 23 = .ok (.getfield 24, 3) := by decide +kernel
theorem dX9_over_26 : decode cX9_over 26 = .ok (.aload_n 0, 1) := by decide +kernel
theorem dX9_over_27 : decode cX9_over 27 = .ok (.getfield 9, 3) := by decide +kernel
theorem dX9_over_30 : decode cX9_over 30 = .ok (.iload_n 3, 1) := by decide +kernel
theorem dX9_over_31 : decode cX9_over 31 = .ok (.iaload, 1) := by decide +kernel
theorem dX9_over_32 : decode cX9_over 32 = .ok (.iload 4, 2) := by decide +kernel
theorem dX9_over_34 : decode cX9_over 34 = .ok (.invokevirtual 145, 3) := by decide +kernel
theorem dX9_over_37 : decode cX9_over 37 = .ok (.lastore, 1) := by decide +kernel
theorem dX9_over_38 : decode cX9_over 38 = .ok (.return_, 1) := by decide +kernel
theorem dX9_fused_0 : decode cX9_fused 0 = .ok (.aload_n 0, 1) := by decide +kernel
theorem dX9_fused_1 : decode cX9_fused 1 = .ok (.iload_n 1, 1) := by decide +kernel
theorem dX9_fused_2 : decode cX9_fused 2 = .ok (.iload_n 2, 1) := by decide +kernel
theorem dX9_fused_3 : decode cX9_fused 3 = .ok (.iload_n 3, 1) := by decide +kernel
theorem dX9_fused_4 : decode cX9_fused 4 = .ok (.iload 4, 2) := by decide +kernel
theorem dX9_fused_6 : decode cX9_fused 6 = .ok (.invokevirtual 134, 3) := by decide +kernel
theorem dX9_fused_9 : decode cX9_fused 9 = .ok (.aload_n 0, 1) := by decide +kernel
theorem dX9_fused_10 : decode cX9_fused 10 = .ok (.iload_n 3, 1) := by decide +kernel
theorem dX9_fused_11 : decode cX9_fused 11 = .ok (.aload_n 0, 1) := by decide +kernel
theorem dX9_fused_12 : decode cX9_fused 12 = .ok (.getfield 27, 3) := by decide +kernel
theorem dX9_fused_15 : decode cX9_fused 15 = .ok (.invokevirtual 74, 3) := by decide +kernel
theorem dX9_fused_18 : decode cX9_fused 18 = .ok (.aload_n 0, 1) := by decide +kernel
theorem dX9_fused_19 : decode cX9_fused 19 = .ok (.getfield 13, 3) := by decide +kernel
theorem dX9_fused_22 : decode cX9_fused 22 = .ok (.iload_n 3, 1) := by decide +kernel
theorem dX9_fused_23 : decode cX9_fused 23 = .ok (.aload_n 0, 1) := by decide +kernel
theorem dX9_fused_24 : decode cX9_fused 24 = .ok (.getfield 45, 3) := by decide +kernel
theorem dX9_fused_27 : decode cX9_fused 27 = .ok (.aload_n 0, 1) := by decide +kernel
theorem dX9_fused_28 : decode cX9_fused 28 = .ok (.getfield 20, 3) := by decide +kernel
theorem dX9_fused_31 : decode cX9_fused 31 = .ok (.aload_n 0, 1) := by decide +kernel
theorem dX9_fused_32 : decode cX9_fused 32 = .ok (.getfield 24, 3) := by decide +kernel
theorem dX9_fused_35 : decode cX9_fused 35 = .ok (.aload_n 0, 1) := by decide +kernel
theorem dX9_fused_36 : decode cX9_fused 36 = .ok (.getfield 27, 3) := by decide +kernel
theorem dX9_fused_39 : decode cX9_fused 39 = .ok (.aload_n 0, 1) := by decide +kernel
theorem dX9_fused_40 : decode cX9_fused 40 = .ok (.getfield 9, 3) := by decide +kernel
theorem dX9_fused_43 : decode cX9_fused 43 = .ok (.iload_n 3, 1) := by decide +kernel
theorem dX9_fused_44 : decode cX9_fused 44 = .ok (.iaload, 1) := by decide +kernel
theorem dX9_fused_45 : decode cX9_fused 45 = .ok (.iload 4, 2) := by decide +kernel
theorem dX9_fused_47 : decode cX9_fused 47 = .ok (.invokevirtual 148, 3) := by decide +kernel
theorem dX9_fused_50 : decode cX9_fused 50 = .ok (.lastore, 1) := by decide +kernel
theorem dX9_fused_51 : decode cX9_fused 51 = .ok (.return_, 1) := by decide +kernel
theorem dX9_root_0 : decode cX9_root 0 = .ok (.iload_n 1, 1) := by decide +kernel
theorem dX9_root_1 : decode cX9_root 1 = .ok (.invokestatic 61, 3) := by decide +kernel
theorem dX9_root_4 : decode cX9_root 4 = .ok (.iload_n 2, 1) := by decide +kernel
theorem dX9_root_5 : decode cX9_root 5 = .ok (.invokestatic 61, 3) := by decide +kernel
theorem dX9_root_8 : decode cX9_root 8 = .ok (.iload_n 3, 1) := by decide +kernel
theorem dX9_root_9 : decode cX9_root 9 = .ok (.invokestatic 100, 3) := by decide +kernel
theorem dX9_root_12 : decode cX9_root 12 = .ok (.aload_n 0, 1) := by decide +kernel
theorem dX9_root_13 : decode cX9_root 13 = .ok (.iload_n 1, 1) := by decide +kernel
theorem dX9_root_14 : decode cX9_root 14 = .ok (.aload_n 0, 1) := by decide +kernel
theorem dX9_root_15 : decode cX9_root 15 = .ok (.getfield 20, 3) := by decide +kernel
theorem dX9_root_18 : decode cX9_root 18 = .ok (.invokevirtual 74, 3) := by decide +kernel
theorem dX9_root_21 : decode cX9_root 21 = .ok (.aload_n 0, 1) := by decide +kernel
theorem dX9_root_22 : decode cX9_root 22 = .ok (.getfield 13, 3) := by decide +kernel
theorem dX9_root_25 : decode cX9_root 25 = .ok (.iload_n 2, 1) := by decide +kernel
theorem dX9_root_26 : decode cX9_root 26 = .ok (.aload_n 0, 1) := by decide +kernel
theorem dX9_root_27 : decode cX9_root 27 = .ok (.getfield 45, 3) := by decide +kernel
theorem dX9_root_30 : decode cX9_root 30 = .ok (.aload_n 0, 1) := by decide +kernel
theorem dX9_root_31 : decode cX9_root 31 = .ok (.getfield 20, 3) := by decide +kernel
theorem dX9_root_34 : decode cX9_root 34 = .ok (.aload_n 0, 1) := by decide +kernel
theorem dX9_root_35 : decode cX9_root 35 = .ok (.getfield 9, 3) := by decide +kernel
theorem dX9_root_38 : decode cX9_root 38 = .ok (.iload_n 2, 1) := by decide +kernel
theorem dX9_root_39 : decode cX9_root 39 = .ok (.iaload, 1) := by decide +kernel
theorem dX9_root_40 : decode cX9_root 40 = .ok (.iload_n 3, 1) := by decide +kernel
theorem dX9_root_41 : decode cX9_root 41 = .ok (.invokevirtual 152, 3) := by decide +kernel
theorem dX9_root_44 : decode cX9_root 44 = .ok (.lastore, 1) := by decide +kernel
theorem dX9_root_45 : decode cX9_root 45 = .ok (.return_, 1) := by decide +kernel
theorem dX9_feed_0 : decode cX9_feed 0 = .ok (.iload_n 3, 1) := by decide +kernel
theorem dX9_feed_1 : decode cX9_feed 1 = .ok (.iconst 1, 1) := by decide +kernel
theorem dX9_feed_2 : decode cX9_feed 2 = .ok (.if_icmp .lt 20, 3) := by decide +kernel
theorem dX9_feed_5 : decode cX9_feed 5 = .ok (.iload_n 3, 1) := by decide +kernel
theorem dX9_feed_6 : decode cX9_feed 6 = .ok (.bipush 8, 2) := by decide +kernel
theorem dX9_feed_8 : decode cX9_feed 8 = .ok (.if_icmp .gt 14, 3) := by decide +kernel
theorem dX9_feed_11 : decode cX9_feed 11 = .ok (.aload_n 0, 1) := by decide +kernel
theorem dX9_feed_12 : decode cX9_feed 12 = .ok (.getfield 33, 3) := by decide +kernel
theorem dX9_feed_15 : decode cX9_feed 15 = .ok (.iload_n 3, 1) := by decide +kernel
theorem dX9_feed_16 : decode cX9_feed 16 = .ok (.invokevirtual 155, 3) := by decide +kernel
theorem dX9_feed_19 : decode cX9_feed 19 = .ok (.ifCond .ne 13, 3) := by decide +kernel
theorem dX9_feed_22 : decode cX9_feed 22 = .ok (.new 89, 3) := by decide +kernel
theorem dX9_feed_25 : decode cX9_feed 25 = .ok (.dup, 1) := by decide +kernel
theorem dX9_feed_26 : decode cX9_feed 26 = .ok (.ldc 159, 2) := by decide +kernel
theorem dX9_feed_28 : decode cX9_feed 28 = .ok (.invokespecial 93, 3) := by decide +kernel
theorem dX9_feed_31 : decode cX9_feed 31 = .ok (.athrow, 1) := by decide +kernel
theorem dX9_feed_32 : decode cX9_feed 32 = .ok (.iconst 0, 1) := by decide +kernel
theorem dX9_feed_33 : decode cX9_feed 33 = .ok (.istore 4, 2) := by decide +kernel
theorem dX9_feed_35 : decode cX9_feed 35 = .ok (.iload 4, 2) := by decide +kernel
theorem dX9_feed_37 : decode cX9_feed 37 = .ok (.iload_n 3, 1) := by decide +kernel
theorem dX9_feed_38 : decode cX9_feed 38 = .ok (.if_icmp .ge 28, 3) := by decide +kernel
theorem dX9_feed_41 : decode cX9_feed 41 = .ok (.aload_n 0, 1) := by decide +kernel
theorem dX9_feed_42 : decode cX9_feed 42 = .ok (.getfield 33, 3) := by decide +kernel
theorem dX9_feed_45 : decode cX9_feed 45 = .ok (.lload_n 1, 1) := by decide +kernel
theorem dX9_feed_46 : decode cX9_feed 46 = .ok (.bipush 8, 2) := by decide +kernel
theorem dX9_feed_48 : decode cX9_feed 48 = .ok (.iload 4, 2) := by decide +kernel
theorem dX9_feed_50 : decode cX9_feed 50 = .ok (.imul, 1) := by decide +kernel
theorem dX9_feed_51 : decode cX9_feed 51 = .ok (.lushr, 1) := by decide +kernel
theorem dX9_feed_52 : decode cX9_feed 52 = .ok (.l2i, 1) := by decide +kernel
theorem dX9_feed_53 : decode cX9_feed 53 = .ok (.sipush 255, 3) := by decide +kernel
theorem dX9_feed_56 : decode cX9_feed 56 = .ok (.iand, 1) := by decide +kernel
theorem dX9_feed_57 : decode cX9_feed 57 = .ok (.invokevirtual 161, 3) := by decide +kernel
theorem dX9_feed_60 : decode cX9_feed 60 = .ok (.iinc 4 1, 3) := by decide +kernel
theorem dX9_feed_63 : decode cX9_feed 63 = .ok (.goto (-28), 3) := by decide +kernel
theorem dX9_feed_66 : decode cX9_feed 66 = .ok (.aload_n 0, 1) := by decide +kernel
theorem dX9_feed_67 : decode cX9_feed 67 = .ok (.getfield 33, 3) := by decide +kernel
theorem dX9_feed_70 : decode cX9_feed 70 = .ok (.getfield 164, 3) := by decide +kernel
theorem dX9_feed_73 : decode cX9_feed 73 = .ok (.ireturn, 1) := by decide +kernel
theorem dX9_read_0 : decode cX9_read 0 = .ok (.iload_n 1, 1) := by decide +kernel
theorem dX9_read_1 : decode cX9_read 1 = .ok (.invokestatic 61, 3) := by decide +kernel
theorem dX9_read_4 : decode cX9_read 4 = .ok (.iload_n 2, 1) := by decide +kernel
theorem dX9_read_5 : decode cX9_read 5 = .ok (.invokestatic 65, 3) := by decide +kernel
theorem dX9_read_8 : decode cX9_read 8 = .ok (.iload_n 3, 1) := by decide +kernel
theorem dX9_read_9 : decode cX9_read 9 = .ok (.invokestatic 100, 3) := by decide +kernel
theorem dX9_read_12 : decode cX9_read 12 = .ok (.aload_n 0, 1) := by decide +kernel
theorem dX9_read_13 : decode cX9_read 13 = .ok (.getfield 33, 3) := by decide +kernel
theorem dX9_read_16 : decode cX9_read 16 = .ok (.invokevirtual 167, 3) := by decide +kernel
theorem dX9_read_19 : decode cX9_read 19 = .ok (.istore 4, 2) := by decide +kernel
theorem dX9_read_21 : decode cX9_read 21 = .ok (.iload 4, 2) := by decide +kernel
theorem dX9_read_23 : decode cX9_read 23 = .ok (.iconst (-1), 1) := by decide +kernel
theorem dX9_read_24 : decode cX9_read 24 = .ok (.if_icmp .ne 22, 3) := by decide +kernel
theorem dX9_read_27 : decode cX9_read 27 = .ok (.aload_n 0, 1) := by decide +kernel
theorem dX9_read_28 : decode cX9_read 28 = .ok (.iload_n 1, 1) := by decide +kernel
theorem dX9_read_29 : decode cX9_read 29 = .ok (.iload_n 2, 1) := by decide +kernel
theorem dX9_read_30 : decode cX9_read 30 = .ok (.aload_n 0, 1) := by decide +kernel
theorem dX9_read_31 : decode cX9_read 31 = .ok (.getfield 45, 3) := by decide +kernel
theorem dX9_read_34 : decode cX9_read 34 = .ok (.aload_n 0, 1) := by decide +kernel
theorem dX9_read_35 : decode cX9_read 35 = .ok (.getfield 33, 3) := by decide +kernel
theorem dX9_read_38 : decode cX9_read 38 = .ok (.iload_n 2, 1) := by decide +kernel
theorem dX9_read_39 : decode cX9_read 39 = .ok (.iload_n 3, 1) := by decide +kernel
theorem dX9_read_40 : decode cX9_read 40 = .ok (.invokevirtual 171, 3) := by decide +kernel
theorem dX9_read_43 : decode cX9_read 43 = .ok (.invokevirtual 70, 3) := by decide +kernel
theorem dX9_read_46 : decode cX9_read 46 = .ok (.aload_n 0, 1) := by decide +kernel
theorem dX9_read_47 : decode cX9_read 47 = .ok (.getfield 33, 3) := by decide +kernel
theorem dX9_read_50 : decode cX9_read 50 = .ok (.invokevirtual 175, 3) := by decide +kernel
theorem dX9_read_53 : decode cX9_read 53 = .ok (.iload 4, 2) := by decide +kernel
theorem dX9_read_55 : decode cX9_read 55 = .ok (.iconst (-1), 1) := by decide +kernel
theorem dX9_read_56 : decode cX9_read 56 = .ok (.if_icmp .ne 7, 3) := by decide +kernel
theorem dX9_read_59 : decode cX9_read 59 = .ok (.iconst 0, 1) := by decide +kernel
theorem dX9_read_60 : decode cX9_read 60 = .ok (.goto 7, 3) := by decide +kernel
theorem dX9_read_63 : decode cX9_read 63 = .ok (.iconst (-1), 1) := by decide +kernel
theorem dX9_read_64 : decode cX9_read 64 = .ok (.iload 4, 2) := by decide +kernel
theorem dX9_read_66 : decode cX9_read 66 = .ok (.isub, 1) := by decide +kernel
theorem dX9_read_67 : decode cX9_read 67 = .ok (.ireturn, 1) := by decide +kernel
theorem dX9_needForm_0 : decode cX9_needForm 0 = .ok (.iload_n 0, 1) := by decide +kernel
theorem dX9_needForm_1 : decode cX9_needForm 1 = .ok (.ifCond .lt 8, 3) := by decide +kernel
theorem dX9_needForm_4 : decode cX9_needForm 4 = .ok (.iload_n 0, 1) := by decide +kernel
theorem dX9_needForm_5 : decode cX9_needForm 5 = .ok (.iconst 5, 1) := by decide +kernel
theorem dX9_needForm_6 : decode cX9_needForm 6 = .ok (.if_icmp .le 13, 3) := by decide +kernel
theorem dX9_needForm_9 : decode cX9_needForm 9 = .ok (.new 89, 3) := by decide +kernel
theorem dX9_needForm_12 : decode cX9_needForm 12 = .ok (.dup, 1) := by decide +kernel
theorem dX9_needForm_13 : decode cX9_needForm 13 = .ok (.ldc 206, 2) := by decide +kernel
theorem dX9_needForm_15 : decode cX9_needForm 15 = .ok (.invokespecial 93, 3) := by decide +kernel
theorem dX9_needForm_18 : decode cX9_needForm 18 = .ok (.athrow, 1) := by decide +kernel
theorem dX9_needForm_19 : decode cX9_needForm 19 = .ok (.iload_n 0, 1) := by decide +kernel
theorem dX9_needForm_20 : decode cX9_needForm 20 = .ok (.iconst 3, 1) := by decide +kernel
theorem dX9_needForm_21 : decode cX9_needForm 21 = .ok (.if_icmp .ne 7, 3) := by decide +kernel
theorem dX9_needForm_24 : decode cX9_needForm 24 = .ok (.iconst 1, 1) := by decide +kernel
theorem dX9_needForm_25 : decode cX9_needForm 25 = .ok (.goto 4, 3) := by decide +kernel
theorem dX9_needForm_28 : decode cX9_needForm 28 = .ok (.iconst 0, 1) := by decide +kernel
theorem dX9_needForm_29 : decode cX9_needForm 29 = .ok (.istore_n 2, 1) := by decide +kernel
theorem dX9_needForm_30 : decode cX9_needForm 30 = .ok (.iload_n 0, 1) := by decide +kernel
theorem dX9_needForm_31 : decode cX9_needForm 31 = .ok (.iconst 2, 1) := by decide +kernel
theorem dX9_needForm_32 : decode cX9_needForm 32 = .ok (.if_icmp .eq 8, 3) := by decide +kernel
theorem dX9_needForm_35 : decode cX9_needForm 35 = .ok (.iload_n 0, 1) := by decide +kernel
theorem dX9_needForm_36 : decode cX9_needForm 36 = .ok (.iconst 3, 1) := by decide +kernel
theorem dX9_needForm_37 : decode cX9_needForm 37 = .ok (.if_icmp .ne 24, 3) := by decide +kernel
theorem dX9_needForm_40 : decode cX9_needForm 40 = .ok (.iload_n 1, 1) := by decide +kernel
theorem dX9_needForm_41 : decode cX9_needForm 41 = .ok (.iload_n 2, 1) := by decide +kernel
theorem dX9_needForm_42 : decode cX9_needForm 42 = .ok (.if_icmp .lt 9, 3) := by decide +kernel
theorem dX9_needForm_45 : decode cX9_needForm 45 = .ok (.iload_n 1, 1) := by decide +kernel
theorem dX9_needForm_46 : decode cX9_needForm 46 = .ok (.bipush 60, 2) := by decide +kernel
theorem dX9_needForm_48 : decode cX9_needForm 48 = .ok (.if_icmp .le 13, 3) := by decide +kernel
theorem dX9_needForm_51 : decode cX9_needForm 51 = .ok (.new 89, 3) := by decide +kernel
theorem dX9_needForm_54 : decode cX9_needForm 54 = .ok (.dup, 1) := by decide +kernel
theorem dX9_needForm_55 : decode cX9_needForm 55 = .ok (.ldc 208, 2) := by decide +kernel
theorem dX9_needForm_57 : decode cX9_needForm 57 = .ok (.invokespecial 93, 3) := by decide +kernel
theorem dX9_needForm_60 : decode cX9_needForm 60 = .ok (.athrow, 1) := by decide +kernel
theorem dX9_needForm_61 : decode cX9_needForm 61 = .ok (.return_, 1) := by decide +kernel
theorem dX9_write_0 : decode cX9_write 0 = .ok (.iload_n 1, 1) := by decide +kernel
theorem dX9_write_1 : decode cX9_write 1 = .ok (.invokestatic 61, 3) := by decide +kernel
theorem dX9_write_4 : decode cX9_write 4 = .ok (.iload_n 2, 1) := by decide +kernel
theorem dX9_write_5 : decode cX9_write 5 = .ok (.iload_n 3, 1) := by decide +kernel
theorem dX9_write_6 : decode cX9_write 6 = .ok (.invokestatic 178, 3) := by decide +kernel
theorem dX9_write_9 : decode cX9_write 9 = .ok (.iload 4, 2) := by decide +kernel
theorem dX9_write_11 : decode cX9_write 11 = .ok (.invokestatic 100, 3) := by decide +kernel
theorem dX9_write_14 : decode cX9_write 14 = .ok (.aload_n 0, 1) := by decide +kernel
theorem dX9_write_15 : decode cX9_write 15 = .ok (.iload_n 1, 1) := by decide +kernel
theorem dX9_write_16 : decode cX9_write 16 = .ok (.aload_n 0, 1) := by decide +kernel
theorem dX9_write_17 : decode cX9_write 17 = .ok (.getfield 20, 3) := by decide +kernel
theorem dX9_write_20 : decode cX9_write 20 = .ok (.invokevirtual 74, 3) := by decide +kernel
theorem dX9_write_23 : decode cX9_write 23 = .ok (.aload_n 0, 1) := by decide +kernel
theorem dX9_write_24 : decode cX9_write 24 = .ok (.getfield 57, 3) := by decide +kernel
theorem dX9_write_27 : decode cX9_write 27 = .ok (.aload_n 0, 1) := by decide +kernel
theorem dX9_write_28 : decode cX9_write 28 = .ok (.getfield 20, 3) := by decide +kernel
theorem dX9_write_31 : decode cX9_write 31 = .ok (.iload_n 2, 1) := by decide +kernel
theorem dX9_write_32 : decode cX9_write 32 = .ok (.iload_n 3, 1) := by decide +kernel
theorem dX9_write_33 : decode cX9_write 33 = .ok (.iload 4, 2) := by decide +kernel
theorem dX9_write_35 : decode cX9_write 35 = .ok (.invokevirtual 182, 3) := by decide +kernel
theorem dX9_write_38 : decode cX9_write 38 = .ok (.aload_n 0, 1) := by decide +kernel
theorem dX9_write_39 : decode cX9_write 39 = .ok (.getfield 57, 3) := by decide +kernel
theorem dX9_write_42 : decode cX9_write 42 = .ok (.getfield 186, 3) := by decide +kernel
theorem dX9_write_45 : decode cX9_write 45 = .ok (.getfield 190, 3) := by decide +kernel
theorem dX9_write_48 : decode cX9_write 48 = .ok (.ireturn, 1) := by decide +kernel
theorem dX9_letter_0 : decode cX9_letter 0 = .ok (.aload_n 0, 1) := by decide +kernel
theorem dX9_letter_1 : decode cX9_letter 1 = .ok (.getfield 57, 3) := by decide +kernel
theorem dX9_letter_4 : decode cX9_letter 4 = .ok (.getfield 186, 3) := by decide +kernel
theorem dX9_letter_7 : decode cX9_letter 7 = .ok (.iload_n 1, 1) := by decide +kernel
theorem dX9_letter_8 : decode cX9_letter 8 = .ok (.invokevirtual 193, 3) := by decide +kernel
theorem dX9_letter_11 : decode cX9_letter 11 = .ok (.ireturn, 1) := by decide +kernel
theorem dX10_set_0 : decode cX10_set 0 = .ok (.aload_n 0, 1) := by decide +kernel
theorem dX10_set_1 : decode cX10_set 1 = .ok (.iconst 0, 1) := by decide +kernel
theorem dX10_set_2 : decode cX10_set 2 = .ok (.putfield 15, 3) := by decide +kernel
theorem dX10_set_5 : decode cX10_set 5 = .ok (.lload_n 1, 1) := by decide +kernel
theorem dX10_set_6 : decode cX10_set 6 = .ok (.lstore_n 3, 1) := by decide +kernel
theorem dX10_set_7 : decode cX10_set 7 = .ok (.lload_n 3, 1) := by decide +kernel
theorem dX10_set_8 : decode cX10_set 8 = .ok (.lconst 0, 1) := by decide +kernel
theorem dX10_set_9 : decode cX10_set 9 = .ok (.lcmp, 1) := by decide +kernel
theorem dX10_set_10 : decode cX10_set 10 = .ok (.ifCond .eq 36, 3) := by decide +kernel
theorem dX10_set_13 : decode cX10_set 13 = .ok (.aload_n 0, 1) := by decide +kernel
theorem dX10_set_14 : decode cX10_set 14 = .ok (.getfield 9, 3) := by decide +kernel
theorem dX10_set_17 : decode cX10_set 17 = .ok (.aload_n 0, 1) := by decide +kernel
theorem dX10_set_18 : decode cX10_set 18 = .ok (.getfield 15, 3) := by decide +kernel
theorem dX10_set_21 : decode cX10_set 21 = .ok (.lload_n 3, 1) := by decide +kernel
theorem dX10_set_22 : decode cX10_set 22 = .ok (.ldc2_w 19, 3) := by decide +kernel
theorem dX10_set_25 : decode cX10_set 25 = .ok (.land, 1) := by decide +kernel
theorem dX10_set_26 : decode cX10_set 26 = .ok (.l2i, 1) := by decide +kernel
theorem dX10_set_27 : decode cX10_set 27 = .ok (.iastore, 1) := by decide +kernel
theorem dX10_set_28 : decode cX10_set 28 = .ok (.aload_n 0, 1) := by decide +kernel
theorem dX10_set_29 : decode cX10_set 29 = .ok (.dup, 1) := by decide +kernel
theorem dX10_set_30 : decode cX10_set 30 = .ok (.getfield 15, 3) := by decide +kernel
theorem dX10_set_33 : decode cX10_set 33 = .ok (.iconst 1, 1) := by decide +kernel
theorem dX10_set_34 : decode cX10_set 34 = .ok (.iadd, 1) := by decide +kernel
theorem dX10_set_35 : decode cX10_set 35 = .ok (.putfield 15, 3) := by decide +kernel
theorem dX10_set_38 : decode cX10_set 38 = .ok (.lload_n 3, 1) := by decide +kernel
theorem dX10_set_39 : decode cX10_set 39 = .ok (.bipush 30, 2) := by decide +kernel
theorem dX10_set_41 : decode cX10_set 41 = .ok (.lushr, 1) := by decide +kernel
theorem dX10_set_42 : decode cX10_set 42 = .ok (.lstore_n 3, 1) := by decide +kernel
theorem dX10_set_43 : decode cX10_set 43 = .ok (.goto (-36), 3) := by decide +kernel
theorem dX10_set_46 : decode cX10_set 46 = .ok (.return_, 1) := by decide +kernel
theorem dX10_copy_0 : decode cX10_copy 0 = .ok (.aload_n 0, 1) := by decide +kernel
theorem dX10_copy_1 : decode cX10_copy 1 = .ok (.aload_n 1, 1) := by decide +kernel
theorem dX10_copy_2 : decode cX10_copy 2 = .ok (.getfield 15, 3) := by decide +kernel
theorem dX10_copy_5 : decode cX10_copy 5 = .ok (.putfield 15, 3) := by decide +kernel
theorem dX10_copy_8 : decode cX10_copy 8 = .ok (.iconst 0, 1) := by decide +kernel
theorem dX10_copy_9 : decode cX10_copy 9 = .ok (.istore_n 2, 1) := by decide +kernel
theorem dX10_copy_10 : decode cX10_copy 10 = .ok (.iload_n 2, 1) := by decide +kernel
theorem dX10_copy_11 : decode cX10_copy 11 = .ok (.aload_n 0, 1) := by decide +kernel
theorem dX10_copy_12 : decode cX10_copy 12 = .ok (.getfield 15, 3) := by decide +kernel
theorem dX10_copy_15 : decode cX10_copy 15 = .ok (.if_icmp .ge 21, 3) := by decide +kernel
theorem dX10_copy_18 : decode cX10_copy 18 = .ok (.aload_n 0, 1) := by decide +kernel
theorem dX10_copy_19 : decode cX10_copy 19 = .ok (.getfield 9, 3) := by decide +kernel
theorem dX10_copy_22 : decode cX10_copy 22 = .ok (.iload_n 2, 1) := by decide +kernel
theorem dX10_copy_23 : decode cX10_copy 23 = .ok (.aload_n 1, 1) := by decide +kernel
theorem dX10_copy_24 : decode cX10_copy 24 = .ok (.getfield 9, 3) := by decide +kernel
theorem dX10_copy_27 : decode cX10_copy 27 = .ok (.iload_n 2, 1) := by decide +kernel
theorem dX10_copy_28 : decode cX10_copy 28 = .ok (.iaload, 1) := by decide +kernel
theorem dX10_copy_29 : decode cX10_copy 29 = .ok (.iastore, 1) := by decide +kernel
theorem dX10_copy_30 : decode cX10_copy 30 = .ok (.iinc 2 1, 3) := by decide +kernel
theorem dX10_copy_33 : decode cX10_copy 33 = .ok (.goto (-23), 3) := by decide +kernel
theorem dX10_copy_36 : decode cX10_copy 36 = .ok (.return_, 1) := by decide +kernel
theorem dX10_bits_0 : decode cX10_bits 0 = .ok (.aload_n 0, 1) := by decide +kernel
theorem dX10_bits_1 : decode cX10_bits 1 = .ok (.getfield 15, 3) := by decide +kernel
theorem dX10_bits_4 : decode cX10_bits 4 = .ok (.ifCond .ne 7, 3) := by decide +kernel
theorem dX10_bits_7 : decode cX10_bits 7 = .ok (.iconst 0, 1) := by decide +kernel
theorem dX10_bits_8 : decode cX10_bits 8 = .ok (.goto 27, 3) := by decide +kernel
theorem dX10_bits_11 : decode cX10_bits 11 = .ok (.bipush 30, 2) := by decide +kernel
theorem dX10_bits_13 : decode cX10_bits 13 = .ok (.aload_n 0, 1) := by decide +kernel
theorem dX10_bits_14 : decode cX10_bits 14 = .ok (.getfield 15, 3) := by decide +kernel
theorem dX10_bits_17 : decode cX10_bits 17 = .ok (.imul, 1) := by decide +kernel
theorem dX10_bits_18 : decode cX10_bits 18 = .ok (.iconst 2, 1) := by decide +kernel
theorem dX10_bits_19 : decode cX10_bits 19 = .ok (.iadd, 1) := by decide +kernel
theorem dX10_bits_20 : decode cX10_bits 20 = .ok (.aload_n 0, 1) := by decide +kernel
theorem dX10_bits_21 : decode cX10_bits 21 = .ok (.getfield 9, 3) := by decide +kernel
theorem dX10_bits_24 : decode cX10_bits 24 = .ok (.aload_n 0, 1) := by decide +kernel
theorem dX10_bits_25 : decode cX10_bits 25 = .ok (.getfield 15, 3) := by decide +kernel
theorem dX10_bits_28 : decode cX10_bits 28 = .ok (.iconst 1, 1) := by decide +kernel
theorem dX10_bits_29 : decode cX10_bits 29 = .ok (.isub, 1) := by decide +kernel
theorem dX10_bits_30 : decode cX10_bits 30 = .ok (.iaload, 1) := by decide +kernel
theorem dX10_bits_31 : decode cX10_bits 31 = .ok (.invokestatic 21, 3) := by decide +kernel
theorem dX10_bits_34 : decode cX10_bits 34 = .ok (.isub, 1) := by decide +kernel
theorem dX10_bits_35 : decode cX10_bits 35 = .ok (.ireturn, 1) := by decide +kernel
theorem dX10_compare_0 : decode cX10_compare 0 = .ok (.aload_n 0, 1) := by decide +kernel
theorem dX10_compare_1 : decode cX10_compare 1 = .ok (.getfield 15, 3) := by decide +kernel
theorem dX10_compare_4 : decode cX10_compare 4 = .ok (.aload_n 1, 1) := by decide +kernel
theorem dX10_compare_5 : decode cX10_compare 5 = .ok (.getfield 15, 3) := by decide +kernel
theorem dX10_compare_8 : decode cX10_compare 8 = .ok (.if_icmp .eq 20, 3) := by decide +kernel
theorem dX10_compare_11 : decode cX10_compare 11 = .ok (.aload_n 0, 1) := by decide +kernel
theorem dX10_compare_12 : decode cX10_compare 12 = .ok (.getfield 15, 3) := by decide +kernel
theorem dX10_compare_15 : decode cX10_compare 15 = .ok (.aload_n 1, 1) := by decide +kernel
theorem dX10_compare_16 : decode cX10_compare 16 = .ok (.getfield 15, 3) := by decide +kernel
theorem dX10_compare_19 : decode cX10_compare 19 = .ok (.if_icmp .ge 7, 3) := by decide +kernel
theorem dX10_compare_22 : decode cX10_compare 22 = .ok (.iconst (-1), 1) := by decide +kernel
theorem dX10_compare_23 : decode cX10_compare 23 = .ok (.goto 4, 3) := by decide +kernel
theorem dX10_compare_26 : decode cX10_compare 26 = .ok (.iconst 1, 1) := by decide +kernel
theorem dX10_compare_27 : decode cX10_compare 27 = .ok (.ireturn, 1) := by decide +kernel
theorem dX10_compare_28 : decode cX10_compare 28 = .ok (.aload_n 0, 1) := by decide +kernel
theorem dX10_compare_29 : decode cX10_compare 29 = .ok (.getfield 15, 3) := by decide +kernel
theorem dX10_compare_32 : decode cX10_compare 32 = .ok (.iconst 1, 1) := by decide +kernel
theorem dX10_compare_33 : decode cX10_compare 33 = .ok (.isub, 1) := by decide +kernel
theorem dX10_compare_34 : decode cX10_compare 34 = .ok (.istore_n 2, 1) := by decide +kernel
theorem dX10_compare_35 : decode cX10_compare 35 = .ok (.iload_n 2, 1) := by decide +kernel
theorem dX10_compare_36 : decode cX10_compare 36 = .ok (.ifCond .lt 45, 3) := by decide +kernel
theorem dX10_compare_39 : decode cX10_compare 39 = .ok (.aload_n 0, 1) := by decide +kernel
theorem dX10_compare_40 : decode cX10_compare 40 = .ok (.getfield 9, 3) := by decide +kernel
theorem dX10_compare_43 : decode cX10_compare 43 = .ok (.iload_n 2, 1) := by decide +kernel
theorem dX10_compare_44 : decode cX10_compare 44 = .ok (.iaload, 1) := by decide +kernel
theorem dX10_compare_45 : decode cX10_compare 45 = .ok (.aload_n 1, 1) := by decide +kernel
theorem dX10_compare_46 : decode cX10_compare 46 = .ok (.getfield 9, 3) := by decide +kernel
theorem dX10_compare_49 : decode cX10_compare 49 = .ok (.iload_n 2, 1) := by decide +kernel
theorem dX10_compare_50 : decode cX10_compare 50 = .ok (.iaload, 1) := by decide +kernel
theorem dX10_compare_51 : decode cX10_compare 51 = .ok (.if_icmp .eq 24, 3) := by decide +kernel
theorem dX10_compare_54 : decode cX10_compare 54 = .ok (.aload_n 0, 1) := by decide +kernel
theorem dX10_compare_55 : decode cX10_compare 55 = .ok (.getfield 9, 3) := by decide +kernel
theorem dX10_compare_58 : decode cX10_compare 58 = .ok (.iload_n 2, 1) := by decide +kernel
theorem dX10_compare_59 : decode cX10_compare 59 = .ok (.iaload, 1) := by decide +kernel
theorem dX10_compare_60 : decode cX10_compare 60 = .ok (.aload_n 1, 1) := by decide +kernel
theorem dX10_compare_61 : decode cX10_compare 61 = .ok (.getfield 9, 3) := by decide +kernel
theorem dX10_compare_64 : decode cX10_compare 64 = .ok (.iload_n 2, 1) := by decide +kernel
theorem dX10_compare_65 : decode cX10_compare 65 = .ok (.iaload, 1) := by decide +kernel
theorem dX10_compare_66 : decode cX10_compare 66 = .ok (.if_icmp .ge 7, 3) := by decide +kernel
theorem dX10_compare_69 : decode cX10_compare 69 = .ok (.iconst (-1), 1) := by decide +kernel
theorem dX10_compare_70 : decode cX10_compare 70 = .ok (.goto 4, 3) := by decide +kernel
theorem dX10_compare_73 : decode cX10_compare 73 = .ok (.iconst 1, 1) := by decide +kernel
theorem dX10_compare_74 : decode cX10_compare 74 = .ok (.ireturn, 1) := by decide +kernel
theorem dX10_compare_75 : decode cX10_compare 75 = .ok (.iinc 2 (-1), 3) := by decide +kernel
theorem dX10_compare_78 : decode cX10_compare 78 = .ok (.goto (-43), 3) := by decide +kernel
theorem dX10_compare_81 : decode cX10_compare 81 = .ok (.iconst 0, 1) := by decide +kernel
theorem dX10_compare_82 : decode cX10_compare 82 = .ok (.ireturn, 1) := by decide +kernel
theorem dX10_trim_0 : decode cX10_trim 0 = .ok (.aload_n 0, 1) := by decide +kernel
theorem dX10_trim_1 : decode cX10_trim 1 = .ok (.iload_n 1, 1) := by decide +kernel
theorem dX10_trim_2 : decode cX10_trim 2 = .ok (.putfield 15, 3) := by decide +kernel
theorem dX10_trim_5 : decode cX10_trim 5 = .ok (.aload_n 0, 1) := by decide +kernel
theorem dX10_trim_6 : decode cX10_trim 6 = .ok (.getfield 15, 3) := by decide +kernel
theorem dX10_trim_9 : decode cX10_trim 9 = .ok (.ifCond .le 30, 3) := by decide +kernel
theorem dX10_trim_12 : decode cX10_trim 12 = .ok (.aload_n 0, 1) := by decide +kernel
theorem dX10_trim_13 : decode cX10_trim 13 = .ok (.getfield 9, 3) := by decide +kernel
theorem dX10_trim_16 : decode cX10_trim 16 = .ok (.aload_n 0, 1) := by decide +kernel
theorem dX10_trim_17 : decode cX10_trim 17 = .ok (.getfield 15, 3) := by decide +kernel
theorem dX10_trim_20 : decode cX10_trim 20 = .ok (.iconst 1, 1) := by decide +kernel
theorem dX10_trim_21 : decode cX10_trim 21 = .ok (.isub, 1) := by decide +kernel
theorem dX10_trim_22 : decode cX10_trim 22 = .ok (.iaload, 1) := by decide +kernel
theorem dX10_trim_23 : decode cX10_trim 23 = .ok (.ifCond .ne 16, 3) := by decide +kernel
theorem dX10_trim_26 : decode cX10_trim 26 = .ok (.aload_n 0, 1) := by decide +kernel
theorem dX10_trim_27 : decode cX10_trim 27 = .ok (.dup, 1) := by decide +kernel
theorem dX10_trim_28 : decode cX10_trim 28 = .ok (.getfield 15, 3) := by decide +kernel
theorem dX10_trim_31 : decode cX10_trim 31 = .ok (.iconst 1, 1) := by decide +kernel
theorem dX10_trim_32 : decode cX10_trim 32 = .ok (.isub, 1) := by decide +kernel
theorem dX10_trim_33 : decode cX10_trim 33 = .ok (.putfield 15, 3) := by decide +kernel
theorem dX10_trim_36 : decode cX10_trim 36 = .ok (.goto (-31), 3) := by decide +kernel
theorem dX10_trim_39 : decode cX10_trim 39 = .ok (.return_, 1) := by decide +kernel
theorem dX10_add_0 : decode cX10_add 0 = .ok (.aload_n 0, 1) := by decide +kernel
theorem dX10_add_1 : decode cX10_add 1 = .ok (.getfield 15, 3) := by decide +kernel
theorem dX10_add_4 : decode cX10_add 4 = .ok (.aload_n 1, 1) := by decide +kernel
theorem dX10_add_5 : decode cX10_add 5 = .ok (.getfield 15, 3) := by decide +kernel
theorem dX10_add_8 : decode cX10_add 8 = .ok (.invokestatic 27, 3) := by decide +kernel
theorem dX10_add_11 : decode cX10_add 11 = .ok (.istore_n 2, 1) := by decide +kernel
theorem dX10_add_12 : decode cX10_add 12 = .ok (.iconst 0, 1) := by decide +kernel
theorem dX10_add_13 : decode cX10_add 13 = .ok (.istore_n 3, 1) := by decide +kernel
theorem dX10_add_14 : decode cX10_add 14 = .ok (.iconst 0, 1) := by decide +kernel
theorem dX10_add_15 : decode cX10_add 15 = .ok (.istore 4, 2) := by decide +kernel
theorem dX10_add_17 : decode cX10_add 17 = .ok (.iload 4, 2) := by decide +kernel
theorem dX10_add_19 : decode cX10_add 19 = .ok (.iload_n 2, 1) := by decide +kernel
theorem dX10_add_20 : decode cX10_add 20 = .ok (.if_icmp .ge 78, 3) := by decide +kernel
theorem dX10_add_23 : decode cX10_add 23 = .ok (.iload_n 3, 1) := by decide +kernel
theorem dX10_add_24 : decode cX10_add 24 = .ok (.i2l, 1) := by decide +kernel
theorem dX10_add_25 : decode cX10_add 25 = .ok (.iload 4, 2) := by decide +kernel
theorem dX10_add_27 : decode cX10_add 27 = .ok (.aload_n 0, 1) := by decide +kernel
theorem dX10_add_28 : decode cX10_add 28 = .ok (.getfield 15, 3) := by decide +kernel
theorem dX10_add_31 : decode cX10_add 31 = .ok (.if_icmp .ge 13, 3) := by decide +kernel
theorem dX10_add_34 : decode cX10_add 34 = .ok (.aload_n 0, 1) := by decide +kernel
theorem dX10_add_35 : decode cX10_add 35 = .ok (.getfield 9, 3) := by decide +kernel
theorem dX10_add_38 : decode cX10_add 38 = .ok (.iload 4, 2) := by decide +kernel
theorem dX10_add_40 : decode cX10_add 40 = .ok (.iaload, 1) := by decide +kernel
theorem dX10_add_41 : decode cX10_add 41 = .ok (.goto 4, 3) := by decide +kernel
theorem dX10_add_44 : decode cX10_add 44 = .ok (.iconst 0, 1) := by decide +kernel
theorem dX10_add_45 : decode cX10_add 45 = .ok (.i2l, 1) := by decide +kernel
theorem dX10_add_46 : decode cX10_add 46 = .ok (.ladd, 1) := by decide +kernel
theorem dX10_add_47 : decode cX10_add 47 = .ok (.iload 4, 2) := by decide +kernel
theorem dX10_add_49 : decode cX10_add 49 = .ok (.aload_n 1, 1) := by decide +kernel
theorem dX10_add_50 : decode cX10_add 50 = .ok (.getfield 15, 3) := by decide +kernel
theorem dX10_add_53 : decode cX10_add 53 = .ok (.if_icmp .ge 13, 3) := by decide +kernel
theorem dX10_add_56 : decode cX10_add 56 = .ok (.aload_n 1, 1) := by decide +kernel
theorem dX10_add_57 : decode cX10_add 57 = .ok (.getfield 9, 3) := by decide +kernel
theorem dX10_add_60 : decode cX10_add 60 = .ok (.iload 4, 2) := by decide +kernel
theorem dX10_add_62 : decode cX10_add 62 = .ok (.iaload, 1) := by decide +kernel
theorem dX10_add_63 : decode cX10_add 63 = .ok (.goto 4, 3) := by decide +kernel
theorem dX10_add_66 : decode cX10_add 66 = .ok (.iconst 0, 1) := by decide +kernel
theorem dX10_add_67 : decode cX10_add 67 = .ok (.i2l, 1) := by decide +kernel
theorem dX10_add_68 : decode cX10_add 68 = .ok (.ladd, 1) := by decide +kernel
theorem dX10_add_69 : decode cX10_add 69 = .ok (.lstore 5, 2) := by decide +kernel
theorem dX10_add_71 : decode cX10_add 71 = .ok (.aload_n 0, 1) := by decide +kernel
theorem dX10_add_72 : decode cX10_add 72 = .ok (.getfield 9, 3) := by decide +kernel
theorem dX10_add_75 : decode cX10_add 75 = .ok (.iload 4, 2) := by decide +kernel
theorem dX10_add_77 : decode cX10_add 77 = .ok (.lload 5, 2) := by decide +kernel
theorem dX10_add_79 : decode cX10_add 79 = .ok (.ldc2_w 19, 3) := by decide +kernel
theorem dX10_add_82 : decode cX10_add 82 = .ok (.land, 1) := by decide +kernel
theorem dX10_add_83 : decode cX10_add 83 = .ok (.l2i, 1) := by decide +kernel
theorem dX10_add_84 : decode cX10_add 84 = .ok (.iastore, 1) := by decide +kernel
theorem dX10_add_85 : decode cX10_add 85 = .ok (.lload 5, 2) := by decide +kernel
theorem dX10_add_87 : decode cX10_add 87 = .ok (.bipush 30, 2) := by decide +kernel
theorem dX10_add_89 : decode cX10_add 89 = .ok (.lshr, 1) := by decide +kernel
theorem dX10_add_90 : decode cX10_add 90 = .ok (.l2i, 1) := by decide +kernel
theorem dX10_add_91 : decode cX10_add 91 = .ok (.istore_n 3, 1) := by decide +kernel
theorem dX10_add_92 : decode cX10_add 92 = .ok (.iinc 4 1, 3) := by decide +kernel
theorem dX10_add_95 : decode cX10_add 95 = .ok (.goto (-78), 3) := by decide +kernel
theorem dX10_add_98 : decode cX10_add 98 = .ok (.aload_n 0, 1) := by decide +kernel
theorem dX10_add_99 : decode cX10_add 99 = .ok (.getfield 9, 3) := by decide +kernel
theorem dX10_add_102 : decode cX10_add 102 = .ok (.iload_n 2, 1) := by decide +kernel
theorem dX10_add_103 : decode cX10_add 103 = .ok (.iload_n 3, 1) := by decide +kernel
theorem dX10_add_104 : decode cX10_add 104 = .ok (.iastore, 1) := by decide +kernel
theorem dX10_add_105 : decode cX10_add 105 = .ok (.aload_n 0, 1) := by decide +kernel
theorem dX10_add_106 : decode cX10_add 106 = .ok (.iload_n 2, 1) := by decide +kernel
theorem dX10_add_107 : decode cX10_add 107 = .ok (.iconst 1, 1) := by decide +kernel
theorem dX10_add_108 : decode cX10_add 108 = .ok (.iadd, 1) := by decide +kernel
theorem dX10_add_109 : decode cX10_add 109 = .ok (.invokevirtual 33, 3) := by decide +kernel
theorem dX10_add_112 : decode cX10_add 112 = .ok (.return_, 1) := by decide +kernel
theorem dX10_addSmall_0 : decode cX10_addSmall 0 = .ok (.iload_n 1, 1) := by decide +kernel
theorem dX10_addSmall_1 : decode cX10_addSmall 1 = .ok (.i2l, 1) := by decide +kernel
theorem dX10_addSmall_2 : decode cX10_addSmall 2 = .ok (.lstore_n 2, 1) := by decide +kernel
theorem dX10_addSmall_3 : decode cX10_addSmall 3 = .ok (.iconst 0, 1) := by decide +kernel
theorem dX10_addSmall_4 : decode cX10_addSmall 4 = .ok (.istore 4, 2) := by decide +kernel
theorem dX10_addSmall_6 : decode cX10_addSmall 6 = .ok (.lload_n 2, 1) := by decide +kernel
theorem dX10_addSmall_7 : decode cX10_addSmall 7 = .ok (.lconst 0, 1) := by decide +kernel
theorem dX10_addSmall_8 : decode cX10_addSmall 8 = .ok (.lcmp, 1) := by decide +kernel
theorem dX10_addSmall_9 : decode cX10_addSmall 9 = .ok (.ifCond .eq 65, 3) := by decide +kernel
theorem dX10_addSmall_12 : decode cX10_addSmall 12 = .ok (.iload 4, 2) := by decide +kernel
theorem dX10_addSmall_14 : decode cX10_addSmall 14 = .ok (.aload_n 0, 1) := by decide +kernel
theorem dX10_addSmall_15 : decode cX10_addSmall 15 = .ok (.getfield 15, 3) := by decide +kernel
theorem dX10_addSmall_18 : decode cX10_addSmall 18 = .ok (.if_icmp .ne 21, 3) := by decide +kernel
theorem dX10_addSmall_21 : decode cX10_addSmall 21 = .ok (.aload_n 0, 1) := by decide +kernel
theorem dX10_addSmall_22 : decode cX10_addSmall 22 = .ok (.getfield 9, 3) := by decide +kernel
theorem dX10_addSmall_25 : decode cX10_addSmall 25 = .ok (.iload 4, 2) := by decide +kernel
theorem dX10_addSmall_27 : decode cX10_addSmall 27 = .ok (.iconst 0, 1) := by decide +kernel
theorem dX10_addSmall_28 : decode cX10_addSmall 28 = .ok (.iastore, 1) := by decide +kernel
theorem dX10_addSmall_29 : decode cX10_addSmall 29 = .ok (.aload_n 0, 1) := by decide +kernel
theorem dX10_addSmall_30 : decode cX10_addSmall 30 = .ok (.dup, 1) := by decide +kernel
theorem dX10_addSmall_31 : decode cX10_addSmall 31 = .ok (.getfield 15, 3) := by decide +kernel
theorem dX10_addSmall_34 : decode cX10_addSmall 34 = .ok (.iconst 1, 1) := by decide +kernel
theorem dX10_addSmall_35 : decode cX10_addSmall 35 = .ok (.iadd, 1) := by decide +kernel
theorem dX10_addSmall_36 : decode cX10_addSmall 36 = .ok (.putfield 15, 3) := by decide +kernel
theorem dX10_addSmall_39 : decode cX10_addSmall 39 = .ok (.lload_n 2, 1) := by decide +kernel
theorem dX10_addSmall_40 : decode cX10_addSmall 40 = .ok (.aload_n 0, 1) := by decide +kernel
theorem dX10_addSmall_41 : decode cX10_addSmall 41 = .ok (.getfield 9, 3) := by decide +kernel
theorem dX10_addSmall_44 : decode cX10_addSmall 44 = .ok (.iload 4, 2) := by decide +kernel
theorem dX10_addSmall_46 : decode cX10_addSmall 46 = .ok (.iaload, 1) := by decide +kernel
theorem dX10_addSmall_47 : decode cX10_addSmall 47 = .ok (.i2l, 1) := by decide +kernel
theorem dX10_addSmall_48 : decode cX10_addSmall 48 = .ok (.ladd, 1) := by decide +kernel
theorem dX10_addSmall_49 : decode cX10_addSmall 49 = .ok (.lstore_n 2, 1) := by decide +kernel
theorem dX10_addSmall_50 : decode cX10_addSmall 50 = .ok (.aload_n 0, 1) := by decide +kernel
theorem dX10_addSmall_51 : decode cX10_addSmall 51 = .ok (.getfield 9, 3) := by decide +kernel
theorem dX10_addSmall_54 : decode cX10_addSmall 54 = .ok (.iload 4, 2) := by decide +kernel
theorem dX10_addSmall_56 : decode cX10_addSmall 56 = .ok (.lload_n 2, 1) := by decide +kernel
theorem dX10_addSmall_57 : decode cX10_addSmall 57 = .ok (.ldc2_w 19, 3) := by decide +kernel
theorem dX10_addSmall_60 : decode cX10_addSmall 60 = .ok (.land, 1) := by decide +kernel
theorem dX10_addSmall_61 : decode cX10_addSmall 61 = .ok (.l2i, 1) := by decide +kernel
theorem dX10_addSmall_62 : decode cX10_addSmall 62 = .ok (.iastore, 1) := by decide +kernel
theorem dX10_addSmall_63 : decode cX10_addSmall 63 = .ok (.lload_n 2, 1) := by decide +kernel
theorem dX10_addSmall_64 : decode cX10_addSmall 64 = .ok (.bipush 30, 2) := by decide +kernel
theorem dX10_addSmall_66 : decode cX10_addSmall 66 = .ok (.lshr, 1) := by decide +kernel
theorem dX10_addSmall_67 : decode cX10_addSmall 67 = .ok (.lstore_n 2, 1) := by decide +kernel
theorem dX10_addSmall_68 : decode cX10_addSmall 68 = .ok (.iinc 4 1, 3) := by decide +kernel
theorem dX10_addSmall_71 : decode cX10_addSmall 71 = .ok (.goto (-65), 3) := by decide +kernel
theorem dX10_addSmall_74 : decode cX10_addSmall 74 = .ok (.return_, 1) := by decide +kernel
theorem dX10_less_0 : decode cX10_less 0 = .ok (.iconst 0, 1) := by decide +kernel
theorem dX10_less_1 : decode cX10_less 1 = .ok (.istore_n 2, 1) := by decide +kernel
theorem dX10_less_2 : decode cX10_less 2 = .ok (.iconst 0, 1) := by decide +kernel
theorem dX10_less_3 : decode cX10_less 3 = .ok (.istore_n 3, 1) := by decide +kernel
theorem dX10_less_4 : decode cX10_less 4 = .ok (.iload_n 3, 1) := by decide +kernel
theorem dX10_less_5 : decode cX10_less 5 = .ok (.aload_n 0, 1) := by decide +kernel
theorem dX10_less_6 : decode cX10_less 6 = .ok (.getfield 15, 3) := by decide +kernel
theorem dX10_less_9 : decode cX10_less 9 = .ok (.if_icmp .ge 60, 3) := by decide +kernel
theorem dX10_less_12 : decode cX10_less 12 = .ok (.aload_n 0, 1) := by decide +kernel
theorem dX10_less_13 : decode cX10_less 13 = .ok (.getfield 9, 3) := by decide +kernel
theorem dX10_less_16 : decode cX10_less 16 = .ok (.iload_n 3, 1) := by decide +kernel
theorem dX10_less_17 : decode cX10_less 17 = .ok (.iaload, 1) := by decide +kernel
theorem dX10_less_18 : decode cX10_less 18 = .ok (.iload_n 2, 1) := by decide +kernel
theorem dX10_less_19 : decode cX10_less 19 = .ok (.isub, 1) := by decide +kernel
theorem dX10_less_20 : decode cX10_less 20 = .ok (.iload_n 3, 1) := by decide +kernel
theorem dX10_less_21 : decode cX10_less 21 = .ok (.aload_n 1, 1) := by decide +kernel
theorem dX10_less_22 : decode cX10_less 22 = .ok (.getfield 15, 3) := by decide +kernel
theorem dX10_less_25 : decode cX10_less 25 = .ok (.if_icmp .ge 12, 3) := by decide +kernel
theorem dX10_less_28 : decode cX10_less 28 = .ok (.aload_n 1, 1) := by decide +kernel
theorem dX10_less_29 : decode cX10_less 29 = .ok (.getfield 9, 3) := by decide +kernel
theorem dX10_less_32 : decode cX10_less 32 = .ok (.iload_n 3, 1) := by decide +kernel
theorem dX10_less_33 : decode cX10_less 33 = .ok (.iaload, 1) := by decide +kernel
theorem dX10_less_34 : decode cX10_less 34 = .ok (.goto 4, 3) := by decide +kernel
theorem dX10_less_37 : decode cX10_less 37 = .ok (.iconst 0, 1) := by decide +kernel
theorem dX10_less_38 : decode cX10_less 38 = .ok (.isub, 1) := by decide +kernel
theorem dX10_less_39 : decode cX10_less 39 = .ok (.istore 4, 2) := by decide +kernel
theorem dX10_less_41 : decode cX10_less 41 = .ok (.iload 4, 2) := by decide +kernel
theorem dX10_less_43 : decode cX10_less 43 = .ok (.ifCond .ge 7, 3) := by decide +kernel
theorem dX10_less_46 : decode cX10_less 46 = .ok (.iconst 1, 1) := by decide +kernel
theorem dX10_less_47 : decode cX10_less 47 = .ok (.goto 4, 3) := by decide +kernel
theorem dX10_less_50 : decode cX10_less 50 = .ok (.iconst 0, 1) := by decide +kernel
theorem dX10_less_51 : decode cX10_less 51 = .ok (.istore_n 2, 1) := by decide +kernel
theorem dX10_less_52 : decode cX10_less 52 = .ok (.aload_n 0, 1) := by decide +kernel
theorem dX10_less_53 : decode cX10_less 53 = .ok (.getfield 9, 3) := by decide +kernel
theorem dX10_less_56 : decode cX10_less 56 = .ok (.iload_n 3, 1) := by decide +kernel
theorem dX10_less_57 : decode cX10_less 57 = .ok (.iload 4, 2) := by decide +kernel
theorem dX10_less_59 : decode cX10_less 59 = .ok (.ldc 37, 2) := by decide +kernel
theorem dX10_less_61 : decode cX10_less 61 = .ok (.iand, 1) := by decide +kernel
theorem dX10_less_62 : decode cX10_less 62 = .ok (.iastore, 1) := by decide +kernel
theorem dX10_less_63 : decode cX10_less 63 = .ok (.iinc 3 1, 3) := by decide +kernel
theorem dX10_less_66 : decode cX10_less 66 = .ok (.goto (-62), 3) := by decide +kernel
theorem dX10_less_69 : decode cX10_less 69 = .ok (.aload_n 0, 1) := by decide +kernel
theorem dX10_less_70 : decode cX10_less 70 = .ok (.aload_n 0, 1) := by decide +kernel
theorem dX10_less_71 : decode cX10_less 71 = .ok (.getfield 15, 3) := by decide +kernel
theorem dX10_less_74 : decode cX10_less 74 = .ok (.invokevirtual 33, 3) := by decide +kernel
theorem dX10_less_77 : decode cX10_less 77 = .ok (.return_, 1) := by decide +kernel
theorem dX10_times_0 : decode cX10_times 0 = .ok (.iload_n 3, 1) := by decide +kernel
theorem dX10_times_1 : decode cX10_times 1 = .ok (.i2l, 1) := by decide +kernel
theorem dX10_times_2 : decode cX10_times 2 = .ok (.lstore 4, 2) := by decide +kernel
theorem dX10_times_4 : decode cX10_times 4 = .ok (.iconst 0, 1) := by decide +kernel
theorem dX10_times_5 : decode cX10_times 5 = .ok (.istore 6, 2) := by decide +kernel
theorem dX10_times_7 : decode cX10_times 7 = .ok (.iload 6, 2) := by decide +kernel
theorem dX10_times_9 : decode cX10_times 9 = .ok (.aload_n 0, 1) := by decide +kernel
theorem dX10_times_10 : decode cX10_times 10 = .ok (.getfield 15, 3) := by decide +kernel
theorem dX10_times_13 : decode cX10_times 13 = .ok (.if_icmp .ge 45, 3) := by decide +kernel
theorem dX10_times_16 : decode cX10_times 16 = .ok (.lload 4, 2) := by decide +kernel
theorem dX10_times_18 : decode cX10_times 18 = .ok (.aload_n 0, 1) := by decide +kernel
theorem dX10_times_19 : decode cX10_times 19 = .ok (.getfield 9, 3) := by decide +kernel
theorem dX10_times_22 : decode cX10_times 22 = .ok (.iload 6, 2) := by decide +kernel
theorem dX10_times_24 : decode cX10_times 24 = .ok (.iaload, 1) := by decide +kernel
theorem dX10_times_25 : decode cX10_times 25 = .ok (.i2l, 1) := by decide +kernel
theorem dX10_times_26 : decode cX10_times 26 = .ok (.lload_n 1, 1) := by decide +kernel
theorem dX10_times_27 : decode cX10_times 27 = .ok (.lmul, 1) := by decide +kernel
theorem dX10_times_28 : decode cX10_times 28 = .ok (.ladd, 1) := by decide +kernel
theorem dX10_times_29 : decode cX10_times 29 = .ok (.lstore 4, 2) := by decide +kernel
theorem dX10_times_31 : decode cX10_times 31 = .ok (.aload_n 0, 1) := by decide +kernel
theorem dX10_times_32 : decode cX10_times 32 = .ok (.getfield 9, 3) := by decide +kernel
theorem dX10_times_35 : decode cX10_times 35 = .ok (.iload 6, 2) := by decide +kernel
theorem dX10_times_37 : decode cX10_times 37 = .ok (.lload 4, 2) := by decide +kernel
theorem dX10_times_39 : decode cX10_times 39 = .ok (.ldc2_w 19, 3) := by decide +kernel
theorem dX10_times_42 : decode cX10_times 42 = .ok (.land, 1) := by decide +kernel
theorem dX10_times_43 : decode cX10_times 43 = .ok (.l2i, 1) := by decide +kernel
theorem dX10_times_44 : decode cX10_times 44 = .ok (.iastore, 1) := by decide +kernel
theorem dX10_times_45 : decode cX10_times 45 = .ok (.lload 4, 2) := by decide +kernel
theorem dX10_times_47 : decode cX10_times 47 = .ok (.bipush 30, 2) := by decide +kernel
theorem dX10_times_49 : decode cX10_times 49 = .ok (.lshr, 1) := by decide +kernel
theorem dX10_times_50 : decode cX10_times 50 = .ok (.lstore 4, 2) := by decide +kernel
theorem dX10_times_52 : decode cX10_times 52 = .ok (.iinc 6 1, 3) := by decide +kernel
theorem dX10_times_55 : decode cX10_times 55 = .ok (.goto (-48), 3) := by decide +kernel
theorem dX10_times_58 : decode cX10_times 58 = .ok (.lload 4, 2) := by decide +kernel
theorem dX10_times_60 : decode cX10_times 60 = .ok (.lconst 0, 1) := by decide +kernel
theorem dX10_times_61 : decode cX10_times 61 = .ok (.lcmp, 1) := by decide +kernel
theorem dX10_times_62 : decode cX10_times 62 = .ok (.ifCond .eq 39, 3) := by decide +kernel
theorem dX10_times_65 : decode cX10_times 65 = .ok (.aload_n 0, 1) := by decide +kernel
theorem dX10_times_66 : decode cX10_times 66 = .ok (.getfield 9, 3) := by decide +kernel
theorem dX10_times_69 : decode cX10_times 69 = .ok (.aload_n 0, 1) := by decide +kernel
theorem dX10_times_70 : decode cX10_times 70 = .ok (.getfield 15, 3) := by decide +kernel
theorem dX10_times_73 : decode cX10_times 73 = .ok (.lload 4, 2) := by decide +kernel
theorem dX10_times_75 : decode cX10_times 75 = .ok (.ldc2_w 19, 3) := by decide +kernel
theorem dX10_times_78 : decode cX10_times 78 = .ok (.land, 1) := by decide +kernel
theorem dX10_times_79 : decode cX10_times 79 = .ok (.l2i, 1) := by decide +kernel
theorem dX10_times_80 : decode cX10_times 80 = .ok (.iastore, 1) := by decide +kernel
theorem dX10_times_81 : decode cX10_times 81 = .ok (.aload_n 0, 1) := by decide +kernel
theorem dX10_times_82 : decode cX10_times 82 = .ok (.dup, 1) := by decide +kernel
theorem dX10_times_83 : decode cX10_times 83 = .ok (.getfield 15, 3) := by decide +kernel
theorem dX10_times_86 : decode cX10_times 86 = .ok (.iconst 1, 1) := by decide +kernel
theorem dX10_times_87 : decode cX10_times 87 = .ok (.iadd, 1) := by decide +kernel
theorem dX10_times_88 : decode cX10_times 88 = .ok (.putfield 15, 3) := by decide +kernel
theorem dX10_times_91 : decode cX10_times 91 = .ok (.lload 4, 2) := by decide +kernel
theorem dX10_times_93 : decode cX10_times 93 = .ok (.bipush 30, 2) := by decide +kernel
theorem dX10_times_95 : decode cX10_times 95 = .ok (.lshr, 1) := by decide +kernel
theorem dX10_times_96 : decode cX10_times 96 = .ok (.lstore 4, 2) := by decide +kernel
theorem dX10_times_98 : decode cX10_times 98 = .ok (.goto (-40), 3) := by decide +kernel
theorem dX10_times_101 : decode cX10_times 101 = .ok (.aload_n 0, 1) := by decide +kernel
theorem dX10_times_102 : decode cX10_times 102 = .ok (.aload_n 0, 1) := by decide +kernel
theorem dX10_times_103 : decode cX10_times 103 = .ok (.getfield 15, 3) := by decide +kernel
theorem dX10_times_106 : decode cX10_times 106 = .ok (.invokevirtual 33, 3) := by decide +kernel
theorem dX10_times_109 : decode cX10_times 109 = .ok (.return_, 1) := by decide +kernel
theorem dX10_addTimes_0 : decode cX10_addTimes 0 = .ok (.lconst 0, 1) := by decide +kernel
theorem dX10_addTimes_1 : decode cX10_addTimes 1 = .ok (.lstore 4, 2) := by decide +kernel
theorem dX10_addTimes_3 : decode cX10_addTimes 3 = .ok (.aload_n 0, 1) := by decide +kernel
theorem dX10_addTimes_4 : decode cX10_addTimes 4 = .ok (.getfield 15, 3) := by decide +kernel
theorem dX10_addTimes_7 : decode cX10_addTimes 7 = .ok (.aload_n 1, 1) := by decide +kernel
theorem dX10_addTimes_8 : decode cX10_addTimes 8 = .ok (.getfield 15, 3) := by decide +kernel
theorem dX10_addTimes_11 : decode cX10_addTimes 11 = .ok (.invokestatic 27, 3) := by decide +kernel
theorem dX10_addTimes_14 : decode cX10_addTimes 14 = .ok (.istore 6, 2) := by decide +kernel
theorem dX10_addTimes_16 : decode cX10_addTimes 16 = .ok (.iconst 0, 1) := by decide +kernel
theorem dX10_addTimes_17 : decode cX10_addTimes 17 = .ok (.istore 7, 2) := by decide +kernel
theorem dX10_addTimes_19 : decode cX10_addTimes 19 = .ok (.iload 7, 2) := by decide +kernel
theorem dX10_addTimes_21 : decode cX10_addTimes 21 = .ok (.iload 6, 2) := by decide +kernel
theorem dX10_addTimes_23 : decode cX10_addTimes 23 = .ok (.if_icmp .lt 10, 3) := by decide +kernel
theorem dX10_addTimes_26 : decode cX10_addTimes 26 = .ok (.lload 4, 2) := by decide +kernel
theorem dX10_addTimes_28 : decode cX10_addTimes 28 = .ok (.lconst 0, 1) := by decide +kernel
theorem dX10_addTimes_29 : decode cX10_addTimes 29 = .ok (.lcmp, 1) := by decide +kernel
theorem dX10_addTimes_30 : decode cX10_addTimes 30 = .ok (.ifCond .eq 91, 3) := by decide +kernel
theorem dX10_addTimes_33 : decode cX10_addTimes 33 = .ok (.lload 4, 2) := by decide +kernel
theorem dX10_addTimes_35 : decode cX10_addTimes 35 = .ok (.iload 7, 2) := by decide +kernel
theorem dX10_addTimes_37 : decode cX10_addTimes 37 = .ok (.aload_n 0, 1) := by decide +kernel
theorem dX10_addTimes_38 : decode cX10_addTimes 38 = .ok (.getfield 15, 3) := by decide +kernel
theorem dX10_addTimes_41 : decode cX10_addTimes 41 = .ok (.if_icmp .ge 13, 3) := by decide +kernel
theorem dX10_addTimes_44 : decode cX10_addTimes 44 = .ok (.aload_n 0, 1) := by decide +kernel
theorem dX10_addTimes_45 : decode cX10_addTimes 45 = .ok (.getfield 9, 3) := by decide +kernel
theorem dX10_addTimes_48 : decode cX10_addTimes 48 = .ok (.iload 7, 2) := by decide +kernel
theorem dX10_addTimes_50 : decode cX10_addTimes 50 = .ok (.iaload, 1) := by decide +kernel
theorem dX10_addTimes_51 : decode cX10_addTimes 51 = .ok (.goto 4, 3) := by decide +kernel
theorem dX10_addTimes_54 : decode cX10_addTimes 54 = .ok (.iconst 0, 1) := by decide +kernel
theorem dX10_addTimes_55 : decode cX10_addTimes 55 = .ok (.i2l, 1) := by decide +kernel
theorem dX10_addTimes_56 : decode cX10_addTimes 56 = .ok (.iload 7, 2) := by decide +kernel
theorem dX10_addTimes_58 : decode cX10_addTimes 58 = .ok (.aload_n 1, 1) := by decide +kernel
theorem dX10_addTimes_59 : decode cX10_addTimes 59 = .ok (.getfield 15, 3) := by decide +kernel
theorem dX10_addTimes_62 : decode cX10_addTimes 62 = .ok (.if_icmp .ge 16, 3) := by decide +kernel
theorem dX10_addTimes_65 : decode cX10_addTimes 65 = .ok (.aload_n 1, 1) := by decide +kernel
theorem dX10_addTimes_66 : decode cX10_addTimes 66 = .ok (.getfield 9, 3) := by decide +kernel
theorem dX10_addTimes_69 : decode cX10_addTimes 69 = .ok (.iload 7, 2) := by decide +kernel
theorem dX10_addTimes_71 : decode cX10_addTimes 71 = .ok (.iaload, 1) := by decide +kernel
theorem dX10_addTimes_72 : decode cX10_addTimes 72 = .ok (.i2l, 1) := by decide +kernel
theorem dX10_addTimes_73 : decode cX10_addTimes 73 = .ok (.lload_n 2, 1) := by decide +kernel
theorem dX10_addTimes_74 : decode cX10_addTimes 74 = .ok (.lmul, 1) := by decide +kernel
theorem dX10_addTimes_75 : decode cX10_addTimes 75 = .ok (.goto 4, 3) := by decide +kernel
theorem dX10_addTimes_78 : decode cX10_addTimes 78 = .ok (.lconst 0, 1) := by decide +kernel
theorem dX10_addTimes_79 : decode cX10_addTimes 79 = .ok (.ladd, 1) := by decide +kernel
theorem dX10_addTimes_80 : decode cX10_addTimes 80 = .ok (.ladd, 1) := by decide +kernel
theorem dX10_addTimes_81 : decode cX10_addTimes 81 = .ok (.lstore 4, 2) := by decide +kernel
theorem dX10_addTimes_83 : decode cX10_addTimes 83 = .ok (.aload_n 0, 1) := by decide +kernel
theorem dX10_addTimes_84 : decode cX10_addTimes 84 = .ok (.getfield 9, 3) := by decide +kernel
theorem dX10_addTimes_87 : decode cX10_addTimes 87 = .ok (.iload 7, 2) := by decide +kernel
theorem dX10_addTimes_89 : decode cX10_addTimes 89 = .ok (.lload 4, 2) := by decide +kernel
theorem dX10_addTimes_91 : decode cX10_addTimes 91 = .ok (.ldc2_w 19, 3) := by decide +kernel
theorem dX10_addTimes_94 : decode cX10_addTimes 94 = .ok (.land, 1) := by decide +kernel
theorem dX10_addTimes_95 : decode cX10_addTimes 95 = .ok (.l2i, 1) := by decide +kernel
theorem dX10_addTimes_96 : decode cX10_addTimes 96 = .ok (.iastore, 1) := by decide +kernel
theorem dX10_addTimes_97 : decode cX10_addTimes 97 = .ok (.lload 4, 2) := by decide +kernel
theorem dX10_addTimes_99 : decode cX10_addTimes 99 = .ok (.bipush 30, 2) := by decide +kernel
theorem dX10_addTimes_101 : decode cX10_addTimes 101 = .ok (.lshr, 1) := by decide +kernel
theorem dX10_addTimes_102 : decode cX10_addTimes 102 = .ok (.lstore 4, 2) := by decide +kernel
theorem dX10_addTimes_104 : decode cX10_addTimes 104 = .ok (.iload 6, 2) := by decide +kernel
theorem dX10_addTimes_106 : decode cX10_addTimes 106 = .ok (.iload 7, 2) := by decide +kernel
theorem dX10_addTimes_108 : decode cX10_addTimes 108 = .ok (.iconst 1, 1) := by decide +kernel
theorem dX10_addTimes_109 : decode cX10_addTimes 109 = .ok (.iadd, 1) := by decide +kernel
theorem dX10_addTimes_110 : decode cX10_addTimes 110 = .ok (.invokestatic 27, 3) := by decide +kernel
theorem dX10_addTimes_113 : decode cX10_addTimes 113 = .ok (.istore 6, 2) := by decide +kernel
theorem dX10_addTimes_115 : decode cX10_addTimes 115 = .ok (.iinc 7 1, 3) := by decide +kernel
theorem dX10_addTimes_118 : decode cX10_addTimes 118 = .ok (.goto (-99), 3) := by decide +kernel
theorem dX10_addTimes_121 : decode cX10_addTimes 121 = .ok (.aload_n 0, 1) := by decide +kernel
theorem dX10_addTimes_122 : decode cX10_addTimes 122 = .ok (.iload 6, 2) := by decide +kernel
theorem dX10_addTimes_124 : decode cX10_addTimes 124 = .ok (.invokevirtual 33, 3) := by decide +kernel
theorem dX10_addTimes_127 : decode cX10_addTimes 127 = .ok (.return_, 1) := by decide +kernel
theorem dX10_shift_0 : decode cX10_shift 0 = .ok (.aload_n 0, 1) := by decide +kernel
theorem dX10_shift_1 : decode cX10_shift 1 = .ok (.getfield 15, 3) := by decide +kernel
theorem dX10_shift_4 : decode cX10_shift 4 = .ok (.ifCond .ne 4, 3) := by decide +kernel
theorem dX10_shift_7 : decode cX10_shift 7 = .ok (.return_, 1) := by decide +kernel
theorem dX10_shift_8 : decode cX10_shift 8 = .ok (.iload_n 1, 1) := by decide +kernel
theorem dX10_shift_9 : decode cX10_shift 9 = .ok (.bipush 30, 2) := by decide +kernel
theorem dX10_shift_11 : decode cX10_shift 11 = .ok (.idiv, 1) := by decide +kernel
theorem dX10_shift_12 : decode cX10_shift 12 = .ok (.istore_n 2, 1) := by decide +kernel
theorem dX10_shift_13 : decode cX10_shift 13 = .ok (.iload_n 1, 1) := by decide +kernel
theorem dX10_shift_14 : decode cX10_shift 14 = .ok (.bipush 30, 2) := by decide +kernel
theorem dX10_shift_16 : decode cX10_shift 16 = .ok (.irem, 1) := by decide +kernel
theorem dX10_shift_17 : decode cX10_shift 17 = .ok (.istore_n 3, 1) := by decide +kernel
theorem dX10_shift_18 : decode cX10_shift 18 = .ok (.aload_n 0, 1) := by decide +kernel
theorem dX10_shift_19 : decode cX10_shift 19 = .ok (.getfield 9, 3) := by decide +kernel
theorem dX10_shift_22 : decode cX10_shift 22 = .ok (.aload_n 0, 1) := by decide +kernel
theorem dX10_shift_23 : decode cX10_shift 23 = .ok (.getfield 15, 3) := by decide +kernel
theorem dX10_shift_26 : decode cX10_shift 26 = .ok (.iconst 0, 1) := by decide +kernel
theorem dX10_shift_27 : decode cX10_shift 27 = .ok (.iastore, 1) := by decide +kernel
theorem dX10_shift_28 : decode cX10_shift 28 = .ok (.aload_n 0, 1) := by decide +kernel
theorem dX10_shift_29 : decode cX10_shift 29 = .ok (.getfield 15, 3) := by decide +kernel
theorem dX10_shift_32 : decode cX10_shift 32 = .ok (.istore 4, 2) := by decide +kernel
theorem dX10_shift_34 : decode cX10_shift 34 = .ok (.iload 4, 2) := by decide +kernel
theorem dX10_shift_36 : decode cX10_shift 36 = .ok (.ifCond .lt 66, 3) := by decide +kernel
theorem dX10_shift_39 : decode cX10_shift 39 = .ok (.iload 4, 2) := by decide +kernel
theorem dX10_shift_41 : decode cX10_shift 41 = .ok (.ifCond .le 16, 3) := by decide +kernel
theorem dX10_shift_44 : decode cX10_shift 44 = .ok (.aload_n 0, 1) := by decide +kernel
theorem dX10_shift_45 : decode cX10_shift 45 = .ok (.getfield 9, 3) := by decide +kernel
theorem dX10_shift_48 : decode cX10_shift 48 = .ok (.iload 4, 2) := by decide +kernel
theorem dX10_shift_50 : decode cX10_shift 50 = .ok (.iconst 1, 1) := by decide +kernel
theorem dX10_shift_51 : decode cX10_shift 51 = .ok (.isub, 1) := by decide +kernel
theorem dX10_shift_52 : decode cX10_shift 52 = .ok (.iaload, 1) := by decide +kernel
theorem dX10_shift_53 : decode cX10_shift 53 = .ok (.i2l, 1) := by decide +kernel
theorem dX10_shift_54 : decode cX10_shift 54 = .ok (.goto 4, 3) := by decide +kernel
theorem dX10_shift_57 : decode cX10_shift 57 = .ok (.lconst 0, 1) := by decide +kernel
theorem dX10_shift_58 : decode cX10_shift 58 = .ok (.lstore 5, 2) := by decide +kernel
theorem dX10_shift_60 : decode cX10_shift 60 = .ok (.aload_n 0, 1) := by decide +kernel
theorem dX10_shift_61 : decode cX10_shift 61 = .ok (.getfield 9, 3) := by decide +kernel
theorem dX10_shift_64 : decode cX10_shift 64 = .ok (.iload 4, 2) := by decide +kernel
theorem dX10_shift_66 : decode cX10_shift 66 = .ok (.iaload, 1) := by decide +kernel
theorem dX10_shift_67 : decode cX10_shift 67 = .ok (.i2l, 1) := by decide +kernel
theorem dX10_shift_68 : decode cX10_shift 68 = .ok (.iload_n 3, 1) := by decide +kernel
theorem dX10_shift_69 : decode cX10_shift 69 = .ok (.lshl, 1) := by decide +kernel
theorem dX10_shift_70 : decode cX10_shift 70 = .ok (.lload 5, 2) := by decide +kernel
theorem dX10_shift_72 : decode cX10_shift 72 = .ok (.iload_n 3, 1) := by decide +kernel
theorem dX10_shift_73 : decode cX10_shift 73 = .ok (.lshl, 1) := by decide +kernel
theorem dX10_shift_74 : decode cX10_shift 74 = .ok (.bipush 30, 2) := by decide +kernel
theorem dX10_shift_76 : decode cX10_shift 76 = .ok (.lushr, 1) := by decide +kernel
theorem dX10_shift_77 : decode cX10_shift 77 = .ok (.lor, 1) := by decide +kernel
theorem dX10_shift_78 : decode cX10_shift 78 = .ok (.lstore 7, 2) := by decide +kernel
theorem dX10_shift_80 : decode cX10_shift 80 = .ok (.aload_n 0, 1) := by decide +kernel
theorem dX10_shift_81 : decode cX10_shift 81 = .ok (.getfield 9, 3) := by decide +kernel
theorem dX10_shift_84 : decode cX10_shift 84 = .ok (.iload 4, 2) := by decide +kernel
theorem dX10_shift_86 : decode cX10_shift 86 = .ok (.iload_n 2, 1) := by decide +kernel
theorem dX10_shift_87 : decode cX10_shift 87 = .ok (.iadd, 1) := by decide +kernel
theorem dX10_shift_88 : decode cX10_shift 88 = .ok (.lload 7, 2) := by decide +kernel
theorem dX10_shift_90 : decode cX10_shift 90 = .ok (.ldc2_w 19, 3) := by decide +kernel
theorem dX10_shift_93 : decode cX10_shift 93 = .ok (.land, 1) := by decide +kernel
theorem dX10_shift_94 : decode cX10_shift 94 = .ok (.l2i, 1) := by decide +kernel
theorem dX10_shift_95 : decode cX10_shift 95 = .ok (.iastore, 1) := by decide +kernel
theorem dX10_shift_96 : decode cX10_shift 96 = .ok (.iinc 4 (-1), 3) := by decide +kernel
theorem dX10_shift_99 : decode cX10_shift 99 = .ok (.goto (-65), 3) := by decide +kernel
theorem dX10_shift_102 : decode cX10_shift 102 = .ok (.iconst 0, 1) := by decide +kernel
theorem dX10_shift_103 : decode cX10_shift 103 = .ok (.istore 4, 2) := by decide +kernel
theorem dX10_shift_105 : decode cX10_shift 105 = .ok (.iload 4, 2) := by decide +kernel
theorem dX10_shift_107 : decode cX10_shift 107 = .ok (.iload_n 2, 1) := by decide +kernel
theorem dX10_shift_108 : decode cX10_shift 108 = .ok (.if_icmp .ge 17, 3) := by decide +kernel
theorem dX10_shift_111 : decode cX10_shift 111 = .ok (.aload_n 0, 1) := by decide +kernel
theorem dX10_shift_112 : decode cX10_shift 112 = .ok (.getfield 9, 3) := by decide +kernel
theorem dX10_shift_115 : decode cX10_shift 115 = .ok (.iload 4, 2) := by decide +kernel
theorem dX10_shift_117 : decode cX10_shift 117 = .ok (.iconst 0, 1) := by decide +kernel
theorem dX10_shift_118 : decode cX10_shift 118 = .ok (.iastore, 1) := by decide +kernel
theorem dX10_shift_119 : decode cX10_shift 119 = .ok (.iinc 4 1, 3) := by decide +kernel
theorem dX10_shift_122 : decode cX10_shift 122 = .ok (.goto (-17), 3) := by decide +kernel
theorem dX10_shift_125 : decode cX10_shift 125 = .ok (.aload_n 0, 1) := by decide +kernel
theorem dX10_shift_126 : decode cX10_shift 126 = .ok (.aload_n 0, 1) := by decide +kernel
theorem dX10_shift_127 : decode cX10_shift 127 = .ok (.getfield 15, 3) := by decide +kernel
theorem dX10_shift_130 : decode cX10_shift 130 = .ok (.iload_n 2, 1) := by decide +kernel
theorem dX10_shift_131 : decode cX10_shift 131 = .ok (.iadd, 1) := by decide +kernel
theorem dX10_shift_132 : decode cX10_shift 132 = .ok (.iconst 1, 1) := by decide +kernel
theorem dX10_shift_133 : decode cX10_shift 133 = .ok (.iadd, 1) := by decide +kernel
theorem dX10_shift_134 : decode cX10_shift 134 = .ok (.invokevirtual 33, 3) := by decide +kernel
theorem dX10_shift_137 : decode cX10_shift 137 = .ok (.return_, 1) := by decide +kernel
theorem dX10_times__0 : decode cX10_times_ 0 = .ok (.aload_n 2, 1) := by decide +kernel
theorem dX10_times__1 : decode cX10_times_ 1 = .ok (.aload_n 0, 1) := by decide +kernel
theorem dX10_times__2 : decode cX10_times_ 2 = .ok (.invokevirtual 38, 3) := by decide +kernel
theorem dX10_times__5 : decode cX10_times_ 5 = .ok (.aload_n 0, 1) := by decide +kernel
theorem dX10_times__6 : decode cX10_times_ 6 = .ok (.iconst 0, 1) := by decide +kernel
theorem dX10_times__7 : decode cX10_times_ 7 = .ok (.putfield 15, 3) := by decide +kernel
theorem dX10_times__10 : decode cX10_times_ 10 = .ok (.aload_n 1, 1) := by decide +kernel
theorem dX10_times__11 : decode cX10_times_ 11 = .ok (.getfield 15, 3) := by decide +kernel
theorem dX10_times__14 : decode cX10_times_ 14 = .ok (.iconst 1, 1) := by decide +kernel
theorem dX10_times__15 : decode cX10_times_ 15 = .ok (.isub, 1) := by decide +kernel
theorem dX10_times__16 : decode cX10_times_ 16 = .ok (.istore_n 3, 1) := by decide +kernel
theorem dX10_times__17 : decode cX10_times_ 17 = .ok (.iload_n 3, 1) := by decide +kernel
theorem dX10_times__18 : decode cX10_times_ 18 = .ok (.ifCond .lt 31, 3) := by decide +kernel
theorem dX10_times__21 : decode cX10_times_ 21 = .ok (.aload_n 0, 1) := by decide +kernel
theorem dX10_times__22 : decode cX10_times_ 22 = .ok (.bipush 30, 2) := by decide +kernel
theorem dX10_times__24 : decode cX10_times_ 24 = .ok (.invokevirtual 42, 3) := by decide +kernel
theorem dX10_times__27 : decode cX10_times_ 27 = .ok (.aload_n 1, 1) := by decide +kernel
theorem dX10_times__28 : decode cX10_times_ 28 = .ok (.astore 4, 2) := by decide +kernel
theorem dX10_times__30 : decode cX10_times_ 30 = .ok (.aload_n 0, 1) := by decide +kernel
theorem dX10_times__31 : decode cX10_times_ 31 = .ok (.aload_n 2, 1) := by decide +kernel
theorem dX10_times__32 : decode cX10_times_ 32 = .ok (.aload 4, 2) := by decide +kernel
theorem dX10_times__34 : decode cX10_times_ 34 = .ok (.getfield 9, 3) := by decide +kernel
theorem dX10_times__37 : decode cX10_times_ 37 = .ok (.iload_n 3, 1) := by decide +kernel
theorem dX10_times__38 : decode cX10_times_ 38 = .ok (.iaload, 1) := by decide +kernel
theorem dX10_times__39 : decode cX10_times_ 39 = .ok (.i2l, 1) := by decide +kernel
theorem dX10_times__40 : decode cX10_times_ 40 = .ok (.invokevirtual 45, 3) := by decide +kernel
theorem dX10_times__43 : decode cX10_times_ 43 = .ok (.iinc 3 (-1), 3) := by decide +kernel
theorem dX10_times__46 : decode cX10_times_ 46 = .ok (.goto (-29), 3) := by decide +kernel
theorem dX10_times__49 : decode cX10_times_ 49 = .ok (.return_, 1) := by decide +kernel
theorem dX10_divide_0 : decode cX10_divide 0 = .ok (.lconst 0, 1) := by decide +kernel
theorem dX10_divide_1 : decode cX10_divide 1 = .ok (.lstore_n 2, 1) := by decide +kernel
theorem dX10_divide_2 : decode cX10_divide 2 = .ok (.aload_n 0, 1) := by decide +kernel
theorem dX10_divide_3 : decode cX10_divide 3 = .ok (.getfield 15, 3) := by decide +kernel
theorem dX10_divide_6 : decode cX10_divide 6 = .ok (.iconst 1, 1) := by decide +kernel
theorem dX10_divide_7 : decode cX10_divide 7 = .ok (.isub, 1) := by decide +kernel
theorem dX10_divide_8 : decode cX10_divide 8 = .ok (.istore 4, 2) := by decide +kernel
theorem dX10_divide_10 : decode cX10_divide 10 = .ok (.iload 4, 2) := by decide +kernel
theorem dX10_divide_12 : decode cX10_divide 12 = .ok (.ifCond .lt 40, 3) := by decide +kernel
theorem dX10_divide_15 : decode cX10_divide 15 = .ok (.lload_n 2, 1) := by decide +kernel
theorem dX10_divide_16 : decode cX10_divide 16 = .ok (.bipush 30, 2) := by decide +kernel
theorem dX10_divide_18 : decode cX10_divide 18 = .ok (.lshl, 1) := by decide +kernel
theorem dX10_divide_19 : decode cX10_divide 19 = .ok (.aload_n 0, 1) := by decide +kernel
theorem dX10_divide_20 : decode cX10_divide 20 = .ok (.getfield 9, 3) := by decide +kernel
theorem dX10_divide_23 : decode cX10_divide 23 = .ok (.iload 4, 2) := by decide +kernel
theorem dX10_divide_25 : decode cX10_divide 25 = .ok (.iaload, 1) := by decide +kernel
theorem dX10_divide_26 : decode cX10_divide 26 = .ok (.i2l, 1) := by decide +kernel
theorem dX10_divide_27 : decode cX10_divide 27 = .ok (.lor, 1) := by decide +kernel
theorem dX10_divide_28 : decode cX10_divide 28 = .ok (.lstore_n 2, 1) := by decide +kernel
theorem dX10_divide_29 : decode cX10_divide 29 = .ok (.aload_n 0, 1) := by decide +kernel
theorem dX10_divide_30 : decode cX10_divide 30 = .ok (.getfield 9, 3) := by decide +kernel
theorem dX10_divide_33 : decode cX10_divide 33 = .ok (.iload 4, 2) := by decide +kernel
theorem dX10_divide_35 : decode cX10_divide 35 = .ok (.lload_n 2, 1) := by decide +kernel
theorem dX10_divide_36 : decode cX10_divide 36 = .ok (.iload_n 1, 1) := by decide +kernel
theorem dX10_divide_37 : decode cX10_divide 37 = .ok (.i2l, 1) := by decide +kernel
theorem dX10_divide_38 : decode cX10_divide 38 = .ok (.ldiv, 1) := by decide +kernel
theorem dX10_divide_39 : decode cX10_divide 39 = .ok (.l2i, 1) := by decide +kernel
theorem dX10_divide_40 : decode cX10_divide 40 = .ok (.iastore, 1) := by decide +kernel
theorem dX10_divide_41 : decode cX10_divide 41 = .ok (.lload_n 2, 1) := by decide +kernel
theorem dX10_divide_42 : decode cX10_divide 42 = .ok (.iload_n 1, 1) := by decide +kernel
theorem dX10_divide_43 : decode cX10_divide 43 = .ok (.i2l, 1) := by decide +kernel
theorem dX10_divide_44 : decode cX10_divide 44 = .ok (.lrem, 1) := by decide +kernel
theorem dX10_divide_45 : decode cX10_divide 45 = .ok (.lstore_n 2, 1) := by decide +kernel
theorem dX10_divide_46 : decode cX10_divide 46 = .ok (.iinc 4 (-1), 3) := by decide +kernel
theorem dX10_divide_49 : decode cX10_divide 49 = .ok (.goto (-39), 3) := by decide +kernel
theorem dX10_divide_52 : decode cX10_divide 52 = .ok (.aload_n 0, 1) := by decide +kernel
theorem dX10_divide_53 : decode cX10_divide 53 = .ok (.aload_n 0, 1) := by decide +kernel
theorem dX10_divide_54 : decode cX10_divide 54 = .ok (.getfield 15, 3) := by decide +kernel
theorem dX10_divide_57 : decode cX10_divide 57 = .ok (.invokevirtual 33, 3) := by decide +kernel
theorem dX10_divide_60 : decode cX10_divide 60 = .ok (.lload_n 2, 1) := by decide +kernel
theorem dX10_divide_61 : decode cX10_divide 61 = .ok (.l2i, 1) := by decide +kernel
theorem dX10_divide_62 : decode cX10_divide 62 = .ok (.ireturn, 1) := by decide +kernel
theorem dX10_bit_0 : decode cX10_bit 0 = .ok (.iload_n 1, 1) := by decide +kernel
theorem dX10_bit_1 : decode cX10_bit 1 = .ok (.bipush 30, 2) := by decide +kernel
theorem dX10_bit_3 : decode cX10_bit 3 = .ok (.idiv, 1) := by decide +kernel
theorem dX10_bit_4 : decode cX10_bit 4 = .ok (.aload_n 0, 1) := by decide +kernel
theorem dX10_bit_5 : decode cX10_bit 5 = .ok (.getfield 15, 3) := by decide +kernel
theorem dX10_bit_8 : decode cX10_bit 8 = .ok (.if_icmp .ge 22, 3) := by decide +kernel
theorem dX10_bit_11 : decode cX10_bit 11 = .ok (.aload_n 0, 1) := by decide +kernel
theorem dX10_bit_12 : decode cX10_bit 12 = .ok (.getfield 9, 3) := by decide +kernel
theorem dX10_bit_15 : decode cX10_bit 15 = .ok (.iload_n 1, 1) := by decide +kernel
theorem dX10_bit_16 : decode cX10_bit 16 = .ok (.bipush 30, 2) := by decide +kernel
theorem dX10_bit_18 : decode cX10_bit 18 = .ok (.idiv, 1) := by decide +kernel
theorem dX10_bit_19 : decode cX10_bit 19 = .ok (.iaload, 1) := by decide +kernel
theorem dX10_bit_20 : decode cX10_bit 20 = .ok (.iload_n 1, 1) := by decide +kernel
theorem dX10_bit_21 : decode cX10_bit 21 = .ok (.bipush 30, 2) := by decide +kernel
theorem dX10_bit_23 : decode cX10_bit 23 = .ok (.irem, 1) := by decide +kernel
theorem dX10_bit_24 : decode cX10_bit 24 = .ok (.ishr, 1) := by decide +kernel
theorem dX10_bit_25 : decode cX10_bit 25 = .ok (.iconst 1, 1) := by decide +kernel
theorem dX10_bit_26 : decode cX10_bit 26 = .ok (.iand, 1) := by decide +kernel
theorem dX10_bit_27 : decode cX10_bit 27 = .ok (.goto 4, 3) := by decide +kernel
theorem dX10_bit_30 : decode cX10_bit 30 = .ok (.iconst 0, 1) := by decide +kernel
theorem dX10_bit_31 : decode cX10_bit 31 = .ok (.ireturn, 1) := by decide +kernel
theorem dX10_drop_0 : decode cX10_drop 0 = .ok (.iload_n 1, 1) := by decide +kernel
theorem dX10_drop_1 : decode cX10_drop 1 = .ok (.ifCond .ne 5, 3) := by decide +kernel
theorem dX10_drop_4 : decode cX10_drop 4 = .ok (.iconst 0, 1) := by decide +kernel
theorem dX10_drop_5 : decode cX10_drop 5 = .ok (.ireturn, 1) := by decide +kernel
theorem dX10_drop_6 : decode cX10_drop 6 = .ok (.iconst 0, 1) := by decide +kernel
theorem dX10_drop_7 : decode cX10_drop 7 = .ok (.istore_n 2, 1) := by decide +kernel
theorem dX10_drop_8 : decode cX10_drop 8 = .ok (.iconst 0, 1) := by decide +kernel
theorem dX10_drop_9 : decode cX10_drop 9 = .ok (.istore_n 3, 1) := by decide +kernel
theorem dX10_drop_10 : decode cX10_drop 10 = .ok (.iload_n 3, 1) := by decide +kernel
theorem dX10_drop_11 : decode cX10_drop 11 = .ok (.iload_n 1, 1) := by decide +kernel
theorem dX10_drop_12 : decode cX10_drop 12 = .ok (.iconst 1, 1) := by decide +kernel
theorem dX10_drop_13 : decode cX10_drop 13 = .ok (.isub, 1) := by decide +kernel
theorem dX10_drop_14 : decode cX10_drop 14 = .ok (.if_icmp .ge 28, 3) := by decide +kernel
theorem dX10_drop_17 : decode cX10_drop 17 = .ok (.iload_n 2, 1) := by decide +kernel
theorem dX10_drop_18 : decode cX10_drop 18 = .ok (.ifCond .ne 24, 3) := by decide +kernel
theorem dX10_drop_21 : decode cX10_drop 21 = .ok (.aload_n 0, 1) := by decide +kernel
theorem dX10_drop_22 : decode cX10_drop 22 = .ok (.iload_n 3, 1) := by decide +kernel
theorem dX10_drop_23 : decode cX10_drop 23 = .ok (.invokevirtual 49, 3) := by decide +kernel
theorem dX10_drop_26 : decode cX10_drop 26 = .ok (.iconst 1, 1) := by decide +kernel
theorem dX10_drop_27 : decode cX10_drop 27 = .ok (.if_icmp .ne 7, 3) := by decide +kernel
theorem dX10_drop_30 : decode cX10_drop 30 = .ok (.iconst 1, 1) := by decide +kernel
theorem dX10_drop_31 : decode cX10_drop 31 = .ok (.goto 4, 3) := by decide +kernel
theorem dX10_drop_34 : decode cX10_drop 34 = .ok (.iconst 0, 1) := by decide +kernel
theorem dX10_drop_35 : decode cX10_drop 35 = .ok (.istore_n 2, 1) := by decide +kernel
theorem dX10_drop_36 : decode cX10_drop 36 = .ok (.iinc 3 1, 3) := by decide +kernel
theorem dX10_drop_39 : decode cX10_drop 39 = .ok (.goto (-29), 3) := by decide +kernel
theorem dX10_drop_42 : decode cX10_drop 42 = .ok (.iconst 2, 1) := by decide +kernel
theorem dX10_drop_43 : decode cX10_drop 43 = .ok (.aload_n 0, 1) := by decide +kernel
theorem dX10_drop_44 : decode cX10_drop 44 = .ok (.iload_n 1, 1) := by decide +kernel
theorem dX10_drop_45 : decode cX10_drop 45 = .ok (.iconst 1, 1) := by decide +kernel
theorem dX10_drop_46 : decode cX10_drop 46 = .ok (.isub, 1) := by decide +kernel
theorem dX10_drop_47 : decode cX10_drop 47 = .ok (.invokevirtual 49, 3) := by decide +kernel
theorem dX10_drop_50 : decode cX10_drop 50 = .ok (.imul, 1) := by decide +kernel
theorem dX10_drop_51 : decode cX10_drop 51 = .ok (.iload_n 2, 1) := by decide +kernel
theorem dX10_drop_52 : decode cX10_drop 52 = .ok (.ifCond .eq 7, 3) := by decide +kernel
theorem dX10_drop_55 : decode cX10_drop 55 = .ok (.iconst 1, 1) := by decide +kernel
theorem dX10_drop_56 : decode cX10_drop 56 = .ok (.goto 4, 3) := by decide +kernel
theorem dX10_drop_59 : decode cX10_drop 59 = .ok (.iconst 0, 1) := by decide +kernel
theorem dX10_drop_60 : decode cX10_drop 60 = .ok (.iadd, 1) := by decide +kernel
theorem dX10_drop_61 : decode cX10_drop 61 = .ok (.istore_n 3, 1) := by decide +kernel
theorem dX10_drop_62 : decode cX10_drop 62 = .ok (.iload_n 1, 1) := by decide +kernel
theorem dX10_drop_63 : decode cX10_drop 63 = .ok (.bipush 30, 2) := by decide +kernel
theorem dX10_drop_65 : decode cX10_drop 65 = .ok (.idiv, 1) := by decide +kernel
theorem dX10_drop_66 : decode cX10_drop 66 = .ok (.istore 4, 2) := by decide +kernel
theorem dX10_drop_68 : decode cX10_drop 68 = .ok (.iload_n 1, 1) := by decide +kernel
theorem dX10_drop_69 : decode cX10_drop 69 = .ok (.bipush 30, 2) := by decide +kernel
theorem dX10_drop_71 : decode cX10_drop 71 = .ok (.irem, 1) := by decide +kernel
theorem dX10_drop_72 : decode cX10_drop 72 = .ok (.istore 5, 2) := by decide +kernel
theorem dX10_drop_74 : decode cX10_drop 74 = .ok (.iload 4, 2) := by decide +kernel
theorem dX10_drop_76 : decode cX10_drop 76 = .ok (.istore 6, 2) := by decide +kernel
theorem dX10_drop_78 : decode cX10_drop 78 = .ok (.iload 6, 2) := by decide +kernel
theorem dX10_drop_80 : decode cX10_drop 80 = .ok (.aload_n 0, 1) := by decide +kernel
theorem dX10_drop_81 : decode cX10_drop 81 = .ok (.getfield 15, 3) := by decide +kernel
theorem dX10_drop_84 : decode cX10_drop 84 = .ok (.if_icmp .ge 68, 3) := by decide +kernel
theorem dX10_drop_87 : decode cX10_drop 87 = .ok (.aload_n 0, 1) := by decide +kernel
theorem dX10_drop_88 : decode cX10_drop 88 = .ok (.getfield 9, 3) := by decide +kernel
theorem dX10_drop_91 : decode cX10_drop 91 = .ok (.iload 6, 2) := by decide +kernel
theorem dX10_drop_93 : decode cX10_drop 93 = .ok (.iaload, 1) := by decide +kernel
theorem dX10_drop_94 : decode cX10_drop 94 = .ok (.i2l, 1) := by decide +kernel
theorem dX10_drop_95 : decode cX10_drop 95 = .ok (.iload 6, 2) := by decide +kernel
theorem dX10_drop_97 : decode cX10_drop 97 = .ok (.iconst 1, 1) := by decide +kernel
theorem dX10_drop_98 : decode cX10_drop 98 = .ok (.iadd, 1) := by decide +kernel
theorem dX10_drop_99 : decode cX10_drop 99 = .ok (.aload_n 0, 1) := by decide +kernel
theorem dX10_drop_100 : decode cX10_drop 100 = .ok (.getfield 15, 3) := by decide +kernel
theorem dX10_drop_103 : decode cX10_drop 103 = .ok (.if_icmp .ge 19, 3) := by decide +kernel
theorem dX10_drop_106 : decode cX10_drop 106 = .ok (.aload_n 0, 1) := by decide +kernel
theorem dX10_drop_107 : decode cX10_drop 107 = .ok (.getfield 9, 3) := by decide +kernel
theorem dX10_drop_110 : decode cX10_drop 110 = .ok (.iload 6, 2) := by decide +kernel
theorem dX10_drop_112 : decode cX10_drop 112 = .ok (.iconst 1, 1) := by decide +kernel
theorem dX10_drop_113 : decode cX10_drop 113 = .ok (.iadd, 1) := by decide +kernel
theorem dX10_drop_114 : decode cX10_drop 114 = .ok (.iaload, 1) := by decide +kernel
theorem dX10_drop_115 : decode cX10_drop 115 = .ok (.i2l, 1) := by decide +kernel
theorem dX10_drop_116 : decode cX10_drop 116 = .ok (.bipush 30, 2) := by decide +kernel
theorem dX10_drop_118 : decode cX10_drop 118 = .ok (.lshl, 1) := by decide +kernel
theorem dX10_drop_119 : decode cX10_drop 119 = .ok (.goto 4, 3) := by decide +kernel
theorem dX10_drop_122 : decode cX10_drop 122 = .ok (.lconst 0, 1) := by decide +kernel
theorem dX10_drop_123 : decode cX10_drop 123 = .ok (.lor, 1) := by decide +kernel
theorem dX10_drop_124 : decode cX10_drop 124 = .ok (.lstore 7, 2) := by decide +kernel
theorem dX10_drop_126 : decode cX10_drop 126 = .ok (.aload_n 0, 1) := by decide +kernel
theorem dX10_drop_127 : decode cX10_drop 127 = .ok (.getfield 9, 3) := by decide +kernel
theorem dX10_drop_130 : decode cX10_drop 130 = .ok (.iload 6, 2) := by decide +kernel
theorem dX10_drop_132 : decode cX10_drop 132 = .ok (.iload 4, 2) := by decide +kernel
theorem dX10_drop_134 : decode cX10_drop 134 = .ok (.isub, 1) := by decide +kernel
theorem dX10_drop_135 : decode cX10_drop 135 = .ok (.lload 7, 2) := by decide +kernel
theorem dX10_drop_137 : decode cX10_drop 137 = .ok (.iload 5, 2) := by decide +kernel
theorem dX10_drop_139 : decode cX10_drop 139 = .ok (.lshr, 1) := by decide +kernel
theorem dX10_drop_140 : decode cX10_drop 140 = .ok (.ldc2_w 19, 3) := by decide +kernel
theorem dX10_drop_143 : decode cX10_drop 143 = .ok (.land, 1) := by decide +kernel
theorem dX10_drop_144 : decode cX10_drop 144 = .ok (.l2i, 1) := by decide +kernel
theorem dX10_drop_145 : decode cX10_drop 145 = .ok (.iastore, 1) := by decide +kernel
theorem dX10_drop_146 : decode cX10_drop 146 = .ok (.iinc 6 1, 3) := by decide +kernel
theorem dX10_drop_149 : decode cX10_drop 149 = .ok (.goto (-71), 3) := by decide +kernel
theorem dX10_drop_152 : decode cX10_drop 152 = .ok (.aload_n 0, 1) := by decide +kernel
theorem dX10_drop_153 : decode cX10_drop 153 = .ok (.aload_n 0, 1) := by decide +kernel
theorem dX10_drop_154 : decode cX10_drop 154 = .ok (.getfield 15, 3) := by decide +kernel
theorem dX10_drop_157 : decode cX10_drop 157 = .ok (.iload 4, 2) := by decide +kernel
theorem dX10_drop_159 : decode cX10_drop 159 = .ok (.isub, 1) := by decide +kernel
theorem dX10_drop_160 : decode cX10_drop 160 = .ok (.iconst 0, 1) := by decide +kernel
theorem dX10_drop_161 : decode cX10_drop 161 = .ok (.invokestatic 27, 3) := by decide +kernel
theorem dX10_drop_164 : decode cX10_drop 164 = .ok (.invokevirtual 33, 3) := by decide +kernel
theorem dX10_drop_167 : decode cX10_drop 167 = .ok (.iload_n 3, 1) := by decide +kernel
theorem dX10_drop_168 : decode cX10_drop 168 = .ok (.ireturn, 1) := by decide +kernel
theorem dX11_precision_0 : decode cX11_precision 0 = .ok (.iload_n 0, 1) := by decide +kernel
theorem dX11_precision_1 : decode cX11_precision 1 = .ok (.ifCond .ne 8, 3) := by decide +kernel
theorem dX11_precision_4 : decode cX11_precision 4 = .ok (.bipush 24, 2) := by decide +kernel
theorem dX11_precision_6 : decode cX11_precision 6 = .ok (.goto 5, 3) := by decide +kernel
theorem dX11_precision_9 : decode cX11_precision 9 = .ok (.bipush 53, 2) := by decide +kernel
theorem dX11_precision_11 : decode cX11_precision 11 = .ok (.ireturn, 1) := by decide +kernel
theorem dX11_least_0 : decode cX11_least 0 = .ok (.iload_n 0, 1) := by decide +kernel
theorem dX11_least_1 : decode cX11_least 1 = .ok (.ifCond .ne 9, 3) := by decide +kernel
theorem dX11_least_4 : decode cX11_least 4 = .ok (.sipush (-149), 3) := by decide +kernel
theorem dX11_least_7 : decode cX11_least 7 = .ok (.goto 6, 3) := by decide +kernel
theorem dX11_least_10 : decode cX11_least 10 = .ok (.sipush (-1074), 3) := by decide +kernel
theorem dX11_least_13 : decode cX11_least 13 = .ok (.ireturn, 1) := by decide +kernel
theorem dX11_signBit_0 : decode cX11_signBit 0 = .ok (.lconst 1, 1) := by decide +kernel
theorem dX11_signBit_1 : decode cX11_signBit 1 = .ok (.iload_n 0, 1) := by decide +kernel
theorem dX11_signBit_2 : decode cX11_signBit 2 = .ok (.ifCond .ne 8, 3) := by decide +kernel
theorem dX11_signBit_5 : decode cX11_signBit 5 = .ok (.bipush 31, 2) := by decide +kernel
theorem dX11_signBit_7 : decode cX11_signBit 7 = .ok (.goto 5, 3) := by decide +kernel
theorem dX11_signBit_10 : decode cX11_signBit 10 = .ok (.bipush 63, 2) := by decide +kernel
theorem dX11_signBit_12 : decode cX11_signBit 12 = .ok (.lshl, 1) := by decide +kernel
theorem dX11_signBit_13 : decode cX11_signBit 13 = .ok (.lreturn, 1) := by decide +kernel
theorem dX11_look_0 : decode cX11_look 0 = .ok (.aload_n 0, 1) := by decide +kernel
theorem dX11_look_1 : decode cX11_look 1 = .ok (.getfield 1, 3) := by decide +kernel
theorem dX11_look_4 : decode cX11_look 4 = .ok (.iload_n 1, 1) := by decide +kernel
theorem dX11_look_5 : decode cX11_look 5 = .ok (.iaload, 1) := by decide +kernel
theorem dX11_look_6 : decode cX11_look 6 = .ok (.istore_n 2, 1) := by decide +kernel
theorem dX11_look_7 : decode cX11_look 7 = .ok (.iload_n 2, 1) := by decide +kernel
theorem dX11_look_8 : decode cX11_look 8 = .ok (.invokestatic 7, 3) := by decide +kernel
theorem dX11_look_11 : decode cX11_look 11 = .ok (.iconst 1, 1) := by decide +kernel
theorem dX11_look_12 : decode cX11_look 12 = .ok (.isub, 1) := by decide +kernel
theorem dX11_look_13 : decode cX11_look 13 = .ok (.istore_n 3, 1) := by decide +kernel
theorem dX11_look_14 : decode cX11_look 14 = .ok (.aload_n 0, 1) := by decide +kernel
theorem dX11_look_15 : decode cX11_look 15 = .ok (.aload_n 0, 1) := by decide +kernel
theorem dX11_look_16 : decode cX11_look 16 = .ok (.getfield 11, 3) := by decide +kernel
theorem dX11_look_19 : decode cX11_look 19 = .ok (.iload_n 1, 1) := by decide +kernel
theorem dX11_look_20 : decode cX11_look 20 = .ok (.laload, 1) := by decide +kernel
theorem dX11_look_21 : decode cX11_look 21 = .ok (.iload_n 2, 1) := by decide +kernel
theorem dX11_look_22 : decode cX11_look 22 = .ok (.invokestatic 15, 3) := by decide +kernel
theorem dX11_look_25 : decode cX11_look 25 = .ok (.land, 1) := by decide +kernel
theorem dX11_look_26 : decode cX11_look 26 = .ok (.lconst 0, 1) := by decide +kernel
theorem dX11_look_27 : decode cX11_look 27 = .ok (.lcmp, 1) := by decide +kernel
theorem dX11_look_28 : decode cX11_look 28 = .ok (.ifCond .eq 7, 3) := by decide +kernel
theorem dX11_look_31 : decode cX11_look 31 = .ok (.iconst 1, 1) := by decide +kernel
theorem dX11_look_32 : decode cX11_look 32 = .ok (.goto 4, 3) := by decide +kernel
theorem dX11_look_35 : decode cX11_look 35 = .ok (.iconst 0, 1) := by decide +kernel
theorem dX11_look_36 : decode cX11_look 36 = .ok (.putfield 19, 3) := by decide +kernel
theorem dX11_look_39 : decode cX11_look 39 = .ok (.aload_n 0, 1) := by decide +kernel
theorem dX11_look_40 : decode cX11_look 40 = .ok (.getfield 11, 3) := by decide +kernel
theorem dX11_look_43 : decode cX11_look 43 = .ok (.iload_n 1, 1) := by decide +kernel
theorem dX11_look_44 : decode cX11_look 44 = .ok (.laload, 1) := by decide +kernel
theorem dX11_look_45 : decode cX11_look 45 = .ok (.iload_n 2, 1) := by decide +kernel
theorem dX11_look_46 : decode cX11_look 46 = .ok (.invokestatic 15, 3) := by decide +kernel
theorem dX11_look_49 : decode cX11_look 49 = .ok (.ldc2_w 23, 3) := by decide +kernel
theorem dX11_look_52 : decode cX11_look 52 = .ok (.lxor, 1) := by decide +kernel
theorem dX11_look_53 : decode cX11_look 53 = .ok (.land, 1) := by decide +kernel
theorem dX11_look_54 : decode cX11_look 54 = .ok (.lstore 4, 2) := by decide +kernel
theorem dX11_look_56 : decode cX11_look 56 = .ok (.lload 4, 2) := by decide +kernel
theorem dX11_look_58 : decode cX11_look 58 = .ok (.iload_n 3, 1) := by decide +kernel
theorem dX11_look_59 : decode cX11_look 59 = .ok (.lushr, 1) := by decide +kernel
theorem dX11_look_60 : decode cX11_look 60 = .ok (.l2i, 1) := by decide +kernel
theorem dX11_look_61 : decode cX11_look 61 = .ok (.istore 6, 2) := by decide +kernel
theorem dX11_look_63 : decode cX11_look 63 = .ok (.lload 4, 2) := by decide +kernel
theorem dX11_look_65 : decode cX11_look 65 = .ok (.lconst 1, 1) := by decide +kernel
theorem dX11_look_66 : decode cX11_look 66 = .ok (.iload_n 3, 1) := by decide +kernel
theorem dX11_look_67 : decode cX11_look 67 = .ok (.lshl, 1) := by decide +kernel
theorem dX11_look_68 : decode cX11_look 68 = .ok (.lconst 1, 1) := by decide +kernel
theorem dX11_look_69 : decode cX11_look 69 = .ok (.lsub, 1) := by decide +kernel
theorem dX11_look_70 : decode cX11_look 70 = .ok (.land, 1) := by decide +kernel
theorem dX11_look_71 : decode cX11_look 71 = .ok (.lstore 7, 2) := by decide +kernel
theorem dX11_look_73 : decode cX11_look 73 = .ok (.iload_n 2, 1) := by decide +kernel
theorem dX11_look_74 : decode cX11_look 74 = .ok (.ifCond .ne 9, 3) := by decide +kernel
theorem dX11_look_77 : decode cX11_look 77 = .ok (.sipush 255, 3) := by decide +kernel
theorem dX11_look_80 : decode cX11_look 80 = .ok (.goto 6, 3) := by decide +kernel
theorem dX11_look_83 : decode cX11_look 83 = .ok (.sipush 2047, 3) := by decide +kernel
theorem dX11_look_86 : decode cX11_look 86 = .ok (.istore 9, 2) := by decide +kernel
theorem dX11_look_88 : decode cX11_look 88 = .ok (.aload_n 0, 1) := by decide +kernel
theorem dX11_look_89 : decode cX11_look 89 = .ok (.iload 6, 2) := by decide +kernel
theorem dX11_look_91 : decode cX11_look 91 = .ok (.iload 9, 2) := by decide +kernel
theorem dX11_look_93 : decode cX11_look 93 = .ok (.if_icmp .ne 18, 3) := by decide +kernel
theorem dX11_look_96 : decode cX11_look 96 = .ok (.lload 7, 2) := by decide +kernel
theorem dX11_look_98 : decode cX11_look 98 = .ok (.lconst 0, 1) := by decide +kernel
theorem dX11_look_99 : decode cX11_look 99 = .ok (.lcmp, 1) := by decide +kernel
theorem dX11_look_100 : decode cX11_look 100 = .ok (.ifCond .ne 7, 3) := by decide +kernel
theorem dX11_look_103 : decode cX11_look 103 = .ok (.iconst 3, 1) := by decide +kernel
theorem dX11_look_104 : decode cX11_look 104 = .ok (.goto 28, 3) := by decide +kernel
theorem dX11_look_107 : decode cX11_look 107 = .ok (.iconst 4, 1) := by decide +kernel
theorem dX11_look_108 : decode cX11_look 108 = .ok (.goto 24, 3) := by decide +kernel
theorem dX11_look_111 : decode cX11_look 111 = .ok (.iload 6, 2) := by decide +kernel
theorem dX11_look_113 : decode cX11_look 113 = .ok (.ifCond .le 7, 3) := by decide +kernel
theorem dX11_look_116 : decode cX11_look 116 = .ok (.iconst 2, 1) := by decide +kernel
theorem dX11_look_117 : decode cX11_look 117 = .ok (.goto 15, 3) := by decide +kernel
theorem dX11_look_120 : decode cX11_look 120 = .ok (.lload 7, 2) := by decide +kernel
theorem dX11_look_122 : decode cX11_look 122 = .ok (.lconst 0, 1) := by decide +kernel
theorem dX11_look_123 : decode cX11_look 123 = .ok (.lcmp, 1) := by decide +kernel
theorem dX11_look_124 : decode cX11_look 124 = .ok (.ifCond .le 7, 3) := by decide +kernel
theorem dX11_look_127 : decode cX11_look 127 = .ok (.iconst 1, 1) := by decide +kernel
theorem dX11_look_128 : decode cX11_look 128 = .ok (.goto 4, 3) := by decide +kernel
theorem dX11_look_131 : decode cX11_look 131 = .ok (.iconst 0, 1) := by decide +kernel
theorem dX11_look_132 : decode cX11_look 132 = .ok (.putfield 25, 3) := by decide +kernel
theorem dX11_look_135 : decode cX11_look 135 = .ok (.aload_n 0, 1) := by decide +kernel
theorem dX11_look_136 : decode cX11_look 136 = .ok (.aload_n 0, 1) := by decide +kernel
theorem dX11_look_137 : decode cX11_look 137 = .ok (.getfield 25, 3) := by decide +kernel
theorem dX11_look_140 : decode cX11_look 140 = .ok (.iconst 2, 1) := by decide +kernel
theorem dX11_look_141 : decode cX11_look 141 = .ok (.if_icmp .le 7, 3) := by decide +kernel
theorem dX11_look_144 : decode cX11_look 144 = .ok (.lconst 0, 1) := by decide +kernel
theorem dX11_look_145 : decode cX11_look 145 = .ok (.goto 19, 3) := by decide +kernel
theorem dX11_look_148 : decode cX11_look 148 = .ok (.iload 6, 2) := by decide +kernel
theorem dX11_look_150 : decode cX11_look 150 = .ok (.ifCond .le 12, 3) := by decide +kernel
theorem dX11_look_153 : decode cX11_look 153 = .ok (.lload 7, 2) := by decide +kernel
theorem dX11_look_155 : decode cX11_look 155 = .ok (.lconst 1, 1) := by decide +kernel
theorem dX11_look_156 : decode cX11_look 156 = .ok (.iload_n 3, 1) := by decide +kernel
theorem dX11_look_157 : decode cX11_look 157 = .ok (.lshl, 1) := by decide +kernel
theorem dX11_look_158 : decode cX11_look 158 = .ok (.lor, 1) := by decide +kernel
theorem dX11_look_159 : decode cX11_look 159 = .ok (.goto 5, 3) := by decide +kernel
theorem dX11_look_162 : decode cX11_look 162 = .ok (.lload 7, 2) := by decide +kernel
theorem dX11_look_164 : decode cX11_look 164 = .ok (.putfield 28, 3) := by decide +kernel
theorem dX11_look_167 : decode cX11_look 167 = .ok (.aload_n 0, 1) := by decide +kernel
theorem dX11_look_168 : decode cX11_look 168 = .ok (.aload_n 0, 1) := by decide +kernel
theorem dX11_look_169 : decode cX11_look 169 = .ok (.getfield 25, 3) := by decide +kernel
theorem dX11_look_172 : decode cX11_look 172 = .ok (.iconst 2, 1) := by decide +kernel
theorem dX11_look_173 : decode cX11_look 173 = .ok (.if_icmp .le 7, 3) := by decide +kernel
theorem dX11_look_176 : decode cX11_look 176 = .ok (.iconst 0, 1) := by decide +kernel
theorem dX11_look_177 : decode cX11_look 177 = .ok (.goto 24, 3) := by decide +kernel
theorem dX11_look_180 : decode cX11_look 180 = .ok (.iload 6, 2) := by decide +kernel
theorem dX11_look_182 : decode cX11_look 182 = .ok (.ifCond .le 15, 3) := by decide +kernel
theorem dX11_look_185 : decode cX11_look 185 = .ok (.iload_n 2, 1) := by decide +kernel
theorem dX11_look_186 : decode cX11_look 186 = .ok (.invokestatic 32, 3) := by decide +kernel
theorem dX11_look_189 : decode cX11_look 189 = .ok (.iconst 1, 1) := by decide +kernel
theorem dX11_look_190 : decode cX11_look 190 = .ok (.isub, 1) := by decide +kernel
theorem dX11_look_191 : decode cX11_look 191 = .ok (.iload 6, 2) := by decide +kernel
theorem dX11_look_193 : decode cX11_look 193 = .ok (.iadd, 1) := by decide +kernel
theorem dX11_look_194 : decode cX11_look 194 = .ok (.goto 7, 3) := by decide +kernel
theorem dX11_look_197 : decode cX11_look 197 = .ok (.iload_n 2, 1) := by decide +kernel
theorem dX11_look_198 : decode cX11_look 198 = .ok (.invokestatic 32, 3) := by decide +kernel
theorem dX11_look_201 : decode cX11_look 201 = .ok (.putfield 35, 3) := by decide +kernel
theorem dX11_look_204 : decode cX11_look 204 = .ok (.return_, 1) := by decide +kernel
theorem dX11_put_0 : decode cX11_put 0 = .ok (.aload_n 0, 1) := by decide +kernel
theorem dX11_put_1 : decode cX11_put 1 = .ok (.getfield 1, 3) := by decide +kernel
theorem dX11_put_4 : decode cX11_put 4 = .ok (.iload_n 1, 1) := by decide +kernel
theorem dX11_put_5 : decode cX11_put 5 = .ok (.iload_n 2, 1) := by decide +kernel
theorem dX11_put_6 : decode cX11_put 6 = .ok (.iastore, 1) := by decide +kernel
theorem dX11_put_7 : decode cX11_put 7 = .ok (.aload_n 0, 1) := by decide +kernel
theorem dX11_put_8 : decode cX11_put 8 = .ok (.getfield 11, 3) := by decide +kernel
theorem dX11_put_11 : decode cX11_put 11 = .ok (.iload_n 1, 1) := by decide +kernel
theorem dX11_put_12 : decode cX11_put 12 = .ok (.lload_n 3, 1) := by decide +kernel
theorem dX11_put_13 : decode cX11_put 13 = .ok (.iload 5, 2) := by decide +kernel
theorem dX11_put_15 : decode cX11_put 15 = .ok (.iconst 1, 1) := by decide +kernel
theorem dX11_put_16 : decode cX11_put 16 = .ok (.if_icmp .ne 10, 3) := by decide +kernel
theorem dX11_put_19 : decode cX11_put 19 = .ok (.iload_n 2, 1) := by decide +kernel
theorem dX11_put_20 : decode cX11_put 20 = .ok (.invokestatic 15, 3) := by decide +kernel
theorem dX11_put_23 : decode cX11_put 23 = .ok (.goto 4, 3) := by decide +kernel
theorem dX11_put_26 : decode cX11_put 26 = .ok (.lconst 0, 1) := by decide +kernel
theorem dX11_put_27 : decode cX11_put 27 = .ok (.lor, 1) := by decide +kernel
theorem dX11_put_28 : decode cX11_put 28 = .ok (.lastore, 1) := by decide +kernel
theorem dX11_put_29 : decode cX11_put 29 = .ok (.return_, 1) := by decide +kernel
theorem dX11_endless_0 : decode cX11_endless 0 = .ok (.iload_n 0, 1) := by decide +kernel
theorem dX11_endless_1 : decode cX11_endless 1 = .ok (.ifCond .ne 9, 3) := by decide +kernel
theorem dX11_endless_4 : decode cX11_endless 4 = .ok (.ldc2_w 38, 3) := by decide +kernel
theorem dX11_endless_7 : decode cX11_endless 7 = .ok (.goto 6, 3) := by decide +kernel
theorem dX11_endless_10 : decode cX11_endless 10 = .ok (.ldc2_w 40, 3) := by decide +kernel
theorem dX11_endless_13 : decode cX11_endless 13 = .ok (.iload_n 0, 1) := by decide +kernel
theorem dX11_endless_14 : decode cX11_endless 14 = .ok (.invokestatic 7, 3) := by decide +kernel
theorem dX11_endless_17 : decode cX11_endless 17 = .ok (.iconst 1, 1) := by decide +kernel
theorem dX11_endless_18 : decode cX11_endless 18 = .ok (.isub, 1) := by decide +kernel
theorem dX11_endless_19 : decode cX11_endless 19 = .ok (.lshl, 1) := by decide +kernel
theorem dX11_endless_20 : decode cX11_endless 20 = .ok (.lreturn, 1) := by decide +kernel
theorem dX11_putEndless_0 : decode cX11_putEndless 0 = .ok (.aload_n 0, 1) := by decide +kernel
theorem dX11_putEndless_1 : decode cX11_putEndless 1 = .ok (.iload_n 1, 1) := by decide +kernel
theorem dX11_putEndless_2 : decode cX11_putEndless 2 = .ok (.iload_n 2, 1) := by decide +kernel
theorem dX11_putEndless_3 : decode cX11_putEndless 3 = .ok (.iload_n 2, 1) := by decide +kernel
theorem dX11_putEndless_4 : decode cX11_putEndless 4 = .ok (.invokestatic 42, 3) := by decide +kernel
theorem dX11_putEndless_7 : decode cX11_putEndless 7 = .ok (.iload_n 3, 1) := by decide +kernel
theorem dX11_putEndless_8 : decode cX11_putEndless 8 = .ok (.invokevirtual 45, 3) := by decide +kernel
theorem dX11_putEndless_11 : decode cX11_putEndless 11 = .ok (.return_, 1) := by decide +kernel
theorem dX11_putNone_0 : decode cX11_putNone 0 = .ok (.aload_n 0, 1) := by decide +kernel
theorem dX11_putNone_1 : decode cX11_putNone 1 = .ok (.iload_n 1, 1) := by decide +kernel
theorem dX11_putNone_2 : decode cX11_putNone 2 = .ok (.iload_n 2, 1) := by decide +kernel
theorem dX11_putNone_3 : decode cX11_putNone 3 = .ok (.iload_n 2, 1) := by decide +kernel
theorem dX11_putNone_4 : decode cX11_putNone 4 = .ok (.invokestatic 42, 3) := by decide +kernel
theorem dX11_putNone_7 : decode cX11_putNone 7 = .ok (.lconst 1, 1) := by decide +kernel
theorem dX11_putNone_8 : decode cX11_putNone 8 = .ok (.iload_n 2, 1) := by decide +kernel
theorem dX11_putNone_9 : decode cX11_putNone 9 = .ok (.invokestatic 7, 3) := by decide +kernel
theorem dX11_putNone_12 : decode cX11_putNone 12 = .ok (.iconst 2, 1) := by decide +kernel
theorem dX11_putNone_13 : decode cX11_putNone 13 = .ok (.isub, 1) := by decide +kernel
theorem dX11_putNone_14 : decode cX11_putNone 14 = .ok (.lshl, 1) := by decide +kernel
theorem dX11_putNone_15 : decode cX11_putNone 15 = .ok (.lor, 1) := by decide +kernel
theorem dX11_putNone_16 : decode cX11_putNone 16 = .ok (.iconst 0, 1) := by decide +kernel
theorem dX11_putNone_17 : decode cX11_putNone 17 = .ok (.invokevirtual 45, 3) := by decide +kernel
theorem dX11_putNone_20 : decode cX11_putNone 20 = .ok (.return_, 1) := by decide +kernel
theorem dX11_begin_0 : decode cX11_begin 0 = .ok (.aload_n 0, 1) := by decide +kernel
theorem dX11_begin_1 : decode cX11_begin 1 = .ok (.iload_n 1, 1) := by decide +kernel
theorem dX11_begin_2 : decode cX11_begin 2 = .ok (.putfield 49, 3) := by decide +kernel
theorem dX11_begin_5 : decode cX11_begin 5 = .ok (.aload_n 0, 1) := by decide +kernel
theorem dX11_begin_6 : decode cX11_begin 6 = .ok (.getfield 52, 3) := by decide +kernel
theorem dX11_begin_9 : decode cX11_begin 9 = .ok (.lconst 0, 1) := by decide +kernel
theorem dX11_begin_10 : decode cX11_begin 10 = .ok (.invokevirtual 56, 3) := by decide +kernel
theorem dX11_begin_13 : decode cX11_begin 13 = .ok (.aload_n 0, 1) := by decide +kernel
theorem dX11_begin_14 : decode cX11_begin 14 = .ok (.getfield 62, 3) := by decide +kernel
theorem dX11_begin_17 : decode cX11_begin 17 = .ok (.lconst 1, 1) := by decide +kernel
theorem dX11_begin_18 : decode cX11_begin 18 = .ok (.invokevirtual 56, 3) := by decide +kernel
theorem dX11_begin_21 : decode cX11_begin 21 = .ok (.aload_n 0, 1) := by decide +kernel
theorem dX11_begin_22 : decode cX11_begin 22 = .ok (.iconst 0, 1) := by decide +kernel
theorem dX11_begin_23 : decode cX11_begin 23 = .ok (.putfield 65, 3) := by decide +kernel
theorem dX11_begin_26 : decode cX11_begin 26 = .ok (.aload_n 0, 1) := by decide +kernel
theorem dX11_begin_27 : decode cX11_begin 27 = .ok (.iconst 1, 1) := by decide +kernel
theorem dX11_begin_28 : decode cX11_begin 28 = .ok (.putfield 68, 3) := by decide +kernel
theorem dX11_begin_31 : decode cX11_begin 31 = .ok (.return_, 1) := by decide +kernel
theorem dX11_timesLong_0 : decode cX11_timesLong 0 = .ok (.aload_n 0, 1) := by decide +kernel
theorem dX11_timesLong_1 : decode cX11_timesLong 1 = .ok (.getfield 100, 3) := by decide +kernel
theorem dX11_timesLong_4 : decode cX11_timesLong 4 = .ok (.lload_n 2, 1) := by decide +kernel
theorem dX11_timesLong_5 : decode cX11_timesLong 5 = .ok (.invokevirtual 56, 3) := by decide +kernel
theorem dX11_timesLong_8 : decode cX11_timesLong 8 = .ok (.aload_n 1, 1) := by decide +kernel
theorem dX11_timesLong_9 : decode cX11_timesLong 9 = .ok (.aload_n 0, 1) := by decide +kernel
theorem dX11_timesLong_10 : decode cX11_timesLong 10 = .ok (.getfield 100, 3) := by decide +kernel
theorem dX11_timesLong_13 : decode cX11_timesLong 13 = .ok (.aload_n 0, 1) := by decide +kernel
theorem dX11_timesLong_14 : decode cX11_timesLong 14 = .ok (.getfield 103, 3) := by decide +kernel
theorem dX11_timesLong_17 : decode cX11_timesLong 17 = .ok (.invokevirtual 106, 3) := by decide +kernel
theorem dX11_timesLong_20 : decode cX11_timesLong 20 = .ok (.return_, 1) := by decide +kernel
theorem dX11_compare_0 : decode cX11_compare 0 = .ok (.aload_n 0, 1) := by decide +kernel
theorem dX11_compare_1 : decode cX11_compare 1 = .ok (.getfield 71, 3) := by decide +kernel
theorem dX11_compare_4 : decode cX11_compare 4 = .ok (.aload_n 0, 1) := by decide +kernel
theorem dX11_compare_5 : decode cX11_compare 5 = .ok (.getfield 52, 3) := by decide +kernel
theorem dX11_compare_8 : decode cX11_compare 8 = .ok (.invokevirtual 74, 3) := by decide +kernel
theorem dX11_compare_11 : decode cX11_compare 11 = .ok (.aload_n 0, 1) := by decide +kernel
theorem dX11_compare_12 : decode cX11_compare 12 = .ok (.getfield 78, 3) := by decide +kernel
theorem dX11_compare_15 : decode cX11_compare 15 = .ok (.aload_n 0, 1) := by decide +kernel
theorem dX11_compare_16 : decode cX11_compare 16 = .ok (.getfield 62, 3) := by decide +kernel
theorem dX11_compare_19 : decode cX11_compare 19 = .ok (.invokevirtual 74, 3) := by decide +kernel
theorem dX11_compare_22 : decode cX11_compare 22 = .ok (.iconst 0, 1) := by decide +kernel
theorem dX11_compare_23 : decode cX11_compare 23 = .ok (.istore 4, 2) := by decide +kernel
theorem dX11_compare_25 : decode cX11_compare 25 = .ok (.iload 4, 2) := by decide +kernel
theorem dX11_compare_27 : decode cX11_compare 27 = .ok (.aload_n 0, 1) := by decide +kernel
theorem dX11_compare_28 : decode cX11_compare 28 = .ok (.getfield 68, 3) := by decide +kernel
theorem dX11_compare_31 : decode cX11_compare 31 = .ok (.if_icmp .ge 18, 3) := by decide +kernel
theorem dX11_compare_34 : decode cX11_compare 34 = .ok (.aload_n 0, 1) := by decide +kernel
theorem dX11_compare_35 : decode cX11_compare 35 = .ok (.aload_n 0, 1) := by decide +kernel
theorem dX11_compare_36 : decode cX11_compare 36 = .ok (.getfield 78, 3) := by decide +kernel
theorem dX11_compare_39 : decode cX11_compare 39 = .ok (.lload_n 1, 1) := by decide +kernel
theorem dX11_compare_40 : decode cX11_compare 40 = .ok (.invokevirtual 81, 3) := by decide +kernel
theorem dX11_compare_43 : decode cX11_compare 43 = .ok (.iinc 4 1, 3) := by decide +kernel
theorem dX11_compare_46 : decode cX11_compare 46 = .ok (.goto (-21), 3) := by decide +kernel
theorem dX11_compare_49 : decode cX11_compare 49 = .ok (.aload_n 0, 1) := by decide +kernel
theorem dX11_compare_50 : decode cX11_compare 50 = .ok (.getfield 65, 3) := by decide +kernel
theorem dX11_compare_53 : decode cX11_compare 53 = .ok (.iload_n 3, 1) := by decide +kernel
theorem dX11_compare_54 : decode cX11_compare 54 = .ok (.aload_n 0, 1) := by decide +kernel
theorem dX11_compare_55 : decode cX11_compare 55 = .ok (.getfield 68, 3) := by decide +kernel
theorem dX11_compare_58 : decode cX11_compare 58 = .ok (.imul, 1) := by decide +kernel
theorem dX11_compare_59 : decode cX11_compare 59 = .ok (.isub, 1) := by decide +kernel
theorem dX11_compare_60 : decode cX11_compare 60 = .ok (.istore 4, 2) := by decide +kernel
theorem dX11_compare_62 : decode cX11_compare 62 = .ok (.aload_n 0, 1) := by decide +kernel
theorem dX11_compare_63 : decode cX11_compare 63 = .ok (.getfield 71, 3) := by decide +kernel
theorem dX11_compare_66 : decode cX11_compare 66 = .ok (.invokevirtual 85, 3) := by decide +kernel
theorem dX11_compare_69 : decode cX11_compare 69 = .ok (.iload 4, 2) := by decide +kernel
theorem dX11_compare_71 : decode cX11_compare 71 = .ok (.iadd, 1) := by decide +kernel
theorem dX11_compare_72 : decode cX11_compare 72 = .ok (.aload_n 0, 1) := by decide +kernel
theorem dX11_compare_73 : decode cX11_compare 73 = .ok (.getfield 78, 3) := by decide +kernel
theorem dX11_compare_76 : decode cX11_compare 76 = .ok (.invokevirtual 85, 3) := by decide +kernel
theorem dX11_compare_79 : decode cX11_compare 79 = .ok (.isub, 1) := by decide +kernel
theorem dX11_compare_80 : decode cX11_compare 80 = .ok (.istore 5, 2) := by decide +kernel
theorem dX11_compare_82 : decode cX11_compare 82 = .ok (.aload_n 0, 1) := by decide +kernel
theorem dX11_compare_83 : decode cX11_compare 83 = .ok (.getfield 71, 3) := by decide +kernel
theorem dX11_compare_86 : decode cX11_compare 86 = .ok (.getfield 89, 3) := by decide +kernel
theorem dX11_compare_89 : decode cX11_compare 89 = .ok (.ifCond .eq 13, 3) := by decide +kernel
theorem dX11_compare_92 : decode cX11_compare 92 = .ok (.aload_n 0, 1) := by decide +kernel
theorem dX11_compare_93 : decode cX11_compare 93 = .ok (.getfield 78, 3) := by decide +kernel
theorem dX11_compare_96 : decode cX11_compare 96 = .ok (.getfield 89, 3) := by decide +kernel
theorem dX11_compare_99 : decode cX11_compare 99 = .ok (.ifCond .ne 33, 3) := by decide +kernel
theorem dX11_compare_102 : decode cX11_compare 102 = .ok (.aload_n 0, 1) := by decide +kernel
theorem dX11_compare_103 : decode cX11_compare 103 = .ok (.getfield 71, 3) := by decide +kernel
theorem dX11_compare_106 : decode cX11_compare 106 = .ok (.getfield 89, 3) := by decide +kernel
theorem dX11_compare_109 : decode cX11_compare 109 = .ok (.ifCond .ne 21, 3) := by decide +kernel
theorem dX11_compare_112 : decode cX11_compare 112 = .ok (.aload_n 0, 1) := by decide +kernel
theorem dX11_compare_113 : decode cX11_compare 113 = .ok (.getfield 78, 3) := by decide +kernel
theorem dX11_compare_116 : decode cX11_compare 116 = .ok (.getfield 89, 3) := by decide +kernel
theorem dX11_compare_119 : decode cX11_compare 119 = .ok (.ifCond .ne 7, 3) := by decide +kernel
theorem dX11_compare_122 : decode cX11_compare 122 = .ok (.iconst 0, 1) := by decide +kernel
theorem dX11_compare_123 : decode cX11_compare 123 = .ok (.goto 8, 3) := by decide +kernel
theorem dX11_compare_126 : decode cX11_compare 126 = .ok (.iconst (-1), 1) := by decide +kernel
theorem dX11_compare_127 : decode cX11_compare 127 = .ok (.goto 4, 3) := by decide +kernel
theorem dX11_compare_130 : decode cX11_compare 130 = .ok (.iconst 1, 1) := by decide +kernel
theorem dX11_compare_131 : decode cX11_compare 131 = .ok (.ireturn, 1) := by decide +kernel
theorem dX11_compare_132 : decode cX11_compare 132 = .ok (.iload 5, 2) := by decide +kernel
theorem dX11_compare_134 : decode cX11_compare 134 = .ok (.ifCond .eq 14, 3) := by decide +kernel
theorem dX11_compare_137 : decode cX11_compare 137 = .ok (.iload 5, 2) := by decide +kernel
theorem dX11_compare_139 : decode cX11_compare 139 = .ok (.ifCond .ge 7, 3) := by decide +kernel
theorem dX11_compare_142 : decode cX11_compare 142 = .ok (.iconst (-1), 1) := by decide +kernel
theorem dX11_compare_143 : decode cX11_compare 143 = .ok (.goto 4, 3) := by decide +kernel
theorem dX11_compare_146 : decode cX11_compare 146 = .ok (.iconst 1, 1) := by decide +kernel
theorem dX11_compare_147 : decode cX11_compare 147 = .ok (.ireturn, 1) := by decide +kernel
theorem dX11_compare_148 : decode cX11_compare 148 = .ok (.iload 4, 2) := by decide +kernel
theorem dX11_compare_150 : decode cX11_compare 150 = .ok (.ifCond .le 15, 3) := by decide +kernel
theorem dX11_compare_153 : decode cX11_compare 153 = .ok (.aload_n 0, 1) := by decide +kernel
theorem dX11_compare_154 : decode cX11_compare 154 = .ok (.getfield 71, 3) := by decide +kernel
theorem dX11_compare_157 : decode cX11_compare 157 = .ok (.iload 4, 2) := by decide +kernel
theorem dX11_compare_159 : decode cX11_compare 159 = .ok (.invokevirtual 92, 3) := by decide +kernel
theorem dX11_compare_162 : decode cX11_compare 162 = .ok (.goto 13, 3) := by decide +kernel
theorem dX11_compare_165 : decode cX11_compare 165 = .ok (.aload_n 0, 1) := by decide +kernel
theorem dX11_compare_166 : decode cX11_compare 166 = .ok (.getfield 78, 3) := by decide +kernel
theorem dX11_compare_169 : decode cX11_compare 169 = .ok (.iload 4, 2) := by decide +kernel
theorem dX11_compare_171 : decode cX11_compare 171 = .ok (.ineg, 1) := by decide +kernel
theorem dX11_compare_172 : decode cX11_compare 172 = .ok (.invokevirtual 92, 3) := by decide +kernel
theorem dX11_compare_175 : decode cX11_compare 175 = .ok (.aload_n 0, 1) := by decide +kernel
theorem dX11_compare_176 : decode cX11_compare 176 = .ok (.getfield 71, 3) := by decide +kernel
theorem dX11_compare_179 : decode cX11_compare 179 = .ok (.aload_n 0, 1) := by decide +kernel
theorem dX11_compare_180 : decode cX11_compare 180 = .ok (.getfield 78, 3) := by decide +kernel
theorem dX11_compare_183 : decode cX11_compare 183 = .ok (.invokevirtual 96, 3) := by decide +kernel
theorem dX11_compare_186 : decode cX11_compare 186 = .ok (.ireturn, 1) := by decide +kernel
theorem dX11_stepM_0 : decode cX11_stepM 0 = .ok (.iload_n 0, 1) := by decide +kernel
theorem dX11_stepM_1 : decode cX11_stepM 1 = .ok (.invokestatic 7, 3) := by decide +kernel
theorem dX11_stepM_4 : decode cX11_stepM 4 = .ok (.iconst 1, 1) := by decide +kernel
theorem dX11_stepM_5 : decode cX11_stepM 5 = .ok (.isub, 1) := by decide +kernel
theorem dX11_stepM_6 : decode cX11_stepM 6 = .ok (.istore_n 3, 1) := by decide +kernel
theorem dX11_stepM_7 : decode cX11_stepM 7 = .ok (.lload_n 1, 1) := by decide +kernel
theorem dX11_stepM_8 : decode cX11_stepM 8 = .ok (.iload_n 3, 1) := by decide +kernel
theorem dX11_stepM_9 : decode cX11_stepM 9 = .ok (.lshr, 1) := by decide +kernel
theorem dX11_stepM_10 : decode cX11_stepM 10 = .ok (.lconst 0, 1) := by decide +kernel
theorem dX11_stepM_11 : decode cX11_stepM 11 = .ok (.lcmp, 1) := by decide +kernel
theorem dX11_stepM_12 : decode cX11_stepM 12 = .ok (.ifCond .ne 7, 3) := by decide +kernel
theorem dX11_stepM_15 : decode cX11_stepM 15 = .ok (.lload_n 1, 1) := by decide +kernel
theorem dX11_stepM_16 : decode cX11_stepM 16 = .ok (.goto 14, 3) := by decide +kernel
theorem dX11_stepM_19 : decode cX11_stepM 19 = .ok (.lload_n 1, 1) := by decide +kernel
theorem dX11_stepM_20 : decode cX11_stepM 20 = .ok (.lconst 1, 1) := by decide +kernel
theorem dX11_stepM_21 : decode cX11_stepM 21 = .ok (.iload_n 3, 1) := by decide +kernel
theorem dX11_stepM_22 : decode cX11_stepM 22 = .ok (.lshl, 1) := by decide +kernel
theorem dX11_stepM_23 : decode cX11_stepM 23 = .ok (.lconst 1, 1) := by decide +kernel
theorem dX11_stepM_24 : decode cX11_stepM 24 = .ok (.lsub, 1) := by decide +kernel
theorem dX11_stepM_25 : decode cX11_stepM 25 = .ok (.land, 1) := by decide +kernel
theorem dX11_stepM_26 : decode cX11_stepM 26 = .ok (.lconst 1, 1) := by decide +kernel
theorem dX11_stepM_27 : decode cX11_stepM 27 = .ok (.iload_n 3, 1) := by decide +kernel
theorem dX11_stepM_28 : decode cX11_stepM 28 = .ok (.lshl, 1) := by decide +kernel
theorem dX11_stepM_29 : decode cX11_stepM 29 = .ok (.lor, 1) := by decide +kernel
theorem dX11_stepM_30 : decode cX11_stepM 30 = .ok (.lreturn, 1) := by decide +kernel
theorem dJ9_max_f86c9_0 : decode cJ9_max_f86c9 0 = .ok (.lload_n 0, 1) := by decide +kernel
theorem dJ9_max_f86c9_1 : decode cJ9_max_f86c9 1 = .ok (.lload_n 2, 1) := by decide +kernel
theorem dJ9_max_f86c9_2 : decode cJ9_max_f86c9 2 = .ok (.lcmp, 1) := by decide +kernel
theorem dJ9_max_f86c9_3 : decode cJ9_max_f86c9 3 = .ok (.ifCond .lt 7, 3) := by decide +kernel
theorem dJ9_max_f86c9_6 : decode cJ9_max_f86c9 6 = .ok (.lload_n 0, 1) := by decide +kernel
theorem dJ9_max_f86c9_7 : decode cJ9_max_f86c9 7 = .ok (.goto 4, 3) := by decide +kernel
theorem dJ9_max_f86c9_10 : decode cJ9_max_f86c9 10 = .ok (.lload_n 2, 1) := by decide +kernel
theorem dJ9_max_f86c9_11 : decode cJ9_max_f86c9 11 = .ok (.lreturn, 1) := by decide +kernel
theorem dX11_stepE_0 : decode cX11_stepE 0 = .ok (.iload_n 0, 1) := by decide +kernel
theorem dX11_stepE_1 : decode cX11_stepE 1 = .ok (.invokestatic 7, 3) := by decide +kernel
theorem dX11_stepE_4 : decode cX11_stepE 4 = .ok (.iconst 1, 1) := by decide +kernel
theorem dX11_stepE_5 : decode cX11_stepE 5 = .ok (.isub, 1) := by decide +kernel
theorem dX11_stepE_6 : decode cX11_stepE 6 = .ok (.istore_n 3, 1) := by decide +kernel
theorem dX11_stepE_7 : decode cX11_stepE 7 = .ok (.iload_n 0, 1) := by decide +kernel
theorem dX11_stepE_8 : decode cX11_stepE 8 = .ok (.invokestatic 32, 3) := by decide +kernel
theorem dX11_stepE_11 : decode cX11_stepE 11 = .ok (.lload_n 1, 1) := by decide +kernel
theorem dX11_stepE_12 : decode cX11_stepE 12 = .ok (.iload_n 3, 1) := by decide +kernel
theorem dX11_stepE_13 : decode cX11_stepE 13 = .ok (.lshr, 1) := by decide +kernel
theorem dX11_stepE_14 : decode cX11_stepE 14 = .ok (.lconst 1, 1) := by decide +kernel
theorem dX11_stepE_15 : decode cX11_stepE 15 = .ok (.lsub, 1) := by decide +kernel
theorem dX11_stepE_16 : decode cX11_stepE 16 = .ok (.lconst 0, 1) := by decide +kernel
theorem dX11_stepE_17 : decode cX11_stepE 17 = .ok (.invokestatic 110, 3) := by decide +kernel
theorem dX11_stepE_20 : decode cX11_stepE 20 = .ok (.l2i, 1) := by decide +kernel
theorem dX11_stepE_21 : decode cX11_stepE 21 = .ok (.iadd, 1) := by decide +kernel
theorem dX11_stepE_22 : decode cX11_stepE 22 = .ok (.ireturn, 1) := by decide +kernel
theorem dX11_compareStep_0 : decode cX11_compareStep 0 = .ok (.aload_n 0, 1) := by decide +kernel
theorem dX11_compareStep_1 : decode cX11_compareStep 1 = .ok (.iload_n 1, 1) := by decide +kernel
theorem dX11_compareStep_2 : decode cX11_compareStep 2 = .ok (.lload_n 2, 1) := by decide +kernel
theorem dX11_compareStep_3 : decode cX11_compareStep 3 = .ok (.invokestatic 116, 3) := by decide +kernel
theorem dX11_compareStep_6 : decode cX11_compareStep 6 = .ok (.iload_n 1, 1) := by decide +kernel
theorem dX11_compareStep_7 : decode cX11_compareStep 7 = .ok (.lload_n 2, 1) := by decide +kernel
theorem dX11_compareStep_8 : decode cX11_compareStep 8 = .ok (.invokestatic 120, 3) := by decide +kernel
theorem dX11_compareStep_11 : decode cX11_compareStep 11 = .ok (.invokevirtual 124, 3) := by decide +kernel
theorem dX11_compareStep_14 : decode cX11_compareStep 14 = .ok (.ireturn, 1) := by decide +kernel
theorem dX11_beyond_0 : decode cX11_beyond 0 = .ok (.iload_n 0, 1) := by decide +kernel
theorem dX11_beyond_1 : decode cX11_beyond 1 = .ok (.invokestatic 42, 3) := by decide +kernel
theorem dX11_beyond_4 : decode cX11_beyond 4 = .ok (.lreturn, 1) := by decide +kernel
theorem dX11_grows_0 : decode cX11_grows 0 = .ok (.iload_n 0, 1) := by decide +kernel
theorem dX11_grows_1 : decode cX11_grows 1 = .ok (.iconst 2, 1) := by decide +kernel
theorem dX11_grows_2 : decode cX11_grows 2 = .ok (.if_icmp .ne 7, 3) := by decide +kernel
theorem dX11_grows_5 : decode cX11_grows 5 = .ok (.iload_n 1, 1) := by decide +kernel
theorem dX11_grows_6 : decode cX11_grows 6 = .ok (.ifCond .eq 13, 3) := by decide +kernel
theorem dX11_grows_9 : decode cX11_grows 9 = .ok (.iload_n 0, 1) := by decide +kernel
theorem dX11_grows_10 : decode cX11_grows 10 = .ok (.iconst 3, 1) := by decide +kernel
theorem dX11_grows_11 : decode cX11_grows 11 = .ok (.if_icmp .ne 12, 3) := by decide +kernel
theorem dX11_grows_14 : decode cX11_grows 14 = .ok (.iload_n 1, 1) := by decide +kernel
theorem dX11_grows_15 : decode cX11_grows 15 = .ok (.iconst 1, 1) := by decide +kernel
theorem dX11_grows_16 : decode cX11_grows 16 = .ok (.if_icmp .ne 7, 3) := by decide +kernel
theorem dX11_grows_19 : decode cX11_grows 19 = .ok (.iconst 1, 1) := by decide +kernel
theorem dX11_grows_20 : decode cX11_grows 20 = .ok (.goto 4, 3) := by decide +kernel
theorem dX11_grows_23 : decode cX11_grows 23 = .ok (.iconst 0, 1) := by decide +kernel
theorem dX11_grows_24 : decode cX11_grows 24 = .ok (.ireturn, 1) := by decide +kernel
theorem dX11_chosen_0 : decode cX11_chosen 0 = .ok (.iload 4, 2) := by decide +kernel
theorem dX11_chosen_2 : decode cX11_chosen 2 = .ok (.ifCond .eq 23, 3) := by decide +kernel
theorem dX11_chosen_5 : decode cX11_chosen 5 = .ok (.iload 4, 2) := by decide +kernel
theorem dX11_chosen_7 : decode cX11_chosen 7 = .ok (.aload_n 0, 1) := by decide +kernel
theorem dX11_chosen_8 : decode cX11_chosen 8 = .ok (.getfield 49, 3) := by decide +kernel
theorem dX11_chosen_11 : decode cX11_chosen 11 = .ok (.invokestatic 139, 3) := by decide +kernel
theorem dX11_chosen_14 : decode cX11_chosen 14 = .ok (.ifCond .eq 9, 3) := by decide +kernel
theorem dX11_chosen_17 : decode cX11_chosen 17 = .ok (.lload_n 2, 1) := by decide +kernel
theorem dX11_chosen_18 : decode cX11_chosen 18 = .ok (.lconst 1, 1) := by decide +kernel
theorem dX11_chosen_19 : decode cX11_chosen 19 = .ok (.ladd, 1) := by decide +kernel
theorem dX11_chosen_20 : decode cX11_chosen 20 = .ok (.goto 4, 3) := by decide +kernel
theorem dX11_chosen_23 : decode cX11_chosen 23 = .ok (.lload_n 2, 1) := by decide +kernel
theorem dX11_chosen_24 : decode cX11_chosen 24 = .ok (.lreturn, 1) := by decide +kernel
theorem dX11_chosen_25 : decode cX11_chosen 25 = .ok (.iload_n 1, 1) := by decide +kernel
theorem dX11_chosen_26 : decode cX11_chosen 26 = .ok (.lload_n 2, 1) := by decide +kernel
theorem dX11_chosen_27 : decode cX11_chosen 27 = .ok (.invokestatic 116, 3) := by decide +kernel
theorem dX11_chosen_30 : decode cX11_chosen 30 = .ok (.lstore 5, 2) := by decide +kernel
theorem dX11_chosen_32 : decode cX11_chosen 32 = .ok (.aload_n 0, 1) := by decide +kernel
theorem dX11_chosen_33 : decode cX11_chosen 33 = .ok (.ldc2_w 133, 3) := by decide +kernel
theorem dX11_chosen_36 : decode cX11_chosen 36 = .ok (.lload 5, 2) := by decide +kernel
theorem dX11_chosen_38 : decode cX11_chosen 38 = .ok (.lmul, 1) := by decide +kernel
theorem dX11_chosen_39 : decode cX11_chosen 39 = .ok (.lconst 1, 1) := by decide +kernel
theorem dX11_chosen_40 : decode cX11_chosen 40 = .ok (.ladd, 1) := by decide +kernel
theorem dX11_chosen_41 : decode cX11_chosen 41 = .ok (.iload_n 1, 1) := by decide +kernel
theorem dX11_chosen_42 : decode cX11_chosen 42 = .ok (.lload_n 2, 1) := by decide +kernel
theorem dX11_chosen_43 : decode cX11_chosen 43 = .ok (.invokestatic 120, 3) := by decide +kernel
theorem dX11_chosen_46 : decode cX11_chosen 46 = .ok (.iconst 1, 1) := by decide +kernel
theorem dX11_chosen_47 : decode cX11_chosen 47 = .ok (.isub, 1) := by decide +kernel
theorem dX11_chosen_48 : decode cX11_chosen 48 = .ok (.invokevirtual 124, 3) := by decide +kernel
theorem dX11_chosen_51 : decode cX11_chosen 51 = .ok (.istore 7, 2) := by decide +kernel
theorem dX11_chosen_53 : decode cX11_chosen 53 = .ok (.iload 7, 2) := by decide +kernel
theorem dX11_chosen_55 : decode cX11_chosen 55 = .ok (.ifCond .lt 19, 3) := by decide +kernel
theorem dX11_chosen_58 : decode cX11_chosen 58 = .ok (.iload 7, 2) := by decide +kernel
theorem dX11_chosen_60 : decode cX11_chosen 60 = .ok (.ifCond .ne 18, 3) := by decide +kernel
theorem dX11_chosen_63 : decode cX11_chosen 63 = .ok (.lload 5, 2) := by decide +kernel
theorem dX11_chosen_65 : decode cX11_chosen 65 = .ok (.ldc2_w 133, 3) := by decide +kernel
theorem dX11_chosen_68 : decode cX11_chosen 68 = .ok (.lrem, 1) := by decide +kernel
theorem dX11_chosen_69 : decode cX11_chosen 69 = .ok (.lconst 0, 1) := by decide +kernel
theorem dX11_chosen_70 : decode cX11_chosen 70 = .ok (.lcmp, 1) := by decide +kernel
theorem dX11_chosen_71 : decode cX11_chosen 71 = .ok (.ifCond .ne 7, 3) := by decide +kernel
theorem dX11_chosen_74 : decode cX11_chosen 74 = .ok (.lload_n 2, 1) := by decide +kernel
theorem dX11_chosen_75 : decode cX11_chosen 75 = .ok (.goto 6, 3) := by decide +kernel
theorem dX11_chosen_78 : decode cX11_chosen 78 = .ok (.lload_n 2, 1) := by decide +kernel
theorem dX11_chosen_79 : decode cX11_chosen 79 = .ok (.lconst 1, 1) := by decide +kernel
theorem dX11_chosen_80 : decode cX11_chosen 80 = .ok (.ladd, 1) := by decide +kernel
theorem dX11_chosen_81 : decode cX11_chosen 81 = .ok (.lreturn, 1) := by decide +kernel
theorem dX11_round_0 : decode cX11_round 0 = .ok (.aload_n 0, 1) := by decide +kernel
theorem dX11_round_1 : decode cX11_round 1 = .ok (.iload_n 2, 1) := by decide +kernel
theorem dX11_round_2 : decode cX11_round 2 = .ok (.iload_n 2, 1) := by decide +kernel
theorem dX11_round_3 : decode cX11_round 3 = .ok (.invokestatic 127, 3) := by decide +kernel
theorem dX11_round_6 : decode cX11_round 6 = .ok (.invokevirtual 130, 3) := by decide +kernel
theorem dX11_round_9 : decode cX11_round 9 = .ok (.ifCond .lt 12, 3) := by decide +kernel
theorem dX11_round_12 : decode cX11_round 12 = .ok (.iload_n 2, 1) := by decide +kernel
theorem dX11_round_13 : decode cX11_round 13 = .ok (.invokestatic 127, 3) := by decide +kernel
theorem dX11_round_16 : decode cX11_round 16 = .ok (.lstore 4, 2) := by decide +kernel
theorem dX11_round_18 : decode cX11_round 18 = .ok (.goto 85, 3) := by decide +kernel
theorem dX11_round_21 : decode cX11_round 21 = .ok (.lconst 0, 1) := by decide +kernel
theorem dX11_round_22 : decode cX11_round 22 = .ok (.lstore 6, 2) := by decide +kernel
theorem dX11_round_24 : decode cX11_round 24 = .ok (.iload_n 2, 1) := by decide +kernel
theorem dX11_round_25 : decode cX11_round 25 = .ok (.invokestatic 127, 3) := by decide +kernel
theorem dX11_round_28 : decode cX11_round 28 = .ok (.lstore 8, 2) := by decide +kernel
theorem dX11_round_30 : decode cX11_round 30 = .ok (.lload 8, 2) := by decide +kernel
theorem dX11_round_32 : decode cX11_round 32 = .ok (.lload 6, 2) := by decide +kernel
theorem dX11_round_34 : decode cX11_round 34 = .ok (.lsub, 1) := by decide +kernel
theorem dX11_round_35 : decode cX11_round 35 = .ok (.lconst 1, 1) := by decide +kernel
theorem dX11_round_36 : decode cX11_round 36 = .ok (.lcmp, 1) := by decide +kernel
theorem dX11_round_37 : decode cX11_round 37 = .ok (.ifCond .le 41, 3) := by decide +kernel
theorem dX11_round_40 : decode cX11_round 40 = .ok (.lload 6, 2) := by decide +kernel
theorem dX11_round_42 : decode cX11_round 42 = .ok (.lload 8, 2) := by decide +kernel
theorem dX11_round_44 : decode cX11_round 44 = .ok (.lload 6, 2) := by decide +kernel
theorem dX11_round_46 : decode cX11_round 46 = .ok (.lsub, 1) := by decide +kernel
theorem dX11_round_47 : decode cX11_round 47 = .ok (.ldc2_w 133, 3) := by decide +kernel
theorem dX11_round_50 : decode cX11_round 50 = .ok (.ldiv, 1) := by decide +kernel
theorem dX11_round_51 : decode cX11_round 51 = .ok (.ladd, 1) := by decide +kernel
theorem dX11_round_52 : decode cX11_round 52 = .ok (.lstore 10, 2) := by decide +kernel
theorem dX11_round_54 : decode cX11_round 54 = .ok (.aload_n 0, 1) := by decide +kernel
theorem dX11_round_55 : decode cX11_round 55 = .ok (.iload_n 2, 1) := by decide +kernel
theorem dX11_round_56 : decode cX11_round 56 = .ok (.lload 10, 2) := by decide +kernel
theorem dX11_round_58 : decode cX11_round 58 = .ok (.invokevirtual 130, 3) := by decide +kernel
theorem dX11_round_61 : decode cX11_round 61 = .ok (.ifCond .lt 10, 3) := by decide +kernel
theorem dX11_round_64 : decode cX11_round 64 = .ok (.lload 10, 2) := by decide +kernel
theorem dX11_round_66 : decode cX11_round 66 = .ok (.lstore 6, 2) := by decide +kernel
theorem dX11_round_68 : decode cX11_round 68 = .ok (.goto 7, 3) := by decide +kernel
theorem dX11_round_71 : decode cX11_round 71 = .ok (.lload 10, 2) := by decide +kernel
theorem dX11_round_73 : decode cX11_round 73 = .ok (.lstore 8, 2) := by decide +kernel
theorem dX11_round_75 : decode cX11_round 75 = .ok (.goto (-45), 3) := by decide +kernel
theorem dX11_round_78 : decode cX11_round 78 = .ok (.aload_n 0, 1) := by decide +kernel
theorem dX11_round_79 : decode cX11_round 79 = .ok (.iload_n 2, 1) := by decide +kernel
theorem dX11_round_80 : decode cX11_round 80 = .ok (.lload 6, 2) := by decide +kernel
theorem dX11_round_82 : decode cX11_round 82 = .ok (.invokevirtual 130, 3) := by decide +kernel
theorem dX11_round_85 : decode cX11_round 85 = .ok (.ifCond .ne 8, 3) := by decide +kernel
theorem dX11_round_88 : decode cX11_round 88 = .ok (.lload 6, 2) := by decide +kernel
theorem dX11_round_90 : decode cX11_round 90 = .ok (.goto 11, 3) := by decide +kernel
theorem dX11_round_93 : decode cX11_round 93 = .ok (.aload_n 0, 1) := by decide +kernel
theorem dX11_round_94 : decode cX11_round 94 = .ok (.iload_n 2, 1) := by decide +kernel
theorem dX11_round_95 : decode cX11_round 95 = .ok (.lload 6, 2) := by decide +kernel
theorem dX11_round_97 : decode cX11_round 97 = .ok (.iload_n 3, 1) := by decide +kernel
theorem dX11_round_98 : decode cX11_round 98 = .ok (.invokevirtual 135, 3) := by decide +kernel
theorem dX11_round_101 : decode cX11_round 101 = .ok (.lstore 4, 2) := by decide +kernel
theorem dX11_round_103 : decode cX11_round 103 = .ok (.lload 4, 2) := by decide +kernel
theorem dX11_round_105 : decode cX11_round 105 = .ok (.iload_n 2, 1) := by decide +kernel
theorem dX11_round_106 : decode cX11_round 106 = .ok (.invokestatic 127, 3) := by decide +kernel
theorem dX11_round_109 : decode cX11_round 109 = .ok (.lcmp, 1) := by decide +kernel
theorem dX11_round_110 : decode cX11_round 110 = .ok (.ifCond .ne 52, 3) := by decide +kernel
theorem dX11_round_113 : decode cX11_round 113 = .ok (.iload_n 3, 1) := by decide +kernel
theorem dX11_round_114 : decode cX11_round 114 = .ok (.ifCond .eq 14, 3) := by decide +kernel
theorem dX11_round_117 : decode cX11_round 117 = .ok (.iload_n 3, 1) := by decide +kernel
theorem dX11_round_118 : decode cX11_round 118 = .ok (.aload_n 0, 1) := by decide +kernel
theorem dX11_round_119 : decode cX11_round 119 = .ok (.getfield 49, 3) := by decide +kernel
theorem dX11_round_122 : decode cX11_round 122 = .ok (.invokestatic 139, 3) := by decide +kernel
theorem dX11_round_125 : decode cX11_round 125 = .ok (.ifCond .eq 7, 3) := by decide +kernel
theorem dX11_round_128 : decode cX11_round 128 = .ok (.iconst 1, 1) := by decide +kernel
theorem dX11_round_129 : decode cX11_round 129 = .ok (.goto 4, 3) := by decide +kernel
theorem dX11_round_132 : decode cX11_round 132 = .ok (.iconst 0, 1) := by decide +kernel
theorem dX11_round_133 : decode cX11_round 133 = .ok (.istore 6, 2) := by decide +kernel
theorem dX11_round_135 : decode cX11_round 135 = .ok (.aload_n 0, 1) := by decide +kernel
theorem dX11_round_136 : decode cX11_round 136 = .ok (.iload_n 1, 1) := by decide +kernel
theorem dX11_round_137 : decode cX11_round 137 = .ok (.iload_n 2, 1) := by decide +kernel
theorem dX11_round_138 : decode cX11_round 138 = .ok (.iload 6, 2) := by decide +kernel
theorem dX11_round_140 : decode cX11_round 140 = .ok (.ifCond .eq 8, 3) := by decide +kernel
theorem dX11_round_143 : decode cX11_round 143 = .ok (.lload 4, 2) := by decide +kernel
theorem dX11_round_145 : decode cX11_round 145 = .ok (.goto 7, 3) := by decide +kernel
theorem dX11_round_148 : decode cX11_round 148 = .ok (.lload 4, 2) := by decide +kernel
theorem dX11_round_150 : decode cX11_round 150 = .ok (.lconst 1, 1) := by decide +kernel
theorem dX11_round_151 : decode cX11_round 151 = .ok (.lsub, 1) := by decide +kernel
theorem dX11_round_152 : decode cX11_round 152 = .ok (.aload_n 0, 1) := by decide +kernel
theorem dX11_round_153 : decode cX11_round 153 = .ok (.getfield 49, 3) := by decide +kernel
theorem dX11_round_156 : decode cX11_round 156 = .ok (.invokevirtual 45, 3) := by decide +kernel
theorem dX11_round_159 : decode cX11_round 159 = .ok (.goto 15, 3) := by decide +kernel
theorem dX11_round_162 : decode cX11_round 162 = .ok (.aload_n 0, 1) := by decide +kernel
theorem dX11_round_163 : decode cX11_round 163 = .ok (.iload_n 1, 1) := by decide +kernel
theorem dX11_round_164 : decode cX11_round 164 = .ok (.iload_n 2, 1) := by decide +kernel
theorem dX11_round_165 : decode cX11_round 165 = .ok (.lload 4, 2) := by decide +kernel
theorem dX11_round_167 : decode cX11_round 167 = .ok (.aload_n 0, 1) := by decide +kernel
theorem dX11_round_168 : decode cX11_round 168 = .ok (.getfield 49, 3) := by decide +kernel
theorem dX11_round_171 : decode cX11_round 171 = .ok (.invokevirtual 45, 3) := by decide +kernel
theorem dX11_round_174 : decode cX11_round 174 = .ok (.return_, 1) := by decide +kernel
theorem dX11_thrown_0 : decode cX11_thrown 0 = .ok (.aload_n 0, 1) := by decide +kernel
theorem dX11_thrown_1 : decode cX11_thrown 1 = .ok (.getfield 174, 3) := by decide +kernel
theorem dX11_thrown_4 : decode cX11_thrown 4 = .ok (.ireturn, 1) := by decide +kernel
theorem dX11_isPlace_0 : decode cX11_isPlace 0 = .ok (.iload_n 0, 1) := by decide +kernel
theorem dX11_isPlace_1 : decode cX11_isPlace 1 = .ok (.ifCond .lt 13, 3) := by decide +kernel
theorem dX11_isPlace_4 : decode cX11_isPlace 4 = .ok (.iload_n 0, 1) := by decide +kernel
theorem dX11_isPlace_5 : decode cX11_isPlace 5 = .ok (.bipush 16, 2) := by decide +kernel
theorem dX11_isPlace_7 : decode cX11_isPlace 7 = .ok (.if_icmp .ge 7, 3) := by decide +kernel
theorem dX11_isPlace_10 : decode cX11_isPlace 10 = .ok (.iconst 1, 1) := by decide +kernel
theorem dX11_isPlace_11 : decode cX11_isPlace 11 = .ok (.goto 4, 3) := by decide +kernel
theorem dX11_isPlace_14 : decode cX11_isPlace 14 = .ok (.iconst 0, 1) := by decide +kernel
theorem dX11_isPlace_15 : decode cX11_isPlace 15 = .ok (.ireturn, 1) := by decide +kernel
theorem dX11_isFormat_0 : decode cX11_isFormat 0 = .ok (.iload_n 0, 1) := by decide +kernel
theorem dX11_isFormat_1 : decode cX11_isFormat 1 = .ok (.ifCond .eq 8, 3) := by decide +kernel
theorem dX11_isFormat_4 : decode cX11_isFormat 4 = .ok (.iload_n 0, 1) := by decide +kernel
theorem dX11_isFormat_5 : decode cX11_isFormat 5 = .ok (.iconst 1, 1) := by decide +kernel
theorem dX11_isFormat_6 : decode cX11_isFormat 6 = .ok (.if_icmp .ne 7, 3) := by decide +kernel
theorem dX11_isFormat_9 : decode cX11_isFormat 9 = .ok (.iconst 1, 1) := by decide +kernel
theorem dX11_isFormat_10 : decode cX11_isFormat 10 = .ok (.goto 4, 3) := by decide +kernel
theorem dX11_isFormat_13 : decode cX11_isFormat 13 = .ok (.iconst 0, 1) := by decide +kernel
theorem dX11_isFormat_14 : decode cX11_isFormat 14 = .ok (.ireturn, 1) := by decide +kernel
theorem dX11_isWay_0 : decode cX11_isWay 0 = .ok (.iload_n 0, 1) := by decide +kernel
theorem dX11_isWay_1 : decode cX11_isWay 1 = .ok (.ifCond .lt 12, 3) := by decide +kernel
theorem dX11_isWay_4 : decode cX11_isWay 4 = .ok (.iload_n 0, 1) := by decide +kernel
theorem dX11_isWay_5 : decode cX11_isWay 5 = .ok (.iconst 4, 1) := by decide +kernel
theorem dX11_isWay_6 : decode cX11_isWay 6 = .ok (.if_icmp .ge 7, 3) := by decide +kernel
theorem dX11_isWay_9 : decode cX11_isWay 9 = .ok (.iconst 1, 1) := by decide +kernel
theorem dX11_isWay_10 : decode cX11_isWay 10 = .ok (.goto 4, 3) := by decide +kernel
theorem dX11_isWay_13 : decode cX11_isWay 13 = .ok (.iconst 0, 1) := by decide +kernel
theorem dX11_isWay_14 : decode cX11_isWay 14 = .ok (.ireturn, 1) := by decide +kernel
theorem dX11_goes_0 : decode cX11_goes 0 = .ok (.aload_n 0, 1) := by decide +kernel
theorem dX11_goes_1 : decode cX11_goes 1 = .ok (.iload_n 1, 1) := by decide +kernel
theorem dX11_goes_2 : decode cX11_goes 2 = .ok (.ifCond .ne 7, 3) := by decide +kernel
theorem dX11_goes_5 : decode cX11_goes 5 = .ok (.iconst 1, 1) := by decide +kernel
theorem dX11_goes_6 : decode cX11_goes 6 = .ok (.goto 12, 3) := by decide +kernel
theorem dX11_goes_9 : decode cX11_goes 9 = .ok (.iload_n 2, 1) := by decide +kernel
theorem dX11_goes_10 : decode cX11_goes 10 = .ok (.ifCond .ne 7, 3) := by decide +kernel
theorem dX11_goes_13 : decode cX11_goes 13 = .ok (.iconst 2, 1) := by decide +kernel
theorem dX11_goes_14 : decode cX11_goes 14 = .ok (.goto 4, 3) := by decide +kernel
theorem dX11_goes_17 : decode cX11_goes 17 = .ok (.iconst 0, 1) := by decide +kernel
theorem dX11_goes_18 : decode cX11_goes 18 = .ok (.putfield 174, 3) := by decide +kernel
theorem dX11_goes_21 : decode cX11_goes 21 = .ok (.aload_n 0, 1) := by decide +kernel
theorem dX11_goes_22 : decode cX11_goes 22 = .ok (.getfield 174, 3) := by decide +kernel
theorem dX11_goes_25 : decode cX11_goes 25 = .ok (.ifCond .ne 7, 3) := by decide +kernel
theorem dX11_goes_28 : decode cX11_goes 28 = .ok (.iconst 1, 1) := by decide +kernel
theorem dX11_goes_29 : decode cX11_goes 29 = .ok (.goto 4, 3) := by decide +kernel
theorem dX11_goes_32 : decode cX11_goes 32 = .ok (.iconst 0, 1) := by decide +kernel
theorem dX11_goes_33 : decode cX11_goes 33 = .ok (.ireturn, 1) := by decide +kernel
theorem dX11_set_0 : decode cX11_set 0 = .ok (.aload_n 0, 1) := by decide +kernel
theorem dX11_set_1 : decode cX11_set 1 = .ok (.iload_n 1, 1) := by decide +kernel
theorem dX11_set_2 : decode cX11_set 2 = .ok (.invokestatic 177, 3) := by decide +kernel
theorem dX11_set_5 : decode cX11_set 5 = .ok (.iload_n 2, 1) := by decide +kernel
theorem dX11_set_6 : decode cX11_set 6 = .ok (.invokestatic 181, 3) := by decide +kernel
theorem dX11_set_9 : decode cX11_set 9 = .ok (.invokevirtual 184, 3) := by decide +kernel
theorem dX11_set_12 : decode cX11_set 12 = .ok (.ifCond .eq 29, 3) := by decide +kernel
theorem dX11_set_15 : decode cX11_set 15 = .ok (.aload_n 0, 1) := by decide +kernel
theorem dX11_set_16 : decode cX11_set 16 = .ok (.getfield 1, 3) := by decide +kernel
theorem dX11_set_19 : decode cX11_set 19 = .ok (.iload_n 1, 1) := by decide +kernel
theorem dX11_set_20 : decode cX11_set 20 = .ok (.iload_n 2, 1) := by decide +kernel
theorem dX11_set_21 : decode cX11_set 21 = .ok (.iastore, 1) := by decide +kernel
theorem dX11_set_22 : decode cX11_set 22 = .ok (.aload_n 0, 1) := by decide +kernel
theorem dX11_set_23 : decode cX11_set 23 = .ok (.getfield 11, 3) := by decide +kernel
theorem dX11_set_26 : decode cX11_set 26 = .ok (.iload_n 1, 1) := by decide +kernel
theorem dX11_set_27 : decode cX11_set 27 = .ok (.iload_n 2, 1) := by decide +kernel
theorem dX11_set_28 : decode cX11_set 28 = .ok (.ifCond .ne 11, 3) := by decide +kernel
theorem dX11_set_31 : decode cX11_set 31 = .ok (.lload_n 3, 1) := by decide +kernel
theorem dX11_set_32 : decode cX11_set 32 = .ok (.ldc2_w 188, 3) := by decide +kernel
theorem dX11_set_35 : decode cX11_set 35 = .ok (.land, 1) := by decide +kernel
theorem dX11_set_36 : decode cX11_set 36 = .ok (.goto 4, 3) := by decide +kernel
theorem dX11_set_39 : decode cX11_set 39 = .ok (.lload_n 3, 1) := by decide +kernel
theorem dX11_set_40 : decode cX11_set 40 = .ok (.lastore, 1) := by decide +kernel
theorem dX11_set_41 : decode cX11_set 41 = .ok (.return_, 1) := by decide +kernel
theorem dX11_pattern_0 : decode cX11_pattern 0 = .ok (.aload_n 0, 1) := by decide +kernel
theorem dX11_pattern_1 : decode cX11_pattern 1 = .ok (.iload_n 1, 1) := by decide +kernel
theorem dX11_pattern_2 : decode cX11_pattern 2 = .ok (.invokestatic 177, 3) := by decide +kernel
theorem dX11_pattern_5 : decode cX11_pattern 5 = .ok (.iconst 1, 1) := by decide +kernel
theorem dX11_pattern_6 : decode cX11_pattern 6 = .ok (.invokevirtual 184, 3) := by decide +kernel
theorem dX11_pattern_9 : decode cX11_pattern 9 = .ok (.ifCond .eq 12, 3) := by decide +kernel
theorem dX11_pattern_12 : decode cX11_pattern 12 = .ok (.aload_n 0, 1) := by decide +kernel
theorem dX11_pattern_13 : decode cX11_pattern 13 = .ok (.getfield 11, 3) := by decide +kernel
theorem dX11_pattern_16 : decode cX11_pattern 16 = .ok (.iload_n 1, 1) := by decide +kernel
theorem dX11_pattern_17 : decode cX11_pattern 17 = .ok (.laload, 1) := by decide +kernel
theorem dX11_pattern_18 : decode cX11_pattern 18 = .ok (.goto 4, 3) := by decide +kernel
theorem dX11_pattern_21 : decode cX11_pattern 21 = .ok (.lconst 0, 1) := by decide +kernel
theorem dX11_pattern_22 : decode cX11_pattern 22 = .ok (.lreturn, 1) := by decide +kernel
theorem dX11_told_0 : decode cX11_told 0 = .ok (.aload_n 0, 1) := by decide +kernel
theorem dX11_told_1 : decode cX11_told 1 = .ok (.iload_n 1, 1) := by decide +kernel
theorem dX11_told_2 : decode cX11_told 2 = .ok (.invokestatic 177, 3) := by decide +kernel
theorem dX11_told_5 : decode cX11_told 5 = .ok (.iload_n 2, 1) := by decide +kernel
theorem dX11_told_6 : decode cX11_told 6 = .ok (.ifCond .lt 12, 3) := by decide +kernel
theorem dX11_told_9 : decode cX11_told 9 = .ok (.iload_n 2, 1) := by decide +kernel
theorem dX11_told_10 : decode cX11_told 10 = .ok (.iconst 3, 1) := by decide +kernel
theorem dX11_told_11 : decode cX11_told 11 = .ok (.if_icmp .gt 7, 3) := by decide +kernel
theorem dX11_told_14 : decode cX11_told 14 = .ok (.iconst 1, 1) := by decide +kernel
theorem dX11_told_15 : decode cX11_told 15 = .ok (.goto 4, 3) := by decide +kernel
theorem dX11_told_18 : decode cX11_told 18 = .ok (.iconst 0, 1) := by decide +kernel
theorem dX11_told_19 : decode cX11_told 19 = .ok (.invokevirtual 184, 3) := by decide +kernel
theorem dX11_told_22 : decode cX11_told 22 = .ok (.ifCond .ne 5, 3) := by decide +kernel
theorem dX11_told_25 : decode cX11_told 25 = .ok (.iconst 0, 1) := by decide +kernel
theorem dX11_told_26 : decode cX11_told 26 = .ok (.ireturn, 1) := by decide +kernel
theorem dX11_told_27 : decode cX11_told 27 = .ok (.aload_n 0, 1) := by decide +kernel
theorem dX11_told_28 : decode cX11_told 28 = .ok (.iload_n 1, 1) := by decide +kernel
theorem dX11_told_29 : decode cX11_told 29 = .ok (.invokevirtual 190, 3) := by decide +kernel
theorem dX11_told_32 : decode cX11_told 32 = .ok (.iload_n 2, 1) := by decide +kernel
theorem dX11_told_33 : decode cX11_told 33 = .ok (.ifCond .ne 12, 3) := by decide +kernel
theorem dX11_told_36 : decode cX11_told 36 = .ok (.aload_n 0, 1) := by decide +kernel
theorem dX11_told_37 : decode cX11_told 37 = .ok (.getfield 1, 3) := by decide +kernel
theorem dX11_told_40 : decode cX11_told 40 = .ok (.iload_n 1, 1) := by decide +kernel
theorem dX11_told_41 : decode cX11_told 41 = .ok (.iaload, 1) := by decide +kernel
theorem dX11_told_42 : decode cX11_told 42 = .ok (.goto 31, 3) := by decide +kernel
theorem dX11_told_45 : decode cX11_told 45 = .ok (.iload_n 2, 1) := by decide +kernel
theorem dX11_told_46 : decode cX11_told 46 = .ok (.iconst 1, 1) := by decide +kernel
theorem dX11_told_47 : decode cX11_told 47 = .ok (.if_icmp .ne 10, 3) := by decide +kernel
theorem dX11_told_50 : decode cX11_told 50 = .ok (.aload_n 0, 1) := by decide +kernel
theorem dX11_told_51 : decode cX11_told 51 = .ok (.getfield 25, 3) := by decide +kernel
theorem dX11_told_54 : decode cX11_told 54 = .ok (.goto 19, 3) := by decide +kernel
theorem dX11_told_57 : decode cX11_told 57 = .ok (.iload_n 2, 1) := by decide +kernel
theorem dX11_told_58 : decode cX11_told 58 = .ok (.iconst 2, 1) := by decide +kernel
theorem dX11_told_59 : decode cX11_told 59 = .ok (.if_icmp .ne 10, 3) := by decide +kernel
theorem dX11_told_62 : decode cX11_told 62 = .ok (.aload_n 0, 1) := by decide +kernel
theorem dX11_told_63 : decode cX11_told 63 = .ok (.getfield 19, 3) := by decide +kernel
theorem dX11_told_66 : decode cX11_told 66 = .ok (.goto 7, 3) := by decide +kernel
theorem dX11_told_69 : decode cX11_told 69 = .ok (.aload_n 0, 1) := by decide +kernel
theorem dX11_told_70 : decode cX11_told 70 = .ok (.getfield 35, 3) := by decide +kernel
theorem dX11_told_73 : decode cX11_told 73 = .ok (.ireturn, 1) := by decide +kernel
theorem dX11_whole_0 : decode cX11_whole 0 = .ok (.aload_n 0, 1) := by decide +kernel
theorem dX11_whole_1 : decode cX11_whole 1 = .ok (.iload_n 1, 1) := by decide +kernel
theorem dX11_whole_2 : decode cX11_whole 2 = .ok (.invokestatic 177, 3) := by decide +kernel
theorem dX11_whole_5 : decode cX11_whole 5 = .ok (.iconst 1, 1) := by decide +kernel
theorem dX11_whole_6 : decode cX11_whole 6 = .ok (.invokevirtual 184, 3) := by decide +kernel
theorem dX11_whole_9 : decode cX11_whole 9 = .ok (.ifCond .ne 5, 3) := by decide +kernel
theorem dX11_whole_12 : decode cX11_whole 12 = .ok (.lconst 0, 1) := by decide +kernel
theorem dX11_whole_13 : decode cX11_whole 13 = .ok (.lreturn, 1) := by decide +kernel
theorem dX11_whole_14 : decode cX11_whole 14 = .ok (.aload_n 0, 1) := by decide +kernel
theorem dX11_whole_15 : decode cX11_whole 15 = .ok (.iload_n 1, 1) := by decide +kernel
theorem dX11_whole_16 : decode cX11_whole 16 = .ok (.invokevirtual 190, 3) := by decide +kernel
theorem dX11_whole_19 : decode cX11_whole 19 = .ok (.aload_n 0, 1) := by decide +kernel
theorem dX11_whole_20 : decode cX11_whole 20 = .ok (.getfield 28, 3) := by decide +kernel
theorem dX11_whole_23 : decode cX11_whole 23 = .ok (.lreturn, 1) := by decide +kernel
theorem dX11_take_0 : decode cX11_take 0 = .ok (.aload_n 0, 1) := by decide +kernel
theorem dX11_take_1 : decode cX11_take 1 = .ok (.aload_n 0, 1) := by decide +kernel
theorem dX11_take_2 : decode cX11_take 2 = .ok (.getfield 19, 3) := by decide +kernel
theorem dX11_take_5 : decode cX11_take 5 = .ok (.invokevirtual 193, 3) := by decide +kernel
theorem dX11_take_8 : decode cX11_take 8 = .ok (.aload_n 0, 1) := by decide +kernel
theorem dX11_take_9 : decode cX11_take 9 = .ok (.getfield 52, 3) := by decide +kernel
theorem dX11_take_12 : decode cX11_take 12 = .ok (.aload_n 0, 1) := by decide +kernel
theorem dX11_take_13 : decode cX11_take 13 = .ok (.getfield 28, 3) := by decide +kernel
theorem dX11_take_16 : decode cX11_take 16 = .ok (.invokevirtual 56, 3) := by decide +kernel
theorem dX11_take_19 : decode cX11_take 19 = .ok (.aload_n 0, 1) := by decide +kernel
theorem dX11_take_20 : decode cX11_take 20 = .ok (.aload_n 0, 1) := by decide +kernel
theorem dX11_take_21 : decode cX11_take 21 = .ok (.getfield 35, 3) := by decide +kernel
theorem dX11_take_24 : decode cX11_take 24 = .ok (.putfield 65, 3) := by decide +kernel
theorem dX11_take_27 : decode cX11_take 27 = .ok (.return_, 1) := by decide +kernel
theorem dX11_convert_0 : decode cX11_convert 0 = .ok (.aload_n 0, 1) := by decide +kernel
theorem dX11_convert_1 : decode cX11_convert 1 = .ok (.iload_n 1, 1) := by decide +kernel
theorem dX11_convert_2 : decode cX11_convert 2 = .ok (.invokestatic 177, 3) := by decide +kernel
theorem dX11_convert_5 : decode cX11_convert 5 = .ok (.ifCond .eq 14, 3) := by decide +kernel
theorem dX11_convert_8 : decode cX11_convert 8 = .ok (.iload_n 2, 1) := by decide +kernel
theorem dX11_convert_9 : decode cX11_convert 9 = .ok (.invokestatic 177, 3) := by decide +kernel
theorem dX11_convert_12 : decode cX11_convert 12 = .ok (.ifCond .eq 7, 3) := by decide +kernel
theorem dX11_convert_15 : decode cX11_convert 15 = .ok (.iconst 1, 1) := by decide +kernel
theorem dX11_convert_16 : decode cX11_convert 16 = .ok (.goto 4, 3) := by decide +kernel
theorem dX11_convert_19 : decode cX11_convert 19 = .ok (.iconst 0, 1) := by decide +kernel
theorem dX11_convert_20 : decode cX11_convert 20 = .ok (.iload_n 3, 1) := by decide +kernel
theorem dX11_convert_21 : decode cX11_convert 21 = .ok (.invokestatic 181, 3) := by decide +kernel
theorem dX11_convert_24 : decode cX11_convert 24 = .ok (.ifCond .eq 15, 3) := by decide +kernel
theorem dX11_convert_27 : decode cX11_convert 27 = .ok (.iload 4, 2) := by decide +kernel
theorem dX11_convert_29 : decode cX11_convert 29 = .ok (.invokestatic 196, 3) := by decide +kernel
theorem dX11_convert_32 : decode cX11_convert 32 = .ok (.ifCond .eq 7, 3) := by decide +kernel
theorem dX11_convert_35 : decode cX11_convert 35 = .ok (.iconst 1, 1) := by decide +kernel
theorem dX11_convert_36 : decode cX11_convert 36 = .ok (.goto 4, 3) := by decide +kernel
theorem dX11_convert_39 : decode cX11_convert 39 = .ok (.iconst 0, 1) := by decide +kernel
theorem dX11_convert_40 : decode cX11_convert 40 = .ok (.invokevirtual 184, 3) := by decide +kernel
theorem dX11_convert_43 : decode cX11_convert 43 = .ok (.ifCond .ne 4, 3) := by decide +kernel
theorem dX11_convert_46 : decode cX11_convert 46 = .ok (.return_, 1) := by decide +kernel
theorem dX11_convert_47 : decode cX11_convert 47 = .ok (.aload_n 0, 1) := by decide +kernel
theorem dX11_convert_48 : decode cX11_convert 48 = .ok (.iload_n 1, 1) := by decide +kernel
theorem dX11_convert_49 : decode cX11_convert 49 = .ok (.invokevirtual 190, 3) := by decide +kernel
theorem dX11_convert_52 : decode cX11_convert 52 = .ok (.aload_n 0, 1) := by decide +kernel
theorem dX11_convert_53 : decode cX11_convert 53 = .ok (.getfield 25, 3) := by decide +kernel
theorem dX11_convert_56 : decode cX11_convert 56 = .ok (.iconst 4, 1) := by decide +kernel
theorem dX11_convert_57 : decode cX11_convert 57 = .ok (.if_icmp .ne 12, 3) := by decide +kernel
theorem dX11_convert_60 : decode cX11_convert 60 = .ok (.aload_n 0, 1) := by decide +kernel
theorem dX11_convert_61 : decode cX11_convert 61 = .ok (.iload_n 2, 1) := by decide +kernel
theorem dX11_convert_62 : decode cX11_convert 62 = .ok (.iload_n 3, 1) := by decide +kernel
theorem dX11_convert_63 : decode cX11_convert 63 = .ok (.invokevirtual 199, 3) := by decide +kernel
theorem dX11_convert_66 : decode cX11_convert 66 = .ok (.goto 36, 3) := by decide +kernel
theorem dX11_convert_69 : decode cX11_convert 69 = .ok (.aload_n 0, 1) := by decide +kernel
theorem dX11_convert_70 : decode cX11_convert 70 = .ok (.getfield 25, 3) := by decide +kernel
theorem dX11_convert_73 : decode cX11_convert 73 = .ok (.iconst 3, 1) := by decide +kernel
theorem dX11_convert_74 : decode cX11_convert 74 = .ok (.if_icmp .ne 16, 3) := by decide +kernel
theorem dX11_convert_77 : decode cX11_convert 77 = .ok (.aload_n 0, 1) := by decide +kernel
theorem dX11_convert_78 : decode cX11_convert 78 = .ok (.iload_n 2, 1) := by decide +kernel
theorem dX11_convert_79 : decode cX11_convert 79 = .ok (.iload_n 3, 1) := by decide +kernel
theorem dX11_convert_80 : decode cX11_convert 80 = .ok (.aload_n 0, 1) := by decide +kernel
theorem dX11_convert_81 : decode cX11_convert 81 = .ok (.getfield 19, 3) := by decide +kernel
theorem dX11_convert_84 : decode cX11_convert 84 = .ok (.invokevirtual 203, 3) := by decide +kernel
theorem dX11_convert_87 : decode cX11_convert 87 = .ok (.goto 15, 3) := by decide +kernel
theorem dX11_convert_90 : decode cX11_convert 90 = .ok (.aload_n 0, 1) := by decide +kernel
theorem dX11_convert_91 : decode cX11_convert 91 = .ok (.invokevirtual 207, 3) := by decide +kernel
theorem dX11_convert_94 : decode cX11_convert 94 = .ok (.aload_n 0, 1) := by decide +kernel
theorem dX11_convert_95 : decode cX11_convert 95 = .ok (.iload_n 2, 1) := by decide +kernel
theorem dX11_convert_96 : decode cX11_convert 96 = .ok (.iload_n 3, 1) := by decide +kernel
theorem dX11_convert_97 : decode cX11_convert 97 = .ok (.iload 4, 2) := by decide +kernel
theorem dX11_convert_99 : decode cX11_convert 99 = .ok (.invokevirtual 210, 3) := by decide +kernel
theorem dX11_convert_102 : decode cX11_convert 102 = .ok (.return_, 1) := by decide +kernel
theorem dX11_from_0 : decode cX11_from 0 = .ok (.aload_n 0, 1) := by decide +kernel
theorem dX11_from_1 : decode cX11_from 1 = .ok (.iload_n 1, 1) := by decide +kernel
theorem dX11_from_2 : decode cX11_from 2 = .ok (.invokestatic 177, 3) := by decide +kernel
theorem dX11_from_5 : decode cX11_from 5 = .ok (.iload_n 2, 1) := by decide +kernel
theorem dX11_from_6 : decode cX11_from 6 = .ok (.invokestatic 181, 3) := by decide +kernel
theorem dX11_from_9 : decode cX11_from 9 = .ok (.ifCond .eq 15, 3) := by decide +kernel
theorem dX11_from_12 : decode cX11_from 12 = .ok (.iload 5, 2) := by decide +kernel
theorem dX11_from_14 : decode cX11_from 14 = .ok (.invokestatic 196, 3) := by decide +kernel
theorem dX11_from_17 : decode cX11_from 17 = .ok (.ifCond .eq 7, 3) := by decide +kernel
theorem dX11_from_20 : decode cX11_from 20 = .ok (.iconst 1, 1) := by decide +kernel
theorem dX11_from_21 : decode cX11_from 21 = .ok (.goto 4, 3) := by decide +kernel
theorem dX11_from_24 : decode cX11_from 24 = .ok (.iconst 0, 1) := by decide +kernel
theorem dX11_from_25 : decode cX11_from 25 = .ok (.invokevirtual 184, 3) := by decide +kernel
theorem dX11_from_28 : decode cX11_from 28 = .ok (.ifCond .ne 4, 3) := by decide +kernel
theorem dX11_from_31 : decode cX11_from 31 = .ok (.return_, 1) := by decide +kernel
theorem dX11_from_32 : decode cX11_from 32 = .ok (.aload_n 0, 1) := by decide +kernel
theorem dX11_from_33 : decode cX11_from 33 = .ok (.lload_n 3, 1) := by decide +kernel
theorem dX11_from_34 : decode cX11_from 34 = .ok (.lconst 0, 1) := by decide +kernel
theorem dX11_from_35 : decode cX11_from 35 = .ok (.lcmp, 1) := by decide +kernel
theorem dX11_from_36 : decode cX11_from 36 = .ok (.ifCond .ge 7, 3) := by decide +kernel
theorem dX11_from_39 : decode cX11_from 39 = .ok (.iconst 1, 1) := by decide +kernel
theorem dX11_from_40 : decode cX11_from 40 = .ok (.goto 4, 3) := by decide +kernel
theorem dX11_from_43 : decode cX11_from 43 = .ok (.iconst 0, 1) := by decide +kernel
theorem dX11_from_44 : decode cX11_from 44 = .ok (.invokevirtual 193, 3) := by decide +kernel
theorem dX11_from_47 : decode cX11_from 47 = .ok (.aload_n 0, 1) := by decide +kernel
theorem dX11_from_48 : decode cX11_from 48 = .ok (.getfield 52, 3) := by decide +kernel
theorem dX11_from_51 : decode cX11_from 51 = .ok (.lload_n 3, 1) := by decide +kernel
theorem dX11_from_52 : decode cX11_from 52 = .ok (.lconst 0, 1) := by decide +kernel
theorem dX11_from_53 : decode cX11_from 53 = .ok (.lcmp, 1) := by decide +kernel
theorem dX11_from_54 : decode cX11_from 54 = .ok (.ifCond .ge 8, 3) := by decide +kernel
theorem dX11_from_57 : decode cX11_from 57 = .ok (.lload_n 3, 1) := by decide +kernel
theorem dX11_from_58 : decode cX11_from 58 = .ok (.lneg, 1) := by decide +kernel
theorem dX11_from_59 : decode cX11_from 59 = .ok (.goto 4, 3) := by decide +kernel
theorem dX11_from_62 : decode cX11_from 62 = .ok (.lload_n 3, 1) := by decide +kernel
theorem dX11_from_63 : decode cX11_from 63 = .ok (.invokevirtual 56, 3) := by decide +kernel
theorem dX11_from_66 : decode cX11_from 66 = .ok (.aload_n 0, 1) := by decide +kernel
theorem dX11_from_67 : decode cX11_from 67 = .ok (.iload_n 1, 1) := by decide +kernel
theorem dX11_from_68 : decode cX11_from 68 = .ok (.iload_n 2, 1) := by decide +kernel
theorem dX11_from_69 : decode cX11_from 69 = .ok (.iload 5, 2) := by decide +kernel
theorem dX11_from_71 : decode cX11_from 71 = .ok (.invokevirtual 210, 3) := by decide +kernel
theorem dX11_from_74 : decode cX11_from 74 = .ok (.return_, 1) := by decide +kernel
theorem dX11_isMore_0 : decode cX11_isMore 0 = .ok (.iload_n 2, 1) := by decide +kernel
theorem dX11_isMore_1 : decode cX11_isMore 1 = .ok (.ifCond .ne 25, 3) := by decide +kernel
theorem dX11_isMore_4 : decode cX11_isMore 4 = .ok (.iload_n 0, 1) := by decide +kernel
theorem dX11_isMore_5 : decode cX11_isMore 5 = .ok (.iconst 3, 1) := by decide +kernel
theorem dX11_isMore_6 : decode cX11_isMore 6 = .ok (.if_icmp .eq 12, 3) := by decide +kernel
theorem dX11_isMore_9 : decode cX11_isMore 9 = .ok (.iload_n 0, 1) := by decide +kernel
theorem dX11_isMore_10 : decode cX11_isMore 10 = .ok (.iconst 2, 1) := by decide +kernel
theorem dX11_isMore_11 : decode cX11_isMore 11 = .ok (.if_icmp .ne 11, 3) := by decide +kernel
theorem dX11_isMore_14 : decode cX11_isMore 14 = .ok (.iload_n 1, 1) := by decide +kernel
theorem dX11_isMore_15 : decode cX11_isMore 15 = .ok (.ifCond .eq 7, 3) := by decide +kernel
theorem dX11_isMore_18 : decode cX11_isMore 18 = .ok (.iconst 1, 1) := by decide +kernel
theorem dX11_isMore_19 : decode cX11_isMore 19 = .ok (.goto 24, 3) := by decide +kernel
theorem dX11_isMore_22 : decode cX11_isMore 22 = .ok (.iconst 0, 1) := by decide +kernel
theorem dX11_isMore_23 : decode cX11_isMore 23 = .ok (.goto 20, 3) := by decide +kernel
theorem dX11_isMore_26 : decode cX11_isMore 26 = .ok (.iload_n 0, 1) := by decide +kernel
theorem dX11_isMore_27 : decode cX11_isMore 27 = .ok (.ifCond .eq 15, 3) := by decide +kernel
theorem dX11_isMore_30 : decode cX11_isMore 30 = .ok (.iload_n 2, 1) := by decide +kernel
theorem dX11_isMore_31 : decode cX11_isMore 31 = .ok (.iload_n 3, 1) := by decide +kernel
theorem dX11_isMore_32 : decode cX11_isMore 32 = .ok (.invokestatic 139, 3) := by decide +kernel
theorem dX11_isMore_35 : decode cX11_isMore 35 = .ok (.ifCond .eq 7, 3) := by decide +kernel
theorem dX11_isMore_38 : decode cX11_isMore 38 = .ok (.iconst 1, 1) := by decide +kernel
theorem dX11_isMore_39 : decode cX11_isMore 39 = .ok (.goto 4, 3) := by decide +kernel
theorem dX11_isMore_42 : decode cX11_isMore 42 = .ok (.iconst 0, 1) := by decide +kernel
theorem dX11_isMore_43 : decode cX11_isMore 43 = .ok (.ireturn, 1) := by decide +kernel
theorem dX11_to_0 : decode cX11_to 0 = .ok (.aload_n 0, 1) := by decide +kernel
theorem dX11_to_1 : decode cX11_to 1 = .ok (.iload_n 1, 1) := by decide +kernel
theorem dX11_to_2 : decode cX11_to 2 = .ok (.invokestatic 177, 3) := by decide +kernel
theorem dX11_to_5 : decode cX11_to 5 = .ok (.iload_n 2, 1) := by decide +kernel
theorem dX11_to_6 : decode cX11_to 6 = .ok (.invokestatic 196, 3) := by decide +kernel
theorem dX11_to_9 : decode cX11_to 9 = .ok (.invokevirtual 184, 3) := by decide +kernel
theorem dX11_to_12 : decode cX11_to 12 = .ok (.ifCond .ne 5, 3) := by decide +kernel
theorem dX11_to_15 : decode cX11_to 15 = .ok (.lconst 0, 1) := by decide +kernel
theorem dX11_to_16 : decode cX11_to 16 = .ok (.lreturn, 1) := by decide +kernel
theorem dX11_to_17 : decode cX11_to 17 = .ok (.aload_n 0, 1) := by decide +kernel
theorem dX11_to_18 : decode cX11_to 18 = .ok (.iload_n 1, 1) := by decide +kernel
theorem dX11_to_19 : decode cX11_to 19 = .ok (.invokevirtual 190, 3) := by decide +kernel
theorem dX11_to_22 : decode cX11_to 22 = .ok (.aload_n 0, 1) := by decide +kernel
theorem dX11_to_23 : decode cX11_to 23 = .ok (.getfield 25, 3) := by decide +kernel
theorem dX11_to_26 : decode cX11_to 26 = .ok (.iconst 2, 1) := by decide +kernel
theorem dX11_to_27 : decode cX11_to 27 = .ok (.if_icmp .gt 12, 3) := by decide +kernel
theorem dX11_to_30 : decode cX11_to 30 = .ok (.aload_n 0, 1) := by decide +kernel
theorem dX11_to_31 : decode cX11_to 31 = .ok (.getfield 35, 3) := by decide +kernel
theorem dX11_to_34 : decode cX11_to 34 = .ok (.bipush 64, 2) := by decide +kernel
theorem dX11_to_36 : decode cX11_to 36 = .ok (.if_icmp .le 10, 3) := by decide +kernel
theorem dX11_to_39 : decode cX11_to 39 = .ok (.aload_n 0, 1) := by decide +kernel
theorem dX11_to_40 : decode cX11_to 40 = .ok (.iconst 3, 1) := by decide +kernel
theorem dX11_to_41 : decode cX11_to 41 = .ok (.putfield 174, 3) := by decide +kernel
theorem dX11_to_44 : decode cX11_to 44 = .ok (.lconst 0, 1) := by decide +kernel
theorem dX11_to_45 : decode cX11_to 45 = .ok (.lreturn, 1) := by decide +kernel
theorem dX11_to_46 : decode cX11_to 46 = .ok (.aload_n 0, 1) := by decide +kernel
theorem dX11_to_47 : decode cX11_to 47 = .ok (.getfield 71, 3) := by decide +kernel
theorem dX11_to_50 : decode cX11_to 50 = .ok (.aload_n 0, 1) := by decide +kernel
theorem dX11_to_51 : decode cX11_to 51 = .ok (.getfield 28, 3) := by decide +kernel
theorem dX11_to_54 : decode cX11_to 54 = .ok (.invokevirtual 56, 3) := by decide +kernel
theorem dX11_to_57 : decode cX11_to 57 = .ok (.aload_n 0, 1) := by decide +kernel
theorem dX11_to_58 : decode cX11_to 58 = .ok (.getfield 35, 3) := by decide +kernel
theorem dX11_to_61 : decode cX11_to 61 = .ok (.ifCond .lt 17, 3) := by decide +kernel
theorem dX11_to_64 : decode cX11_to 64 = .ok (.aload_n 0, 1) := by decide +kernel
theorem dX11_to_65 : decode cX11_to 65 = .ok (.getfield 71, 3) := by decide +kernel
theorem dX11_to_68 : decode cX11_to 68 = .ok (.aload_n 0, 1) := by decide +kernel
theorem dX11_to_69 : decode cX11_to 69 = .ok (.getfield 35, 3) := by decide +kernel
theorem dX11_to_72 : decode cX11_to 72 = .ok (.invokevirtual 92, 3) := by decide +kernel
theorem dX11_to_75 : decode cX11_to 75 = .ok (.goto 53, 3) := by decide +kernel
theorem dX11_to_78 : decode cX11_to 78 = .ok (.aload_n 0, 1) := by decide +kernel
theorem dX11_to_79 : decode cX11_to 79 = .ok (.getfield 71, 3) := by decide +kernel
theorem dX11_to_82 : decode cX11_to 82 = .ok (.aload_n 0, 1) := by decide +kernel
theorem dX11_to_83 : decode cX11_to 83 = .ok (.getfield 35, 3) := by decide +kernel
theorem dX11_to_86 : decode cX11_to 86 = .ok (.ineg, 1) := by decide +kernel
theorem dX11_to_87 : decode cX11_to 87 = .ok (.invokevirtual 213, 3) := by decide +kernel
theorem dX11_to_90 : decode cX11_to 90 = .ok (.istore_n 3, 1) := by decide +kernel
theorem dX11_to_91 : decode cX11_to 91 = .ok (.iload_n 3, 1) := by decide +kernel
theorem dX11_to_92 : decode cX11_to 92 = .ok (.aload_n 0, 1) := by decide +kernel
theorem dX11_to_93 : decode cX11_to 93 = .ok (.getfield 71, 3) := by decide +kernel
theorem dX11_to_96 : decode cX11_to 96 = .ok (.iconst 0, 1) := by decide +kernel
theorem dX11_to_97 : decode cX11_to 97 = .ok (.invokevirtual 216, 3) := by decide +kernel
theorem dX11_to_100 : decode cX11_to 100 = .ok (.iconst 1, 1) := by decide +kernel
theorem dX11_to_101 : decode cX11_to 101 = .ok (.if_icmp .ne 7, 3) := by decide +kernel
theorem dX11_to_104 : decode cX11_to 104 = .ok (.iconst 1, 1) := by decide +kernel
theorem dX11_to_105 : decode cX11_to 105 = .ok (.goto 4, 3) := by decide +kernel
theorem dX11_to_108 : decode cX11_to 108 = .ok (.iconst 0, 1) := by decide +kernel
theorem dX11_to_109 : decode cX11_to 109 = .ok (.iload_n 2, 1) := by decide +kernel
theorem dX11_to_110 : decode cX11_to 110 = .ok (.aload_n 0, 1) := by decide +kernel
theorem dX11_to_111 : decode cX11_to 111 = .ok (.getfield 19, 3) := by decide +kernel
theorem dX11_to_114 : decode cX11_to 114 = .ok (.invokestatic 219, 3) := by decide +kernel
theorem dX11_to_117 : decode cX11_to 117 = .ok (.ifCond .eq 11, 3) := by decide +kernel
theorem dX11_to_120 : decode cX11_to 120 = .ok (.aload_n 0, 1) := by decide +kernel
theorem dX11_to_121 : decode cX11_to 121 = .ok (.getfield 71, 3) := by decide +kernel
theorem dX11_to_124 : decode cX11_to 124 = .ok (.iconst 1, 1) := by decide +kernel
theorem dX11_to_125 : decode cX11_to 125 = .ok (.invokevirtual 223, 3) := by decide +kernel
theorem dX11_to_128 : decode cX11_to 128 = .ok (.aload_n 0, 1) := by decide +kernel
theorem dX11_to_129 : decode cX11_to 129 = .ok (.getfield 78, 3) := by decide +kernel
theorem dX11_to_132 : decode cX11_to 132 = .ok (.ldc2_w 228, 3) := by decide +kernel
theorem dX11_to_135 : decode cX11_to 135 = .ok (.invokevirtual 56, 3) := by decide +kernel
theorem dX11_to_138 : decode cX11_to 138 = .ok (.aload_n 0, 1) := by decide +kernel
theorem dX11_to_139 : decode cX11_to 139 = .ok (.getfield 71, 3) := by decide +kernel
theorem dX11_to_142 : decode cX11_to 142 = .ok (.aload_n 0, 1) := by decide +kernel
theorem dX11_to_143 : decode cX11_to 143 = .ok (.getfield 78, 3) := by decide +kernel
theorem dX11_to_146 : decode cX11_to 146 = .ok (.invokevirtual 96, 3) := by decide +kernel
theorem dX11_to_149 : decode cX11_to 149 = .ok (.istore_n 3, 1) := by decide +kernel
theorem dX11_to_150 : decode cX11_to 150 = .ok (.iload_n 3, 1) := by decide +kernel
theorem dX11_to_151 : decode cX11_to 151 = .ok (.ifCond .gt 14, 3) := by decide +kernel
theorem dX11_to_154 : decode cX11_to 154 = .ok (.iload_n 3, 1) := by decide +kernel
theorem dX11_to_155 : decode cX11_to 155 = .ok (.ifCond .ne 17, 3) := by decide +kernel
theorem dX11_to_158 : decode cX11_to 158 = .ok (.aload_n 0, 1) := by decide +kernel
theorem dX11_to_159 : decode cX11_to 159 = .ok (.getfield 19, 3) := by decide +kernel
theorem dX11_to_162 : decode cX11_to 162 = .ok (.ifCond .ne 10, 3) := by decide +kernel
theorem dX11_to_165 : decode cX11_to 165 = .ok (.aload_n 0, 1) := by decide +kernel
theorem dX11_to_166 : decode cX11_to 166 = .ok (.iconst 3, 1) := by decide +kernel
theorem dX11_to_167 : decode cX11_to 167 = .ok (.putfield 174, 3) := by decide +kernel
theorem dX11_to_170 : decode cX11_to 170 = .ok (.lconst 0, 1) := by decide +kernel
theorem dX11_to_171 : decode cX11_to 171 = .ok (.lreturn, 1) := by decide +kernel
theorem dX11_to_172 : decode cX11_to 172 = .ok (.lconst 0, 1) := by decide +kernel
theorem dX11_to_173 : decode cX11_to 173 = .ok (.lstore 4, 2) := by decide +kernel
theorem dX11_to_175 : decode cX11_to 175 = .ok (.aload_n 0, 1) := by decide +kernel
theorem dX11_to_176 : decode cX11_to 176 = .ok (.getfield 71, 3) := by decide +kernel
theorem dX11_to_179 : decode cX11_to 179 = .ok (.getfield 89, 3) := by decide +kernel
theorem dX11_to_182 : decode cX11_to 182 = .ok (.iconst 1, 1) := by decide +kernel
theorem dX11_to_183 : decode cX11_to 183 = .ok (.isub, 1) := by decide +kernel
theorem dX11_to_184 : decode cX11_to 184 = .ok (.istore 6, 2) := by decide +kernel
theorem dX11_to_186 : decode cX11_to 186 = .ok (.iload 6, 2) := by decide +kernel
theorem dX11_to_188 : decode cX11_to 188 = .ok (.ifCond .lt 28, 3) := by decide +kernel
theorem dX11_to_191 : decode cX11_to 191 = .ok (.lload 4, 2) := by decide +kernel
theorem dX11_to_193 : decode cX11_to 193 = .ok (.bipush 30, 2) := by decide +kernel
theorem dX11_to_195 : decode cX11_to 195 = .ok (.lshl, 1) := by decide +kernel
theorem dX11_to_196 : decode cX11_to 196 = .ok (.aload_n 0, 1) := by decide +kernel
theorem dX11_to_197 : decode cX11_to 197 = .ok (.getfield 71, 3) := by decide +kernel
theorem dX11_to_200 : decode cX11_to 200 = .ok (.getfield 230, 3) := by decide +kernel
theorem dX11_to_203 : decode cX11_to 203 = .ok (.iload 6, 2) := by decide +kernel
theorem dX11_to_205 : decode cX11_to 205 = .ok (.iaload, 1) := by decide +kernel
theorem dX11_to_206 : decode cX11_to 206 = .ok (.i2l, 1) := by decide +kernel
theorem dX11_to_207 : decode cX11_to 207 = .ok (.lor, 1) := by decide +kernel
theorem dX11_to_208 : decode cX11_to 208 = .ok (.lstore 4, 2) := by decide +kernel
theorem dX11_to_210 : decode cX11_to 210 = .ok (.iinc 6 (-1), 3) := by decide +kernel
theorem dX11_to_213 : decode cX11_to 213 = .ok (.goto (-27), 3) := by decide +kernel
theorem dX11_to_216 : decode cX11_to 216 = .ok (.aload_n 0, 1) := by decide +kernel
theorem dX11_to_217 : decode cX11_to 217 = .ok (.getfield 19, 3) := by decide +kernel
theorem dX11_to_220 : decode cX11_to 220 = .ok (.iconst 1, 1) := by decide +kernel
theorem dX11_to_221 : decode cX11_to 221 = .ok (.if_icmp .ne 9, 3) := by decide +kernel
theorem dX11_to_224 : decode cX11_to 224 = .ok (.lload 4, 2) := by decide +kernel
theorem dX11_to_226 : decode cX11_to 226 = .ok (.lneg, 1) := by decide +kernel
theorem dX11_to_227 : decode cX11_to 227 = .ok (.goto 5, 3) := by decide +kernel
theorem dX11_to_230 : decode cX11_to 230 = .ok (.lload 4, 2) := by decide +kernel
theorem dX11_to_232 : decode cX11_to 232 = .ok (.lreturn, 1) := by decide +kernel
theorem dX11_sum_0 : decode cX11_sum 0 = .ok (.aload_n 0, 1) := by decide +kernel
theorem dX11_sum_1 : decode cX11_sum 1 = .ok (.getfield 65, 3) := by decide +kernel
theorem dX11_sum_4 : decode cX11_sum 4 = .ok (.aload_n 0, 1) := by decide +kernel
theorem dX11_sum_5 : decode cX11_sum 5 = .ok (.getfield 233, 3) := by decide +kernel
theorem dX11_sum_8 : decode cX11_sum 8 = .ok (.if_icmp .le 30, 3) := by decide +kernel
theorem dX11_sum_11 : decode cX11_sum 11 = .ok (.aload_n 0, 1) := by decide +kernel
theorem dX11_sum_12 : decode cX11_sum 12 = .ok (.getfield 52, 3) := by decide +kernel
theorem dX11_sum_15 : decode cX11_sum 15 = .ok (.aload_n 0, 1) := by decide +kernel
theorem dX11_sum_16 : decode cX11_sum 16 = .ok (.getfield 65, 3) := by decide +kernel
theorem dX11_sum_19 : decode cX11_sum 19 = .ok (.aload_n 0, 1) := by decide +kernel
theorem dX11_sum_20 : decode cX11_sum 20 = .ok (.getfield 233, 3) := by decide +kernel
theorem dX11_sum_23 : decode cX11_sum 23 = .ok (.isub, 1) := by decide +kernel
theorem dX11_sum_24 : decode cX11_sum 24 = .ok (.invokevirtual 92, 3) := by decide +kernel
theorem dX11_sum_27 : decode cX11_sum 27 = .ok (.aload_n 0, 1) := by decide +kernel
theorem dX11_sum_28 : decode cX11_sum 28 = .ok (.aload_n 0, 1) := by decide +kernel
theorem dX11_sum_29 : decode cX11_sum 29 = .ok (.getfield 233, 3) := by decide +kernel
theorem dX11_sum_32 : decode cX11_sum 32 = .ok (.putfield 65, 3) := by decide +kernel
theorem dX11_sum_35 : decode cX11_sum 35 = .ok (.goto 19, 3) := by decide +kernel
theorem dX11_sum_38 : decode cX11_sum 38 = .ok (.aload_n 0, 1) := by decide +kernel
theorem dX11_sum_39 : decode cX11_sum 39 = .ok (.getfield 150, 3) := by decide +kernel
theorem dX11_sum_42 : decode cX11_sum 42 = .ok (.aload_n 0, 1) := by decide +kernel
theorem dX11_sum_43 : decode cX11_sum 43 = .ok (.getfield 233, 3) := by decide +kernel
theorem dX11_sum_46 : decode cX11_sum 46 = .ok (.aload_n 0, 1) := by decide +kernel
theorem dX11_sum_47 : decode cX11_sum 47 = .ok (.getfield 65, 3) := by decide +kernel
theorem dX11_sum_50 : decode cX11_sum 50 = .ok (.isub, 1) := by decide +kernel
theorem dX11_sum_51 : decode cX11_sum 51 = .ok (.invokevirtual 92, 3) := by decide +kernel
theorem dX11_sum_54 : decode cX11_sum 54 = .ok (.aload_n 0, 1) := by decide +kernel
theorem dX11_sum_55 : decode cX11_sum 55 = .ok (.getfield 49, 3) := by decide +kernel
theorem dX11_sum_58 : decode cX11_sum 58 = .ok (.aload_n 0, 1) := by decide +kernel
theorem dX11_sum_59 : decode cX11_sum 59 = .ok (.getfield 236, 3) := by decide +kernel
theorem dX11_sum_62 : decode cX11_sum 62 = .ok (.if_icmp .ne 15, 3) := by decide +kernel
theorem dX11_sum_65 : decode cX11_sum 65 = .ok (.aload_n 0, 1) := by decide +kernel
theorem dX11_sum_66 : decode cX11_sum 66 = .ok (.getfield 52, 3) := by decide +kernel
theorem dX11_sum_69 : decode cX11_sum 69 = .ok (.aload_n 0, 1) := by decide +kernel
theorem dX11_sum_70 : decode cX11_sum 70 = .ok (.getfield 150, 3) := by decide +kernel
theorem dX11_sum_73 : decode cX11_sum 73 = .ok (.invokevirtual 239, 3) := by decide +kernel
theorem dX11_sum_76 : decode cX11_sum 76 = .ok (.return_, 1) := by decide +kernel
theorem dX11_sum_77 : decode cX11_sum 77 = .ok (.aload_n 0, 1) := by decide +kernel
theorem dX11_sum_78 : decode cX11_sum 78 = .ok (.getfield 52, 3) := by decide +kernel
theorem dX11_sum_81 : decode cX11_sum 81 = .ok (.aload_n 0, 1) := by decide +kernel
theorem dX11_sum_82 : decode cX11_sum 82 = .ok (.getfield 150, 3) := by decide +kernel
theorem dX11_sum_85 : decode cX11_sum 85 = .ok (.invokevirtual 96, 3) := by decide +kernel
theorem dX11_sum_88 : decode cX11_sum 88 = .ok (.ifCond .lt 17, 3) := by decide +kernel
theorem dX11_sum_91 : decode cX11_sum 91 = .ok (.aload_n 0, 1) := by decide +kernel
theorem dX11_sum_92 : decode cX11_sum 92 = .ok (.getfield 52, 3) := by decide +kernel
theorem dX11_sum_95 : decode cX11_sum 95 = .ok (.aload_n 0, 1) := by decide +kernel
theorem dX11_sum_96 : decode cX11_sum 96 = .ok (.getfield 150, 3) := by decide +kernel
theorem dX11_sum_99 : decode cX11_sum 99 = .ok (.invokevirtual 242, 3) := by decide +kernel
theorem dX11_sum_102 : decode cX11_sum 102 = .ok (.goto 44, 3) := by decide +kernel
theorem dX11_sum_105 : decode cX11_sum 105 = .ok (.aload_n 0, 1) := by decide +kernel
theorem dX11_sum_106 : decode cX11_sum 106 = .ok (.getfield 71, 3) := by decide +kernel
theorem dX11_sum_109 : decode cX11_sum 109 = .ok (.aload_n 0, 1) := by decide +kernel
theorem dX11_sum_110 : decode cX11_sum 110 = .ok (.getfield 150, 3) := by decide +kernel
theorem dX11_sum_113 : decode cX11_sum 113 = .ok (.invokevirtual 74, 3) := by decide +kernel
theorem dX11_sum_116 : decode cX11_sum 116 = .ok (.aload_n 0, 1) := by decide +kernel
theorem dX11_sum_117 : decode cX11_sum 117 = .ok (.getfield 71, 3) := by decide +kernel
theorem dX11_sum_120 : decode cX11_sum 120 = .ok (.aload_n 0, 1) := by decide +kernel
theorem dX11_sum_121 : decode cX11_sum 121 = .ok (.getfield 52, 3) := by decide +kernel
theorem dX11_sum_124 : decode cX11_sum 124 = .ok (.invokevirtual 242, 3) := by decide +kernel
theorem dX11_sum_127 : decode cX11_sum 127 = .ok (.aload_n 0, 1) := by decide +kernel
theorem dX11_sum_128 : decode cX11_sum 128 = .ok (.getfield 52, 3) := by decide +kernel
theorem dX11_sum_131 : decode cX11_sum 131 = .ok (.aload_n 0, 1) := by decide +kernel
theorem dX11_sum_132 : decode cX11_sum 132 = .ok (.getfield 71, 3) := by decide +kernel
theorem dX11_sum_135 : decode cX11_sum 135 = .ok (.invokevirtual 74, 3) := by decide +kernel
theorem dX11_sum_138 : decode cX11_sum 138 = .ok (.aload_n 0, 1) := by decide +kernel
theorem dX11_sum_139 : decode cX11_sum 139 = .ok (.aload_n 0, 1) := by decide +kernel
theorem dX11_sum_140 : decode cX11_sum 140 = .ok (.getfield 236, 3) := by decide +kernel
theorem dX11_sum_143 : decode cX11_sum 143 = .ok (.putfield 49, 3) := by decide +kernel
theorem dX11_sum_146 : decode cX11_sum 146 = .ok (.return_, 1) := by decide +kernel
theorem dX11_addLooked_0 : decode cX11_addLooked 0 = .ok (.aload_n 0, 1) := by decide +kernel
theorem dX11_addLooked_1 : decode cX11_addLooked 1 = .ok (.getfield 1, 3) := by decide +kernel
theorem dX11_addLooked_4 : decode cX11_addLooked 4 = .ok (.iload_n 2, 1) := by decide +kernel
theorem dX11_addLooked_5 : decode cX11_addLooked 5 = .ok (.iaload, 1) := by decide +kernel
theorem dX11_addLooked_6 : decode cX11_addLooked 6 = .ok (.istore 4, 2) := by decide +kernel
theorem dX11_addLooked_8 : decode cX11_addLooked 8 = .ok (.iload_n 1, 1) := by decide +kernel
theorem dX11_addLooked_9 : decode cX11_addLooked 9 = .ok (.iconst 4, 1) := by decide +kernel
theorem dX11_addLooked_10 : decode cX11_addLooked 10 = .ok (.if_icmp .eq 35, 3) := by decide +kernel
theorem dX11_addLooked_13 : decode cX11_addLooked 13 = .ok (.aload_n 0, 1) := by decide +kernel
theorem dX11_addLooked_14 : decode cX11_addLooked 14 = .ok (.getfield 25, 3) := by decide +kernel
theorem dX11_addLooked_17 : decode cX11_addLooked 17 = .ok (.iconst 4, 1) := by decide +kernel
theorem dX11_addLooked_18 : decode cX11_addLooked 18 = .ok (.if_icmp .eq 27, 3) := by decide +kernel
theorem dX11_addLooked_21 : decode cX11_addLooked 21 = .ok (.iload_n 1, 1) := by decide +kernel
theorem dX11_addLooked_22 : decode cX11_addLooked 22 = .ok (.iconst 3, 1) := by decide +kernel
theorem dX11_addLooked_23 : decode cX11_addLooked 23 = .ok (.if_icmp .ne 30, 3) := by decide +kernel
theorem dX11_addLooked_26 : decode cX11_addLooked 26 = .ok (.aload_n 0, 1) := by decide +kernel
theorem dX11_addLooked_27 : decode cX11_addLooked 27 = .ok (.getfield 25, 3) := by decide +kernel
theorem dX11_addLooked_30 : decode cX11_addLooked 30 = .ok (.iconst 3, 1) := by decide +kernel
theorem dX11_addLooked_31 : decode cX11_addLooked 31 = .ok (.if_icmp .ne 22, 3) := by decide +kernel
theorem dX11_addLooked_34 : decode cX11_addLooked 34 = .ok (.aload_n 0, 1) := by decide +kernel
theorem dX11_addLooked_35 : decode cX11_addLooked 35 = .ok (.getfield 49, 3) := by decide +kernel
theorem dX11_addLooked_38 : decode cX11_addLooked 38 = .ok (.aload_n 0, 1) := by decide +kernel
theorem dX11_addLooked_39 : decode cX11_addLooked 39 = .ok (.getfield 19, 3) := by decide +kernel
theorem dX11_addLooked_42 : decode cX11_addLooked 42 = .ok (.if_icmp .eq 11, 3) := by decide +kernel
theorem dX11_addLooked_45 : decode cX11_addLooked 45 = .ok (.aload_n 0, 1) := by decide +kernel
theorem dX11_addLooked_46 : decode cX11_addLooked 46 = .ok (.iload_n 2, 1) := by decide +kernel
theorem dX11_addLooked_47 : decode cX11_addLooked 47 = .ok (.iload 4, 2) := by decide +kernel
theorem dX11_addLooked_49 : decode cX11_addLooked 49 = .ok (.invokevirtual 199, 3) := by decide +kernel
theorem dX11_addLooked_52 : decode cX11_addLooked 52 = .ok (.return_, 1) := by decide +kernel
theorem dX11_addLooked_53 : decode cX11_addLooked 53 = .ok (.iload_n 1, 1) := by decide +kernel
theorem dX11_addLooked_54 : decode cX11_addLooked 54 = .ok (.iconst 3, 1) := by decide +kernel
theorem dX11_addLooked_55 : decode cX11_addLooked 55 = .ok (.if_icmp .eq 11, 3) := by decide +kernel
theorem dX11_addLooked_58 : decode cX11_addLooked 58 = .ok (.aload_n 0, 1) := by decide +kernel
theorem dX11_addLooked_59 : decode cX11_addLooked 59 = .ok (.getfield 25, 3) := by decide +kernel
theorem dX11_addLooked_62 : decode cX11_addLooked 62 = .ok (.iconst 3, 1) := by decide +kernel
theorem dX11_addLooked_63 : decode cX11_addLooked 63 = .ok (.if_icmp .ne 27, 3) := by decide +kernel
theorem dX11_addLooked_66 : decode cX11_addLooked 66 = .ok (.aload_n 0, 1) := by decide +kernel
theorem dX11_addLooked_67 : decode cX11_addLooked 67 = .ok (.iload_n 2, 1) := by decide +kernel
theorem dX11_addLooked_68 : decode cX11_addLooked 68 = .ok (.iload 4, 2) := by decide +kernel
theorem dX11_addLooked_70 : decode cX11_addLooked 70 = .ok (.iload_n 1, 1) := by decide +kernel
theorem dX11_addLooked_71 : decode cX11_addLooked 71 = .ok (.iconst 3, 1) := by decide +kernel
theorem dX11_addLooked_72 : decode cX11_addLooked 72 = .ok (.if_icmp .ne 10, 3) := by decide +kernel
theorem dX11_addLooked_75 : decode cX11_addLooked 75 = .ok (.aload_n 0, 1) := by decide +kernel
theorem dX11_addLooked_76 : decode cX11_addLooked 76 = .ok (.getfield 49, 3) := by decide +kernel
theorem dX11_addLooked_79 : decode cX11_addLooked 79 = .ok (.goto 7, 3) := by decide +kernel
theorem dX11_addLooked_82 : decode cX11_addLooked 82 = .ok (.aload_n 0, 1) := by decide +kernel
theorem dX11_addLooked_83 : decode cX11_addLooked 83 = .ok (.getfield 19, 3) := by decide +kernel
theorem dX11_addLooked_86 : decode cX11_addLooked 86 = .ok (.invokevirtual 203, 3) := by decide +kernel
theorem dX11_addLooked_89 : decode cX11_addLooked 89 = .ok (.return_, 1) := by decide +kernel
theorem dX11_addLooked_90 : decode cX11_addLooked 90 = .ok (.aload_n 0, 1) := by decide +kernel
theorem dX11_addLooked_91 : decode cX11_addLooked 91 = .ok (.getfield 52, 3) := by decide +kernel
theorem dX11_addLooked_94 : decode cX11_addLooked 94 = .ok (.getfield 89, 3) := by decide +kernel
theorem dX11_addLooked_97 : decode cX11_addLooked 97 = .ok (.ifCond .ne 14, 3) := by decide +kernel
theorem dX11_addLooked_100 : decode cX11_addLooked 100 = .ok (.aload_n 0, 1) := by decide +kernel
theorem dX11_addLooked_101 : decode cX11_addLooked 101 = .ok (.getfield 25, 3) := by decide +kernel
theorem dX11_addLooked_104 : decode cX11_addLooked 104 = .ok (.ifCond .ne 7, 3) := by decide +kernel
theorem dX11_addLooked_107 : decode cX11_addLooked 107 = .ok (.iconst 1, 1) := by decide +kernel
theorem dX11_addLooked_108 : decode cX11_addLooked 108 = .ok (.goto 4, 3) := by decide +kernel
theorem dX11_addLooked_111 : decode cX11_addLooked 111 = .ok (.iconst 0, 1) := by decide +kernel
theorem dX11_addLooked_112 : decode cX11_addLooked 112 = .ok (.istore 5, 2) := by decide +kernel
theorem dX11_addLooked_114 : decode cX11_addLooked 114 = .ok (.aload_n 0, 1) := by decide +kernel
theorem dX11_addLooked_115 : decode cX11_addLooked 115 = .ok (.getfield 49, 3) := by decide +kernel
theorem dX11_addLooked_118 : decode cX11_addLooked 118 = .ok (.aload_n 0, 1) := by decide +kernel
theorem dX11_addLooked_119 : decode cX11_addLooked 119 = .ok (.getfield 19, 3) := by decide +kernel
theorem dX11_addLooked_122 : decode cX11_addLooked 122 = .ok (.if_icmp .ne 10, 3) := by decide +kernel
theorem dX11_addLooked_125 : decode cX11_addLooked 125 = .ok (.aload_n 0, 1) := by decide +kernel
theorem dX11_addLooked_126 : decode cX11_addLooked 126 = .ok (.getfield 49, 3) := by decide +kernel
theorem dX11_addLooked_129 : decode cX11_addLooked 129 = .ok (.goto 4, 3) := by decide +kernel
theorem dX11_addLooked_132 : decode cX11_addLooked 132 = .ok (.iconst (-1), 1) := by decide +kernel
theorem dX11_addLooked_133 : decode cX11_addLooked 133 = .ok (.istore 6, 2) := by decide +kernel
theorem dX11_addLooked_135 : decode cX11_addLooked 135 = .ok (.aload_n 0, 1) := by decide +kernel
theorem dX11_addLooked_136 : decode cX11_addLooked 136 = .ok (.getfield 150, 3) := by decide +kernel
theorem dX11_addLooked_139 : decode cX11_addLooked 139 = .ok (.aload_n 0, 1) := by decide +kernel
theorem dX11_addLooked_140 : decode cX11_addLooked 140 = .ok (.getfield 28, 3) := by decide +kernel
theorem dX11_addLooked_143 : decode cX11_addLooked 143 = .ok (.invokevirtual 56, 3) := by decide +kernel
theorem dX11_addLooked_146 : decode cX11_addLooked 146 = .ok (.aload_n 0, 1) := by decide +kernel
theorem dX11_addLooked_147 : decode cX11_addLooked 147 = .ok (.aload_n 0, 1) := by decide +kernel
theorem dX11_addLooked_148 : decode cX11_addLooked 148 = .ok (.getfield 19, 3) := by decide +kernel
theorem dX11_addLooked_151 : decode cX11_addLooked 151 = .ok (.putfield 236, 3) := by decide +kernel
theorem dX11_addLooked_154 : decode cX11_addLooked 154 = .ok (.aload_n 0, 1) := by decide +kernel
theorem dX11_addLooked_155 : decode cX11_addLooked 155 = .ok (.aload_n 0, 1) := by decide +kernel
theorem dX11_addLooked_156 : decode cX11_addLooked 156 = .ok (.getfield 35, 3) := by decide +kernel
theorem dX11_addLooked_159 : decode cX11_addLooked 159 = .ok (.putfield 233, 3) := by decide +kernel
theorem dX11_addLooked_162 : decode cX11_addLooked 162 = .ok (.aload_n 0, 1) := by decide +kernel
theorem dX11_addLooked_163 : decode cX11_addLooked 163 = .ok (.invokevirtual 245, 3) := by decide +kernel
theorem dX11_addLooked_166 : decode cX11_addLooked 166 = .ok (.aload_n 0, 1) := by decide +kernel
theorem dX11_addLooked_167 : decode cX11_addLooked 167 = .ok (.getfield 52, 3) := by decide +kernel
theorem dX11_addLooked_170 : decode cX11_addLooked 170 = .ok (.getfield 89, 3) := by decide +kernel
theorem dX11_addLooked_173 : decode cX11_addLooked 173 = .ok (.ifCond .ne 32, 3) := by decide +kernel
theorem dX11_addLooked_176 : decode cX11_addLooked 176 = .ok (.aload_n 0, 1) := by decide +kernel
theorem dX11_addLooked_177 : decode cX11_addLooked 177 = .ok (.iload 5, 2) := by decide +kernel
theorem dX11_addLooked_179 : decode cX11_addLooked 179 = .ok (.ifCond .eq 13, 3) := by decide +kernel
theorem dX11_addLooked_182 : decode cX11_addLooked 182 = .ok (.iload 6, 2) := by decide +kernel
theorem dX11_addLooked_184 : decode cX11_addLooked 184 = .ok (.ifCond .lt 8, 3) := by decide +kernel
theorem dX11_addLooked_187 : decode cX11_addLooked 187 = .ok (.iload 6, 2) := by decide +kernel
theorem dX11_addLooked_189 : decode cX11_addLooked 189 = .ok (.goto 13, 3) := by decide +kernel
theorem dX11_addLooked_192 : decode cX11_addLooked 192 = .ok (.iload_n 3, 1) := by decide +kernel
theorem dX11_addLooked_193 : decode cX11_addLooked 193 = .ok (.iconst 3, 1) := by decide +kernel
theorem dX11_addLooked_194 : decode cX11_addLooked 194 = .ok (.if_icmp .ne 7, 3) := by decide +kernel
theorem dX11_addLooked_197 : decode cX11_addLooked 197 = .ok (.iconst 1, 1) := by decide +kernel
theorem dX11_addLooked_198 : decode cX11_addLooked 198 = .ok (.goto 4, 3) := by decide +kernel
theorem dX11_addLooked_201 : decode cX11_addLooked 201 = .ok (.iconst 0, 1) := by decide +kernel
theorem dX11_addLooked_202 : decode cX11_addLooked 202 = .ok (.putfield 49, 3) := by decide +kernel
theorem dX11_addLooked_205 : decode cX11_addLooked 205 = .ok (.aload_n 0, 1) := by decide +kernel
theorem dX11_addLooked_206 : decode cX11_addLooked 206 = .ok (.iload_n 2, 1) := by decide +kernel
theorem dX11_addLooked_207 : decode cX11_addLooked 207 = .ok (.iload 4, 2) := by decide +kernel
theorem dX11_addLooked_209 : decode cX11_addLooked 209 = .ok (.iload_n 3, 1) := by decide +kernel
theorem dX11_addLooked_210 : decode cX11_addLooked 210 = .ok (.invokevirtual 210, 3) := by decide +kernel
theorem dX11_addLooked_213 : decode cX11_addLooked 213 = .ok (.return_, 1) := by decide +kernel
theorem dX11_joined_0 : decode cX11_joined 0 = .ok (.aload_n 0, 1) := by decide +kernel
theorem dX11_joined_1 : decode cX11_joined 1 = .ok (.iload_n 1, 1) := by decide +kernel
theorem dX11_joined_2 : decode cX11_joined 2 = .ok (.invokestatic 177, 3) := by decide +kernel
theorem dX11_joined_5 : decode cX11_joined 5 = .ok (.ifCond .eq 21, 3) := by decide +kernel
theorem dX11_joined_8 : decode cX11_joined 8 = .ok (.iload_n 2, 1) := by decide +kernel
theorem dX11_joined_9 : decode cX11_joined 9 = .ok (.invokestatic 177, 3) := by decide +kernel
theorem dX11_joined_12 : decode cX11_joined 12 = .ok (.ifCond .eq 14, 3) := by decide +kernel
theorem dX11_joined_15 : decode cX11_joined 15 = .ok (.iload_n 3, 1) := by decide +kernel
theorem dX11_joined_16 : decode cX11_joined 16 = .ok (.invokestatic 177, 3) := by decide +kernel
theorem dX11_joined_19 : decode cX11_joined 19 = .ok (.ifCond .eq 7, 3) := by decide +kernel
theorem dX11_joined_22 : decode cX11_joined 22 = .ok (.iconst 1, 1) := by decide +kernel
theorem dX11_joined_23 : decode cX11_joined 23 = .ok (.goto 4, 3) := by decide +kernel
theorem dX11_joined_26 : decode cX11_joined 26 = .ok (.iconst 0, 1) := by decide +kernel
theorem dX11_joined_27 : decode cX11_joined 27 = .ok (.iload 4, 2) := by decide +kernel
theorem dX11_joined_29 : decode cX11_joined 29 = .ok (.invokestatic 196, 3) := by decide +kernel
theorem dX11_joined_32 : decode cX11_joined 32 = .ok (.invokevirtual 184, 3) := by decide +kernel
theorem dX11_joined_35 : decode cX11_joined 35 = .ok (.ifCond .ne 4, 3) := by decide +kernel
theorem dX11_joined_38 : decode cX11_joined 38 = .ok (.return_, 1) := by decide +kernel
theorem dX11_joined_39 : decode cX11_joined 39 = .ok (.aload_n 0, 1) := by decide +kernel
theorem dX11_joined_40 : decode cX11_joined 40 = .ok (.iload_n 1, 1) := by decide +kernel
theorem dX11_joined_41 : decode cX11_joined 41 = .ok (.invokevirtual 190, 3) := by decide +kernel
theorem dX11_joined_44 : decode cX11_joined 44 = .ok (.aload_n 0, 1) := by decide +kernel
theorem dX11_joined_45 : decode cX11_joined 45 = .ok (.invokevirtual 207, 3) := by decide +kernel
theorem dX11_joined_48 : decode cX11_joined 48 = .ok (.aload_n 0, 1) := by decide +kernel
theorem dX11_joined_49 : decode cX11_joined 49 = .ok (.getfield 25, 3) := by decide +kernel
theorem dX11_joined_52 : decode cX11_joined 52 = .ok (.istore 6, 2) := by decide +kernel
theorem dX11_joined_54 : decode cX11_joined 54 = .ok (.aload_n 0, 1) := by decide +kernel
theorem dX11_joined_55 : decode cX11_joined 55 = .ok (.iload_n 2, 1) := by decide +kernel
theorem dX11_joined_56 : decode cX11_joined 56 = .ok (.invokevirtual 190, 3) := by decide +kernel
theorem dX11_joined_59 : decode cX11_joined 59 = .ok (.aload_n 0, 1) := by decide +kernel
theorem dX11_joined_60 : decode cX11_joined 60 = .ok (.dup, 1) := by decide +kernel
theorem dX11_joined_61 : decode cX11_joined 61 = .ok (.getfield 19, 3) := by decide +kernel
theorem dX11_joined_64 : decode cX11_joined 64 = .ok (.iload 5, 2) := by decide +kernel
theorem dX11_joined_66 : decode cX11_joined 66 = .ok (.ixor, 1) := by decide +kernel
theorem dX11_joined_67 : decode cX11_joined 67 = .ok (.putfield 19, 3) := by decide +kernel
theorem dX11_joined_70 : decode cX11_joined 70 = .ok (.aload_n 0, 1) := by decide +kernel
theorem dX11_joined_71 : decode cX11_joined 71 = .ok (.iload 6, 2) := by decide +kernel
theorem dX11_joined_73 : decode cX11_joined 73 = .ok (.iload_n 3, 1) := by decide +kernel
theorem dX11_joined_74 : decode cX11_joined 74 = .ok (.iload 4, 2) := by decide +kernel
theorem dX11_joined_76 : decode cX11_joined 76 = .ok (.invokevirtual 248, 3) := by decide +kernel
theorem dX11_joined_79 : decode cX11_joined 79 = .ok (.return_, 1) := by decide +kernel
theorem dX11_add_0 : decode cX11_add 0 = .ok (.aload_n 0, 1) := by decide +kernel
theorem dX11_add_1 : decode cX11_add 1 = .ok (.iload_n 1, 1) := by decide +kernel
theorem dX11_add_2 : decode cX11_add 2 = .ok (.iload_n 2, 1) := by decide +kernel
theorem dX11_add_3 : decode cX11_add 3 = .ok (.iload_n 3, 1) := by decide +kernel
theorem dX11_add_4 : decode cX11_add 4 = .ok (.iload 4, 2) := by decide +kernel
theorem dX11_add_6 : decode cX11_add 6 = .ok (.iconst 0, 1) := by decide +kernel
theorem dX11_add_7 : decode cX11_add 7 = .ok (.invokevirtual 251, 3) := by decide +kernel
theorem dX11_add_10 : decode cX11_add 10 = .ok (.return_, 1) := by decide +kernel
theorem dX11_less_0 : decode cX11_less 0 = .ok (.aload_n 0, 1) := by decide +kernel
theorem dX11_less_1 : decode cX11_less 1 = .ok (.iload_n 1, 1) := by decide +kernel
theorem dX11_less_2 : decode cX11_less 2 = .ok (.iload_n 2, 1) := by decide +kernel
theorem dX11_less_3 : decode cX11_less 3 = .ok (.iload_n 3, 1) := by decide +kernel
theorem dX11_less_4 : decode cX11_less 4 = .ok (.iload 4, 2) := by decide +kernel
theorem dX11_less_6 : decode cX11_less 6 = .ok (.iconst 1, 1) := by decide +kernel
theorem dX11_less_7 : decode cX11_less 7 = .ok (.invokevirtual 251, 3) := by decide +kernel
theorem dX11_less_10 : decode cX11_less 10 = .ok (.return_, 1) := by decide +kernel
theorem dX11_product_0 : decode cX11_product 0 = .ok (.aload_n 0, 1) := by decide +kernel
theorem dX11_product_1 : decode cX11_product 1 = .ok (.iload_n 1, 1) := by decide +kernel
theorem dX11_product_2 : decode cX11_product 2 = .ok (.invokevirtual 190, 3) := by decide +kernel
theorem dX11_product_5 : decode cX11_product 5 = .ok (.aload_n 0, 1) := by decide +kernel
theorem dX11_product_6 : decode cX11_product 6 = .ok (.getfield 25, 3) := by decide +kernel
theorem dX11_product_9 : decode cX11_product 9 = .ok (.istore_n 3, 1) := by decide +kernel
theorem dX11_product_10 : decode cX11_product 10 = .ok (.aload_n 0, 1) := by decide +kernel
theorem dX11_product_11 : decode cX11_product 11 = .ok (.invokevirtual 207, 3) := by decide +kernel
theorem dX11_product_14 : decode cX11_product 14 = .ok (.aload_n 0, 1) := by decide +kernel
theorem dX11_product_15 : decode cX11_product 15 = .ok (.iload_n 2, 1) := by decide +kernel
theorem dX11_product_16 : decode cX11_product 16 = .ok (.invokevirtual 190, 3) := by decide +kernel
theorem dX11_product_19 : decode cX11_product 19 = .ok (.aload_n 0, 1) := by decide +kernel
theorem dX11_product_20 : decode cX11_product 20 = .ok (.dup, 1) := by decide +kernel
theorem dX11_product_21 : decode cX11_product 21 = .ok (.getfield 49, 3) := by decide +kernel
theorem dX11_product_24 : decode cX11_product 24 = .ok (.aload_n 0, 1) := by decide +kernel
theorem dX11_product_25 : decode cX11_product 25 = .ok (.getfield 19, 3) := by decide +kernel
theorem dX11_product_28 : decode cX11_product 28 = .ok (.ixor, 1) := by decide +kernel
theorem dX11_product_29 : decode cX11_product 29 = .ok (.putfield 49, 3) := by decide +kernel
theorem dX11_product_32 : decode cX11_product 32 = .ok (.iload_n 3, 1) := by decide +kernel
theorem dX11_product_33 : decode cX11_product 33 = .ok (.iconst 4, 1) := by decide +kernel
theorem dX11_product_34 : decode cX11_product 34 = .ok (.if_icmp .eq 35, 3) := by decide +kernel
theorem dX11_product_37 : decode cX11_product 37 = .ok (.aload_n 0, 1) := by decide +kernel
theorem dX11_product_38 : decode cX11_product 38 = .ok (.getfield 25, 3) := by decide +kernel
theorem dX11_product_41 : decode cX11_product 41 = .ok (.iconst 4, 1) := by decide +kernel
theorem dX11_product_42 : decode cX11_product 42 = .ok (.if_icmp .eq 27, 3) := by decide +kernel
theorem dX11_product_45 : decode cX11_product 45 = .ok (.iload_n 3, 1) := by decide +kernel
theorem dX11_product_46 : decode cX11_product 46 = .ok (.iconst 3, 1) := by decide +kernel
theorem dX11_product_47 : decode cX11_product 47 = .ok (.if_icmp .ne 10, 3) := by decide +kernel
theorem dX11_product_50 : decode cX11_product 50 = .ok (.aload_n 0, 1) := by decide +kernel
theorem dX11_product_51 : decode cX11_product 51 = .ok (.getfield 25, 3) := by decide +kernel
theorem dX11_product_54 : decode cX11_product 54 = .ok (.ifCond .eq 15, 3) := by decide +kernel
theorem dX11_product_57 : decode cX11_product 57 = .ok (.iload_n 3, 1) := by decide +kernel
theorem dX11_product_58 : decode cX11_product 58 = .ok (.ifCond .ne 13, 3) := by decide +kernel
theorem dX11_product_61 : decode cX11_product 61 = .ok (.aload_n 0, 1) := by decide +kernel
theorem dX11_product_62 : decode cX11_product 62 = .ok (.getfield 25, 3) := by decide +kernel
theorem dX11_product_65 : decode cX11_product 65 = .ok (.iconst 3, 1) := by decide +kernel
theorem dX11_product_66 : decode cX11_product 66 = .ok (.if_icmp .ne 5, 3) := by decide +kernel
theorem dX11_product_69 : decode cX11_product 69 = .ok (.iconst 4, 1) := by decide +kernel
theorem dX11_product_70 : decode cX11_product 70 = .ok (.ireturn, 1) := by decide +kernel
theorem dX11_product_71 : decode cX11_product 71 = .ok (.iload_n 3, 1) := by decide +kernel
theorem dX11_product_72 : decode cX11_product 72 = .ok (.iconst 3, 1) := by decide +kernel
theorem dX11_product_73 : decode cX11_product 73 = .ok (.if_icmp .eq 11, 3) := by decide +kernel
theorem dX11_product_76 : decode cX11_product 76 = .ok (.aload_n 0, 1) := by decide +kernel
theorem dX11_product_77 : decode cX11_product 77 = .ok (.getfield 25, 3) := by decide +kernel
theorem dX11_product_80 : decode cX11_product 80 = .ok (.iconst 3, 1) := by decide +kernel
theorem dX11_product_81 : decode cX11_product 81 = .ok (.if_icmp .ne 5, 3) := by decide +kernel
theorem dX11_product_84 : decode cX11_product 84 = .ok (.iconst 3, 1) := by decide +kernel
theorem dX11_product_85 : decode cX11_product 85 = .ok (.ireturn, 1) := by decide +kernel
theorem dX11_product_86 : decode cX11_product 86 = .ok (.aload_n 0, 1) := by decide +kernel
theorem dX11_product_87 : decode cX11_product 87 = .ok (.aload_n 0, 1) := by decide +kernel
theorem dX11_product_88 : decode cX11_product 88 = .ok (.getfield 52, 3) := by decide +kernel
theorem dX11_product_91 : decode cX11_product 91 = .ok (.aload_n 0, 1) := by decide +kernel
theorem dX11_product_92 : decode cX11_product 92 = .ok (.getfield 28, 3) := by decide +kernel
theorem dX11_product_95 : decode cX11_product 95 = .ok (.invokevirtual 81, 3) := by decide +kernel
theorem dX11_product_98 : decode cX11_product 98 = .ok (.aload_n 0, 1) := by decide +kernel
theorem dX11_product_99 : decode cX11_product 99 = .ok (.dup, 1) := by decide +kernel
theorem dX11_product_100 : decode cX11_product 100 = .ok (.getfield 65, 3) := by decide +kernel
theorem dX11_product_103 : decode cX11_product 103 = .ok (.aload_n 0, 1) := by decide +kernel
theorem dX11_product_104 : decode cX11_product 104 = .ok (.getfield 35, 3) := by decide +kernel
theorem dX11_product_107 : decode cX11_product 107 = .ok (.iadd, 1) := by decide +kernel
theorem dX11_product_108 : decode cX11_product 108 = .ok (.putfield 65, 3) := by decide +kernel
theorem dX11_product_111 : decode cX11_product 111 = .ok (.aload_n 0, 1) := by decide +kernel
theorem dX11_product_112 : decode cX11_product 112 = .ok (.getfield 52, 3) := by decide +kernel
theorem dX11_product_115 : decode cX11_product 115 = .ok (.getfield 89, 3) := by decide +kernel
theorem dX11_product_118 : decode cX11_product 118 = .ok (.ifCond .ne 7, 3) := by decide +kernel
theorem dX11_product_121 : decode cX11_product 121 = .ok (.iconst 0, 1) := by decide +kernel
theorem dX11_product_122 : decode cX11_product 122 = .ok (.goto 4, 3) := by decide +kernel
theorem dX11_product_125 : decode cX11_product 125 = .ok (.iconst 2, 1) := by decide +kernel
theorem dX11_product_126 : decode cX11_product 126 = .ok (.ireturn, 1) := by decide +kernel
theorem dX11_times_0 : decode cX11_times 0 = .ok (.aload_n 0, 1) := by decide +kernel
theorem dX11_times_1 : decode cX11_times 1 = .ok (.iload_n 1, 1) := by decide +kernel
theorem dX11_times_2 : decode cX11_times 2 = .ok (.invokestatic 177, 3) := by decide +kernel
theorem dX11_times_5 : decode cX11_times 5 = .ok (.ifCond .eq 21, 3) := by decide +kernel
theorem dX11_times_8 : decode cX11_times 8 = .ok (.iload_n 2, 1) := by decide +kernel
theorem dX11_times_9 : decode cX11_times 9 = .ok (.invokestatic 177, 3) := by decide +kernel
theorem dX11_times_12 : decode cX11_times 12 = .ok (.ifCond .eq 14, 3) := by decide +kernel
theorem dX11_times_15 : decode cX11_times 15 = .ok (.iload_n 3, 1) := by decide +kernel
theorem dX11_times_16 : decode cX11_times 16 = .ok (.invokestatic 177, 3) := by decide +kernel
theorem dX11_times_19 : decode cX11_times 19 = .ok (.ifCond .eq 7, 3) := by decide +kernel
theorem dX11_times_22 : decode cX11_times 22 = .ok (.iconst 1, 1) := by decide +kernel
theorem dX11_times_23 : decode cX11_times 23 = .ok (.goto 4, 3) := by decide +kernel
theorem dX11_times_26 : decode cX11_times 26 = .ok (.iconst 0, 1) := by decide +kernel
theorem dX11_times_27 : decode cX11_times 27 = .ok (.iload 4, 2) := by decide +kernel
theorem dX11_times_29 : decode cX11_times 29 = .ok (.invokestatic 196, 3) := by decide +kernel
theorem dX11_times_32 : decode cX11_times 32 = .ok (.invokevirtual 184, 3) := by decide +kernel
theorem dX11_times_35 : decode cX11_times 35 = .ok (.ifCond .ne 4, 3) := by decide +kernel
theorem dX11_times_38 : decode cX11_times 38 = .ok (.return_, 1) := by decide +kernel
theorem dX11_times_39 : decode cX11_times 39 = .ok (.aload_n 0, 1) := by decide +kernel
theorem dX11_times_40 : decode cX11_times 40 = .ok (.iload_n 1, 1) := by decide +kernel
theorem dX11_times_41 : decode cX11_times 41 = .ok (.iload_n 2, 1) := by decide +kernel
theorem dX11_times_42 : decode cX11_times 42 = .ok (.invokevirtual 255, 3) := by decide +kernel
theorem dX11_times_45 : decode cX11_times 45 = .ok (.istore 5, 2) := by decide +kernel
theorem dX11_times_47 : decode cX11_times 47 = .ok (.iload 5, 2) := by decide +kernel
theorem dX11_times_49 : decode cX11_times 49 = .ok (.iconst 4, 1) := by decide +kernel
theorem dX11_times_50 : decode cX11_times 50 = .ok (.if_icmp .ne 17, 3) := by decide +kernel
theorem dX11_times_53 : decode cX11_times 53 = .ok (.aload_n 0, 1) := by decide +kernel
theorem dX11_times_54 : decode cX11_times 54 = .ok (.iload_n 3, 1) := by decide +kernel
theorem dX11_times_55 : decode cX11_times 55 = .ok (.aload_n 0, 1) := by decide +kernel
theorem dX11_times_56 : decode cX11_times 56 = .ok (.getfield 1, 3) := by decide +kernel
theorem dX11_times_59 : decode cX11_times 59 = .ok (.iload_n 3, 1) := by decide +kernel
theorem dX11_times_60 : decode cX11_times 60 = .ok (.iaload, 1) := by decide +kernel
theorem dX11_times_61 : decode cX11_times 61 = .ok (.invokevirtual 199, 3) := by decide +kernel
theorem dX11_times_64 : decode cX11_times 64 = .ok (.goto 40, 3) := by decide +kernel
theorem dX11_times_67 : decode cX11_times 67 = .ok (.iload 5, 2) := by decide +kernel
theorem dX11_times_69 : decode cX11_times 69 = .ok (.iconst 3, 1) := by decide +kernel
theorem dX11_times_70 : decode cX11_times 70 = .ok (.if_icmp .ne 21, 3) := by decide +kernel
theorem dX11_times_73 : decode cX11_times 73 = .ok (.aload_n 0, 1) := by decide +kernel
theorem dX11_times_74 : decode cX11_times 74 = .ok (.iload_n 3, 1) := by decide +kernel
theorem dX11_times_75 : decode cX11_times 75 = .ok (.aload_n 0, 1) := by decide +kernel
theorem dX11_times_76 : decode cX11_times 76 = .ok (.getfield 1, 3) := by decide +kernel
theorem dX11_times_79 : decode cX11_times 79 = .ok (.iload_n 3, 1) := by decide +kernel
theorem dX11_times_80 : decode cX11_times 80 = .ok (.iaload, 1) := by decide +kernel
theorem dX11_times_81 : decode cX11_times 81 = .ok (.aload_n 0, 1) := by decide +kernel
theorem dX11_times_82 : decode cX11_times 82 = .ok (.getfield 49, 3) := by decide +kernel
theorem dX11_times_85 : decode cX11_times 85 = .ok (.invokevirtual 203, 3) := by decide +kernel
theorem dX11_times_88 : decode cX11_times 88 = .ok (.goto 16, 3) := by decide +kernel
theorem dX11_times_91 : decode cX11_times 91 = .ok (.aload_n 0, 1) := by decide +kernel
theorem dX11_times_92 : decode cX11_times 92 = .ok (.iload_n 3, 1) := by decide +kernel
theorem dX11_times_93 : decode cX11_times 93 = .ok (.aload_n 0, 1) := by decide +kernel
theorem dX11_times_94 : decode cX11_times 94 = .ok (.getfield 1, 3) := by decide +kernel
theorem dX11_times_97 : decode cX11_times 97 = .ok (.iload_n 3, 1) := by decide +kernel
theorem dX11_times_98 : decode cX11_times 98 = .ok (.iaload, 1) := by decide +kernel
theorem dX11_times_99 : decode cX11_times 99 = .ok (.iload 4, 2) := by decide +kernel
theorem dX11_times_101 : decode cX11_times 101 = .ok (.invokevirtual 210, 3) := by decide +kernel
theorem dX11_times_104 : decode cX11_times 104 = .ok (.return_, 1) := by decide +kernel
theorem dX11_over_0 : decode cX11_over 0 = .ok (.aload_n 0, 1) := by decide +kernel
theorem dX11_over_1 : decode cX11_over 1 = .ok (.iload_n 1, 1) := by decide +kernel
theorem dX11_over_2 : decode cX11_over 2 = .ok (.invokestatic 177, 3) := by decide +kernel
theorem dX11_over_5 : decode cX11_over 5 = .ok (.ifCond .eq 21, 3) := by decide +kernel
theorem dX11_over_8 : decode cX11_over 8 = .ok (.iload_n 2, 1) := by decide +kernel
theorem dX11_over_9 : decode cX11_over 9 = .ok (.invokestatic 177, 3) := by decide +kernel
theorem dX11_over_12 : decode cX11_over 12 = .ok (.ifCond .eq 14, 3) := by decide +kernel
theorem dX11_over_15 : decode cX11_over 15 = .ok (.iload_n 3, 1) := by decide +kernel
theorem dX11_over_16 : decode cX11_over 16 = .ok (.invokestatic 177, 3) := by decide +kernel
theorem dX11_over_19 : decode cX11_over 19 = .ok (.ifCond .eq 7, 3) := by decide +kernel
theorem dX11_over_22 : decode cX11_over 22 = .ok (.iconst 1, 1) := by decide +kernel
theorem dX11_over_23 : decode cX11_over 23 = .ok (.goto 4, 3) := by decide +kernel
theorem dX11_over_26 : decode cX11_over 26 = .ok (.iconst 0, 1) := by decide +kernel
theorem dX11_over_27 : decode cX11_over 27 = .ok (.iload 4, 2) := by decide +kernel
theorem dX11_over_29 : decode cX11_over 29 = .ok (.invokestatic 196, 3) := by decide +kernel
theorem dX11_over_32 : decode cX11_over 32 = .ok (.invokevirtual 184, 3) := by decide +kernel
theorem dX11_over_35 : decode cX11_over 35 = .ok (.ifCond .ne 4, 3) := by decide +kernel
theorem dX11_over_38 : decode cX11_over 38 = .ok (.return_, 1) := by decide +kernel
theorem dX11_over_39 : decode cX11_over 39 = .ok (.aload_n 0, 1) := by decide +kernel
theorem dX11_over_40 : decode cX11_over 40 = .ok (.iload_n 1, 1) := by decide +kernel
theorem dX11_over_41 : decode cX11_over 41 = .ok (.invokevirtual 190, 3) := by decide +kernel
theorem dX11_over_44 : decode cX11_over 44 = .ok (.aload_n 0, 1) := by decide +kernel
theorem dX11_over_45 : decode cX11_over 45 = .ok (.getfield 25, 3) := by decide +kernel
theorem dX11_over_48 : decode cX11_over 48 = .ok (.istore 5, 2) := by decide +kernel
theorem dX11_over_50 : decode cX11_over 50 = .ok (.aload_n 0, 1) := by decide +kernel
theorem dX11_over_51 : decode cX11_over 51 = .ok (.invokevirtual 207, 3) := by decide +kernel
theorem dX11_over_54 : decode cX11_over 54 = .ok (.aload_n 0, 1) := by decide +kernel
theorem dX11_over_55 : decode cX11_over 55 = .ok (.iload_n 2, 1) := by decide +kernel
theorem dX11_over_56 : decode cX11_over 56 = .ok (.invokevirtual 190, 3) := by decide +kernel
theorem dX11_over_59 : decode cX11_over 59 = .ok (.aload_n 0, 1) := by decide +kernel
theorem dX11_over_60 : decode cX11_over 60 = .ok (.dup, 1) := by decide +kernel
theorem dX11_over_61 : decode cX11_over 61 = .ok (.getfield 49, 3) := by decide +kernel
theorem dX11_over_64 : decode cX11_over 64 = .ok (.aload_n 0, 1) := by decide +kernel
theorem dX11_over_65 : decode cX11_over 65 = .ok (.getfield 19, 3) := by decide +kernel
theorem dX11_over_68 : decode cX11_over 68 = .ok (.ixor, 1) := by decide +kernel
theorem dX11_over_69 : decode cX11_over 69 = .ok (.putfield 49, 3) := by decide +kernel
theorem dX11_over_72 : decode cX11_over 72 = .ok (.aload_n 0, 1) := by decide +kernel
theorem dX11_over_73 : decode cX11_over 73 = .ok (.getfield 1, 3) := by decide +kernel
theorem dX11_over_76 : decode cX11_over 76 = .ok (.iload_n 3, 1) := by decide +kernel
theorem dX11_over_77 : decode cX11_over 77 = .ok (.iaload, 1) := by decide +kernel
theorem dX11_over_78 : decode cX11_over 78 = .ok (.istore 6, 2) := by decide +kernel
theorem dX11_over_80 : decode cX11_over 80 = .ok (.iload 5, 2) := by decide +kernel
theorem dX11_over_82 : decode cX11_over 82 = .ok (.iconst 4, 1) := by decide +kernel
theorem dX11_over_83 : decode cX11_over 83 = .ok (.if_icmp .eq 37, 3) := by decide +kernel
theorem dX11_over_86 : decode cX11_over 86 = .ok (.aload_n 0, 1) := by decide +kernel
theorem dX11_over_87 : decode cX11_over 87 = .ok (.getfield 25, 3) := by decide +kernel
theorem dX11_over_90 : decode cX11_over 90 = .ok (.iconst 4, 1) := by decide +kernel
theorem dX11_over_91 : decode cX11_over 91 = .ok (.if_icmp .eq 29, 3) := by decide +kernel
theorem dX11_over_94 : decode cX11_over 94 = .ok (.iload 5, 2) := by decide +kernel
theorem dX11_over_96 : decode cX11_over 96 = .ok (.ifCond .ne 10, 3) := by decide +kernel
theorem dX11_over_99 : decode cX11_over 99 = .ok (.aload_n 0, 1) := by decide +kernel
theorem dX11_over_100 : decode cX11_over 100 = .ok (.getfield 25, 3) := by decide +kernel
theorem dX11_over_103 : decode cX11_over 103 = .ok (.ifCond .eq 17, 3) := by decide +kernel
theorem dX11_over_106 : decode cX11_over 106 = .ok (.iload 5, 2) := by decide +kernel
theorem dX11_over_108 : decode cX11_over 108 = .ok (.iconst 3, 1) := by decide +kernel
theorem dX11_over_109 : decode cX11_over 109 = .ok (.if_icmp .ne 21, 3) := by decide +kernel
theorem dX11_over_112 : decode cX11_over 112 = .ok (.aload_n 0, 1) := by decide +kernel
theorem dX11_over_113 : decode cX11_over 113 = .ok (.getfield 25, 3) := by decide +kernel
theorem dX11_over_116 : decode cX11_over 116 = .ok (.iconst 3, 1) := by decide +kernel
theorem dX11_over_117 : decode cX11_over 117 = .ok (.if_icmp .ne 13, 3) := by decide +kernel
theorem dX11_over_120 : decode cX11_over 120 = .ok (.aload_n 0, 1) := by decide +kernel
theorem dX11_over_121 : decode cX11_over 121 = .ok (.iload_n 3, 1) := by decide +kernel
theorem dX11_over_122 : decode cX11_over 122 = .ok (.iload 6, 2) := by decide +kernel
theorem dX11_over_124 : decode cX11_over 124 = .ok (.invokevirtual 199, 3) := by decide +kernel
theorem dX11_over_127 : decode cX11_over 127 = .ok (.goto 86, 3) := by decide +kernel
theorem dX11_over_130 : decode cX11_over 130 = .ok (.iload 5, 2) := by decide +kernel
theorem dX11_over_132 : decode cX11_over 132 = .ok (.iconst 3, 1) := by decide +kernel
theorem dX11_over_133 : decode cX11_over 133 = .ok (.if_icmp .eq 10, 3) := by decide +kernel
theorem dX11_over_136 : decode cX11_over 136 = .ok (.aload_n 0, 1) := by decide +kernel
theorem dX11_over_137 : decode cX11_over 137 = .ok (.getfield 25, 3) := by decide +kernel
theorem dX11_over_140 : decode cX11_over 140 = .ok (.ifCond .ne 17, 3) := by decide +kernel
theorem dX11_over_143 : decode cX11_over 143 = .ok (.aload_n 0, 1) := by decide +kernel
theorem dX11_over_144 : decode cX11_over 144 = .ok (.iload_n 3, 1) := by decide +kernel
theorem dX11_over_145 : decode cX11_over 145 = .ok (.iload 6, 2) := by decide +kernel
theorem dX11_over_147 : decode cX11_over 147 = .ok (.aload_n 0, 1) := by decide +kernel
theorem dX11_over_148 : decode cX11_over 148 = .ok (.getfield 49, 3) := by decide +kernel
theorem dX11_over_151 : decode cX11_over 151 = .ok (.invokevirtual 203, 3) := by decide +kernel
theorem dX11_over_154 : decode cX11_over 154 = .ok (.goto 59, 3) := by decide +kernel
theorem dX11_over_157 : decode cX11_over 157 = .ok (.aload_n 0, 1) := by decide +kernel
theorem dX11_over_158 : decode cX11_over 158 = .ok (.getfield 25, 3) := by decide +kernel
theorem dX11_over_161 : decode cX11_over 161 = .ok (.iconst 3, 1) := by decide +kernel
theorem dX11_over_162 : decode cX11_over 162 = .ok (.if_icmp .ne 18, 3) := by decide +kernel
theorem dX11_over_165 : decode cX11_over 165 = .ok (.aload_n 0, 1) := by decide +kernel
theorem dX11_over_166 : decode cX11_over 166 = .ok (.iload_n 3, 1) := by decide +kernel
theorem dX11_over_167 : decode cX11_over 167 = .ok (.iload 6, 2) := by decide +kernel
theorem dX11_over_169 : decode cX11_over 169 = .ok (.lconst 0, 1) := by decide +kernel
theorem dX11_over_170 : decode cX11_over 170 = .ok (.aload_n 0, 1) := by decide +kernel
theorem dX11_over_171 : decode cX11_over 171 = .ok (.getfield 49, 3) := by decide +kernel
theorem dX11_over_174 : decode cX11_over 174 = .ok (.invokevirtual 45, 3) := by decide +kernel
theorem dX11_over_177 : decode cX11_over 177 = .ok (.goto 36, 3) := by decide +kernel
theorem dX11_over_180 : decode cX11_over 180 = .ok (.aload_n 0, 1) := by decide +kernel
theorem dX11_over_181 : decode cX11_over 181 = .ok (.getfield 62, 3) := by decide +kernel
theorem dX11_over_184 : decode cX11_over 184 = .ok (.aload_n 0, 1) := by decide +kernel
theorem dX11_over_185 : decode cX11_over 185 = .ok (.getfield 28, 3) := by decide +kernel
theorem dX11_over_188 : decode cX11_over 188 = .ok (.invokevirtual 56, 3) := by decide +kernel
theorem dX11_over_191 : decode cX11_over 191 = .ok (.aload_n 0, 1) := by decide +kernel
theorem dX11_over_192 : decode cX11_over 192 = .ok (.dup, 1) := by decide +kernel
theorem dX11_over_193 : decode cX11_over 193 = .ok (.getfield 65, 3) := by decide +kernel
theorem dX11_over_196 : decode cX11_over 196 = .ok (.aload_n 0, 1) := by decide +kernel
theorem dX11_over_197 : decode cX11_over 197 = .ok (.getfield 35, 3) := by decide +kernel
theorem dX11_over_200 : decode cX11_over 200 = .ok (.isub, 1) := by decide +kernel
theorem dX11_over_201 : decode cX11_over 201 = .ok (.putfield 65, 3) := by decide +kernel
theorem dX11_over_204 : decode cX11_over 204 = .ok (.aload_n 0, 1) := by decide +kernel
theorem dX11_over_205 : decode cX11_over 205 = .ok (.iload_n 3, 1) := by decide +kernel
theorem dX11_over_206 : decode cX11_over 206 = .ok (.iload 6, 2) := by decide +kernel
theorem dX11_over_208 : decode cX11_over 208 = .ok (.iload 4, 2) := by decide +kernel
theorem dX11_over_210 : decode cX11_over 210 = .ok (.invokevirtual 210, 3) := by decide +kernel
theorem dX11_over_213 : decode cX11_over 213 = .ok (.return_, 1) := by decide +kernel
theorem dX11_fused_0 : decode cX11_fused 0 = .ok (.aload_n 0, 1) := by decide +kernel
theorem dX11_fused_1 : decode cX11_fused 1 = .ok (.iload_n 1, 1) := by decide +kernel
theorem dX11_fused_2 : decode cX11_fused 2 = .ok (.invokestatic 177, 3) := by decide +kernel
theorem dX11_fused_5 : decode cX11_fused 5 = .ok (.ifCond .eq 21, 3) := by decide +kernel
theorem dX11_fused_8 : decode cX11_fused 8 = .ok (.iload_n 2, 1) := by decide +kernel
theorem dX11_fused_9 : decode cX11_fused 9 = .ok (.invokestatic 177, 3) := by decide +kernel
theorem dX11_fused_12 : decode cX11_fused 12 = .ok (.ifCond .eq 14, 3) := by decide +kernel
theorem dX11_fused_15 : decode cX11_fused 15 = .ok (.iload_n 3, 1) := by decide +kernel
theorem dX11_fused_16 : decode cX11_fused 16 = .ok (.invokestatic 177, 3) := by decide +kernel
theorem dX11_fused_19 : decode cX11_fused 19 = .ok (.ifCond .eq 7, 3) := by decide +kernel
theorem dX11_fused_22 : decode cX11_fused 22 = .ok (.iconst 1, 1) := by decide +kernel
theorem dX11_fused_23 : decode cX11_fused 23 = .ok (.goto 4, 3) := by decide +kernel
theorem dX11_fused_26 : decode cX11_fused 26 = .ok (.iconst 0, 1) := by decide +kernel
theorem dX11_fused_27 : decode cX11_fused 27 = .ok (.iload 4, 2) := by decide +kernel
theorem dX11_fused_29 : decode cX11_fused 29 = .ok (.invokestatic 196, 3) := by decide +kernel
theorem dX11_fused_32 : decode cX11_fused 32 = .ok (.invokevirtual 184, 3) := by decide +kernel
theorem dX11_fused_35 : decode cX11_fused 35 = .ok (.ifCond .ne 4, 3) := by decide +kernel
theorem dX11_fused_38 : decode cX11_fused 38 = .ok (.return_, 1) := by decide +kernel
theorem dX11_fused_39 : decode cX11_fused 39 = .ok (.aload_n 0, 1) := by decide +kernel
theorem dX11_fused_40 : decode cX11_fused 40 = .ok (.iload_n 1, 1) := by decide +kernel
theorem dX11_fused_41 : decode cX11_fused 41 = .ok (.iload_n 2, 1) := by decide +kernel
theorem dX11_fused_42 : decode cX11_fused 42 = .ok (.invokevirtual 255, 3) := by decide +kernel
theorem dX11_fused_45 : decode cX11_fused 45 = .ok (.istore 5, 2) := by decide +kernel
theorem dX11_fused_47 : decode cX11_fused 47 = .ok (.aload_n 0, 1) := by decide +kernel
theorem dX11_fused_48 : decode cX11_fused 48 = .ok (.iload_n 3, 1) := by decide +kernel
theorem dX11_fused_49 : decode cX11_fused 49 = .ok (.invokevirtual 190, 3) := by decide +kernel
theorem dX11_fused_52 : decode cX11_fused 52 = .ok (.aload_n 0, 1) := by decide +kernel
theorem dX11_fused_53 : decode cX11_fused 53 = .ok (.iload 5, 2) := by decide +kernel
theorem dX11_fused_55 : decode cX11_fused 55 = .ok (.iload_n 3, 1) := by decide +kernel
theorem dX11_fused_56 : decode cX11_fused 56 = .ok (.iload 4, 2) := by decide +kernel
theorem dX11_fused_58 : decode cX11_fused 58 = .ok (.invokevirtual 248, 3) := by decide +kernel
theorem dX11_fused_61 : decode cX11_fused 61 = .ok (.return_, 1) := by decide +kernel
theorem dX11_root_0 : decode cX11_root 0 = .ok (.aload_n 0, 1) := by decide +kernel
theorem dX11_root_1 : decode cX11_root 1 = .ok (.iload_n 1, 1) := by decide +kernel
theorem dX11_root_2 : decode cX11_root 2 = .ok (.invokestatic 177, 3) := by decide +kernel
theorem dX11_root_5 : decode cX11_root 5 = .ok (.ifCond .eq 14, 3) := by decide +kernel
theorem dX11_root_8 : decode cX11_root 8 = .ok (.iload_n 2, 1) := by decide +kernel
theorem dX11_root_9 : decode cX11_root 9 = .ok (.invokestatic 177, 3) := by decide +kernel
theorem dX11_root_12 : decode cX11_root 12 = .ok (.ifCond .eq 7, 3) := by decide +kernel
theorem dX11_root_15 : decode cX11_root 15 = .ok (.iconst 1, 1) := by decide +kernel
theorem dX11_root_16 : decode cX11_root 16 = .ok (.goto 4, 3) := by decide +kernel
theorem dX11_root_19 : decode cX11_root 19 = .ok (.iconst 0, 1) := by decide +kernel
theorem dX11_root_20 : decode cX11_root 20 = .ok (.iload_n 3, 1) := by decide +kernel
theorem dX11_root_21 : decode cX11_root 21 = .ok (.invokestatic 196, 3) := by decide +kernel
theorem dX11_root_24 : decode cX11_root 24 = .ok (.invokevirtual 184, 3) := by decide +kernel
theorem dX11_root_27 : decode cX11_root 27 = .ok (.ifCond .ne 4, 3) := by decide +kernel
theorem dX11_root_30 : decode cX11_root 30 = .ok (.return_, 1) := by decide +kernel
theorem dX11_root_31 : decode cX11_root 31 = .ok (.aload_n 0, 1) := by decide +kernel
theorem dX11_root_32 : decode cX11_root 32 = .ok (.iload_n 1, 1) := by decide +kernel
theorem dX11_root_33 : decode cX11_root 33 = .ok (.invokevirtual 190, 3) := by decide +kernel
theorem dX11_root_36 : decode cX11_root 36 = .ok (.aload_n 0, 1) := by decide +kernel
theorem dX11_root_37 : decode cX11_root 37 = .ok (.getfield 1, 3) := by decide +kernel
theorem dX11_root_40 : decode cX11_root 40 = .ok (.iload_n 2, 1) := by decide +kernel
theorem dX11_root_41 : decode cX11_root 41 = .ok (.iaload, 1) := by decide +kernel
theorem dX11_root_42 : decode cX11_root 42 = .ok (.istore 4, 2) := by decide +kernel
theorem dX11_root_44 : decode cX11_root 44 = .ok (.aload_n 0, 1) := by decide +kernel
theorem dX11_root_45 : decode cX11_root 45 = .ok (.getfield 25, 3) := by decide +kernel
theorem dX11_root_48 : decode cX11_root 48 = .ok (.iconst 4, 1) := by decide +kernel
theorem dX11_root_49 : decode cX11_root 49 = .ok (.if_icmp .eq 18, 3) := by decide +kernel
theorem dX11_root_52 : decode cX11_root 52 = .ok (.aload_n 0, 1) := by decide +kernel
theorem dX11_root_53 : decode cX11_root 53 = .ok (.getfield 25, 3) := by decide +kernel
theorem dX11_root_56 : decode cX11_root 56 = .ok (.ifCond .eq 21, 3) := by decide +kernel
theorem dX11_root_59 : decode cX11_root 59 = .ok (.aload_n 0, 1) := by decide +kernel
theorem dX11_root_60 : decode cX11_root 60 = .ok (.getfield 19, 3) := by decide +kernel
theorem dX11_root_63 : decode cX11_root 63 = .ok (.iconst 1, 1) := by decide +kernel
theorem dX11_root_64 : decode cX11_root 64 = .ok (.if_icmp .ne 13, 3) := by decide +kernel
theorem dX11_root_67 : decode cX11_root 67 = .ok (.aload_n 0, 1) := by decide +kernel
theorem dX11_root_68 : decode cX11_root 68 = .ok (.iload_n 2, 1) := by decide +kernel
theorem dX11_root_69 : decode cX11_root 69 = .ok (.iload 4, 2) := by decide +kernel
theorem dX11_root_71 : decode cX11_root 71 = .ok (.invokevirtual 199, 3) := by decide +kernel
theorem dX11_root_74 : decode cX11_root 74 = .ok (.goto 39, 3) := by decide +kernel
theorem dX11_root_77 : decode cX11_root 77 = .ok (.aload_n 0, 1) := by decide +kernel
theorem dX11_root_78 : decode cX11_root 78 = .ok (.getfield 25, 3) := by decide +kernel
theorem dX11_root_81 : decode cX11_root 81 = .ok (.iconst 3, 1) := by decide +kernel
theorem dX11_root_82 : decode cX11_root 82 = .ok (.if_icmp .ne 14, 3) := by decide +kernel
theorem dX11_root_85 : decode cX11_root 85 = .ok (.aload_n 0, 1) := by decide +kernel
theorem dX11_root_86 : decode cX11_root 86 = .ok (.iload_n 2, 1) := by decide +kernel
theorem dX11_root_87 : decode cX11_root 87 = .ok (.iload 4, 2) := by decide +kernel
theorem dX11_root_89 : decode cX11_root 89 = .ok (.iconst 0, 1) := by decide +kernel
theorem dX11_root_90 : decode cX11_root 90 = .ok (.invokevirtual 203, 3) := by decide +kernel
theorem dX11_root_93 : decode cX11_root 93 = .ok (.goto 20, 3) := by decide +kernel
theorem dX11_root_96 : decode cX11_root 96 = .ok (.aload_n 0, 1) := by decide +kernel
theorem dX11_root_97 : decode cX11_root 97 = .ok (.invokevirtual 207, 3) := by decide +kernel
theorem dX11_root_100 : decode cX11_root 100 = .ok (.aload_n 0, 1) := by decide +kernel
theorem dX11_root_101 : decode cX11_root 101 = .ok (.iconst 2, 1) := by decide +kernel
theorem dX11_root_102 : decode cX11_root 102 = .ok (.putfield 68, 3) := by decide +kernel
theorem dX11_root_105 : decode cX11_root 105 = .ok (.aload_n 0, 1) := by decide +kernel
theorem dX11_root_106 : decode cX11_root 106 = .ok (.iload_n 2, 1) := by decide +kernel
theorem dX11_root_107 : decode cX11_root 107 = .ok (.iload 4, 2) := by decide +kernel
theorem dX11_root_109 : decode cX11_root 109 = .ok (.iload_n 3, 1) := by decide +kernel
theorem dX11_root_110 : decode cX11_root 110 = .ok (.invokevirtual 210, 3) := by decide +kernel
theorem dX11_root_113 : decode cX11_root 113 = .ok (.return_, 1) := by decide +kernel
theorem dX11_order_0 : decode cX11_order 0 = .ok (.aload_n 0, 1) := by decide +kernel
theorem dX11_order_1 : decode cX11_order 1 = .ok (.iload_n 1, 1) := by decide +kernel
theorem dX11_order_2 : decode cX11_order 2 = .ok (.invokestatic 177, 3) := by decide +kernel
theorem dX11_order_5 : decode cX11_order 5 = .ok (.ifCond .eq 14, 3) := by decide +kernel
theorem dX11_order_8 : decode cX11_order 8 = .ok (.iload_n 2, 1) := by decide +kernel
theorem dX11_order_9 : decode cX11_order 9 = .ok (.invokestatic 177, 3) := by decide +kernel
theorem dX11_order_12 : decode cX11_order 12 = .ok (.ifCond .eq 7, 3) := by decide +kernel
theorem dX11_order_15 : decode cX11_order 15 = .ok (.iconst 1, 1) := by decide +kernel
theorem dX11_order_16 : decode cX11_order 16 = .ok (.goto 4, 3) := by decide +kernel
theorem dX11_order_19 : decode cX11_order 19 = .ok (.iconst 0, 1) := by decide +kernel
theorem dX11_order_20 : decode cX11_order 20 = .ok (.iconst 1, 1) := by decide +kernel
theorem dX11_order_21 : decode cX11_order 21 = .ok (.invokevirtual 184, 3) := by decide +kernel
theorem dX11_order_24 : decode cX11_order 24 = .ok (.ifCond .ne 5, 3) := by decide +kernel
theorem dX11_order_27 : decode cX11_order 27 = .ok (.iconst 0, 1) := by decide +kernel
theorem dX11_order_28 : decode cX11_order 28 = .ok (.ireturn, 1) := by decide +kernel
theorem dX11_order_29 : decode cX11_order 29 = .ok (.aload_n 0, 1) := by decide +kernel
theorem dX11_order_30 : decode cX11_order 30 = .ok (.iload_n 1, 1) := by decide +kernel
theorem dX11_order_31 : decode cX11_order 31 = .ok (.invokevirtual 190, 3) := by decide +kernel
theorem dX11_order_34 : decode cX11_order 34 = .ok (.aload_n 0, 1) := by decide +kernel
theorem dX11_order_35 : decode cX11_order 35 = .ok (.getfield 25, 3) := by decide +kernel
theorem dX11_order_38 : decode cX11_order 38 = .ok (.istore_n 3, 1) := by decide +kernel
theorem dX11_order_39 : decode cX11_order 39 = .ok (.aload_n 0, 1) := by decide +kernel
theorem dX11_order_40 : decode cX11_order 40 = .ok (.invokevirtual 207, 3) := by decide +kernel
theorem dX11_order_43 : decode cX11_order 43 = .ok (.aload_n 0, 1) := by decide +kernel
theorem dX11_order_44 : decode cX11_order 44 = .ok (.iload_n 2, 1) := by decide +kernel
theorem dX11_order_45 : decode cX11_order 45 = .ok (.invokevirtual 190, 3) := by decide +kernel
theorem dX11_order_48 : decode cX11_order 48 = .ok (.iload_n 3, 1) := by decide +kernel
theorem dX11_order_49 : decode cX11_order 49 = .ok (.iconst 4, 1) := by decide +kernel
theorem dX11_order_50 : decode cX11_order 50 = .ok (.if_icmp .eq 11, 3) := by decide +kernel
theorem dX11_order_53 : decode cX11_order 53 = .ok (.aload_n 0, 1) := by decide +kernel
theorem dX11_order_54 : decode cX11_order 54 = .ok (.getfield 25, 3) := by decide +kernel
theorem dX11_order_57 : decode cX11_order 57 = .ok (.iconst 4, 1) := by decide +kernel
theorem dX11_order_58 : decode cX11_order 58 = .ok (.if_icmp .ne 5, 3) := by decide +kernel
theorem dX11_order_61 : decode cX11_order 61 = .ok (.iconst 2, 1) := by decide +kernel
theorem dX11_order_62 : decode cX11_order 62 = .ok (.ireturn, 1) := by decide +kernel
theorem dX11_order_63 : decode cX11_order 63 = .ok (.iload_n 3, 1) := by decide +kernel
theorem dX11_order_64 : decode cX11_order 64 = .ok (.iconst 3, 1) := by decide +kernel
theorem dX11_order_65 : decode cX11_order 65 = .ok (.if_icmp .eq 11, 3) := by decide +kernel
theorem dX11_order_68 : decode cX11_order 68 = .ok (.aload_n 0, 1) := by decide +kernel
theorem dX11_order_69 : decode cX11_order 69 = .ok (.getfield 25, 3) := by decide +kernel
theorem dX11_order_72 : decode cX11_order 72 = .ok (.iconst 3, 1) := by decide +kernel
theorem dX11_order_73 : decode cX11_order 73 = .ok (.if_icmp .ne 62, 3) := by decide +kernel
theorem dX11_order_76 : decode cX11_order 76 = .ok (.iload_n 3, 1) := by decide +kernel
theorem dX11_order_77 : decode cX11_order 77 = .ok (.iconst 3, 1) := by decide +kernel
theorem dX11_order_78 : decode cX11_order 78 = .ok (.if_icmp .ne 19, 3) := by decide +kernel
theorem dX11_order_81 : decode cX11_order 81 = .ok (.aload_n 0, 1) := by decide +kernel
theorem dX11_order_82 : decode cX11_order 82 = .ok (.getfield 49, 3) := by decide +kernel
theorem dX11_order_85 : decode cX11_order 85 = .ok (.iconst 1, 1) := by decide +kernel
theorem dX11_order_86 : decode cX11_order 86 = .ok (.if_icmp .ne 7, 3) := by decide +kernel
theorem dX11_order_89 : decode cX11_order 89 = .ok (.iconst (-1), 1) := by decide +kernel
theorem dX11_order_90 : decode cX11_order 90 = .ok (.goto 8, 3) := by decide +kernel
theorem dX11_order_93 : decode cX11_order 93 = .ok (.iconst 1, 1) := by decide +kernel
theorem dX11_order_94 : decode cX11_order 94 = .ok (.goto 4, 3) := by decide +kernel
theorem dX11_order_97 : decode cX11_order 97 = .ok (.iconst 0, 1) := by decide +kernel
theorem dX11_order_98 : decode cX11_order 98 = .ok (.istore 4, 2) := by decide +kernel
theorem dX11_order_100 : decode cX11_order 100 = .ok (.aload_n 0, 1) := by decide +kernel
theorem dX11_order_101 : decode cX11_order 101 = .ok (.getfield 25, 3) := by decide +kernel
theorem dX11_order_104 : decode cX11_order 104 = .ok (.iconst 3, 1) := by decide +kernel
theorem dX11_order_105 : decode cX11_order 105 = .ok (.if_icmp .ne 19, 3) := by decide +kernel
theorem dX11_order_108 : decode cX11_order 108 = .ok (.aload_n 0, 1) := by decide +kernel
theorem dX11_order_109 : decode cX11_order 109 = .ok (.getfield 19, 3) := by decide +kernel
theorem dX11_order_112 : decode cX11_order 112 = .ok (.iconst 1, 1) := by decide +kernel
theorem dX11_order_113 : decode cX11_order 113 = .ok (.if_icmp .ne 7, 3) := by decide +kernel
theorem dX11_order_116 : decode cX11_order 116 = .ok (.iconst (-1), 1) := by decide +kernel
theorem dX11_order_117 : decode cX11_order 117 = .ok (.goto 8, 3) := by decide +kernel
theorem dX11_order_120 : decode cX11_order 120 = .ok (.iconst 1, 1) := by decide +kernel
theorem dX11_order_121 : decode cX11_order 121 = .ok (.goto 4, 3) := by decide +kernel
theorem dX11_order_124 : decode cX11_order 124 = .ok (.iconst 0, 1) := by decide +kernel
theorem dX11_order_125 : decode cX11_order 125 = .ok (.istore 5, 2) := by decide +kernel
theorem dX11_order_127 : decode cX11_order 127 = .ok (.iload 4, 2) := by decide +kernel
theorem dX11_order_129 : decode cX11_order 129 = .ok (.iload 5, 2) := by decide +kernel
theorem dX11_order_131 : decode cX11_order 131 = .ok (.invokestatic 259, 3) := by decide +kernel
theorem dX11_order_134 : decode cX11_order 134 = .ok (.ireturn, 1) := by decide +kernel
theorem dX11_order_135 : decode cX11_order 135 = .ok (.aload_n 0, 1) := by decide +kernel
theorem dX11_order_136 : decode cX11_order 136 = .ok (.getfield 150, 3) := by decide +kernel
theorem dX11_order_139 : decode cX11_order 139 = .ok (.aload_n 0, 1) := by decide +kernel
theorem dX11_order_140 : decode cX11_order 140 = .ok (.getfield 28, 3) := by decide +kernel
theorem dX11_order_143 : decode cX11_order 143 = .ok (.invokevirtual 56, 3) := by decide +kernel
theorem dX11_order_146 : decode cX11_order 146 = .ok (.aload_n 0, 1) := by decide +kernel
theorem dX11_order_147 : decode cX11_order 147 = .ok (.iconst 1, 1) := by decide +kernel
theorem dX11_order_148 : decode cX11_order 148 = .ok (.aload_n 0, 1) := by decide +kernel
theorem dX11_order_149 : decode cX11_order 149 = .ok (.getfield 19, 3) := by decide +kernel
theorem dX11_order_152 : decode cX11_order 152 = .ok (.isub, 1) := by decide +kernel
theorem dX11_order_153 : decode cX11_order 153 = .ok (.putfield 236, 3) := by decide +kernel
theorem dX11_order_156 : decode cX11_order 156 = .ok (.aload_n 0, 1) := by decide +kernel
theorem dX11_order_157 : decode cX11_order 157 = .ok (.aload_n 0, 1) := by decide +kernel
theorem dX11_order_158 : decode cX11_order 158 = .ok (.getfield 35, 3) := by decide +kernel
theorem dX11_order_161 : decode cX11_order 161 = .ok (.putfield 233, 3) := by decide +kernel
theorem dX11_order_164 : decode cX11_order 164 = .ok (.aload_n 0, 1) := by decide +kernel
theorem dX11_order_165 : decode cX11_order 165 = .ok (.invokevirtual 245, 3) := by decide +kernel
theorem dX11_order_168 : decode cX11_order 168 = .ok (.aload_n 0, 1) := by decide +kernel
theorem dX11_order_169 : decode cX11_order 169 = .ok (.getfield 52, 3) := by decide +kernel
theorem dX11_order_172 : decode cX11_order 172 = .ok (.getfield 89, 3) := by decide +kernel
theorem dX11_order_175 : decode cX11_order 175 = .ok (.ifCond .ne 7, 3) := by decide +kernel
theorem dX11_order_178 : decode cX11_order 178 = .ok (.iconst 0, 1) := by decide +kernel
theorem dX11_order_179 : decode cX11_order 179 = .ok (.goto 16, 3) := by decide +kernel
theorem dX11_order_182 : decode cX11_order 182 = .ok (.aload_n 0, 1) := by decide +kernel
theorem dX11_order_183 : decode cX11_order 183 = .ok (.getfield 49, 3) := by decide +kernel
theorem dX11_order_186 : decode cX11_order 186 = .ok (.iconst 1, 1) := by decide +kernel
theorem dX11_order_187 : decode cX11_order 187 = .ok (.if_icmp .ne 7, 3) := by decide +kernel
theorem dX11_order_190 : decode cX11_order 190 = .ok (.iconst (-1), 1) := by decide +kernel
theorem dX11_order_191 : decode cX11_order 191 = .ok (.goto 4, 3) := by decide +kernel
theorem dX11_order_194 : decode cX11_order 194 = .ok (.iconst 1, 1) := by decide +kernel
theorem dX11_order_195 : decode cX11_order 195 = .ok (.ireturn, 1) := by decide +kernel
theorem dX11_step_0 : decode cX11_step 0 = .ok (.aload_n 0, 1) := by decide +kernel
theorem dX11_step_1 : decode cX11_step 1 = .ok (.iload_n 1, 1) := by decide +kernel
theorem dX11_step_2 : decode cX11_step 2 = .ok (.invokestatic 177, 3) := by decide +kernel
theorem dX11_step_5 : decode cX11_step 5 = .ok (.iconst 1, 1) := by decide +kernel
theorem dX11_step_6 : decode cX11_step 6 = .ok (.invokevirtual 184, 3) := by decide +kernel
theorem dX11_step_9 : decode cX11_step 9 = .ok (.ifCond .ne 4, 3) := by decide +kernel
theorem dX11_step_12 : decode cX11_step 12 = .ok (.return_, 1) := by decide +kernel
theorem dX11_step_13 : decode cX11_step 13 = .ok (.aload_n 0, 1) := by decide +kernel
theorem dX11_step_14 : decode cX11_step 14 = .ok (.iload_n 1, 1) := by decide +kernel
theorem dX11_step_15 : decode cX11_step 15 = .ok (.invokevirtual 190, 3) := by decide +kernel
theorem dX11_step_18 : decode cX11_step 18 = .ok (.aload_n 0, 1) := by decide +kernel
theorem dX11_step_19 : decode cX11_step 19 = .ok (.getfield 1, 3) := by decide +kernel
theorem dX11_step_22 : decode cX11_step 22 = .ok (.iload_n 1, 1) := by decide +kernel
theorem dX11_step_23 : decode cX11_step 23 = .ok (.iaload, 1) := by decide +kernel
theorem dX11_step_24 : decode cX11_step 24 = .ok (.istore_n 3, 1) := by decide +kernel
theorem dX11_step_25 : decode cX11_step 25 = .ok (.aload_n 0, 1) := by decide +kernel
theorem dX11_step_26 : decode cX11_step 26 = .ok (.getfield 25, 3) := by decide +kernel
theorem dX11_step_29 : decode cX11_step 29 = .ok (.iconst 4, 1) := by decide +kernel
theorem dX11_step_30 : decode cX11_step 30 = .ok (.if_icmp .ne 4, 3) := by decide +kernel
theorem dX11_step_33 : decode cX11_step 33 = .ok (.return_, 1) := by decide +kernel
theorem dX11_step_34 : decode cX11_step 34 = .ok (.aload_n 0, 1) := by decide +kernel
theorem dX11_step_35 : decode cX11_step 35 = .ok (.getfield 11, 3) := by decide +kernel
theorem dX11_step_38 : decode cX11_step 38 = .ok (.iload_n 1, 1) := by decide +kernel
theorem dX11_step_39 : decode cX11_step 39 = .ok (.laload, 1) := by decide +kernel
theorem dX11_step_40 : decode cX11_step 40 = .ok (.iload_n 3, 1) := by decide +kernel
theorem dX11_step_41 : decode cX11_step 41 = .ok (.invokestatic 15, 3) := by decide +kernel
theorem dX11_step_44 : decode cX11_step 44 = .ok (.ldc2_w 23, 3) := by decide +kernel
theorem dX11_step_47 : decode cX11_step 47 = .ok (.lxor, 1) := by decide +kernel
theorem dX11_step_48 : decode cX11_step 48 = .ok (.land, 1) := by decide +kernel
theorem dX11_step_49 : decode cX11_step 49 = .ok (.lstore 4, 2) := by decide +kernel
theorem dX11_step_51 : decode cX11_step 51 = .ok (.aload_n 0, 1) := by decide +kernel
theorem dX11_step_52 : decode cX11_step 52 = .ok (.getfield 25, 3) := by decide +kernel
theorem dX11_step_55 : decode cX11_step 55 = .ok (.ifCond .ne 22, 3) := by decide +kernel
theorem dX11_step_58 : decode cX11_step 58 = .ok (.aload_n 0, 1) := by decide +kernel
theorem dX11_step_59 : decode cX11_step 59 = .ok (.iload_n 1, 1) := by decide +kernel
theorem dX11_step_60 : decode cX11_step 60 = .ok (.iload_n 3, 1) := by decide +kernel
theorem dX11_step_61 : decode cX11_step 61 = .ok (.lconst 1, 1) := by decide +kernel
theorem dX11_step_62 : decode cX11_step 62 = .ok (.iload_n 2, 1) := by decide +kernel
theorem dX11_step_63 : decode cX11_step 63 = .ok (.ifCond .eq 7, 3) := by decide +kernel
theorem dX11_step_66 : decode cX11_step 66 = .ok (.iconst 0, 1) := by decide +kernel
theorem dX11_step_67 : decode cX11_step 67 = .ok (.goto 4, 3) := by decide +kernel
theorem dX11_step_70 : decode cX11_step 70 = .ok (.iconst 1, 1) := by decide +kernel
theorem dX11_step_71 : decode cX11_step 71 = .ok (.invokevirtual 45, 3) := by decide +kernel
theorem dX11_step_74 : decode cX11_step 74 = .ok (.goto 63, 3) := by decide +kernel
theorem dX11_step_77 : decode cX11_step 77 = .ok (.iload_n 2, 1) := by decide +kernel
theorem dX11_step_78 : decode cX11_step 78 = .ok (.aload_n 0, 1) := by decide +kernel
theorem dX11_step_79 : decode cX11_step 79 = .ok (.getfield 19, 3) := by decide +kernel
theorem dX11_step_82 : decode cX11_step 82 = .ok (.ifCond .ne 7, 3) := by decide +kernel
theorem dX11_step_85 : decode cX11_step 85 = .ok (.iconst 1, 1) := by decide +kernel
theorem dX11_step_86 : decode cX11_step 86 = .ok (.goto 4, 3) := by decide +kernel
theorem dX11_step_89 : decode cX11_step 89 = .ok (.iconst 0, 1) := by decide +kernel
theorem dX11_step_90 : decode cX11_step 90 = .ok (.if_icmp .ne 33, 3) := by decide +kernel
theorem dX11_step_93 : decode cX11_step 93 = .ok (.aload_n 0, 1) := by decide +kernel
theorem dX11_step_94 : decode cX11_step 94 = .ok (.iload_n 1, 1) := by decide +kernel
theorem dX11_step_95 : decode cX11_step 95 = .ok (.iload_n 3, 1) := by decide +kernel
theorem dX11_step_96 : decode cX11_step 96 = .ok (.aload_n 0, 1) := by decide +kernel
theorem dX11_step_97 : decode cX11_step 97 = .ok (.getfield 25, 3) := by decide +kernel
theorem dX11_step_100 : decode cX11_step 100 = .ok (.iconst 3, 1) := by decide +kernel
theorem dX11_step_101 : decode cX11_step 101 = .ok (.if_icmp .ne 8, 3) := by decide +kernel
theorem dX11_step_104 : decode cX11_step 104 = .ok (.lload 4, 2) := by decide +kernel
theorem dX11_step_106 : decode cX11_step 106 = .ok (.goto 7, 3) := by decide +kernel
theorem dX11_step_109 : decode cX11_step 109 = .ok (.lload 4, 2) := by decide +kernel
theorem dX11_step_111 : decode cX11_step 111 = .ok (.lconst 1, 1) := by decide +kernel
theorem dX11_step_112 : decode cX11_step 112 = .ok (.ladd, 1) := by decide +kernel
theorem dX11_step_113 : decode cX11_step 113 = .ok (.aload_n 0, 1) := by decide +kernel
theorem dX11_step_114 : decode cX11_step 114 = .ok (.getfield 19, 3) := by decide +kernel
theorem dX11_step_117 : decode cX11_step 117 = .ok (.invokevirtual 45, 3) := by decide +kernel
theorem dX11_step_120 : decode cX11_step 120 = .ok (.goto 17, 3) := by decide +kernel
theorem dX11_step_123 : decode cX11_step 123 = .ok (.aload_n 0, 1) := by decide +kernel
theorem dX11_step_124 : decode cX11_step 124 = .ok (.iload_n 1, 1) := by decide +kernel
theorem dX11_step_125 : decode cX11_step 125 = .ok (.iload_n 3, 1) := by decide +kernel
theorem dX11_step_126 : decode cX11_step 126 = .ok (.lload 4, 2) := by decide +kernel
theorem dX11_step_128 : decode cX11_step 128 = .ok (.lconst 1, 1) := by decide +kernel
theorem dX11_step_129 : decode cX11_step 129 = .ok (.lsub, 1) := by decide +kernel
theorem dX11_step_130 : decode cX11_step 130 = .ok (.aload_n 0, 1) := by decide +kernel
theorem dX11_step_131 : decode cX11_step 131 = .ok (.getfield 19, 3) := by decide +kernel
theorem dX11_step_134 : decode cX11_step 134 = .ok (.invokevirtual 45, 3) := by decide +kernel
theorem dX11_step_137 : decode cX11_step 137 = .ok (.return_, 1) := by decide +kernel
theorem dX11_feed_0 : decode cX11_feed 0 = .ok (.aload_n 0, 1) := by decide +kernel
theorem dX11_feed_1 : decode cX11_feed 1 = .ok (.iload_n 3, 1) := by decide +kernel
theorem dX11_feed_2 : decode cX11_feed 2 = .ok (.iconst 1, 1) := by decide +kernel
theorem dX11_feed_3 : decode cX11_feed 3 = .ok (.if_icmp .lt 21, 3) := by decide +kernel
theorem dX11_feed_6 : decode cX11_feed 6 = .ok (.iload_n 3, 1) := by decide +kernel
theorem dX11_feed_7 : decode cX11_feed 7 = .ok (.bipush 8, 2) := by decide +kernel
theorem dX11_feed_9 : decode cX11_feed 9 = .ok (.if_icmp .gt 15, 3) := by decide +kernel
theorem dX11_feed_12 : decode cX11_feed 12 = .ok (.aload_n 0, 1) := by decide +kernel
theorem dX11_feed_13 : decode cX11_feed 13 = .ok (.getfield 263, 3) := by decide +kernel
theorem dX11_feed_16 : decode cX11_feed 16 = .ok (.iload_n 3, 1) := by decide +kernel
theorem dX11_feed_17 : decode cX11_feed 17 = .ok (.iadd, 1) := by decide +kernel
theorem dX11_feed_18 : decode cX11_feed 18 = .ok (.sipush 1200, 3) := by decide +kernel
theorem dX11_feed_21 : decode cX11_feed 21 = .ok (.if_icmp .le 7, 3) := by decide +kernel
theorem dX11_feed_24 : decode cX11_feed 24 = .ok (.iconst 1, 1) := by decide +kernel
theorem dX11_feed_25 : decode cX11_feed 25 = .ok (.goto 4, 3) := by decide +kernel
theorem dX11_feed_28 : decode cX11_feed 28 = .ok (.iconst 0, 1) := by decide +kernel
theorem dX11_feed_29 : decode cX11_feed 29 = .ok (.putfield 174, 3) := by decide +kernel
theorem dX11_feed_32 : decode cX11_feed 32 = .ok (.iconst 0, 1) := by decide +kernel
theorem dX11_feed_33 : decode cX11_feed 33 = .ok (.istore 4, 2) := by decide +kernel
theorem dX11_feed_35 : decode cX11_feed 35 = .ok (.iload 4, 2) := by decide +kernel
theorem dX11_feed_37 : decode cX11_feed 37 = .ok (.iload_n 3, 1) := by decide +kernel
theorem dX11_feed_38 : decode cX11_feed 38 = .ok (.if_icmp .ge 47, 3) := by decide +kernel
theorem dX11_feed_41 : decode cX11_feed 41 = .ok (.aload_n 0, 1) := by decide +kernel
theorem dX11_feed_42 : decode cX11_feed 42 = .ok (.getfield 174, 3) := by decide +kernel
theorem dX11_feed_45 : decode cX11_feed 45 = .ok (.ifCond .ne 40, 3) := by decide +kernel
theorem dX11_feed_48 : decode cX11_feed 48 = .ok (.aload_n 0, 1) := by decide +kernel
theorem dX11_feed_49 : decode cX11_feed 49 = .ok (.getfield 153, 3) := by decide +kernel
theorem dX11_feed_52 : decode cX11_feed 52 = .ok (.aload_n 0, 1) := by decide +kernel
theorem dX11_feed_53 : decode cX11_feed 53 = .ok (.getfield 263, 3) := by decide +kernel
theorem dX11_feed_56 : decode cX11_feed 56 = .ok (.lload_n 1, 1) := by decide +kernel
theorem dX11_feed_57 : decode cX11_feed 57 = .ok (.bipush 8, 2) := by decide +kernel
theorem dX11_feed_59 : decode cX11_feed 59 = .ok (.iload 4, 2) := by decide +kernel
theorem dX11_feed_61 : decode cX11_feed 61 = .ok (.imul, 1) := by decide +kernel
theorem dX11_feed_62 : decode cX11_feed 62 = .ok (.lshr, 1) := by decide +kernel
theorem dX11_feed_63 : decode cX11_feed 63 = .ok (.ldc2_w 38, 3) := by decide +kernel
theorem dX11_feed_66 : decode cX11_feed 66 = .ok (.land, 1) := by decide +kernel
theorem dX11_feed_67 : decode cX11_feed 67 = .ok (.l2i, 1) := by decide +kernel
theorem dX11_feed_68 : decode cX11_feed 68 = .ok (.iastore, 1) := by decide +kernel
theorem dX11_feed_69 : decode cX11_feed 69 = .ok (.aload_n 0, 1) := by decide +kernel
theorem dX11_feed_70 : decode cX11_feed 70 = .ok (.dup, 1) := by decide +kernel
theorem dX11_feed_71 : decode cX11_feed 71 = .ok (.getfield 263, 3) := by decide +kernel
theorem dX11_feed_74 : decode cX11_feed 74 = .ok (.iconst 1, 1) := by decide +kernel
theorem dX11_feed_75 : decode cX11_feed 75 = .ok (.iadd, 1) := by decide +kernel
theorem dX11_feed_76 : decode cX11_feed 76 = .ok (.putfield 263, 3) := by decide +kernel
theorem dX11_feed_79 : decode cX11_feed 79 = .ok (.iinc 4 1, 3) := by decide +kernel
theorem dX11_feed_82 : decode cX11_feed 82 = .ok (.goto (-47), 3) := by decide +kernel
theorem dX11_feed_85 : decode cX11_feed 85 = .ok (.aload_n 0, 1) := by decide +kernel
theorem dX11_feed_86 : decode cX11_feed 86 = .ok (.getfield 174, 3) := by decide +kernel
theorem dX11_feed_89 : decode cX11_feed 89 = .ok (.ifCond .ne 10, 3) := by decide +kernel
theorem dX11_feed_92 : decode cX11_feed 92 = .ok (.aload_n 0, 1) := by decide +kernel
theorem dX11_feed_93 : decode cX11_feed 93 = .ok (.getfield 263, 3) := by decide +kernel
theorem dX11_feed_96 : decode cX11_feed 96 = .ok (.goto 4, 3) := by decide +kernel
theorem dX11_feed_99 : decode cX11_feed 99 = .ok (.iconst 0, 1) := by decide +kernel
theorem dX11_feed_100 : decode cX11_feed 100 = .ok (.ireturn, 1) := by decide +kernel
theorem dX11_here_0 : decode cX11_here 0 = .ok (.aload_n 0, 1) := by decide +kernel
theorem dX11_here_1 : decode cX11_here 1 = .ok (.getfield 266, 3) := by decide +kernel
theorem dX11_here_4 : decode cX11_here 4 = .ok (.aload_n 0, 1) := by decide +kernel
theorem dX11_here_5 : decode cX11_here 5 = .ok (.getfield 269, 3) := by decide +kernel
theorem dX11_here_8 : decode cX11_here 8 = .ok (.if_icmp .ge 15, 3) := by decide +kernel
theorem dX11_here_11 : decode cX11_here 11 = .ok (.aload_n 0, 1) := by decide +kernel
theorem dX11_here_12 : decode cX11_here 12 = .ok (.getfield 153, 3) := by decide +kernel
theorem dX11_here_15 : decode cX11_here 15 = .ok (.aload_n 0, 1) := by decide +kernel
theorem dX11_here_16 : decode cX11_here 16 = .ok (.getfield 266, 3) := by decide +kernel
theorem dX11_here_19 : decode cX11_here 19 = .ok (.iaload, 1) := by decide +kernel
theorem dX11_here_20 : decode cX11_here 20 = .ok (.goto 4, 3) := by decide +kernel
theorem dX11_here_23 : decode cX11_here 23 = .ok (.iconst (-1), 1) := by decide +kernel
theorem dX11_here_24 : decode cX11_here 24 = .ok (.ireturn, 1) := by decide +kernel
theorem dX11_takesWord_0 : decode cX11_takesWord 0 = .ok (.aload_n 0, 1) := by decide +kernel
theorem dX11_takesWord_1 : decode cX11_takesWord 1 = .ok (.invokevirtual 272, 3) := by decide +kernel
theorem dX11_takesWord_4 : decode cX11_takesWord 4 = .ok (.iload_n 1, 1) := by decide +kernel
theorem dX11_takesWord_5 : decode cX11_takesWord 5 = .ok (.if_icmp .eq 5, 3) := by decide +kernel
theorem dX11_takesWord_8 : decode cX11_takesWord 8 = .ok (.iconst 0, 1) := by decide +kernel
theorem dX11_takesWord_9 : decode cX11_takesWord 9 = .ok (.ireturn, 1) := by decide +kernel
theorem dX11_takesWord_10 : decode cX11_takesWord 10 = .ok (.aload_n 0, 1) := by decide +kernel
theorem dX11_takesWord_11 : decode cX11_takesWord 11 = .ok (.dup, 1) := by decide +kernel
theorem dX11_takesWord_12 : decode cX11_takesWord 12 = .ok (.getfield 266, 3) := by decide +kernel
theorem dX11_takesWord_15 : decode cX11_takesWord 15 = .ok (.iconst 1, 1) := by decide +kernel
theorem dX11_takesWord_16 : decode cX11_takesWord 16 = .ok (.iadd, 1) := by decide +kernel
theorem dX11_takesWord_17 : decode cX11_takesWord 17 = .ok (.putfield 266, 3) := by decide +kernel
theorem dX11_takesWord_20 : decode cX11_takesWord 20 = .ok (.aload_n 0, 1) := by decide +kernel
theorem dX11_takesWord_21 : decode cX11_takesWord 21 = .ok (.invokevirtual 272, 3) := by decide +kernel
theorem dX11_takesWord_24 : decode cX11_takesWord 24 = .ok (.iload_n 2, 1) := by decide +kernel
theorem dX11_takesWord_25 : decode cX11_takesWord 25 = .ok (.if_icmp .eq 5, 3) := by decide +kernel
theorem dX11_takesWord_28 : decode cX11_takesWord 28 = .ok (.iconst 0, 1) := by decide +kernel
theorem dX11_takesWord_29 : decode cX11_takesWord 29 = .ok (.ireturn, 1) := by decide +kernel
theorem dX11_takesWord_30 : decode cX11_takesWord 30 = .ok (.aload_n 0, 1) := by decide +kernel
theorem dX11_takesWord_31 : decode cX11_takesWord 31 = .ok (.dup, 1) := by decide +kernel
theorem dX11_takesWord_32 : decode cX11_takesWord 32 = .ok (.getfield 266, 3) := by decide +kernel
theorem dX11_takesWord_35 : decode cX11_takesWord 35 = .ok (.iconst 1, 1) := by decide +kernel
theorem dX11_takesWord_36 : decode cX11_takesWord 36 = .ok (.iadd, 1) := by decide +kernel
theorem dX11_takesWord_37 : decode cX11_takesWord 37 = .ok (.putfield 266, 3) := by decide +kernel
theorem dX11_takesWord_40 : decode cX11_takesWord 40 = .ok (.aload_n 0, 1) := by decide +kernel
theorem dX11_takesWord_41 : decode cX11_takesWord 41 = .ok (.invokevirtual 272, 3) := by decide +kernel
theorem dX11_takesWord_44 : decode cX11_takesWord 44 = .ok (.iload_n 3, 1) := by decide +kernel
theorem dX11_takesWord_45 : decode cX11_takesWord 45 = .ok (.if_icmp .eq 5, 3) := by decide +kernel
theorem dX11_takesWord_48 : decode cX11_takesWord 48 = .ok (.iconst 0, 1) := by decide +kernel
theorem dX11_takesWord_49 : decode cX11_takesWord 49 = .ok (.ireturn, 1) := by decide +kernel
theorem dX11_takesWord_50 : decode cX11_takesWord 50 = .ok (.aload_n 0, 1) := by decide +kernel
theorem dX11_takesWord_51 : decode cX11_takesWord 51 = .ok (.dup, 1) := by decide +kernel
theorem dX11_takesWord_52 : decode cX11_takesWord 52 = .ok (.getfield 266, 3) := by decide +kernel
theorem dX11_takesWord_55 : decode cX11_takesWord 55 = .ok (.iconst 1, 1) := by decide +kernel
theorem dX11_takesWord_56 : decode cX11_takesWord 56 = .ok (.iadd, 1) := by decide +kernel
theorem dX11_takesWord_57 : decode cX11_takesWord 57 = .ok (.putfield 266, 3) := by decide +kernel
theorem dX11_takesWord_60 : decode cX11_takesWord 60 = .ok (.iconst 1, 1) := by decide +kernel
theorem dX11_takesWord_61 : decode cX11_takesWord 61 = .ok (.ireturn, 1) := by decide +kernel
theorem dX11_figure_0 : decode cX11_figure 0 = .ok (.iload_n 0, 1) := by decide +kernel
theorem dX11_figure_1 : decode cX11_figure 1 = .ok (.bipush 48, 2) := by decide +kernel
theorem dX11_figure_3 : decode cX11_figure 3 = .ok (.if_icmp .lt 16, 3) := by decide +kernel
theorem dX11_figure_6 : decode cX11_figure 6 = .ok (.iload_n 0, 1) := by decide +kernel
theorem dX11_figure_7 : decode cX11_figure 7 = .ok (.bipush 57, 2) := by decide +kernel
theorem dX11_figure_9 : decode cX11_figure 9 = .ok (.if_icmp .gt 10, 3) := by decide +kernel
theorem dX11_figure_12 : decode cX11_figure 12 = .ok (.iload_n 0, 1) := by decide +kernel
theorem dX11_figure_13 : decode cX11_figure 13 = .ok (.bipush 48, 2) := by decide +kernel
theorem dX11_figure_15 : decode cX11_figure 15 = .ok (.isub, 1) := by decide +kernel
theorem dX11_figure_16 : decode cX11_figure 16 = .ok (.goto 32, 3) := by decide +kernel
theorem dX11_figure_19 : decode cX11_figure 19 = .ok (.iload_n 1, 1) := by decide +kernel
theorem dX11_figure_20 : decode cX11_figure 20 = .ok (.bipush 16, 2) := by decide +kernel
theorem dX11_figure_22 : decode cX11_figure 22 = .ok (.if_icmp .ne 25, 3) := by decide +kernel
theorem dX11_figure_25 : decode cX11_figure 25 = .ok (.iload_n 0, 1) := by decide +kernel
theorem dX11_figure_26 : decode cX11_figure 26 = .ok (.bipush 97, 2) := by decide +kernel
theorem dX11_figure_28 : decode cX11_figure 28 = .ok (.if_icmp .lt 19, 3) := by decide +kernel
theorem dX11_figure_31 : decode cX11_figure 31 = .ok (.iload_n 0, 1) := by decide +kernel
theorem dX11_figure_32 : decode cX11_figure 32 = .ok (.bipush 102, 2) := by decide +kernel
theorem dX11_figure_34 : decode cX11_figure 34 = .ok (.if_icmp .gt 13, 3) := by decide +kernel
theorem dX11_figure_37 : decode cX11_figure 37 = .ok (.iload_n 0, 1) := by decide +kernel
theorem dX11_figure_38 : decode cX11_figure 38 = .ok (.bipush 97, 2) := by decide +kernel
theorem dX11_figure_40 : decode cX11_figure 40 = .ok (.isub, 1) := by decide +kernel
theorem dX11_figure_41 : decode cX11_figure 41 = .ok (.bipush 10, 2) := by decide +kernel
theorem dX11_figure_43 : decode cX11_figure 43 = .ok (.iadd, 1) := by decide +kernel
theorem dX11_figure_44 : decode cX11_figure 44 = .ok (.goto 4, 3) := by decide +kernel
theorem dX11_figure_47 : decode cX11_figure 47 = .ok (.iconst (-1), 1) := by decide +kernel
theorem dX11_figure_48 : decode cX11_figure 48 = .ok (.istore_n 2, 1) := by decide +kernel
theorem dX11_figure_49 : decode cX11_figure 49 = .ok (.iload_n 2, 1) := by decide +kernel
theorem dX11_figure_50 : decode cX11_figure 50 = .ok (.ireturn, 1) := by decide +kernel
theorem dX11_takesPower_0 : decode cX11_takesPower 0 = .ok (.aload_n 0, 1) := by decide +kernel
theorem dX11_takesPower_1 : decode cX11_takesPower 1 = .ok (.invokevirtual 272, 3) := by decide +kernel
theorem dX11_takesPower_4 : decode cX11_takesPower 4 = .ok (.bipush 45, 2) := by decide +kernel
theorem dX11_takesPower_6 : decode cX11_takesPower 6 = .ok (.if_icmp .ne 7, 3) := by decide +kernel
theorem dX11_takesPower_9 : decode cX11_takesPower 9 = .ok (.iconst 1, 1) := by decide +kernel
theorem dX11_takesPower_10 : decode cX11_takesPower 10 = .ok (.goto 4, 3) := by decide +kernel
theorem dX11_takesPower_13 : decode cX11_takesPower 13 = .ok (.iconst 0, 1) := by decide +kernel
theorem dX11_takesPower_14 : decode cX11_takesPower 14 = .ok (.istore_n 1, 1) := by decide +kernel
theorem dX11_takesPower_15 : decode cX11_takesPower 15 = .ok (.iload_n 1, 1) := by decide +kernel
theorem dX11_takesPower_16 : decode cX11_takesPower 16 = .ok (.ifCond .ne 12, 3) := by decide +kernel
theorem dX11_takesPower_19 : decode cX11_takesPower 19 = .ok (.aload_n 0, 1) := by decide +kernel
theorem dX11_takesPower_20 : decode cX11_takesPower 20 = .ok (.invokevirtual 272, 3) := by decide +kernel
theorem dX11_takesPower_23 : decode cX11_takesPower 23 = .ok (.bipush 43, 2) := by decide +kernel
theorem dX11_takesPower_25 : decode cX11_takesPower 25 = .ok (.if_icmp .ne 13, 3) := by decide +kernel
theorem dX11_takesPower_28 : decode cX11_takesPower 28 = .ok (.aload_n 0, 1) := by decide +kernel
theorem dX11_takesPower_29 : decode cX11_takesPower 29 = .ok (.dup, 1) := by decide +kernel
theorem dX11_takesPower_30 : decode cX11_takesPower 30 = .ok (.getfield 266, 3) := by decide +kernel
theorem dX11_takesPower_33 : decode cX11_takesPower 33 = .ok (.iconst 1, 1) := by decide +kernel
theorem dX11_takesPower_34 : decode cX11_takesPower 34 = .ok (.iadd, 1) := by decide +kernel
theorem dX11_takesPower_35 : decode cX11_takesPower 35 = .ok (.putfield 266, 3) := by decide +kernel
theorem dX11_takesPower_38 : decode cX11_takesPower 38 = .ok (.aload_n 0, 1) := by decide +kernel
theorem dX11_takesPower_39 : decode cX11_takesPower 39 = .ok (.invokevirtual 272, 3) := by decide +kernel
theorem dX11_takesPower_42 : decode cX11_takesPower 42 = .ok (.bipush 10, 2) := by decide +kernel
theorem dX11_takesPower_44 : decode cX11_takesPower 44 = .ok (.invokestatic 284, 3) := by decide +kernel
theorem dX11_takesPower_47 : decode cX11_takesPower 47 = .ok (.ifCond .ge 5, 3) := by decide +kernel
theorem dX11_takesPower_50 : decode cX11_takesPower 50 = .ok (.iconst 0, 1) := by decide +kernel
theorem dX11_takesPower_51 : decode cX11_takesPower 51 = .ok (.ireturn, 1) := by decide +kernel
theorem dX11_takesPower_52 : decode cX11_takesPower 52 = .ok (.iconst 0, 1) := by decide +kernel
theorem dX11_takesPower_53 : decode cX11_takesPower 53 = .ok (.istore_n 2, 1) := by decide +kernel
theorem dX11_takesPower_54 : decode cX11_takesPower 54 = .ok (.iload_n 2, 1) := by decide +kernel
theorem dX11_takesPower_55 : decode cX11_takesPower 55 = .ok (.bipush 6, 2) := by decide +kernel
theorem dX11_takesPower_57 : decode cX11_takesPower 57 = .ok (.if_icmp .ge 50, 3) := by decide +kernel
theorem dX11_takesPower_60 : decode cX11_takesPower 60 = .ok (.aload_n 0, 1) := by decide +kernel
theorem dX11_takesPower_61 : decode cX11_takesPower 61 = .ok (.invokevirtual 272, 3) := by decide +kernel
theorem dX11_takesPower_64 : decode cX11_takesPower 64 = .ok (.bipush 10, 2) := by decide +kernel
theorem dX11_takesPower_66 : decode cX11_takesPower 66 = .ok (.invokestatic 284, 3) := by decide +kernel
theorem dX11_takesPower_69 : decode cX11_takesPower 69 = .ok (.ifCond .lt 38, 3) := by decide +kernel
theorem dX11_takesPower_72 : decode cX11_takesPower 72 = .ok (.aload_n 0, 1) := by decide +kernel
theorem dX11_takesPower_73 : decode cX11_takesPower 73 = .ok (.bipush 10, 2) := by decide +kernel
theorem dX11_takesPower_75 : decode cX11_takesPower 75 = .ok (.aload_n 0, 1) := by decide +kernel
theorem dX11_takesPower_76 : decode cX11_takesPower 76 = .ok (.getfield 281, 3) := by decide +kernel
theorem dX11_takesPower_79 : decode cX11_takesPower 79 = .ok (.imul, 1) := by decide +kernel
theorem dX11_takesPower_80 : decode cX11_takesPower 80 = .ok (.aload_n 0, 1) := by decide +kernel
theorem dX11_takesPower_81 : decode cX11_takesPower 81 = .ok (.invokevirtual 272, 3) := by decide +kernel
theorem dX11_takesPower_84 : decode cX11_takesPower 84 = .ok (.iadd, 1) := by decide +kernel
theorem dX11_takesPower_85 : decode cX11_takesPower 85 = .ok (.bipush 48, 2) := by decide +kernel
theorem dX11_takesPower_87 : decode cX11_takesPower 87 = .ok (.isub, 1) := by decide +kernel
theorem dX11_takesPower_88 : decode cX11_takesPower 88 = .ok (.putfield 281, 3) := by decide +kernel
theorem dX11_takesPower_91 : decode cX11_takesPower 91 = .ok (.aload_n 0, 1) := by decide +kernel
theorem dX11_takesPower_92 : decode cX11_takesPower 92 = .ok (.dup, 1) := by decide +kernel
theorem dX11_takesPower_93 : decode cX11_takesPower 93 = .ok (.getfield 266, 3) := by decide +kernel
theorem dX11_takesPower_96 : decode cX11_takesPower 96 = .ok (.iconst 1, 1) := by decide +kernel
theorem dX11_takesPower_97 : decode cX11_takesPower 97 = .ok (.iadd, 1) := by decide +kernel
theorem dX11_takesPower_98 : decode cX11_takesPower 98 = .ok (.putfield 266, 3) := by decide +kernel
theorem dX11_takesPower_101 : decode cX11_takesPower 101 = .ok (.iinc 2 1, 3) := by decide +kernel
theorem dX11_takesPower_104 : decode cX11_takesPower 104 = .ok (.goto (-50), 3) := by decide +kernel
theorem dX11_takesPower_107 : decode cX11_takesPower 107 = .ok (.aload_n 0, 1) := by decide +kernel
theorem dX11_takesPower_108 : decode cX11_takesPower 108 = .ok (.iload_n 1, 1) := by decide +kernel
theorem dX11_takesPower_109 : decode cX11_takesPower 109 = .ok (.ifCond .eq 11, 3) := by decide +kernel
theorem dX11_takesPower_112 : decode cX11_takesPower 112 = .ok (.aload_n 0, 1) := by decide +kernel
theorem dX11_takesPower_113 : decode cX11_takesPower 113 = .ok (.getfield 281, 3) := by decide +kernel
theorem dX11_takesPower_116 : decode cX11_takesPower 116 = .ok (.ineg, 1) := by decide +kernel
theorem dX11_takesPower_117 : decode cX11_takesPower 117 = .ok (.goto 7, 3) := by decide +kernel
theorem dX11_takesPower_120 : decode cX11_takesPower 120 = .ok (.aload_n 0, 1) := by decide +kernel
theorem dX11_takesPower_121 : decode cX11_takesPower 121 = .ok (.getfield 281, 3) := by decide +kernel
theorem dX11_takesPower_124 : decode cX11_takesPower 124 = .ok (.putfield 281, 3) := by decide +kernel
theorem dX11_takesPower_127 : decode cX11_takesPower 127 = .ok (.iconst 1, 1) := by decide +kernel
theorem dX11_takesPower_128 : decode cX11_takesPower 128 = .ok (.ireturn, 1) := by decide +kernel
theorem dX11_takesFigures_0 : decode cX11_takesFigures 0 = .ok (.aload_n 0, 1) := by decide +kernel
theorem dX11_takesFigures_1 : decode cX11_takesFigures 1 = .ok (.aload_n 0, 1) := by decide +kernel
theorem dX11_takesFigures_2 : decode cX11_takesFigures 2 = .ok (.getfield 49, 3) := by decide +kernel
theorem dX11_takesFigures_5 : decode cX11_takesFigures 5 = .ok (.invokevirtual 193, 3) := by decide +kernel
theorem dX11_takesFigures_8 : decode cX11_takesFigures 8 = .ok (.aload_n 0, 1) := by decide +kernel
theorem dX11_takesFigures_9 : decode cX11_takesFigures 9 = .ok (.iconst 0, 1) := by decide +kernel
theorem dX11_takesFigures_10 : decode cX11_takesFigures 10 = .ok (.putfield 275, 3) := by decide +kernel
theorem dX11_takesFigures_13 : decode cX11_takesFigures 13 = .ok (.aload_n 0, 1) := by decide +kernel
theorem dX11_takesFigures_14 : decode cX11_takesFigures 14 = .ok (.iconst 0, 1) := by decide +kernel
theorem dX11_takesFigures_15 : decode cX11_takesFigures 15 = .ok (.putfield 278, 3) := by decide +kernel
theorem dX11_takesFigures_18 : decode cX11_takesFigures 18 = .ok (.aload_n 0, 1) := by decide +kernel
theorem dX11_takesFigures_19 : decode cX11_takesFigures 19 = .ok (.iconst 0, 1) := by decide +kernel
theorem dX11_takesFigures_20 : decode cX11_takesFigures 20 = .ok (.putfield 281, 3) := by decide +kernel
theorem dX11_takesFigures_23 : decode cX11_takesFigures 23 = .ok (.iconst 0, 1) := by decide +kernel
theorem dX11_takesFigures_24 : decode cX11_takesFigures 24 = .ok (.istore_n 3, 1) := by decide +kernel
theorem dX11_takesFigures_25 : decode cX11_takesFigures 25 = .ok (.iconst 0, 1) := by decide +kernel
theorem dX11_takesFigures_26 : decode cX11_takesFigures 26 = .ok (.istore 4, 2) := by decide +kernel
theorem dX11_takesFigures_28 : decode cX11_takesFigures 28 = .ok (.aload_n 0, 1) := by decide +kernel
theorem dX11_takesFigures_29 : decode cX11_takesFigures 29 = .ok (.invokevirtual 272, 3) := by decide +kernel
theorem dX11_takesFigures_32 : decode cX11_takesFigures 32 = .ok (.iload_n 1, 1) := by decide +kernel
theorem dX11_takesFigures_33 : decode cX11_takesFigures 33 = .ok (.invokestatic 284, 3) := by decide +kernel
theorem dX11_takesFigures_36 : decode cX11_takesFigures 36 = .ok (.ifCond .ge 17, 3) := by decide +kernel
theorem dX11_takesFigures_39 : decode cX11_takesFigures 39 = .ok (.aload_n 0, 1) := by decide +kernel
theorem dX11_takesFigures_40 : decode cX11_takesFigures 40 = .ok (.invokevirtual 272, 3) := by decide +kernel
theorem dX11_takesFigures_43 : decode cX11_takesFigures 43 = .ok (.bipush 46, 2) := by decide +kernel
theorem dX11_takesFigures_45 : decode cX11_takesFigures 45 = .ok (.if_icmp .ne 104, 3) := by decide +kernel
theorem dX11_takesFigures_48 : decode cX11_takesFigures 48 = .ok (.iload 4, 2) := by decide +kernel
theorem dX11_takesFigures_50 : decode cX11_takesFigures 50 = .ok (.ifCond .ne 99, 3) := by decide +kernel
theorem dX11_takesFigures_53 : decode cX11_takesFigures 53 = .ok (.aload_n 0, 1) := by decide +kernel
theorem dX11_takesFigures_54 : decode cX11_takesFigures 54 = .ok (.invokevirtual 272, 3) := by decide +kernel
theorem dX11_takesFigures_57 : decode cX11_takesFigures 57 = .ok (.bipush 46, 2) := by decide +kernel
theorem dX11_takesFigures_59 : decode cX11_takesFigures 59 = .ok (.if_icmp .ne 9, 3) := by decide +kernel
theorem dX11_takesFigures_62 : decode cX11_takesFigures 62 = .ok (.iconst 1, 1) := by decide +kernel
theorem dX11_takesFigures_63 : decode cX11_takesFigures 63 = .ok (.istore 4, 2) := by decide +kernel
theorem dX11_takesFigures_65 : decode cX11_takesFigures 65 = .ok (.goto 71, 3) := by decide +kernel
theorem dX11_takesFigures_68 : decode cX11_takesFigures 68 = .ok (.iconst 1, 1) := by decide +kernel
theorem dX11_takesFigures_69 : decode cX11_takesFigures 69 = .ok (.istore_n 3, 1) := by decide +kernel
theorem dX11_takesFigures_70 : decode cX11_takesFigures 70 = .ok (.aload_n 0, 1) := by decide +kernel
theorem dX11_takesFigures_71 : decode cX11_takesFigures 71 = .ok (.invokevirtual 272, 3) := by decide +kernel
theorem dX11_takesFigures_74 : decode cX11_takesFigures 74 = .ok (.iload_n 1, 1) := by decide +kernel
theorem dX11_takesFigures_75 : decode cX11_takesFigures 75 = .ok (.invokestatic 284, 3) := by decide +kernel
theorem dX11_takesFigures_78 : decode cX11_takesFigures 78 = .ok (.istore 5, 2) := by decide +kernel
theorem dX11_takesFigures_80 : decode cX11_takesFigures 80 = .ok (.aload_n 0, 1) := by decide +kernel
theorem dX11_takesFigures_81 : decode cX11_takesFigures 81 = .ok (.dup, 1) := by decide +kernel
theorem dX11_takesFigures_82 : decode cX11_takesFigures 82 = .ok (.getfield 275, 3) := by decide +kernel
theorem dX11_takesFigures_85 : decode cX11_takesFigures 85 = .ok (.aload_n 0, 1) := by decide +kernel
theorem dX11_takesFigures_86 : decode cX11_takesFigures 86 = .ok (.getfield 275, 3) := by decide +kernel
theorem dX11_takesFigures_89 : decode cX11_takesFigures 89 = .ok (.ifCond .gt 8, 3) := by decide +kernel
theorem dX11_takesFigures_92 : decode cX11_takesFigures 92 = .ok (.iload 5, 2) := by decide +kernel
theorem dX11_takesFigures_94 : decode cX11_takesFigures 94 = .ok (.ifCond .le 7, 3) := by decide +kernel
theorem dX11_takesFigures_97 : decode cX11_takesFigures 97 = .ok (.iconst 1, 1) := by decide +kernel
theorem dX11_takesFigures_98 : decode cX11_takesFigures 98 = .ok (.goto 4, 3) := by decide +kernel
theorem dX11_takesFigures_101 : decode cX11_takesFigures 101 = .ok (.iconst 0, 1) := by decide +kernel
theorem dX11_takesFigures_102 : decode cX11_takesFigures 102 = .ok (.iadd, 1) := by decide +kernel
theorem dX11_takesFigures_103 : decode cX11_takesFigures 103 = .ok (.putfield 275, 3) := by decide +kernel
theorem dX11_takesFigures_106 : decode cX11_takesFigures 106 = .ok (.aload_n 0, 1) := by decide +kernel
theorem dX11_takesFigures_107 : decode cX11_takesFigures 107 = .ok (.dup, 1) := by decide +kernel
theorem dX11_takesFigures_108 : decode cX11_takesFigures 108 = .ok (.getfield 278, 3) := by decide +kernel
theorem dX11_takesFigures_111 : decode cX11_takesFigures 111 = .ok (.iload 4, 2) := by decide +kernel
theorem dX11_takesFigures_113 : decode cX11_takesFigures 113 = .ok (.ifCond .eq 7, 3) := by decide +kernel
theorem dX11_takesFigures_116 : decode cX11_takesFigures 116 = .ok (.iconst 1, 1) := by decide +kernel
theorem dX11_takesFigures_117 : decode cX11_takesFigures 117 = .ok (.goto 4, 3) := by decide +kernel
theorem dX11_takesFigures_120 : decode cX11_takesFigures 120 = .ok (.iconst 0, 1) := by decide +kernel
theorem dX11_takesFigures_121 : decode cX11_takesFigures 121 = .ok (.iadd, 1) := by decide +kernel
theorem dX11_takesFigures_122 : decode cX11_takesFigures 122 = .ok (.putfield 278, 3) := by decide +kernel
theorem dX11_takesFigures_125 : decode cX11_takesFigures 125 = .ok (.aload_n 0, 1) := by decide +kernel
theorem dX11_takesFigures_126 : decode cX11_takesFigures 126 = .ok (.getfield 52, 3) := by decide +kernel
theorem dX11_takesFigures_129 : decode cX11_takesFigures 129 = .ok (.iload_n 1, 1) := by decide +kernel
theorem dX11_takesFigures_130 : decode cX11_takesFigures 130 = .ok (.i2l, 1) := by decide +kernel
theorem dX11_takesFigures_131 : decode cX11_takesFigures 131 = .ok (.iload 5, 2) := by decide +kernel
theorem dX11_takesFigures_133 : decode cX11_takesFigures 133 = .ok (.invokevirtual 287, 3) := by decide +kernel
theorem dX11_takesFigures_136 : decode cX11_takesFigures 136 = .ok (.aload_n 0, 1) := by decide +kernel
theorem dX11_takesFigures_137 : decode cX11_takesFigures 137 = .ok (.dup, 1) := by decide +kernel
theorem dX11_takesFigures_138 : decode cX11_takesFigures 138 = .ok (.getfield 266, 3) := by decide +kernel
theorem dX11_takesFigures_141 : decode cX11_takesFigures 141 = .ok (.iconst 1, 1) := by decide +kernel
theorem dX11_takesFigures_142 : decode cX11_takesFigures 142 = .ok (.iadd, 1) := by decide +kernel
theorem dX11_takesFigures_143 : decode cX11_takesFigures 143 = .ok (.putfield 266, 3) := by decide +kernel
theorem dX11_takesFigures_146 : decode cX11_takesFigures 146 = .ok (.goto (-118), 3) := by decide +kernel
theorem dX11_takesFigures_149 : decode cX11_takesFigures 149 = .ok (.iload_n 3, 1) := by decide +kernel
theorem dX11_takesFigures_150 : decode cX11_takesFigures 150 = .ok (.ifCond .ne 5, 3) := by decide +kernel
theorem dX11_takesFigures_153 : decode cX11_takesFigures 153 = .ok (.iconst 0, 1) := by decide +kernel
theorem dX11_takesFigures_154 : decode cX11_takesFigures 154 = .ok (.ireturn, 1) := by decide +kernel
theorem dX11_takesFigures_155 : decode cX11_takesFigures 155 = .ok (.aload_n 0, 1) := by decide +kernel
theorem dX11_takesFigures_156 : decode cX11_takesFigures 156 = .ok (.invokevirtual 272, 3) := by decide +kernel
theorem dX11_takesFigures_159 : decode cX11_takesFigures 159 = .ok (.iload_n 2, 1) := by decide +kernel
theorem dX11_takesFigures_160 : decode cX11_takesFigures 160 = .ok (.if_icmp .ne 18, 3) := by decide +kernel
theorem dX11_takesFigures_163 : decode cX11_takesFigures 163 = .ok (.aload_n 0, 1) := by decide +kernel
theorem dX11_takesFigures_164 : decode cX11_takesFigures 164 = .ok (.dup, 1) := by decide +kernel
theorem dX11_takesFigures_165 : decode cX11_takesFigures 165 = .ok (.getfield 266, 3) := by decide +kernel
theorem dX11_takesFigures_168 : decode cX11_takesFigures 168 = .ok (.iconst 1, 1) := by decide +kernel
theorem dX11_takesFigures_169 : decode cX11_takesFigures 169 = .ok (.iadd, 1) := by decide +kernel
theorem dX11_takesFigures_170 : decode cX11_takesFigures 170 = .ok (.putfield 266, 3) := by decide +kernel
theorem dX11_takesFigures_173 : decode cX11_takesFigures 173 = .ok (.aload_n 0, 1) := by decide +kernel
theorem dX11_takesFigures_174 : decode cX11_takesFigures 174 = .ok (.invokevirtual 290, 3) := by decide +kernel
theorem dX11_takesFigures_177 : decode cX11_takesFigures 177 = .ok (.ireturn, 1) := by decide +kernel
theorem dX11_takesFigures_178 : decode cX11_takesFigures 178 = .ok (.iconst 1, 1) := by decide +kernel
theorem dX11_takesFigures_179 : decode cX11_takesFigures 179 = .ok (.ireturn, 1) := by decide +kernel
theorem dX11_extreme_0 : decode cX11_extreme 0 = .ok (.aload_n 0, 1) := by decide +kernel
theorem dX11_extreme_1 : decode cX11_extreme 1 = .ok (.getfield 52, 3) := by decide +kernel
theorem dX11_extreme_4 : decode cX11_extreme 4 = .ok (.lconst 1, 1) := by decide +kernel
theorem dX11_extreme_5 : decode cX11_extreme 5 = .ok (.invokevirtual 56, 3) := by decide +kernel
theorem dX11_extreme_8 : decode cX11_extreme 8 = .ok (.aload_n 0, 1) := by decide +kernel
theorem dX11_extreme_9 : decode cX11_extreme 9 = .ok (.iload_n 1, 1) := by decide +kernel
theorem dX11_extreme_10 : decode cX11_extreme 10 = .ok (.ifCond .eq 9, 3) := by decide +kernel
theorem dX11_extreme_13 : decode cX11_extreme 13 = .ok (.sipush 3000, 3) := by decide +kernel
theorem dX11_extreme_16 : decode cX11_extreme 16 = .ok (.goto 6, 3) := by decide +kernel
theorem dX11_extreme_19 : decode cX11_extreme 19 = .ok (.sipush (-3000), 3) := by decide +kernel
theorem dX11_extreme_22 : decode cX11_extreme 22 = .ok (.putfield 65, 3) := by decide +kernel
theorem dX11_extreme_25 : decode cX11_extreme 25 = .ok (.return_, 1) := by decide +kernel
theorem dX11_scaleTwo_0 : decode cX11_scaleTwo 0 = .ok (.aload_n 0, 1) := by decide +kernel
theorem dX11_scaleTwo_1 : decode cX11_scaleTwo 1 = .ok (.aload_n 0, 1) := by decide +kernel
theorem dX11_scaleTwo_2 : decode cX11_scaleTwo 2 = .ok (.getfield 281, 3) := by decide +kernel
theorem dX11_scaleTwo_5 : decode cX11_scaleTwo 5 = .ok (.iconst 4, 1) := by decide +kernel
theorem dX11_scaleTwo_6 : decode cX11_scaleTwo 6 = .ok (.aload_n 0, 1) := by decide +kernel
theorem dX11_scaleTwo_7 : decode cX11_scaleTwo 7 = .ok (.getfield 278, 3) := by decide +kernel
theorem dX11_scaleTwo_10 : decode cX11_scaleTwo 10 = .ok (.imul, 1) := by decide +kernel
theorem dX11_scaleTwo_11 : decode cX11_scaleTwo 11 = .ok (.isub, 1) := by decide +kernel
theorem dX11_scaleTwo_12 : decode cX11_scaleTwo 12 = .ok (.putfield 65, 3) := by decide +kernel
theorem dX11_scaleTwo_15 : decode cX11_scaleTwo 15 = .ok (.aload_n 0, 1) := by decide +kernel
theorem dX11_scaleTwo_16 : decode cX11_scaleTwo 16 = .ok (.getfield 52, 3) := by decide +kernel
theorem dX11_scaleTwo_19 : decode cX11_scaleTwo 19 = .ok (.invokevirtual 85, 3) := by decide +kernel
theorem dX11_scaleTwo_22 : decode cX11_scaleTwo 22 = .ok (.aload_n 0, 1) := by decide +kernel
theorem dX11_scaleTwo_23 : decode cX11_scaleTwo 23 = .ok (.getfield 65, 3) := by decide +kernel
theorem dX11_scaleTwo_26 : decode cX11_scaleTwo 26 = .ok (.iadd, 1) := by decide +kernel
theorem dX11_scaleTwo_27 : decode cX11_scaleTwo 27 = .ok (.istore_n 1, 1) := by decide +kernel
theorem dX11_scaleTwo_28 : decode cX11_scaleTwo 28 = .ok (.aload_n 0, 1) := by decide +kernel
theorem dX11_scaleTwo_29 : decode cX11_scaleTwo 29 = .ok (.getfield 52, 3) := by decide +kernel
theorem dX11_scaleTwo_32 : decode cX11_scaleTwo 32 = .ok (.getfield 89, 3) := by decide +kernel
theorem dX11_scaleTwo_35 : decode cX11_scaleTwo 35 = .ok (.ifCond .le 30, 3) := by decide +kernel
theorem dX11_scaleTwo_38 : decode cX11_scaleTwo 38 = .ok (.iload_n 1, 1) := by decide +kernel
theorem dX11_scaleTwo_39 : decode cX11_scaleTwo 39 = .ok (.sipush 2500, 3) := by decide +kernel
theorem dX11_scaleTwo_42 : decode cX11_scaleTwo 42 = .ok (.if_icmp .gt 10, 3) := by decide +kernel
theorem dX11_scaleTwo_45 : decode cX11_scaleTwo 45 = .ok (.iload_n 1, 1) := by decide +kernel
theorem dX11_scaleTwo_46 : decode cX11_scaleTwo 46 = .ok (.sipush (-2500), 3) := by decide +kernel
theorem dX11_scaleTwo_49 : decode cX11_scaleTwo 49 = .ok (.if_icmp .ge 16, 3) := by decide +kernel
theorem dX11_scaleTwo_52 : decode cX11_scaleTwo 52 = .ok (.aload_n 0, 1) := by decide +kernel
theorem dX11_scaleTwo_53 : decode cX11_scaleTwo 53 = .ok (.iload_n 1, 1) := by decide +kernel
theorem dX11_scaleTwo_54 : decode cX11_scaleTwo 54 = .ok (.ifCond .le 7, 3) := by decide +kernel
theorem dX11_scaleTwo_57 : decode cX11_scaleTwo 57 = .ok (.iconst 1, 1) := by decide +kernel
theorem dX11_scaleTwo_58 : decode cX11_scaleTwo 58 = .ok (.goto 4, 3) := by decide +kernel
theorem dX11_scaleTwo_61 : decode cX11_scaleTwo 61 = .ok (.iconst 0, 1) := by decide +kernel
theorem dX11_scaleTwo_62 : decode cX11_scaleTwo 62 = .ok (.invokevirtual 294, 3) := by decide +kernel
theorem dX11_scaleTwo_65 : decode cX11_scaleTwo 65 = .ok (.return_, 1) := by decide +kernel
theorem dX11_scaleTen_0 : decode cX11_scaleTen 0 = .ok (.aload_n 0, 1) := by decide +kernel
theorem dX11_scaleTen_1 : decode cX11_scaleTen 1 = .ok (.getfield 281, 3) := by decide +kernel
theorem dX11_scaleTen_4 : decode cX11_scaleTen 4 = .ok (.aload_n 0, 1) := by decide +kernel
theorem dX11_scaleTen_5 : decode cX11_scaleTen 5 = .ok (.getfield 278, 3) := by decide +kernel
theorem dX11_scaleTen_8 : decode cX11_scaleTen 8 = .ok (.isub, 1) := by decide +kernel
theorem dX11_scaleTen_9 : decode cX11_scaleTen 9 = .ok (.istore_n 1, 1) := by decide +kernel
theorem dX11_scaleTen_10 : decode cX11_scaleTen 10 = .ok (.aload_n 0, 1) := by decide +kernel
theorem dX11_scaleTen_11 : decode cX11_scaleTen 11 = .ok (.getfield 52, 3) := by decide +kernel
theorem dX11_scaleTen_14 : decode cX11_scaleTen 14 = .ok (.getfield 89, 3) := by decide +kernel
theorem dX11_scaleTen_17 : decode cX11_scaleTen 17 = .ok (.ifCond .le 46, 3) := by decide +kernel
theorem dX11_scaleTen_20 : decode cX11_scaleTen 20 = .ok (.aload_n 0, 1) := by decide +kernel
theorem dX11_scaleTen_21 : decode cX11_scaleTen 21 = .ok (.getfield 275, 3) := by decide +kernel
theorem dX11_scaleTen_24 : decode cX11_scaleTen 24 = .ok (.iload_n 1, 1) := by decide +kernel
theorem dX11_scaleTen_25 : decode cX11_scaleTen 25 = .ok (.iadd, 1) := by decide +kernel
theorem dX11_scaleTen_26 : decode cX11_scaleTen 26 = .ok (.sipush 500, 3) := by decide +kernel
theorem dX11_scaleTen_29 : decode cX11_scaleTen 29 = .ok (.if_icmp .gt 15, 3) := by decide +kernel
theorem dX11_scaleTen_32 : decode cX11_scaleTen 32 = .ok (.aload_n 0, 1) := by decide +kernel
theorem dX11_scaleTen_33 : decode cX11_scaleTen 33 = .ok (.getfield 275, 3) := by decide +kernel
theorem dX11_scaleTen_36 : decode cX11_scaleTen 36 = .ok (.iload_n 1, 1) := by decide +kernel
theorem dX11_scaleTen_37 : decode cX11_scaleTen 37 = .ok (.iadd, 1) := by decide +kernel
theorem dX11_scaleTen_38 : decode cX11_scaleTen 38 = .ok (.sipush (-500), 3) := by decide +kernel
theorem dX11_scaleTen_41 : decode cX11_scaleTen 41 = .ok (.if_icmp .ge 22, 3) := by decide +kernel
theorem dX11_scaleTen_44 : decode cX11_scaleTen 44 = .ok (.aload_n 0, 1) := by decide +kernel
theorem dX11_scaleTen_45 : decode cX11_scaleTen 45 = .ok (.aload_n 0, 1) := by decide +kernel
theorem dX11_scaleTen_46 : decode cX11_scaleTen 46 = .ok (.getfield 275, 3) := by decide +kernel
theorem dX11_scaleTen_49 : decode cX11_scaleTen 49 = .ok (.iload_n 1, 1) := by decide +kernel
theorem dX11_scaleTen_50 : decode cX11_scaleTen 50 = .ok (.iadd, 1) := by decide +kernel
theorem dX11_scaleTen_51 : decode cX11_scaleTen 51 = .ok (.ifCond .le 7, 3) := by decide +kernel
theorem dX11_scaleTen_54 : decode cX11_scaleTen 54 = .ok (.iconst 1, 1) := by decide +kernel
theorem dX11_scaleTen_55 : decode cX11_scaleTen 55 = .ok (.goto 4, 3) := by decide +kernel
theorem dX11_scaleTen_58 : decode cX11_scaleTen 58 = .ok (.iconst 0, 1) := by decide +kernel
theorem dX11_scaleTen_59 : decode cX11_scaleTen 59 = .ok (.invokevirtual 294, 3) := by decide +kernel
theorem dX11_scaleTen_62 : decode cX11_scaleTen 62 = .ok (.return_, 1) := by decide +kernel
theorem dX11_scaleTen_63 : decode cX11_scaleTen 63 = .ok (.iload_n 1, 1) := by decide +kernel
theorem dX11_scaleTen_64 : decode cX11_scaleTen 64 = .ok (.ifCond .ge 10, 3) := by decide +kernel
theorem dX11_scaleTen_67 : decode cX11_scaleTen 67 = .ok (.aload_n 0, 1) := by decide +kernel
theorem dX11_scaleTen_68 : decode cX11_scaleTen 68 = .ok (.getfield 62, 3) := by decide +kernel
theorem dX11_scaleTen_71 : decode cX11_scaleTen 71 = .ok (.goto 7, 3) := by decide +kernel
theorem dX11_scaleTen_74 : decode cX11_scaleTen 74 = .ok (.aload_n 0, 1) := by decide +kernel
theorem dX11_scaleTen_75 : decode cX11_scaleTen 75 = .ok (.getfield 52, 3) := by decide +kernel
theorem dX11_scaleTen_78 : decode cX11_scaleTen 78 = .ok (.astore_n 2, 1) := by decide +kernel
theorem dX11_scaleTen_79 : decode cX11_scaleTen 79 = .ok (.iconst 0, 1) := by decide +kernel
theorem dX11_scaleTen_80 : decode cX11_scaleTen 80 = .ok (.istore_n 3, 1) := by decide +kernel
theorem dX11_scaleTen_81 : decode cX11_scaleTen 81 = .ok (.iload_n 3, 1) := by decide +kernel
theorem dX11_scaleTen_82 : decode cX11_scaleTen 82 = .ok (.iload_n 1, 1) := by decide +kernel
theorem dX11_scaleTen_83 : decode cX11_scaleTen 83 = .ok (.invokestatic 298, 3) := by decide +kernel
theorem dX11_scaleTen_86 : decode cX11_scaleTen 86 = .ok (.if_icmp .ge 27, 3) := by decide +kernel
theorem dX11_scaleTen_89 : decode cX11_scaleTen 89 = .ok (.aload_n 0, 1) := by decide +kernel
theorem dX11_scaleTen_90 : decode cX11_scaleTen 90 = .ok (.getfield 52, 3) := by decide +kernel
theorem dX11_scaleTen_93 : decode cX11_scaleTen 93 = .ok (.getfield 89, 3) := by decide +kernel
theorem dX11_scaleTen_96 : decode cX11_scaleTen 96 = .ok (.ifCond .le 17, 3) := by decide +kernel
theorem dX11_scaleTen_99 : decode cX11_scaleTen 99 = .ok (.aload_n 2, 1) := by decide +kernel
theorem dX11_scaleTen_100 : decode cX11_scaleTen 100 = .ok (.ldc2_w 301, 3) := by decide +kernel
theorem dX11_scaleTen_103 : decode cX11_scaleTen 103 = .ok (.iconst 0, 1) := by decide +kernel
theorem dX11_scaleTen_104 : decode cX11_scaleTen 104 = .ok (.invokevirtual 287, 3) := by decide +kernel
theorem dX11_scaleTen_107 : decode cX11_scaleTen 107 = .ok (.iinc 3 1, 3) := by decide +kernel
theorem dX11_scaleTen_110 : decode cX11_scaleTen 110 = .ok (.goto (-29), 3) := by decide +kernel
theorem dX11_scaleTen_113 : decode cX11_scaleTen 113 = .ok (.return_, 1) := by decide +kernel
theorem dX11_read_0 : decode cX11_read 0 = .ok (.aload_n 0, 1) := by decide +kernel
theorem dX11_read_1 : decode cX11_read 1 = .ok (.iload_n 1, 1) := by decide +kernel
theorem dX11_read_2 : decode cX11_read 2 = .ok (.invokestatic 177, 3) := by decide +kernel
theorem dX11_read_5 : decode cX11_read 5 = .ok (.iload_n 2, 1) := by decide +kernel
theorem dX11_read_6 : decode cX11_read 6 = .ok (.invokestatic 181, 3) := by decide +kernel
theorem dX11_read_9 : decode cX11_read 9 = .ok (.ifCond .eq 14, 3) := by decide +kernel
theorem dX11_read_12 : decode cX11_read 12 = .ok (.iload_n 3, 1) := by decide +kernel
theorem dX11_read_13 : decode cX11_read 13 = .ok (.invokestatic 196, 3) := by decide +kernel
theorem dX11_read_16 : decode cX11_read 16 = .ok (.ifCond .eq 7, 3) := by decide +kernel
theorem dX11_read_19 : decode cX11_read 19 = .ok (.iconst 1, 1) := by decide +kernel
theorem dX11_read_20 : decode cX11_read 20 = .ok (.goto 4, 3) := by decide +kernel
theorem dX11_read_23 : decode cX11_read 23 = .ok (.iconst 0, 1) := by decide +kernel
theorem dX11_read_24 : decode cX11_read 24 = .ok (.invokevirtual 184, 3) := by decide +kernel
theorem dX11_read_27 : decode cX11_read 27 = .ok (.ifCond .ne 5, 3) := by decide +kernel
theorem dX11_read_30 : decode cX11_read 30 = .ok (.iconst 0, 1) := by decide +kernel
theorem dX11_read_31 : decode cX11_read 31 = .ok (.ireturn, 1) := by decide +kernel
theorem dX11_read_32 : decode cX11_read 32 = .ok (.aload_n 0, 1) := by decide +kernel
theorem dX11_read_33 : decode cX11_read 33 = .ok (.iconst 0, 1) := by decide +kernel
theorem dX11_read_34 : decode cX11_read 34 = .ok (.putfield 266, 3) := by decide +kernel
theorem dX11_read_37 : decode cX11_read 37 = .ok (.aload_n 0, 1) := by decide +kernel
theorem dX11_read_38 : decode cX11_read 38 = .ok (.aload_n 0, 1) := by decide +kernel
theorem dX11_read_39 : decode cX11_read 39 = .ok (.getfield 263, 3) := by decide +kernel
theorem dX11_read_42 : decode cX11_read 42 = .ok (.putfield 269, 3) := by decide +kernel
theorem dX11_read_45 : decode cX11_read 45 = .ok (.aload_n 0, 1) := by decide +kernel
theorem dX11_read_46 : decode cX11_read 46 = .ok (.iconst 0, 1) := by decide +kernel
theorem dX11_read_47 : decode cX11_read 47 = .ok (.putfield 263, 3) := by decide +kernel
theorem dX11_read_50 : decode cX11_read 50 = .ok (.aload_n 0, 1) := by decide +kernel
theorem dX11_read_51 : decode cX11_read 51 = .ok (.invokevirtual 272, 3) := by decide +kernel
theorem dX11_read_54 : decode cX11_read 54 = .ok (.bipush 45, 2) := by decide +kernel
theorem dX11_read_56 : decode cX11_read 56 = .ok (.if_icmp .ne 7, 3) := by decide +kernel
theorem dX11_read_59 : decode cX11_read 59 = .ok (.iconst 1, 1) := by decide +kernel
theorem dX11_read_60 : decode cX11_read 60 = .ok (.goto 4, 3) := by decide +kernel
theorem dX11_read_63 : decode cX11_read 63 = .ok (.iconst 0, 1) := by decide +kernel
theorem dX11_read_64 : decode cX11_read 64 = .ok (.istore 4, 2) := by decide +kernel
theorem dX11_read_66 : decode cX11_read 66 = .ok (.iload 4, 2) := by decide +kernel
theorem dX11_read_68 : decode cX11_read 68 = .ok (.iconst 1, 1) := by decide +kernel
theorem dX11_read_69 : decode cX11_read 69 = .ok (.if_icmp .eq 12, 3) := by decide +kernel
theorem dX11_read_72 : decode cX11_read 72 = .ok (.aload_n 0, 1) := by decide +kernel
theorem dX11_read_73 : decode cX11_read 73 = .ok (.invokevirtual 272, 3) := by decide +kernel
theorem dX11_read_76 : decode cX11_read 76 = .ok (.bipush 43, 2) := by decide +kernel
theorem dX11_read_78 : decode cX11_read 78 = .ok (.if_icmp .ne 13, 3) := by decide +kernel
theorem dX11_read_81 : decode cX11_read 81 = .ok (.aload_n 0, 1) := by decide +kernel
theorem dX11_read_82 : decode cX11_read 82 = .ok (.dup, 1) := by decide +kernel
theorem dX11_read_83 : decode cX11_read 83 = .ok (.getfield 266, 3) := by decide +kernel
theorem dX11_read_86 : decode cX11_read 86 = .ok (.iconst 1, 1) := by decide +kernel
theorem dX11_read_87 : decode cX11_read 87 = .ok (.iadd, 1) := by decide +kernel
theorem dX11_read_88 : decode cX11_read 88 = .ok (.putfield 266, 3) := by decide +kernel
theorem dX11_read_91 : decode cX11_read 91 = .ok (.aload_n 0, 1) := by decide +kernel
theorem dX11_read_92 : decode cX11_read 92 = .ok (.invokevirtual 272, 3) := by decide +kernel
theorem dX11_read_95 : decode cX11_read 95 = .ok (.bipush 105, 2) := by decide +kernel
theorem dX11_read_97 : decode cX11_read 97 = .ok (.if_icmp .eq 12, 3) := by decide +kernel
theorem dX11_read_100 : decode cX11_read 100 = .ok (.aload_n 0, 1) := by decide +kernel
theorem dX11_read_101 : decode cX11_read 101 = .ok (.invokevirtual 272, 3) := by decide +kernel
theorem dX11_read_104 : decode cX11_read 104 = .ok (.bipush 110, 2) := by decide +kernel
theorem dX11_read_106 : decode cX11_read 106 = .ok (.if_icmp .ne 95, 3) := by decide +kernel
theorem dX11_read_109 : decode cX11_read 109 = .ok (.aload_n 0, 1) := by decide +kernel
theorem dX11_read_110 : decode cX11_read 110 = .ok (.invokevirtual 272, 3) := by decide +kernel
theorem dX11_read_113 : decode cX11_read 113 = .ok (.bipush 105, 2) := by decide +kernel
theorem dX11_read_115 : decode cX11_read 115 = .ok (.if_icmp .ne 7, 3) := by decide +kernel
theorem dX11_read_118 : decode cX11_read 118 = .ok (.iconst 1, 1) := by decide +kernel
theorem dX11_read_119 : decode cX11_read 119 = .ok (.goto 4, 3) := by decide +kernel
theorem dX11_read_122 : decode cX11_read 122 = .ok (.iconst 0, 1) := by decide +kernel
theorem dX11_read_123 : decode cX11_read 123 = .ok (.istore 5, 2) := by decide +kernel
theorem dX11_read_125 : decode cX11_read 125 = .ok (.iload 5, 2) := by decide +kernel
theorem dX11_read_127 : decode cX11_read 127 = .ok (.ifCond .eq 19, 3) := by decide +kernel
theorem dX11_read_130 : decode cX11_read 130 = .ok (.aload_n 0, 1) := by decide +kernel
theorem dX11_read_131 : decode cX11_read 131 = .ok (.bipush 105, 2) := by decide +kernel
theorem dX11_read_133 : decode cX11_read 133 = .ok (.bipush 110, 2) := by decide +kernel
theorem dX11_read_135 : decode cX11_read 135 = .ok (.bipush 102, 2) := by decide +kernel
theorem dX11_read_137 : decode cX11_read 137 = .ok (.invokevirtual 303, 3) := by decide +kernel
theorem dX11_read_140 : decode cX11_read 140 = .ok (.ifCond .eq 30, 3) := by decide +kernel
theorem dX11_read_143 : decode cX11_read 143 = .ok (.goto 16, 3) := by decide +kernel
theorem dX11_read_146 : decode cX11_read 146 = .ok (.aload_n 0, 1) := by decide +kernel
theorem dX11_read_147 : decode cX11_read 147 = .ok (.bipush 110, 2) := by decide +kernel
theorem dX11_read_149 : decode cX11_read 149 = .ok (.bipush 97, 2) := by decide +kernel
theorem dX11_read_151 : decode cX11_read 151 = .ok (.bipush 110, 2) := by decide +kernel
theorem dX11_read_153 : decode cX11_read 153 = .ok (.invokevirtual 303, 3) := by decide +kernel
theorem dX11_read_156 : decode cX11_read 156 = .ok (.ifCond .eq 14, 3) := by decide +kernel
theorem dX11_read_159 : decode cX11_read 159 = .ok (.aload_n 0, 1) := by decide +kernel
theorem dX11_read_160 : decode cX11_read 160 = .ok (.getfield 266, 3) := by decide +kernel
theorem dX11_read_163 : decode cX11_read 163 = .ok (.aload_n 0, 1) := by decide +kernel
theorem dX11_read_164 : decode cX11_read 164 = .ok (.getfield 269, 3) := by decide +kernel
theorem dX11_read_167 : decode cX11_read 167 = .ok (.if_icmp .ge 10, 3) := by decide +kernel
theorem dX11_read_170 : decode cX11_read 170 = .ok (.iconst (-1), 1) := by decide +kernel
theorem dX11_read_171 : decode cX11_read 171 = .ok (.aload_n 0, 1) := by decide +kernel
theorem dX11_read_172 : decode cX11_read 172 = .ok (.getfield 266, 3) := by decide +kernel
theorem dX11_read_175 : decode cX11_read 175 = .ok (.isub, 1) := by decide +kernel
theorem dX11_read_176 : decode cX11_read 176 = .ok (.ireturn, 1) := by decide +kernel
theorem dX11_read_177 : decode cX11_read 177 = .ok (.iload 5, 2) := by decide +kernel
theorem dX11_read_179 : decode cX11_read 179 = .ok (.ifCond .eq 14, 3) := by decide +kernel
theorem dX11_read_182 : decode cX11_read 182 = .ok (.aload_n 0, 1) := by decide +kernel
theorem dX11_read_183 : decode cX11_read 183 = .ok (.iload_n 1, 1) := by decide +kernel
theorem dX11_read_184 : decode cX11_read 184 = .ok (.iload_n 2, 1) := by decide +kernel
theorem dX11_read_185 : decode cX11_read 185 = .ok (.iload 4, 2) := by decide +kernel
theorem dX11_read_187 : decode cX11_read 187 = .ok (.invokevirtual 203, 3) := by decide +kernel
theorem dX11_read_190 : decode cX11_read 190 = .ok (.goto 9, 3) := by decide +kernel
theorem dX11_read_193 : decode cX11_read 193 = .ok (.aload_n 0, 1) := by decide +kernel
theorem dX11_read_194 : decode cX11_read 194 = .ok (.iload_n 1, 1) := by decide +kernel
theorem dX11_read_195 : decode cX11_read 195 = .ok (.iload_n 2, 1) := by decide +kernel
theorem dX11_read_196 : decode cX11_read 196 = .ok (.invokevirtual 199, 3) := by decide +kernel
theorem dX11_read_199 : decode cX11_read 199 = .ok (.iconst 0, 1) := by decide +kernel
theorem dX11_read_200 : decode cX11_read 200 = .ok (.ireturn, 1) := by decide +kernel
theorem dX11_read_201 : decode cX11_read 201 = .ok (.aload_n 0, 1) := by decide +kernel
theorem dX11_read_202 : decode cX11_read 202 = .ok (.iload 4, 2) := by decide +kernel
theorem dX11_read_204 : decode cX11_read 204 = .ok (.putfield 49, 3) := by decide +kernel
theorem dX11_read_207 : decode cX11_read 207 = .ok (.aload_n 0, 1) := by decide +kernel
theorem dX11_read_208 : decode cX11_read 208 = .ok (.invokevirtual 272, 3) := by decide +kernel
theorem dX11_read_211 : decode cX11_read 211 = .ok (.bipush 48, 2) := by decide +kernel
theorem dX11_read_213 : decode cX11_read 213 = .ok (.if_icmp .ne 36, 3) := by decide +kernel
theorem dX11_read_216 : decode cX11_read 216 = .ok (.aload_n 0, 1) := by decide +kernel
theorem dX11_read_217 : decode cX11_read 217 = .ok (.getfield 266, 3) := by decide +kernel
theorem dX11_read_220 : decode cX11_read 220 = .ok (.iconst 1, 1) := by decide +kernel
theorem dX11_read_221 : decode cX11_read 221 = .ok (.iadd, 1) := by decide +kernel
theorem dX11_read_222 : decode cX11_read 222 = .ok (.aload_n 0, 1) := by decide +kernel
theorem dX11_read_223 : decode cX11_read 223 = .ok (.getfield 269, 3) := by decide +kernel
theorem dX11_read_226 : decode cX11_read 226 = .ok (.if_icmp .ge 23, 3) := by decide +kernel
theorem dX11_read_229 : decode cX11_read 229 = .ok (.aload_n 0, 1) := by decide +kernel
theorem dX11_read_230 : decode cX11_read 230 = .ok (.getfield 153, 3) := by decide +kernel
theorem dX11_read_233 : decode cX11_read 233 = .ok (.aload_n 0, 1) := by decide +kernel
theorem dX11_read_234 : decode cX11_read 234 = .ok (.getfield 266, 3) := by decide +kernel
theorem dX11_read_237 : decode cX11_read 237 = .ok (.iconst 1, 1) := by decide +kernel
theorem dX11_read_238 : decode cX11_read 238 = .ok (.iadd, 1) := by decide +kernel
theorem dX11_read_239 : decode cX11_read 239 = .ok (.iaload, 1) := by decide +kernel
theorem dX11_read_240 : decode cX11_read 240 = .ok (.bipush 120, 2) := by decide +kernel
theorem dX11_read_242 : decode cX11_read 242 = .ok (.if_icmp .ne 7, 3) := by decide +kernel
theorem dX11_read_245 : decode cX11_read 245 = .ok (.iconst 1, 1) := by decide +kernel
theorem dX11_read_246 : decode cX11_read 246 = .ok (.goto 4, 3) := by decide +kernel
theorem dX11_read_249 : decode cX11_read 249 = .ok (.iconst 0, 1) := by decide +kernel
theorem dX11_read_250 : decode cX11_read 250 = .ok (.istore 5, 2) := by decide +kernel
theorem dX11_read_252 : decode cX11_read 252 = .ok (.aload_n 0, 1) := by decide +kernel
theorem dX11_read_253 : decode cX11_read 253 = .ok (.dup, 1) := by decide +kernel
theorem dX11_read_254 : decode cX11_read 254 = .ok (.getfield 266, 3) := by decide +kernel
theorem dX11_read_257 : decode cX11_read 257 = .ok (.iload 5, 2) := by decide +kernel
theorem dX11_read_259 : decode cX11_read 259 = .ok (.ifCond .eq 7, 3) := by decide +kernel
theorem dX11_read_262 : decode cX11_read 262 = .ok (.iconst 2, 1) := by decide +kernel
theorem dX11_read_263 : decode cX11_read 263 = .ok (.goto 4, 3) := by decide +kernel
theorem dX11_read_266 : decode cX11_read 266 = .ok (.iconst 0, 1) := by decide +kernel
theorem dX11_read_267 : decode cX11_read 267 = .ok (.iadd, 1) := by decide +kernel
theorem dX11_read_268 : decode cX11_read 268 = .ok (.putfield 266, 3) := by decide +kernel
theorem dX11_read_271 : decode cX11_read 271 = .ok (.iload 5, 2) := by decide +kernel
theorem dX11_read_273 : decode cX11_read 273 = .ok (.ifCond .eq 17, 3) := by decide +kernel
theorem dX11_read_276 : decode cX11_read 276 = .ok (.aload_n 0, 1) := by decide +kernel
theorem dX11_read_277 : decode cX11_read 277 = .ok (.bipush 16, 2) := by decide +kernel
theorem dX11_read_279 : decode cX11_read 279 = .ok (.bipush 112, 2) := by decide +kernel
theorem dX11_read_281 : decode cX11_read 281 = .ok (.invokevirtual 307, 3) := by decide +kernel
theorem dX11_read_284 : decode cX11_read 284 = .ok (.ifCond .eq 28, 3) := by decide +kernel
theorem dX11_read_287 : decode cX11_read 287 = .ok (.goto 14, 3) := by decide +kernel
theorem dX11_read_290 : decode cX11_read 290 = .ok (.aload_n 0, 1) := by decide +kernel
theorem dX11_read_291 : decode cX11_read 291 = .ok (.bipush 10, 2) := by decide +kernel
theorem dX11_read_293 : decode cX11_read 293 = .ok (.bipush 101, 2) := by decide +kernel
theorem dX11_read_295 : decode cX11_read 295 = .ok (.invokevirtual 307, 3) := by decide +kernel
theorem dX11_read_298 : decode cX11_read 298 = .ok (.ifCond .eq 14, 3) := by decide +kernel
theorem dX11_read_301 : decode cX11_read 301 = .ok (.aload_n 0, 1) := by decide +kernel
theorem dX11_read_302 : decode cX11_read 302 = .ok (.getfield 266, 3) := by decide +kernel
theorem dX11_read_305 : decode cX11_read 305 = .ok (.aload_n 0, 1) := by decide +kernel
theorem dX11_read_306 : decode cX11_read 306 = .ok (.getfield 269, 3) := by decide +kernel
theorem dX11_read_309 : decode cX11_read 309 = .ok (.if_icmp .ge 10, 3) := by decide +kernel
theorem dX11_read_312 : decode cX11_read 312 = .ok (.iconst (-1), 1) := by decide +kernel
theorem dX11_read_313 : decode cX11_read 313 = .ok (.aload_n 0, 1) := by decide +kernel
theorem dX11_read_314 : decode cX11_read 314 = .ok (.getfield 266, 3) := by decide +kernel
theorem dX11_read_317 : decode cX11_read 317 = .ok (.isub, 1) := by decide +kernel
theorem dX11_read_318 : decode cX11_read 318 = .ok (.ireturn, 1) := by decide +kernel
theorem dX11_read_319 : decode cX11_read 319 = .ok (.iload 5, 2) := by decide +kernel
theorem dX11_read_321 : decode cX11_read 321 = .ok (.ifCond .eq 10, 3) := by decide +kernel
theorem dX11_read_324 : decode cX11_read 324 = .ok (.aload_n 0, 1) := by decide +kernel
theorem dX11_read_325 : decode cX11_read 325 = .ok (.invokevirtual 310, 3) := by decide +kernel
theorem dX11_read_328 : decode cX11_read 328 = .ok (.goto 7, 3) := by decide +kernel
theorem dX11_read_331 : decode cX11_read 331 = .ok (.aload_n 0, 1) := by decide +kernel
theorem dX11_read_332 : decode cX11_read 332 = .ok (.invokevirtual 313, 3) := by decide +kernel
theorem dX11_read_335 : decode cX11_read 335 = .ok (.aload_n 0, 1) := by decide +kernel
theorem dX11_read_336 : decode cX11_read 336 = .ok (.iload_n 1, 1) := by decide +kernel
theorem dX11_read_337 : decode cX11_read 337 = .ok (.iload_n 2, 1) := by decide +kernel
theorem dX11_read_338 : decode cX11_read 338 = .ok (.iload_n 3, 1) := by decide +kernel
theorem dX11_read_339 : decode cX11_read 339 = .ok (.invokevirtual 210, 3) := by decide +kernel
theorem dX11_read_342 : decode cX11_read 342 = .ok (.iconst 0, 1) := by decide +kernel
theorem dX11_read_343 : decode cX11_read 343 = .ok (.ireturn, 1) := by decide +kernel
theorem dX11_put__0 : decode cX11_put_ 0 = .ok (.aload_n 0, 1) := by decide +kernel
theorem dX11_put__1 : decode cX11_put_ 1 = .ok (.getfield 156, 3) := by decide +kernel
theorem dX11_put__4 : decode cX11_put_ 4 = .ok (.aload_n 0, 1) := by decide +kernel
theorem dX11_put__5 : decode cX11_put_ 5 = .ok (.getfield 316, 3) := by decide +kernel
theorem dX11_put__8 : decode cX11_put_ 8 = .ok (.iload_n 1, 1) := by decide +kernel
theorem dX11_put__9 : decode cX11_put_ 9 = .ok (.iastore, 1) := by decide +kernel
theorem dX11_put__10 : decode cX11_put_ 10 = .ok (.aload_n 0, 1) := by decide +kernel
theorem dX11_put__11 : decode cX11_put_ 11 = .ok (.dup, 1) := by decide +kernel
theorem dX11_put__12 : decode cX11_put_ 12 = .ok (.getfield 316, 3) := by decide +kernel
theorem dX11_put__15 : decode cX11_put_ 15 = .ok (.iconst 1, 1) := by decide +kernel
theorem dX11_put__16 : decode cX11_put_ 16 = .ok (.iadd, 1) := by decide +kernel
theorem dX11_put__17 : decode cX11_put_ 17 = .ok (.putfield 316, 3) := by decide +kernel
theorem dX11_put__20 : decode cX11_put_ 20 = .ok (.return_, 1) := by decide +kernel
theorem dX11_putWord_0 : decode cX11_putWord 0 = .ok (.iconst 0, 1) := by decide +kernel
theorem dX11_putWord_1 : decode cX11_putWord 1 = .ok (.istore_n 2, 1) := by decide +kernel
theorem dX11_putWord_2 : decode cX11_putWord 2 = .ok (.iload_n 2, 1) := by decide +kernel
theorem dX11_putWord_3 : decode cX11_putWord 3 = .ok (.aload_n 1, 1) := by decide +kernel
theorem dX11_putWord_4 : decode cX11_putWord 4 = .ok (.invokevirtual 319, 3) := by decide +kernel
theorem dX11_putWord_7 : decode cX11_putWord 7 = .ok (.if_icmp .ge 18, 3) := by decide +kernel
theorem dX11_putWord_10 : decode cX11_putWord 10 = .ok (.aload_n 0, 1) := by decide +kernel
theorem dX11_putWord_11 : decode cX11_putWord 11 = .ok (.aload_n 1, 1) := by decide +kernel
theorem dX11_putWord_12 : decode cX11_putWord 12 = .ok (.iload_n 2, 1) := by decide +kernel
theorem dX11_putWord_13 : decode cX11_putWord 13 = .ok (.invokevirtual 324, 3) := by decide +kernel
theorem dX11_putWord_16 : decode cX11_putWord 16 = .ok (.invokevirtual 328, 3) := by decide +kernel
theorem dX11_putWord_19 : decode cX11_putWord 19 = .ok (.iinc 2 1, 3) := by decide +kernel
theorem dX11_putWord_22 : decode cX11_putWord 22 = .ok (.goto (-20), 3) := by decide +kernel
theorem dX11_putWord_25 : decode cX11_putWord 25 = .ok (.return_, 1) := by decide +kernel
theorem dX11_tell_0 : decode cX11_tell 0 = .ok (.aload_n 0, 1) := by decide +kernel
theorem dX11_tell_1 : decode cX11_tell 1 = .ok (.getfield 71, 3) := by decide +kernel
theorem dX11_tell_4 : decode cX11_tell 4 = .ok (.aload_n 1, 1) := by decide +kernel
theorem dX11_tell_5 : decode cX11_tell 5 = .ok (.invokevirtual 74, 3) := by decide +kernel
theorem dX11_tell_8 : decode cX11_tell 8 = .ok (.iconst 0, 1) := by decide +kernel
theorem dX11_tell_9 : decode cX11_tell 9 = .ok (.istore_n 2, 1) := by decide +kernel
theorem dX11_tell_10 : decode cX11_tell 10 = .ok (.aload_n 0, 1) := by decide +kernel
theorem dX11_tell_11 : decode cX11_tell 11 = .ok (.getfield 71, 3) := by decide +kernel
theorem dX11_tell_14 : decode cX11_tell 14 = .ok (.getfield 89, 3) := by decide +kernel
theorem dX11_tell_17 : decode cX11_tell 17 = .ok (.ifCond .le 24, 3) := by decide +kernel
theorem dX11_tell_20 : decode cX11_tell 20 = .ok (.aload_n 0, 1) := by decide +kernel
theorem dX11_tell_21 : decode cX11_tell 21 = .ok (.getfield 159, 3) := by decide +kernel
theorem dX11_tell_24 : decode cX11_tell 24 = .ok (.iload_n 2, 1) := by decide +kernel
theorem dX11_tell_25 : decode cX11_tell 25 = .ok (.aload_n 0, 1) := by decide +kernel
theorem dX11_tell_26 : decode cX11_tell 26 = .ok (.getfield 71, 3) := by decide +kernel
theorem dX11_tell_29 : decode cX11_tell 29 = .ok (.bipush 10, 2) := by decide +kernel
theorem dX11_tell_31 : decode cX11_tell 31 = .ok (.invokevirtual 330, 3) := by decide +kernel
theorem dX11_tell_34 : decode cX11_tell 34 = .ok (.iastore, 1) := by decide +kernel
theorem dX11_tell_35 : decode cX11_tell 35 = .ok (.iinc 2 1, 3) := by decide +kernel
theorem dX11_tell_38 : decode cX11_tell 38 = .ok (.goto (-28), 3) := by decide +kernel
theorem dX11_tell_41 : decode cX11_tell 41 = .ok (.aload_n 0, 1) := by decide +kernel
theorem dX11_tell_42 : decode cX11_tell 42 = .ok (.iload_n 2, 1) := by decide +kernel
theorem dX11_tell_43 : decode cX11_tell 43 = .ok (.putfield 333, 3) := by decide +kernel
theorem dX11_tell_46 : decode cX11_tell 46 = .ok (.iconst 0, 1) := by decide +kernel
theorem dX11_tell_47 : decode cX11_tell 47 = .ok (.istore_n 3, 1) := by decide +kernel
theorem dX11_tell_48 : decode cX11_tell 48 = .ok (.iload_n 2, 1) := by decide +kernel
theorem dX11_tell_49 : decode cX11_tell 49 = .ok (.iconst 1, 1) := by decide +kernel
theorem dX11_tell_50 : decode cX11_tell 50 = .ok (.isub, 1) := by decide +kernel
theorem dX11_tell_51 : decode cX11_tell 51 = .ok (.istore 4, 2) := by decide +kernel
theorem dX11_tell_53 : decode cX11_tell 53 = .ok (.iload_n 3, 1) := by decide +kernel
theorem dX11_tell_54 : decode cX11_tell 54 = .ok (.iload 4, 2) := by decide +kernel
theorem dX11_tell_56 : decode cX11_tell 56 = .ok (.if_icmp .ge 42, 3) := by decide +kernel
theorem dX11_tell_59 : decode cX11_tell 59 = .ok (.aload_n 0, 1) := by decide +kernel
theorem dX11_tell_60 : decode cX11_tell 60 = .ok (.getfield 159, 3) := by decide +kernel
theorem dX11_tell_63 : decode cX11_tell 63 = .ok (.iload_n 3, 1) := by decide +kernel
theorem dX11_tell_64 : decode cX11_tell 64 = .ok (.iaload, 1) := by decide +kernel
theorem dX11_tell_65 : decode cX11_tell 65 = .ok (.istore 5, 2) := by decide +kernel
theorem dX11_tell_67 : decode cX11_tell 67 = .ok (.aload_n 0, 1) := by decide +kernel
theorem dX11_tell_68 : decode cX11_tell 68 = .ok (.getfield 159, 3) := by decide +kernel
theorem dX11_tell_71 : decode cX11_tell 71 = .ok (.iload_n 3, 1) := by decide +kernel
theorem dX11_tell_72 : decode cX11_tell 72 = .ok (.aload_n 0, 1) := by decide +kernel
theorem dX11_tell_73 : decode cX11_tell 73 = .ok (.getfield 159, 3) := by decide +kernel
theorem dX11_tell_76 : decode cX11_tell 76 = .ok (.iload 4, 2) := by decide +kernel
theorem dX11_tell_78 : decode cX11_tell 78 = .ok (.iaload, 1) := by decide +kernel
theorem dX11_tell_79 : decode cX11_tell 79 = .ok (.iastore, 1) := by decide +kernel
theorem dX11_tell_80 : decode cX11_tell 80 = .ok (.aload_n 0, 1) := by decide +kernel
theorem dX11_tell_81 : decode cX11_tell 81 = .ok (.getfield 159, 3) := by decide +kernel
theorem dX11_tell_84 : decode cX11_tell 84 = .ok (.iload 4, 2) := by decide +kernel
theorem dX11_tell_86 : decode cX11_tell 86 = .ok (.iload 5, 2) := by decide +kernel
theorem dX11_tell_88 : decode cX11_tell 88 = .ok (.iastore, 1) := by decide +kernel
theorem dX11_tell_89 : decode cX11_tell 89 = .ok (.iinc 3 1, 3) := by decide +kernel
theorem dX11_tell_92 : decode cX11_tell 92 = .ok (.iinc 4 (-1), 3) := by decide +kernel
theorem dX11_tell_95 : decode cX11_tell 95 = .ok (.goto (-42), 3) := by decide +kernel
theorem dX11_tell_98 : decode cX11_tell 98 = .ok (.return_, 1) := by decide +kernel
theorem dX11_putPlain_0 : decode cX11_putPlain 0 = .ok (.aload_n 0, 1) := by decide +kernel
theorem dX11_putPlain_1 : decode cX11_putPlain 1 = .ok (.getfield 333, 3) := by decide +kernel
theorem dX11_putPlain_4 : decode cX11_putPlain 4 = .ok (.aload_n 0, 1) := by decide +kernel
theorem dX11_putPlain_5 : decode cX11_putPlain 5 = .ok (.getfield 336, 3) := by decide +kernel
theorem dX11_putPlain_8 : decode cX11_putPlain 8 = .ok (.iadd, 1) := by decide +kernel
theorem dX11_putPlain_9 : decode cX11_putPlain 9 = .ok (.istore_n 1, 1) := by decide +kernel
theorem dX11_putPlain_10 : decode cX11_putPlain 10 = .ok (.iload_n 1, 1) := by decide +kernel
theorem dX11_putPlain_11 : decode cX11_putPlain 11 = .ok (.ifCond .gt 9, 3) := by decide +kernel
theorem dX11_putPlain_14 : decode cX11_putPlain 14 = .ok (.aload_n 0, 1) := by decide +kernel
theorem dX11_putPlain_15 : decode cX11_putPlain 15 = .ok (.bipush 48, 2) := by decide +kernel
theorem dX11_putPlain_17 : decode cX11_putPlain 17 = .ok (.invokevirtual 328, 3) := by decide +kernel
theorem dX11_putPlain_20 : decode cX11_putPlain 20 = .ok (.iconst 0, 1) := by decide +kernel
theorem dX11_putPlain_21 : decode cX11_putPlain 21 = .ok (.istore_n 2, 1) := by decide +kernel
theorem dX11_putPlain_22 : decode cX11_putPlain 22 = .ok (.iload_n 2, 1) := by decide +kernel
theorem dX11_putPlain_23 : decode cX11_putPlain 23 = .ok (.iload_n 1, 1) := by decide +kernel
theorem dX11_putPlain_24 : decode cX11_putPlain 24 = .ok (.if_icmp .ge 35, 3) := by decide +kernel
theorem dX11_putPlain_27 : decode cX11_putPlain 27 = .ok (.aload_n 0, 1) := by decide +kernel
theorem dX11_putPlain_28 : decode cX11_putPlain 28 = .ok (.iload_n 2, 1) := by decide +kernel
theorem dX11_putPlain_29 : decode cX11_putPlain 29 = .ok (.aload_n 0, 1) := by decide +kernel
theorem dX11_putPlain_30 : decode cX11_putPlain 30 = .ok (.getfield 333, 3) := by decide +kernel
theorem dX11_putPlain_33 : decode cX11_putPlain 33 = .ok (.if_icmp .ge 15, 3) := by decide +kernel
theorem dX11_putPlain_36 : decode cX11_putPlain 36 = .ok (.bipush 48, 2) := by decide +kernel
theorem dX11_putPlain_38 : decode cX11_putPlain 38 = .ok (.aload_n 0, 1) := by decide +kernel
theorem dX11_putPlain_39 : decode cX11_putPlain 39 = .ok (.getfield 159, 3) := by decide +kernel
theorem dX11_putPlain_42 : decode cX11_putPlain 42 = .ok (.iload_n 2, 1) := by decide +kernel
theorem dX11_putPlain_43 : decode cX11_putPlain 43 = .ok (.iaload, 1) := by decide +kernel
theorem dX11_putPlain_44 : decode cX11_putPlain 44 = .ok (.iadd, 1) := by decide +kernel
theorem dX11_putPlain_45 : decode cX11_putPlain 45 = .ok (.goto 5, 3) := by decide +kernel
theorem dX11_putPlain_48 : decode cX11_putPlain 48 = .ok (.bipush 48, 2) := by decide +kernel
theorem dX11_putPlain_50 : decode cX11_putPlain 50 = .ok (.invokevirtual 328, 3) := by decide +kernel
theorem dX11_putPlain_53 : decode cX11_putPlain 53 = .ok (.iinc 2 1, 3) := by decide +kernel
theorem dX11_putPlain_56 : decode cX11_putPlain 56 = .ok (.goto (-34), 3) := by decide +kernel
theorem dX11_putPlain_59 : decode cX11_putPlain 59 = .ok (.aload_n 0, 1) := by decide +kernel
theorem dX11_putPlain_60 : decode cX11_putPlain 60 = .ok (.getfield 336, 3) := by decide +kernel
theorem dX11_putPlain_63 : decode cX11_putPlain 63 = .ok (.ifCond .lt 4, 3) := by decide +kernel
theorem dX11_putPlain_66 : decode cX11_putPlain 66 = .ok (.return_, 1) := by decide +kernel
theorem dX11_putPlain_67 : decode cX11_putPlain 67 = .ok (.aload_n 0, 1) := by decide +kernel
theorem dX11_putPlain_68 : decode cX11_putPlain 68 = .ok (.bipush 46, 2) := by decide +kernel
theorem dX11_putPlain_70 : decode cX11_putPlain 70 = .ok (.invokevirtual 328, 3) := by decide +kernel
theorem dX11_putPlain_73 : decode cX11_putPlain 73 = .ok (.iload_n 1, 1) := by decide +kernel
theorem dX11_putPlain_74 : decode cX11_putPlain 74 = .ok (.istore_n 2, 1) := by decide +kernel
theorem dX11_putPlain_75 : decode cX11_putPlain 75 = .ok (.iload_n 2, 1) := by decide +kernel
theorem dX11_putPlain_76 : decode cX11_putPlain 76 = .ok (.aload_n 0, 1) := by decide +kernel
theorem dX11_putPlain_77 : decode cX11_putPlain 77 = .ok (.getfield 333, 3) := by decide +kernel
theorem dX11_putPlain_80 : decode cX11_putPlain 80 = .ok (.if_icmp .ge 31, 3) := by decide +kernel
theorem dX11_putPlain_83 : decode cX11_putPlain 83 = .ok (.aload_n 0, 1) := by decide +kernel
theorem dX11_putPlain_84 : decode cX11_putPlain 84 = .ok (.iload_n 2, 1) := by decide +kernel
theorem dX11_putPlain_85 : decode cX11_putPlain 85 = .ok (.ifCond .ge 8, 3) := by decide +kernel
theorem dX11_putPlain_88 : decode cX11_putPlain 88 = .ok (.bipush 48, 2) := by decide +kernel
theorem dX11_putPlain_90 : decode cX11_putPlain 90 = .ok (.goto 12, 3) := by decide +kernel
theorem dX11_putPlain_93 : decode cX11_putPlain 93 = .ok (.bipush 48, 2) := by decide +kernel
theorem dX11_putPlain_95 : decode cX11_putPlain 95 = .ok (.aload_n 0, 1) := by decide +kernel
theorem dX11_putPlain_96 : decode cX11_putPlain 96 = .ok (.getfield 159, 3) := by decide +kernel
theorem dX11_putPlain_99 : decode cX11_putPlain 99 = .ok (.iload_n 2, 1) := by decide +kernel
theorem dX11_putPlain_100 : decode cX11_putPlain 100 = .ok (.iaload, 1) := by decide +kernel
theorem dX11_putPlain_101 : decode cX11_putPlain 101 = .ok (.iadd, 1) := by decide +kernel
theorem dX11_putPlain_102 : decode cX11_putPlain 102 = .ok (.invokevirtual 328, 3) := by decide +kernel
theorem dX11_putPlain_105 : decode cX11_putPlain 105 = .ok (.iinc 2 1, 3) := by decide +kernel
theorem dX11_putPlain_108 : decode cX11_putPlain 108 = .ok (.goto (-33), 3) := by decide +kernel
theorem dX11_putPlain_111 : decode cX11_putPlain 111 = .ok (.return_, 1) := by decide +kernel
theorem dX11_putPower_0 : decode cX11_putPower 0 = .ok (.iload_n 1, 1) := by decide +kernel
theorem dX11_putPower_1 : decode cX11_putPower 1 = .ok (.ifCond .ge 9, 3) := by decide +kernel
theorem dX11_putPower_4 : decode cX11_putPower 4 = .ok (.aload_n 0, 1) := by decide +kernel
theorem dX11_putPower_5 : decode cX11_putPower 5 = .ok (.bipush 45, 2) := by decide +kernel
theorem dX11_putPower_7 : decode cX11_putPower 7 = .ok (.invokevirtual 328, 3) := by decide +kernel
theorem dX11_putPower_10 : decode cX11_putPower 10 = .ok (.iload_n 1, 1) := by decide +kernel
theorem dX11_putPower_11 : decode cX11_putPower 11 = .ok (.invokestatic 298, 3) := by decide +kernel
theorem dX11_putPower_14 : decode cX11_putPower 14 = .ok (.istore_n 2, 1) := by decide +kernel
theorem dX11_putPower_15 : decode cX11_putPower 15 = .ok (.iconst 1, 1) := by decide +kernel
theorem dX11_putPower_16 : decode cX11_putPower 16 = .ok (.istore_n 3, 1) := by decide +kernel
theorem dX11_putPower_17 : decode cX11_putPower 17 = .ok (.iload_n 2, 1) := by decide +kernel
theorem dX11_putPower_18 : decode cX11_putPower 18 = .ok (.iload_n 3, 1) := by decide +kernel
theorem dX11_putPower_19 : decode cX11_putPower 19 = .ok (.idiv, 1) := by decide +kernel
theorem dX11_putPower_20 : decode cX11_putPower 20 = .ok (.bipush 9, 2) := by decide +kernel
theorem dX11_putPower_22 : decode cX11_putPower 22 = .ok (.if_icmp .le 11, 3) := by decide +kernel
theorem dX11_putPower_25 : decode cX11_putPower 25 = .ok (.iload_n 3, 1) := by decide +kernel
theorem dX11_putPower_26 : decode cX11_putPower 26 = .ok (.bipush 10, 2) := by decide +kernel
theorem dX11_putPower_28 : decode cX11_putPower 28 = .ok (.imul, 1) := by decide +kernel
theorem dX11_putPower_29 : decode cX11_putPower 29 = .ok (.istore_n 3, 1) := by decide +kernel
theorem dX11_putPower_30 : decode cX11_putPower 30 = .ok (.goto (-13), 3) := by decide +kernel
theorem dX11_putPower_33 : decode cX11_putPower 33 = .ok (.iload_n 3, 1) := by decide +kernel
theorem dX11_putPower_34 : decode cX11_putPower 34 = .ok (.istore 4, 2) := by decide +kernel
theorem dX11_putPower_36 : decode cX11_putPower 36 = .ok (.iload 4, 2) := by decide +kernel
theorem dX11_putPower_38 : decode cX11_putPower 38 = .ok (.ifCond .le 27, 3) := by decide +kernel
theorem dX11_putPower_41 : decode cX11_putPower 41 = .ok (.aload_n 0, 1) := by decide +kernel
theorem dX11_putPower_42 : decode cX11_putPower 42 = .ok (.bipush 48, 2) := by decide +kernel
theorem dX11_putPower_44 : decode cX11_putPower 44 = .ok (.iload_n 2, 1) := by decide +kernel
theorem dX11_putPower_45 : decode cX11_putPower 45 = .ok (.iload 4, 2) := by decide +kernel
theorem dX11_putPower_47 : decode cX11_putPower 47 = .ok (.idiv, 1) := by decide +kernel
theorem dX11_putPower_48 : decode cX11_putPower 48 = .ok (.bipush 10, 2) := by decide +kernel
theorem dX11_putPower_50 : decode cX11_putPower 50 = .ok (.irem, 1) := by decide +kernel
theorem dX11_putPower_51 : decode cX11_putPower 51 = .ok (.iadd, 1) := by decide +kernel
theorem dX11_putPower_52 : decode cX11_putPower 52 = .ok (.invokevirtual 328, 3) := by decide +kernel
theorem dX11_putPower_55 : decode cX11_putPower 55 = .ok (.iload 4, 2) := by decide +kernel
theorem dX11_putPower_57 : decode cX11_putPower 57 = .ok (.bipush 10, 2) := by decide +kernel
theorem dX11_putPower_59 : decode cX11_putPower 59 = .ok (.idiv, 1) := by decide +kernel
theorem dX11_putPower_60 : decode cX11_putPower 60 = .ok (.istore 4, 2) := by decide +kernel
theorem dX11_putPower_62 : decode cX11_putPower 62 = .ok (.goto (-26), 3) := by decide +kernel
theorem dX11_putPower_65 : decode cX11_putPower 65 = .ok (.return_, 1) := by decide +kernel
theorem dX11_putPowered_0 : decode cX11_putPowered 0 = .ok (.aload_n 0, 1) := by decide +kernel
theorem dX11_putPowered_1 : decode cX11_putPowered 1 = .ok (.bipush 48, 2) := by decide +kernel
theorem dX11_putPowered_3 : decode cX11_putPowered 3 = .ok (.aload_n 0, 1) := by decide +kernel
theorem dX11_putPowered_4 : decode cX11_putPowered 4 = .ok (.getfield 159, 3) := by decide +kernel
theorem dX11_putPowered_7 : decode cX11_putPowered 7 = .ok (.iconst 0, 1) := by decide +kernel
theorem dX11_putPowered_8 : decode cX11_putPowered 8 = .ok (.iaload, 1) := by decide +kernel
theorem dX11_putPowered_9 : decode cX11_putPowered 9 = .ok (.iadd, 1) := by decide +kernel
theorem dX11_putPowered_10 : decode cX11_putPowered 10 = .ok (.invokevirtual 328, 3) := by decide +kernel
theorem dX11_putPowered_13 : decode cX11_putPowered 13 = .ok (.aload_n 0, 1) := by decide +kernel
theorem dX11_putPowered_14 : decode cX11_putPowered 14 = .ok (.getfield 333, 3) := by decide +kernel
theorem dX11_putPowered_17 : decode cX11_putPowered 17 = .ok (.iconst 1, 1) := by decide +kernel
theorem dX11_putPowered_18 : decode cX11_putPowered 18 = .ok (.if_icmp .le 9, 3) := by decide +kernel
theorem dX11_putPowered_21 : decode cX11_putPowered 21 = .ok (.aload_n 0, 1) := by decide +kernel
theorem dX11_putPowered_22 : decode cX11_putPowered 22 = .ok (.bipush 46, 2) := by decide +kernel
theorem dX11_putPowered_24 : decode cX11_putPowered 24 = .ok (.invokevirtual 328, 3) := by decide +kernel
theorem dX11_putPowered_27 : decode cX11_putPowered 27 = .ok (.iconst 1, 1) := by decide +kernel
theorem dX11_putPowered_28 : decode cX11_putPowered 28 = .ok (.istore_n 1, 1) := by decide +kernel
theorem dX11_putPowered_29 : decode cX11_putPowered 29 = .ok (.iload_n 1, 1) := by decide +kernel
theorem dX11_putPowered_30 : decode cX11_putPowered 30 = .ok (.aload_n 0, 1) := by decide +kernel
theorem dX11_putPowered_31 : decode cX11_putPowered 31 = .ok (.getfield 333, 3) := by decide +kernel
theorem dX11_putPowered_34 : decode cX11_putPowered 34 = .ok (.if_icmp .ge 22, 3) := by decide +kernel
theorem dX11_putPowered_37 : decode cX11_putPowered 37 = .ok (.aload_n 0, 1) := by decide +kernel
theorem dX11_putPowered_38 : decode cX11_putPowered 38 = .ok (.bipush 48, 2) := by decide +kernel
theorem dX11_putPowered_40 : decode cX11_putPowered 40 = .ok (.aload_n 0, 1) := by decide +kernel
theorem dX11_putPowered_41 : decode cX11_putPowered 41 = .ok (.getfield 159, 3) := by decide +kernel
theorem dX11_putPowered_44 : decode cX11_putPowered 44 = .ok (.iload_n 1, 1) := by decide +kernel
theorem dX11_putPowered_45 : decode cX11_putPowered 45 = .ok (.iaload, 1) := by decide +kernel
theorem dX11_putPowered_46 : decode cX11_putPowered 46 = .ok (.iadd, 1) := by decide +kernel
theorem dX11_putPowered_47 : decode cX11_putPowered 47 = .ok (.invokevirtual 328, 3) := by decide +kernel
theorem dX11_putPowered_50 : decode cX11_putPowered 50 = .ok (.iinc 1 1, 3) := by decide +kernel
theorem dX11_putPowered_53 : decode cX11_putPowered 53 = .ok (.goto (-24), 3) := by decide +kernel
theorem dX11_putPowered_56 : decode cX11_putPowered 56 = .ok (.aload_n 0, 1) := by decide +kernel
theorem dX11_putPowered_57 : decode cX11_putPowered 57 = .ok (.bipush 101, 2) := by decide +kernel
theorem dX11_putPowered_59 : decode cX11_putPowered 59 = .ok (.invokevirtual 328, 3) := by decide +kernel
theorem dX11_putPowered_62 : decode cX11_putPowered 62 = .ok (.aload_n 0, 1) := by decide +kernel
theorem dX11_putPowered_63 : decode cX11_putPowered 63 = .ok (.aload_n 0, 1) := by decide +kernel
theorem dX11_putPowered_64 : decode cX11_putPowered 64 = .ok (.getfield 336, 3) := by decide +kernel
theorem dX11_putPowered_67 : decode cX11_putPowered 67 = .ok (.aload_n 0, 1) := by decide +kernel
theorem dX11_putPowered_68 : decode cX11_putPowered 68 = .ok (.getfield 333, 3) := by decide +kernel
theorem dX11_putPowered_71 : decode cX11_putPowered 71 = .ok (.iadd, 1) := by decide +kernel
theorem dX11_putPowered_72 : decode cX11_putPowered 72 = .ok (.iconst 1, 1) := by decide +kernel
theorem dX11_putPowered_73 : decode cX11_putPowered 73 = .ok (.isub, 1) := by decide +kernel
theorem dX11_putPowered_74 : decode cX11_putPowered 74 = .ok (.invokevirtual 339, 3) := by decide +kernel
theorem dX11_putPowered_77 : decode cX11_putPowered 77 = .ok (.return_, 1) := by decide +kernel
theorem dX11_scale_0 : decode cX11_scale 0 = .ok (.aload_n 0, 1) := by decide +kernel
theorem dX11_scale_1 : decode cX11_scale 1 = .ok (.getfield 162, 3) := by decide +kernel
theorem dX11_scale_4 : decode cX11_scale 4 = .ok (.aload_n 0, 1) := by decide +kernel
theorem dX11_scale_5 : decode cX11_scale 5 = .ok (.getfield 28, 3) := by decide +kernel
theorem dX11_scale_8 : decode cX11_scale 8 = .ok (.invokevirtual 56, 3) := by decide +kernel
theorem dX11_scale_11 : decode cX11_scale 11 = .ok (.aload_n 0, 1) := by decide +kernel
theorem dX11_scale_12 : decode cX11_scale 12 = .ok (.getfield 165, 3) := by decide +kernel
theorem dX11_scale_15 : decode cX11_scale 15 = .ok (.lconst 1, 1) := by decide +kernel
theorem dX11_scale_16 : decode cX11_scale 16 = .ok (.invokevirtual 56, 3) := by decide +kernel
theorem dX11_scale_19 : decode cX11_scale 19 = .ok (.aload_n 0, 1) := by decide +kernel
theorem dX11_scale_20 : decode cX11_scale 20 = .ok (.getfield 35, 3) := by decide +kernel
theorem dX11_scale_23 : decode cX11_scale 23 = .ok (.ifCond .le 17, 3) := by decide +kernel
theorem dX11_scale_26 : decode cX11_scale 26 = .ok (.aload_n 0, 1) := by decide +kernel
theorem dX11_scale_27 : decode cX11_scale 27 = .ok (.getfield 162, 3) := by decide +kernel
theorem dX11_scale_30 : decode cX11_scale 30 = .ok (.aload_n 0, 1) := by decide +kernel
theorem dX11_scale_31 : decode cX11_scale 31 = .ok (.getfield 35, 3) := by decide +kernel
theorem dX11_scale_34 : decode cX11_scale 34 = .ok (.invokevirtual 92, 3) := by decide +kernel
theorem dX11_scale_37 : decode cX11_scale 37 = .ok (.goto 15, 3) := by decide +kernel
theorem dX11_scale_40 : decode cX11_scale 40 = .ok (.aload_n 0, 1) := by decide +kernel
theorem dX11_scale_41 : decode cX11_scale 41 = .ok (.getfield 165, 3) := by decide +kernel
theorem dX11_scale_44 : decode cX11_scale 44 = .ok (.aload_n 0, 1) := by decide +kernel
theorem dX11_scale_45 : decode cX11_scale 45 = .ok (.getfield 35, 3) := by decide +kernel
theorem dX11_scale_48 : decode cX11_scale 48 = .ok (.ineg, 1) := by decide +kernel
theorem dX11_scale_49 : decode cX11_scale 49 = .ok (.invokevirtual 92, 3) := by decide +kernel
theorem dX11_scale_52 : decode cX11_scale 52 = .ok (.aload_n 0, 1) := by decide +kernel
theorem dX11_scale_53 : decode cX11_scale 53 = .ok (.iconst 0, 1) := by decide +kernel
theorem dX11_scale_54 : decode cX11_scale 54 = .ok (.putfield 342, 3) := by decide +kernel
theorem dX11_scale_57 : decode cX11_scale 57 = .ok (.aload_n 0, 1) := by decide +kernel
theorem dX11_scale_58 : decode cX11_scale 58 = .ok (.getfield 162, 3) := by decide +kernel
theorem dX11_scale_61 : decode cX11_scale 61 = .ok (.aload_n 0, 1) := by decide +kernel
theorem dX11_scale_62 : decode cX11_scale 62 = .ok (.getfield 165, 3) := by decide +kernel
theorem dX11_scale_65 : decode cX11_scale 65 = .ok (.invokevirtual 96, 3) := by decide +kernel
theorem dX11_scale_68 : decode cX11_scale 68 = .ok (.ifCond .ge 27, 3) := by decide +kernel
theorem dX11_scale_71 : decode cX11_scale 71 = .ok (.aload_n 0, 1) := by decide +kernel
theorem dX11_scale_72 : decode cX11_scale 72 = .ok (.getfield 162, 3) := by decide +kernel
theorem dX11_scale_75 : decode cX11_scale 75 = .ok (.ldc2_w 301, 3) := by decide +kernel
theorem dX11_scale_78 : decode cX11_scale 78 = .ok (.iconst 0, 1) := by decide +kernel
theorem dX11_scale_79 : decode cX11_scale 79 = .ok (.invokevirtual 287, 3) := by decide +kernel
theorem dX11_scale_82 : decode cX11_scale 82 = .ok (.aload_n 0, 1) := by decide +kernel
theorem dX11_scale_83 : decode cX11_scale 83 = .ok (.dup, 1) := by decide +kernel
theorem dX11_scale_84 : decode cX11_scale 84 = .ok (.getfield 342, 3) := by decide +kernel
theorem dX11_scale_87 : decode cX11_scale 87 = .ok (.iconst 1, 1) := by decide +kernel
theorem dX11_scale_88 : decode cX11_scale 88 = .ok (.isub, 1) := by decide +kernel
theorem dX11_scale_89 : decode cX11_scale 89 = .ok (.putfield 342, 3) := by decide +kernel
theorem dX11_scale_92 : decode cX11_scale 92 = .ok (.goto (-35), 3) := by decide +kernel
theorem dX11_scale_95 : decode cX11_scale 95 = .ok (.aload_n 0, 1) := by decide +kernel
theorem dX11_scale_96 : decode cX11_scale 96 = .ok (.getfield 71, 3) := by decide +kernel
theorem dX11_scale_99 : decode cX11_scale 99 = .ok (.aload_n 0, 1) := by decide +kernel
theorem dX11_scale_100 : decode cX11_scale 100 = .ok (.getfield 165, 3) := by decide +kernel
theorem dX11_scale_103 : decode cX11_scale 103 = .ok (.invokevirtual 74, 3) := by decide +kernel
theorem dX11_scale_106 : decode cX11_scale 106 = .ok (.aload_n 0, 1) := by decide +kernel
theorem dX11_scale_107 : decode cX11_scale 107 = .ok (.getfield 71, 3) := by decide +kernel
theorem dX11_scale_110 : decode cX11_scale 110 = .ok (.ldc2_w 301, 3) := by decide +kernel
theorem dX11_scale_113 : decode cX11_scale 113 = .ok (.iconst 0, 1) := by decide +kernel
theorem dX11_scale_114 : decode cX11_scale 114 = .ok (.invokevirtual 287, 3) := by decide +kernel
theorem dX11_scale_117 : decode cX11_scale 117 = .ok (.aload_n 0, 1) := by decide +kernel
theorem dX11_scale_118 : decode cX11_scale 118 = .ok (.getfield 162, 3) := by decide +kernel
theorem dX11_scale_121 : decode cX11_scale 121 = .ok (.aload_n 0, 1) := by decide +kernel
theorem dX11_scale_122 : decode cX11_scale 122 = .ok (.getfield 71, 3) := by decide +kernel
theorem dX11_scale_125 : decode cX11_scale 125 = .ok (.invokevirtual 96, 3) := by decide +kernel
theorem dX11_scale_128 : decode cX11_scale 128 = .ok (.ifCond .lt 38, 3) := by decide +kernel
theorem dX11_scale_131 : decode cX11_scale 131 = .ok (.aload_n 0, 1) := by decide +kernel
theorem dX11_scale_132 : decode cX11_scale 132 = .ok (.getfield 165, 3) := by decide +kernel
theorem dX11_scale_135 : decode cX11_scale 135 = .ok (.aload_n 0, 1) := by decide +kernel
theorem dX11_scale_136 : decode cX11_scale 136 = .ok (.getfield 71, 3) := by decide +kernel
theorem dX11_scale_139 : decode cX11_scale 139 = .ok (.invokevirtual 74, 3) := by decide +kernel
theorem dX11_scale_142 : decode cX11_scale 142 = .ok (.aload_n 0, 1) := by decide +kernel
theorem dX11_scale_143 : decode cX11_scale 143 = .ok (.getfield 71, 3) := by decide +kernel
theorem dX11_scale_146 : decode cX11_scale 146 = .ok (.ldc2_w 301, 3) := by decide +kernel
theorem dX11_scale_149 : decode cX11_scale 149 = .ok (.iconst 0, 1) := by decide +kernel
theorem dX11_scale_150 : decode cX11_scale 150 = .ok (.invokevirtual 287, 3) := by decide +kernel
theorem dX11_scale_153 : decode cX11_scale 153 = .ok (.aload_n 0, 1) := by decide +kernel
theorem dX11_scale_154 : decode cX11_scale 154 = .ok (.dup, 1) := by decide +kernel
theorem dX11_scale_155 : decode cX11_scale 155 = .ok (.getfield 342, 3) := by decide +kernel
theorem dX11_scale_158 : decode cX11_scale 158 = .ok (.iconst 1, 1) := by decide +kernel
theorem dX11_scale_159 : decode cX11_scale 159 = .ok (.iadd, 1) := by decide +kernel
theorem dX11_scale_160 : decode cX11_scale 160 = .ok (.putfield 342, 3) := by decide +kernel
theorem dX11_scale_163 : decode cX11_scale 163 = .ok (.goto (-46), 3) := by decide +kernel
theorem dX11_scale_166 : decode cX11_scale 166 = .ok (.return_, 1) := by decide +kernel
theorem dX11_nextFigure_0 : decode cX11_nextFigure 0 = .ok (.iconst 0, 1) := by decide +kernel
theorem dX11_nextFigure_1 : decode cX11_nextFigure 1 = .ok (.istore_n 1, 1) := by decide +kernel
theorem dX11_nextFigure_2 : decode cX11_nextFigure 2 = .ok (.aload_n 0, 1) := by decide +kernel
theorem dX11_nextFigure_3 : decode cX11_nextFigure 3 = .ok (.getfield 162, 3) := by decide +kernel
theorem dX11_nextFigure_6 : decode cX11_nextFigure 6 = .ok (.aload_n 0, 1) := by decide +kernel
theorem dX11_nextFigure_7 : decode cX11_nextFigure 7 = .ok (.getfield 165, 3) := by decide +kernel
theorem dX11_nextFigure_10 : decode cX11_nextFigure 10 = .ok (.invokevirtual 96, 3) := by decide +kernel
theorem dX11_nextFigure_13 : decode cX11_nextFigure 13 = .ok (.ifCond .lt 20, 3) := by decide +kernel
theorem dX11_nextFigure_16 : decode cX11_nextFigure 16 = .ok (.aload_n 0, 1) := by decide +kernel
theorem dX11_nextFigure_17 : decode cX11_nextFigure 17 = .ok (.getfield 162, 3) := by decide +kernel
theorem dX11_nextFigure_20 : decode cX11_nextFigure 20 = .ok (.aload_n 0, 1) := by decide +kernel
theorem dX11_nextFigure_21 : decode cX11_nextFigure 21 = .ok (.getfield 165, 3) := by decide +kernel
theorem dX11_nextFigure_24 : decode cX11_nextFigure 24 = .ok (.invokevirtual 242, 3) := by decide +kernel
theorem dX11_nextFigure_27 : decode cX11_nextFigure 27 = .ok (.iinc 1 1, 3) := by decide +kernel
theorem dX11_nextFigure_30 : decode cX11_nextFigure 30 = .ok (.goto (-28), 3) := by decide +kernel
theorem dX11_nextFigure_33 : decode cX11_nextFigure 33 = .ok (.iload_n 1, 1) := by decide +kernel
theorem dX11_nextFigure_34 : decode cX11_nextFigure 34 = .ok (.ireturn, 1) := by decide +kernel
theorem dX11_leadsTo_0 : decode cX11_leadsTo 0 = .ok (.aload_n 0, 1) := by decide +kernel
theorem dX11_leadsTo_1 : decode cX11_leadsTo 1 = .ok (.iconst 0, 1) := by decide +kernel
theorem dX11_leadsTo_2 : decode cX11_leadsTo 2 = .ok (.invokevirtual 193, 3) := by decide +kernel
theorem dX11_leadsTo_5 : decode cX11_leadsTo 5 = .ok (.aload_n 0, 1) := by decide +kernel
theorem dX11_leadsTo_6 : decode cX11_leadsTo 6 = .ok (.getfield 52, 3) := by decide +kernel
theorem dX11_leadsTo_9 : decode cX11_leadsTo 9 = .ok (.aload_n 1, 1) := by decide +kernel
theorem dX11_leadsTo_10 : decode cX11_leadsTo 10 = .ok (.invokevirtual 74, 3) := by decide +kernel
theorem dX11_leadsTo_13 : decode cX11_leadsTo 13 = .ok (.iload_n 2, 1) := by decide +kernel
theorem dX11_leadsTo_14 : decode cX11_leadsTo 14 = .ok (.ifCond .ge 10, 3) := by decide +kernel
theorem dX11_leadsTo_17 : decode cX11_leadsTo 17 = .ok (.aload_n 0, 1) := by decide +kernel
theorem dX11_leadsTo_18 : decode cX11_leadsTo 18 = .ok (.getfield 62, 3) := by decide +kernel
theorem dX11_leadsTo_21 : decode cX11_leadsTo 21 = .ok (.goto 7, 3) := by decide +kernel
theorem dX11_leadsTo_24 : decode cX11_leadsTo 24 = .ok (.aload_n 0, 1) := by decide +kernel
theorem dX11_leadsTo_25 : decode cX11_leadsTo 25 = .ok (.getfield 52, 3) := by decide +kernel
theorem dX11_leadsTo_28 : decode cX11_leadsTo 28 = .ok (.astore 6, 2) := by decide +kernel
theorem dX11_leadsTo_30 : decode cX11_leadsTo 30 = .ok (.iconst 0, 1) := by decide +kernel
theorem dX11_leadsTo_31 : decode cX11_leadsTo 31 = .ok (.istore 7, 2) := by decide +kernel
theorem dX11_leadsTo_33 : decode cX11_leadsTo 33 = .ok (.iload 7, 2) := by decide +kernel
theorem dX11_leadsTo_35 : decode cX11_leadsTo 35 = .ok (.iload_n 2, 1) := by decide +kernel
theorem dX11_leadsTo_36 : decode cX11_leadsTo 36 = .ok (.invokestatic 298, 3) := by decide +kernel
theorem dX11_leadsTo_39 : decode cX11_leadsTo 39 = .ok (.if_icmp .ge 18, 3) := by decide +kernel
theorem dX11_leadsTo_42 : decode cX11_leadsTo 42 = .ok (.aload 6, 2) := by decide +kernel
theorem dX11_leadsTo_44 : decode cX11_leadsTo 44 = .ok (.ldc2_w 301, 3) := by decide +kernel
theorem dX11_leadsTo_47 : decode cX11_leadsTo 47 = .ok (.iconst 0, 1) := by decide +kernel
theorem dX11_leadsTo_48 : decode cX11_leadsTo 48 = .ok (.invokevirtual 287, 3) := by decide +kernel
theorem dX11_leadsTo_51 : decode cX11_leadsTo 51 = .ok (.iinc 7 1, 3) := by decide +kernel
theorem dX11_leadsTo_54 : decode cX11_leadsTo 54 = .ok (.goto (-21), 3) := by decide +kernel
theorem dX11_leadsTo_57 : decode cX11_leadsTo 57 = .ok (.aload_n 0, 1) := by decide +kernel
theorem dX11_leadsTo_58 : decode cX11_leadsTo 58 = .ok (.ldc2_w 133, 3) := by decide +kernel
theorem dX11_leadsTo_61 : decode cX11_leadsTo 61 = .ok (.iload_n 3, 1) := by decide +kernel
theorem dX11_leadsTo_62 : decode cX11_leadsTo 62 = .ok (.lload 4, 2) := by decide +kernel
theorem dX11_leadsTo_64 : decode cX11_leadsTo 64 = .ok (.invokestatic 116, 3) := by decide +kernel
theorem dX11_leadsTo_67 : decode cX11_leadsTo 67 = .ok (.lmul, 1) := by decide +kernel
theorem dX11_leadsTo_68 : decode cX11_leadsTo 68 = .ok (.lconst 1, 1) := by decide +kernel
theorem dX11_leadsTo_69 : decode cX11_leadsTo 69 = .ok (.ladd, 1) := by decide +kernel
theorem dX11_leadsTo_70 : decode cX11_leadsTo 70 = .ok (.iload_n 3, 1) := by decide +kernel
theorem dX11_leadsTo_71 : decode cX11_leadsTo 71 = .ok (.lload 4, 2) := by decide +kernel
theorem dX11_leadsTo_73 : decode cX11_leadsTo 73 = .ok (.invokestatic 120, 3) := by decide +kernel
theorem dX11_leadsTo_76 : decode cX11_leadsTo 76 = .ok (.iconst 1, 1) := by decide +kernel
theorem dX11_leadsTo_77 : decode cX11_leadsTo 77 = .ok (.isub, 1) := by decide +kernel
theorem dX11_leadsTo_78 : decode cX11_leadsTo 78 = .ok (.invokevirtual 124, 3) := by decide +kernel
theorem dX11_leadsTo_81 : decode cX11_leadsTo 81 = .ok (.istore 7, 2) := by decide +kernel
theorem dX11_leadsTo_83 : decode cX11_leadsTo 83 = .ok (.iload 7, 2) := by decide +kernel
theorem dX11_leadsTo_85 : decode cX11_leadsTo 85 = .ok (.ifCond .gt 23, 3) := by decide +kernel
theorem dX11_leadsTo_88 : decode cX11_leadsTo 88 = .ok (.iload 7, 2) := by decide +kernel
theorem dX11_leadsTo_90 : decode cX11_leadsTo 90 = .ok (.ifCond .ne 20, 3) := by decide +kernel
theorem dX11_leadsTo_93 : decode cX11_leadsTo 93 = .ok (.iload_n 3, 1) := by decide +kernel
theorem dX11_leadsTo_94 : decode cX11_leadsTo 94 = .ok (.lload 4, 2) := by decide +kernel
theorem dX11_leadsTo_96 : decode cX11_leadsTo 96 = .ok (.invokestatic 116, 3) := by decide +kernel
theorem dX11_leadsTo_99 : decode cX11_leadsTo 99 = .ok (.ldc2_w 133, 3) := by decide +kernel
theorem dX11_leadsTo_102 : decode cX11_leadsTo 102 = .ok (.lrem, 1) := by decide +kernel
theorem dX11_leadsTo_103 : decode cX11_leadsTo 103 = .ok (.lconst 1, 1) := by decide +kernel
theorem dX11_leadsTo_104 : decode cX11_leadsTo 104 = .ok (.lcmp, 1) := by decide +kernel
theorem dX11_leadsTo_105 : decode cX11_leadsTo 105 = .ok (.ifCond .ne 5, 3) := by decide +kernel
theorem dX11_leadsTo_108 : decode cX11_leadsTo 108 = .ok (.iconst 0, 1) := by decide +kernel
theorem dX11_leadsTo_109 : decode cX11_leadsTo 109 = .ok (.ireturn, 1) := by decide +kernel
theorem dX11_leadsTo_110 : decode cX11_leadsTo 110 = .ok (.aload_n 0, 1) := by decide +kernel
theorem dX11_leadsTo_111 : decode cX11_leadsTo 111 = .ok (.ldc2_w 133, 3) := by decide +kernel
theorem dX11_leadsTo_114 : decode cX11_leadsTo 114 = .ok (.iload_n 3, 1) := by decide +kernel
theorem dX11_leadsTo_115 : decode cX11_leadsTo 115 = .ok (.lload 4, 2) := by decide +kernel
theorem dX11_leadsTo_117 : decode cX11_leadsTo 117 = .ok (.lconst 1, 1) := by decide +kernel
theorem dX11_leadsTo_118 : decode cX11_leadsTo 118 = .ok (.lsub, 1) := by decide +kernel
theorem dX11_leadsTo_119 : decode cX11_leadsTo 119 = .ok (.invokestatic 116, 3) := by decide +kernel
theorem dX11_leadsTo_122 : decode cX11_leadsTo 122 = .ok (.lmul, 1) := by decide +kernel
theorem dX11_leadsTo_123 : decode cX11_leadsTo 123 = .ok (.lconst 1, 1) := by decide +kernel
theorem dX11_leadsTo_124 : decode cX11_leadsTo 124 = .ok (.ladd, 1) := by decide +kernel
theorem dX11_leadsTo_125 : decode cX11_leadsTo 125 = .ok (.iload_n 3, 1) := by decide +kernel
theorem dX11_leadsTo_126 : decode cX11_leadsTo 126 = .ok (.lload 4, 2) := by decide +kernel
theorem dX11_leadsTo_128 : decode cX11_leadsTo 128 = .ok (.lconst 1, 1) := by decide +kernel
theorem dX11_leadsTo_129 : decode cX11_leadsTo 129 = .ok (.lsub, 1) := by decide +kernel
theorem dX11_leadsTo_130 : decode cX11_leadsTo 130 = .ok (.invokestatic 120, 3) := by decide +kernel
theorem dX11_leadsTo_133 : decode cX11_leadsTo 133 = .ok (.iconst 1, 1) := by decide +kernel
theorem dX11_leadsTo_134 : decode cX11_leadsTo 134 = .ok (.isub, 1) := by decide +kernel
theorem dX11_leadsTo_135 : decode cX11_leadsTo 135 = .ok (.invokevirtual 124, 3) := by decide +kernel
theorem dX11_leadsTo_138 : decode cX11_leadsTo 138 = .ok (.istore 7, 2) := by decide +kernel
theorem dX11_leadsTo_140 : decode cX11_leadsTo 140 = .ok (.iload 7, 2) := by decide +kernel
theorem dX11_leadsTo_142 : decode cX11_leadsTo 142 = .ok (.ifCond .gt 25, 3) := by decide +kernel
theorem dX11_leadsTo_145 : decode cX11_leadsTo 145 = .ok (.iload 7, 2) := by decide +kernel
theorem dX11_leadsTo_147 : decode cX11_leadsTo 147 = .ok (.ifCond .ne 24, 3) := by decide +kernel
theorem dX11_leadsTo_150 : decode cX11_leadsTo 150 = .ok (.iload_n 3, 1) := by decide +kernel
theorem dX11_leadsTo_151 : decode cX11_leadsTo 151 = .ok (.lload 4, 2) := by decide +kernel
theorem dX11_leadsTo_153 : decode cX11_leadsTo 153 = .ok (.lconst 1, 1) := by decide +kernel
theorem dX11_leadsTo_154 : decode cX11_leadsTo 154 = .ok (.lsub, 1) := by decide +kernel
theorem dX11_leadsTo_155 : decode cX11_leadsTo 155 = .ok (.invokestatic 116, 3) := by decide +kernel
theorem dX11_leadsTo_158 : decode cX11_leadsTo 158 = .ok (.ldc2_w 133, 3) := by decide +kernel
theorem dX11_leadsTo_161 : decode cX11_leadsTo 161 = .ok (.lrem, 1) := by decide +kernel
theorem dX11_leadsTo_162 : decode cX11_leadsTo 162 = .ok (.lconst 1, 1) := by decide +kernel
theorem dX11_leadsTo_163 : decode cX11_leadsTo 163 = .ok (.lcmp, 1) := by decide +kernel
theorem dX11_leadsTo_164 : decode cX11_leadsTo 164 = .ok (.ifCond .ne 7, 3) := by decide +kernel
theorem dX11_leadsTo_167 : decode cX11_leadsTo 167 = .ok (.iconst 1, 1) := by decide +kernel
theorem dX11_leadsTo_168 : decode cX11_leadsTo 168 = .ok (.goto 4, 3) := by decide +kernel
theorem dX11_leadsTo_171 : decode cX11_leadsTo 171 = .ok (.iconst 0, 1) := by decide +kernel
theorem dX11_leadsTo_172 : decode cX11_leadsTo 172 = .ok (.ireturn, 1) := by decide +kernel
theorem dX11_shorten_0 : decode cX11_shorten 0 = .ok (.aload_n 0, 1) := by decide +kernel
theorem dX11_shorten_1 : decode cX11_shorten 1 = .ok (.invokevirtual 345, 3) := by decide +kernel
theorem dX11_shorten_4 : decode cX11_shorten 4 = .ok (.aload_n 0, 1) := by decide +kernel
theorem dX11_shorten_5 : decode cX11_shorten 5 = .ok (.getfield 168, 3) := by decide +kernel
theorem dX11_shorten_8 : decode cX11_shorten 8 = .ok (.lconst 0, 1) := by decide +kernel
theorem dX11_shorten_9 : decode cX11_shorten 9 = .ok (.invokevirtual 56, 3) := by decide +kernel
theorem dX11_shorten_12 : decode cX11_shorten 12 = .ok (.iconst 0, 1) := by decide +kernel
theorem dX11_shorten_13 : decode cX11_shorten 13 = .ok (.istore 4, 2) := by decide +kernel
theorem dX11_shorten_15 : decode cX11_shorten 15 = .ok (.aload_n 0, 1) := by decide +kernel
theorem dX11_shorten_16 : decode cX11_shorten 16 = .ok (.getfield 168, 3) := by decide +kernel
theorem dX11_shorten_19 : decode cX11_shorten 19 = .ok (.ldc2_w 301, 3) := by decide +kernel
theorem dX11_shorten_22 : decode cX11_shorten 22 = .ok (.aload_n 0, 1) := by decide +kernel
theorem dX11_shorten_23 : decode cX11_shorten 23 = .ok (.invokevirtual 348, 3) := by decide +kernel
theorem dX11_shorten_26 : decode cX11_shorten 26 = .ok (.invokevirtual 287, 3) := by decide +kernel
theorem dX11_shorten_29 : decode cX11_shorten 29 = .ok (.iinc 4 1, 3) := by decide +kernel
theorem dX11_shorten_32 : decode cX11_shorten 32 = .ok (.aload_n 0, 1) := by decide +kernel
theorem dX11_shorten_33 : decode cX11_shorten 33 = .ok (.getfield 171, 3) := by decide +kernel
theorem dX11_shorten_36 : decode cX11_shorten 36 = .ok (.aload_n 0, 1) := by decide +kernel
theorem dX11_shorten_37 : decode cX11_shorten 37 = .ok (.getfield 168, 3) := by decide +kernel
theorem dX11_shorten_40 : decode cX11_shorten 40 = .ok (.invokevirtual 74, 3) := by decide +kernel
theorem dX11_shorten_43 : decode cX11_shorten 43 = .ok (.aload_n 0, 1) := by decide +kernel
theorem dX11_shorten_44 : decode cX11_shorten 44 = .ok (.getfield 171, 3) := by decide +kernel
theorem dX11_shorten_47 : decode cX11_shorten 47 = .ok (.iconst 1, 1) := by decide +kernel
theorem dX11_shorten_48 : decode cX11_shorten 48 = .ok (.invokevirtual 223, 3) := by decide +kernel
theorem dX11_shorten_51 : decode cX11_shorten 51 = .ok (.aload_n 0, 1) := by decide +kernel
theorem dX11_shorten_52 : decode cX11_shorten 52 = .ok (.getfield 342, 3) := by decide +kernel
theorem dX11_shorten_55 : decode cX11_shorten 55 = .ok (.iload 4, 2) := by decide +kernel
theorem dX11_shorten_57 : decode cX11_shorten 57 = .ok (.isub, 1) := by decide +kernel
theorem dX11_shorten_58 : decode cX11_shorten 58 = .ok (.iconst 1, 1) := by decide +kernel
theorem dX11_shorten_59 : decode cX11_shorten 59 = .ok (.iadd, 1) := by decide +kernel
theorem dX11_shorten_60 : decode cX11_shorten 60 = .ok (.istore 5, 2) := by decide +kernel
theorem dX11_shorten_62 : decode cX11_shorten 62 = .ok (.aload_n 0, 1) := by decide +kernel
theorem dX11_shorten_63 : decode cX11_shorten 63 = .ok (.aload_n 0, 1) := by decide +kernel
theorem dX11_shorten_64 : decode cX11_shorten 64 = .ok (.getfield 168, 3) := by decide +kernel
theorem dX11_shorten_67 : decode cX11_shorten 67 = .ok (.iload 5, 2) := by decide +kernel
theorem dX11_shorten_69 : decode cX11_shorten 69 = .ok (.iload_n 1, 1) := by decide +kernel
theorem dX11_shorten_70 : decode cX11_shorten 70 = .ok (.lload_n 2, 1) := by decide +kernel
theorem dX11_shorten_71 : decode cX11_shorten 71 = .ok (.invokevirtual 351, 3) := by decide +kernel
theorem dX11_shorten_74 : decode cX11_shorten 74 = .ok (.istore 6, 2) := by decide +kernel
theorem dX11_shorten_76 : decode cX11_shorten 76 = .ok (.aload_n 0, 1) := by decide +kernel
theorem dX11_shorten_77 : decode cX11_shorten 77 = .ok (.aload_n 0, 1) := by decide +kernel
theorem dX11_shorten_78 : decode cX11_shorten 78 = .ok (.getfield 171, 3) := by decide +kernel
theorem dX11_shorten_81 : decode cX11_shorten 81 = .ok (.iload 5, 2) := by decide +kernel
theorem dX11_shorten_83 : decode cX11_shorten 83 = .ok (.iload_n 1, 1) := by decide +kernel
theorem dX11_shorten_84 : decode cX11_shorten 84 = .ok (.lload_n 2, 1) := by decide +kernel
theorem dX11_shorten_85 : decode cX11_shorten 85 = .ok (.invokevirtual 351, 3) := by decide +kernel
theorem dX11_shorten_88 : decode cX11_shorten 88 = .ok (.istore 7, 2) := by decide +kernel
theorem dX11_shorten_90 : decode cX11_shorten 90 = .ok (.iload 6, 2) := by decide +kernel
theorem dX11_shorten_92 : decode cX11_shorten 92 = .ok (.ifCond .ne 8, 3) := by decide +kernel
theorem dX11_shorten_95 : decode cX11_shorten 95 = .ok (.iload 7, 2) := by decide +kernel
theorem dX11_shorten_97 : decode cX11_shorten 97 = .ok (.ifCond .eq 128, 3) := by decide +kernel
theorem dX11_shorten_100 : decode cX11_shorten 100 = .ok (.aload_n 0, 1) := by decide +kernel
theorem dX11_shorten_101 : decode cX11_shorten 101 = .ok (.getfield 71, 3) := by decide +kernel
theorem dX11_shorten_104 : decode cX11_shorten 104 = .ok (.aload_n 0, 1) := by decide +kernel
theorem dX11_shorten_105 : decode cX11_shorten 105 = .ok (.getfield 162, 3) := by decide +kernel
theorem dX11_shorten_108 : decode cX11_shorten 108 = .ok (.invokevirtual 74, 3) := by decide +kernel
theorem dX11_shorten_111 : decode cX11_shorten 111 = .ok (.aload_n 0, 1) := by decide +kernel
theorem dX11_shorten_112 : decode cX11_shorten 112 = .ok (.getfield 71, 3) := by decide +kernel
theorem dX11_shorten_115 : decode cX11_shorten 115 = .ok (.aload_n 0, 1) := by decide +kernel
theorem dX11_shorten_116 : decode cX11_shorten 116 = .ok (.getfield 162, 3) := by decide +kernel
theorem dX11_shorten_119 : decode cX11_shorten 119 = .ok (.invokevirtual 239, 3) := by decide +kernel
theorem dX11_shorten_122 : decode cX11_shorten 122 = .ok (.iload 7, 2) := by decide +kernel
theorem dX11_shorten_124 : decode cX11_shorten 124 = .ok (.ifCond .eq 26, 3) := by decide +kernel
theorem dX11_shorten_127 : decode cX11_shorten 127 = .ok (.iload 6, 2) := by decide +kernel
theorem dX11_shorten_129 : decode cX11_shorten 129 = .ok (.ifCond .eq 17, 3) := by decide +kernel
theorem dX11_shorten_132 : decode cX11_shorten 132 = .ok (.aload_n 0, 1) := by decide +kernel
theorem dX11_shorten_133 : decode cX11_shorten 133 = .ok (.getfield 71, 3) := by decide +kernel
theorem dX11_shorten_136 : decode cX11_shorten 136 = .ok (.aload_n 0, 1) := by decide +kernel
theorem dX11_shorten_137 : decode cX11_shorten 137 = .ok (.getfield 165, 3) := by decide +kernel
theorem dX11_shorten_140 : decode cX11_shorten 140 = .ok (.invokevirtual 96, 3) := by decide +kernel
theorem dX11_shorten_143 : decode cX11_shorten 143 = .ok (.ifCond .le 7, 3) := by decide +kernel
theorem dX11_shorten_146 : decode cX11_shorten 146 = .ok (.iconst 1, 1) := by decide +kernel
theorem dX11_shorten_147 : decode cX11_shorten 147 = .ok (.goto 4, 3) := by decide +kernel
theorem dX11_shorten_150 : decode cX11_shorten 150 = .ok (.iconst 0, 1) := by decide +kernel
theorem dX11_shorten_151 : decode cX11_shorten 151 = .ok (.istore 8, 2) := by decide +kernel
theorem dX11_shorten_153 : decode cX11_shorten 153 = .ok (.aload_n 0, 1) := by decide +kernel
theorem dX11_shorten_154 : decode cX11_shorten 154 = .ok (.iload 8, 2) := by decide +kernel
theorem dX11_shorten_156 : decode cX11_shorten 156 = .ok (.ifCond .eq 10, 3) := by decide +kernel
theorem dX11_shorten_159 : decode cX11_shorten 159 = .ok (.aload_n 0, 1) := by decide +kernel
theorem dX11_shorten_160 : decode cX11_shorten 160 = .ok (.getfield 171, 3) := by decide +kernel
theorem dX11_shorten_163 : decode cX11_shorten 163 = .ok (.goto 7, 3) := by decide +kernel
theorem dX11_shorten_166 : decode cX11_shorten 166 = .ok (.aload_n 0, 1) := by decide +kernel
theorem dX11_shorten_167 : decode cX11_shorten 167 = .ok (.getfield 168, 3) := by decide +kernel
theorem dX11_shorten_170 : decode cX11_shorten 170 = .ok (.invokevirtual 355, 3) := by decide +kernel
theorem dX11_shorten_173 : decode cX11_shorten 173 = .ok (.aload_n 0, 1) := by decide +kernel
theorem dX11_shorten_174 : decode cX11_shorten 174 = .ok (.iload 5, 2) := by decide +kernel
theorem dX11_shorten_176 : decode cX11_shorten 176 = .ok (.putfield 336, 3) := by decide +kernel
theorem dX11_shorten_179 : decode cX11_shorten 179 = .ok (.aload_n 0, 1) := by decide +kernel
theorem dX11_shorten_180 : decode cX11_shorten 180 = .ok (.getfield 333, 3) := by decide +kernel
theorem dX11_shorten_183 : decode cX11_shorten 183 = .ok (.iconst 1, 1) := by decide +kernel
theorem dX11_shorten_184 : decode cX11_shorten 184 = .ok (.if_icmp .le 40, 3) := by decide +kernel
theorem dX11_shorten_187 : decode cX11_shorten 187 = .ok (.aload_n 0, 1) := by decide +kernel
theorem dX11_shorten_188 : decode cX11_shorten 188 = .ok (.getfield 159, 3) := by decide +kernel
theorem dX11_shorten_191 : decode cX11_shorten 191 = .ok (.aload_n 0, 1) := by decide +kernel
theorem dX11_shorten_192 : decode cX11_shorten 192 = .ok (.getfield 333, 3) := by decide +kernel
theorem dX11_shorten_195 : decode cX11_shorten 195 = .ok (.iconst 1, 1) := by decide +kernel
theorem dX11_shorten_196 : decode cX11_shorten 196 = .ok (.isub, 1) := by decide +kernel
theorem dX11_shorten_197 : decode cX11_shorten 197 = .ok (.iaload, 1) := by decide +kernel
theorem dX11_shorten_198 : decode cX11_shorten 198 = .ok (.ifCond .ne 26, 3) := by decide +kernel
theorem dX11_shorten_201 : decode cX11_shorten 201 = .ok (.aload_n 0, 1) := by decide +kernel
theorem dX11_shorten_202 : decode cX11_shorten 202 = .ok (.dup, 1) := by decide +kernel
theorem dX11_shorten_203 : decode cX11_shorten 203 = .ok (.getfield 333, 3) := by decide +kernel
theorem dX11_shorten_206 : decode cX11_shorten 206 = .ok (.iconst 1, 1) := by decide +kernel
theorem dX11_shorten_207 : decode cX11_shorten 207 = .ok (.isub, 1) := by decide +kernel
theorem dX11_shorten_208 : decode cX11_shorten 208 = .ok (.putfield 333, 3) := by decide +kernel
theorem dX11_shorten_211 : decode cX11_shorten 211 = .ok (.aload_n 0, 1) := by decide +kernel
theorem dX11_shorten_212 : decode cX11_shorten 212 = .ok (.dup, 1) := by decide +kernel
theorem dX11_shorten_213 : decode cX11_shorten 213 = .ok (.getfield 336, 3) := by decide +kernel
theorem dX11_shorten_216 : decode cX11_shorten 216 = .ok (.iconst 1, 1) := by decide +kernel
theorem dX11_shorten_217 : decode cX11_shorten 217 = .ok (.iadd, 1) := by decide +kernel
theorem dX11_shorten_218 : decode cX11_shorten 218 = .ok (.putfield 336, 3) := by decide +kernel
theorem dX11_shorten_221 : decode cX11_shorten 221 = .ok (.goto (-42), 3) := by decide +kernel
theorem dX11_shorten_224 : decode cX11_shorten 224 = .ok (.return_, 1) := by decide +kernel
theorem dX11_shorten_225 : decode cX11_shorten 225 = .ok (.aload_n 0, 1) := by decide +kernel
theorem dX11_shorten_226 : decode cX11_shorten 226 = .ok (.getfield 162, 3) := by decide +kernel
theorem dX11_shorten_229 : decode cX11_shorten 229 = .ok (.ldc2_w 301, 3) := by decide +kernel
theorem dX11_shorten_232 : decode cX11_shorten 232 = .ok (.iconst 0, 1) := by decide +kernel
theorem dX11_shorten_233 : decode cX11_shorten 233 = .ok (.invokevirtual 287, 3) := by decide +kernel
theorem dX11_shorten_236 : decode cX11_shorten 236 = .ok (.goto (-221), 3) := by decide +kernel
theorem dX11_putFixed_0 : decode cX11_putFixed 0 = .ok (.aload_n 0, 1) := by decide +kernel
theorem dX11_putFixed_1 : decode cX11_putFixed 1 = .ok (.getfield 71, 3) := by decide +kernel
theorem dX11_putFixed_4 : decode cX11_putFixed 4 = .ok (.aload_n 0, 1) := by decide +kernel
theorem dX11_putFixed_5 : decode cX11_putFixed 5 = .ok (.getfield 28, 3) := by decide +kernel
theorem dX11_putFixed_8 : decode cX11_putFixed 8 = .ok (.invokevirtual 56, 3) := by decide +kernel
theorem dX11_putFixed_11 : decode cX11_putFixed 11 = .ok (.iconst 0, 1) := by decide +kernel
theorem dX11_putFixed_12 : decode cX11_putFixed 12 = .ok (.istore_n 3, 1) := by decide +kernel
theorem dX11_putFixed_13 : decode cX11_putFixed 13 = .ok (.iload_n 3, 1) := by decide +kernel
theorem dX11_putFixed_14 : decode cX11_putFixed 14 = .ok (.iload_n 1, 1) := by decide +kernel
theorem dX11_putFixed_15 : decode cX11_putFixed 15 = .ok (.if_icmp .ge 20, 3) := by decide +kernel
theorem dX11_putFixed_18 : decode cX11_putFixed 18 = .ok (.aload_n 0, 1) := by decide +kernel
theorem dX11_putFixed_19 : decode cX11_putFixed 19 = .ok (.getfield 71, 3) := by decide +kernel
theorem dX11_putFixed_22 : decode cX11_putFixed 22 = .ok (.ldc2_w 301, 3) := by decide +kernel
theorem dX11_putFixed_25 : decode cX11_putFixed 25 = .ok (.iconst 0, 1) := by decide +kernel
theorem dX11_putFixed_26 : decode cX11_putFixed 26 = .ok (.invokevirtual 287, 3) := by decide +kernel
theorem dX11_putFixed_29 : decode cX11_putFixed 29 = .ok (.iinc 3 1, 3) := by decide +kernel
theorem dX11_putFixed_32 : decode cX11_putFixed 32 = .ok (.goto (-19), 3) := by decide +kernel
theorem dX11_putFixed_35 : decode cX11_putFixed 35 = .ok (.aload_n 0, 1) := by decide +kernel
theorem dX11_putFixed_36 : decode cX11_putFixed 36 = .ok (.getfield 35, 3) := by decide +kernel
theorem dX11_putFixed_39 : decode cX11_putFixed 39 = .ok (.ifCond .lt 17, 3) := by decide +kernel
theorem dX11_putFixed_42 : decode cX11_putFixed 42 = .ok (.aload_n 0, 1) := by decide +kernel
theorem dX11_putFixed_43 : decode cX11_putFixed 43 = .ok (.getfield 71, 3) := by decide +kernel
theorem dX11_putFixed_46 : decode cX11_putFixed 46 = .ok (.aload_n 0, 1) := by decide +kernel
theorem dX11_putFixed_47 : decode cX11_putFixed 47 = .ok (.getfield 35, 3) := by decide +kernel
theorem dX11_putFixed_50 : decode cX11_putFixed 50 = .ok (.invokevirtual 92, 3) := by decide +kernel
theorem dX11_putFixed_53 : decode cX11_putFixed 53 = .ok (.goto 53, 3) := by decide +kernel
theorem dX11_putFixed_56 : decode cX11_putFixed 56 = .ok (.aload_n 0, 1) := by decide +kernel
theorem dX11_putFixed_57 : decode cX11_putFixed 57 = .ok (.getfield 71, 3) := by decide +kernel
theorem dX11_putFixed_60 : decode cX11_putFixed 60 = .ok (.aload_n 0, 1) := by decide +kernel
theorem dX11_putFixed_61 : decode cX11_putFixed 61 = .ok (.getfield 35, 3) := by decide +kernel
theorem dX11_putFixed_64 : decode cX11_putFixed 64 = .ok (.ineg, 1) := by decide +kernel
theorem dX11_putFixed_65 : decode cX11_putFixed 65 = .ok (.invokevirtual 213, 3) := by decide +kernel
theorem dX11_putFixed_68 : decode cX11_putFixed 68 = .ok (.istore_n 3, 1) := by decide +kernel
theorem dX11_putFixed_69 : decode cX11_putFixed 69 = .ok (.iload_n 3, 1) := by decide +kernel
theorem dX11_putFixed_70 : decode cX11_putFixed 70 = .ok (.aload_n 0, 1) := by decide +kernel
theorem dX11_putFixed_71 : decode cX11_putFixed 71 = .ok (.getfield 71, 3) := by decide +kernel
theorem dX11_putFixed_74 : decode cX11_putFixed 74 = .ok (.iconst 0, 1) := by decide +kernel
theorem dX11_putFixed_75 : decode cX11_putFixed 75 = .ok (.invokevirtual 216, 3) := by decide +kernel
theorem dX11_putFixed_78 : decode cX11_putFixed 78 = .ok (.iconst 1, 1) := by decide +kernel
theorem dX11_putFixed_79 : decode cX11_putFixed 79 = .ok (.if_icmp .ne 7, 3) := by decide +kernel
theorem dX11_putFixed_82 : decode cX11_putFixed 82 = .ok (.iconst 1, 1) := by decide +kernel
theorem dX11_putFixed_83 : decode cX11_putFixed 83 = .ok (.goto 4, 3) := by decide +kernel
theorem dX11_putFixed_86 : decode cX11_putFixed 86 = .ok (.iconst 0, 1) := by decide +kernel
theorem dX11_putFixed_87 : decode cX11_putFixed 87 = .ok (.iload_n 2, 1) := by decide +kernel
theorem dX11_putFixed_88 : decode cX11_putFixed 88 = .ok (.aload_n 0, 1) := by decide +kernel
theorem dX11_putFixed_89 : decode cX11_putFixed 89 = .ok (.getfield 19, 3) := by decide +kernel
theorem dX11_putFixed_92 : decode cX11_putFixed 92 = .ok (.invokestatic 219, 3) := by decide +kernel
theorem dX11_putFixed_95 : decode cX11_putFixed 95 = .ok (.ifCond .eq 11, 3) := by decide +kernel
theorem dX11_putFixed_98 : decode cX11_putFixed 98 = .ok (.aload_n 0, 1) := by decide +kernel
theorem dX11_putFixed_99 : decode cX11_putFixed 99 = .ok (.getfield 71, 3) := by decide +kernel
theorem dX11_putFixed_102 : decode cX11_putFixed 102 = .ok (.iconst 1, 1) := by decide +kernel
theorem dX11_putFixed_103 : decode cX11_putFixed 103 = .ok (.invokevirtual 223, 3) := by decide +kernel
theorem dX11_putFixed_106 : decode cX11_putFixed 106 = .ok (.aload_n 0, 1) := by decide +kernel
theorem dX11_putFixed_107 : decode cX11_putFixed 107 = .ok (.getfield 168, 3) := by decide +kernel
theorem dX11_putFixed_110 : decode cX11_putFixed 110 = .ok (.aload_n 0, 1) := by decide +kernel
theorem dX11_putFixed_111 : decode cX11_putFixed 111 = .ok (.getfield 71, 3) := by decide +kernel
theorem dX11_putFixed_114 : decode cX11_putFixed 114 = .ok (.invokevirtual 74, 3) := by decide +kernel
theorem dX11_putFixed_117 : decode cX11_putFixed 117 = .ok (.aload_n 0, 1) := by decide +kernel
theorem dX11_putFixed_118 : decode cX11_putFixed 118 = .ok (.aload_n 0, 1) := by decide +kernel
theorem dX11_putFixed_119 : decode cX11_putFixed 119 = .ok (.getfield 168, 3) := by decide +kernel
theorem dX11_putFixed_122 : decode cX11_putFixed 122 = .ok (.invokevirtual 355, 3) := by decide +kernel
theorem dX11_putFixed_125 : decode cX11_putFixed 125 = .ok (.aload_n 0, 1) := by decide +kernel
theorem dX11_putFixed_126 : decode cX11_putFixed 126 = .ok (.getfield 333, 3) := by decide +kernel
theorem dX11_putFixed_129 : decode cX11_putFixed 129 = .ok (.iload_n 1, 1) := by decide +kernel
theorem dX11_putFixed_130 : decode cX11_putFixed 130 = .ok (.iconst 1, 1) := by decide +kernel
theorem dX11_putFixed_131 : decode cX11_putFixed 131 = .ok (.iadd, 1) := by decide +kernel
theorem dX11_putFixed_132 : decode cX11_putFixed 132 = .ok (.invokestatic 358, 3) := by decide +kernel
theorem dX11_putFixed_135 : decode cX11_putFixed 135 = .ok (.istore_n 3, 1) := by decide +kernel
theorem dX11_putFixed_136 : decode cX11_putFixed 136 = .ok (.iload_n 3, 1) := by decide +kernel
theorem dX11_putFixed_137 : decode cX11_putFixed 137 = .ok (.ifCond .le 57, 3) := by decide +kernel
theorem dX11_putFixed_140 : decode cX11_putFixed 140 = .ok (.aload_n 0, 1) := by decide +kernel
theorem dX11_putFixed_141 : decode cX11_putFixed 141 = .ok (.iload_n 3, 1) := by decide +kernel
theorem dX11_putFixed_142 : decode cX11_putFixed 142 = .ok (.aload_n 0, 1) := by decide +kernel
theorem dX11_putFixed_143 : decode cX11_putFixed 143 = .ok (.getfield 333, 3) := by decide +kernel
theorem dX11_putFixed_146 : decode cX11_putFixed 146 = .ok (.if_icmp .le 8, 3) := by decide +kernel
theorem dX11_putFixed_149 : decode cX11_putFixed 149 = .ok (.bipush 48, 2) := by decide +kernel
theorem dX11_putFixed_151 : decode cX11_putFixed 151 = .ok (.goto 17, 3) := by decide +kernel
theorem dX11_putFixed_154 : decode cX11_putFixed 154 = .ok (.bipush 48, 2) := by decide +kernel
theorem dX11_putFixed_156 : decode cX11_putFixed 156 = .ok (.aload_n 0, 1) := by decide +kernel
theorem dX11_putFixed_157 : decode cX11_putFixed 157 = .ok (.getfield 159, 3) := by decide +kernel
theorem dX11_putFixed_160 : decode cX11_putFixed 160 = .ok (.aload_n 0, 1) := by decide +kernel
theorem dX11_putFixed_161 : decode cX11_putFixed 161 = .ok (.getfield 333, 3) := by decide +kernel
theorem dX11_putFixed_164 : decode cX11_putFixed 164 = .ok (.iload_n 3, 1) := by decide +kernel
theorem dX11_putFixed_165 : decode cX11_putFixed 165 = .ok (.isub, 1) := by decide +kernel
theorem dX11_putFixed_166 : decode cX11_putFixed 166 = .ok (.iaload, 1) := by decide +kernel
theorem dX11_putFixed_167 : decode cX11_putFixed 167 = .ok (.iadd, 1) := by decide +kernel
theorem dX11_putFixed_168 : decode cX11_putFixed 168 = .ok (.invokevirtual 328, 3) := by decide +kernel
theorem dX11_putFixed_171 : decode cX11_putFixed 171 = .ok (.iload_n 3, 1) := by decide +kernel
theorem dX11_putFixed_172 : decode cX11_putFixed 172 = .ok (.iload_n 1, 1) := by decide +kernel
theorem dX11_putFixed_173 : decode cX11_putFixed 173 = .ok (.iconst 1, 1) := by decide +kernel
theorem dX11_putFixed_174 : decode cX11_putFixed 174 = .ok (.iadd, 1) := by decide +kernel
theorem dX11_putFixed_175 : decode cX11_putFixed 175 = .ok (.if_icmp .ne 13, 3) := by decide +kernel
theorem dX11_putFixed_178 : decode cX11_putFixed 178 = .ok (.iload_n 1, 1) := by decide +kernel
theorem dX11_putFixed_179 : decode cX11_putFixed 179 = .ok (.ifCond .le 9, 3) := by decide +kernel
theorem dX11_putFixed_182 : decode cX11_putFixed 182 = .ok (.aload_n 0, 1) := by decide +kernel
theorem dX11_putFixed_183 : decode cX11_putFixed 183 = .ok (.bipush 46, 2) := by decide +kernel
theorem dX11_putFixed_185 : decode cX11_putFixed 185 = .ok (.invokevirtual 328, 3) := by decide +kernel
theorem dX11_putFixed_188 : decode cX11_putFixed 188 = .ok (.iinc 3 (-1), 3) := by decide +kernel
theorem dX11_putFixed_191 : decode cX11_putFixed 191 = .ok (.goto (-55), 3) := by decide +kernel
theorem dX11_putFixed_194 : decode cX11_putFixed 194 = .ok (.return_, 1) := by decide +kernel
theorem dX11_putRounded_0 : decode cX11_putRounded 0 = .ok (.aload_n 0, 1) := by decide +kernel
theorem dX11_putRounded_1 : decode cX11_putRounded 1 = .ok (.invokevirtual 345, 3) := by decide +kernel
theorem dX11_putRounded_4 : decode cX11_putRounded 4 = .ok (.aload_n 0, 1) := by decide +kernel
theorem dX11_putRounded_5 : decode cX11_putRounded 5 = .ok (.getfield 168, 3) := by decide +kernel
theorem dX11_putRounded_8 : decode cX11_putRounded 8 = .ok (.lconst 0, 1) := by decide +kernel
theorem dX11_putRounded_9 : decode cX11_putRounded 9 = .ok (.invokevirtual 56, 3) := by decide +kernel
theorem dX11_putRounded_12 : decode cX11_putRounded 12 = .ok (.iconst 0, 1) := by decide +kernel
theorem dX11_putRounded_13 : decode cX11_putRounded 13 = .ok (.istore_n 3, 1) := by decide +kernel
theorem dX11_putRounded_14 : decode cX11_putRounded 14 = .ok (.iload_n 3, 1) := by decide +kernel
theorem dX11_putRounded_15 : decode cX11_putRounded 15 = .ok (.iload_n 1, 1) := by decide +kernel
theorem dX11_putRounded_16 : decode cX11_putRounded 16 = .ok (.if_icmp .ge 38, 3) := by decide +kernel
theorem dX11_putRounded_19 : decode cX11_putRounded 19 = .ok (.iload_n 3, 1) := by decide +kernel
theorem dX11_putRounded_20 : decode cX11_putRounded 20 = .ok (.ifCond .le 14, 3) := by decide +kernel
theorem dX11_putRounded_23 : decode cX11_putRounded 23 = .ok (.aload_n 0, 1) := by decide +kernel
theorem dX11_putRounded_24 : decode cX11_putRounded 24 = .ok (.getfield 162, 3) := by decide +kernel
theorem dX11_putRounded_27 : decode cX11_putRounded 27 = .ok (.ldc2_w 301, 3) := by decide +kernel
theorem dX11_putRounded_30 : decode cX11_putRounded 30 = .ok (.iconst 0, 1) := by decide +kernel
theorem dX11_putRounded_31 : decode cX11_putRounded 31 = .ok (.invokevirtual 287, 3) := by decide +kernel
theorem dX11_putRounded_34 : decode cX11_putRounded 34 = .ok (.aload_n 0, 1) := by decide +kernel
theorem dX11_putRounded_35 : decode cX11_putRounded 35 = .ok (.getfield 168, 3) := by decide +kernel
theorem dX11_putRounded_38 : decode cX11_putRounded 38 = .ok (.ldc2_w 301, 3) := by decide +kernel
theorem dX11_putRounded_41 : decode cX11_putRounded 41 = .ok (.aload_n 0, 1) := by decide +kernel
theorem dX11_putRounded_42 : decode cX11_putRounded 42 = .ok (.invokevirtual 348, 3) := by decide +kernel
theorem dX11_putRounded_45 : decode cX11_putRounded 45 = .ok (.invokevirtual 287, 3) := by decide +kernel
theorem dX11_putRounded_48 : decode cX11_putRounded 48 = .ok (.iinc 3 1, 3) := by decide +kernel
theorem dX11_putRounded_51 : decode cX11_putRounded 51 = .ok (.goto (-37), 3) := by decide +kernel
theorem dX11_putRounded_54 : decode cX11_putRounded 54 = .ok (.aload_n 0, 1) := by decide +kernel
theorem dX11_putRounded_55 : decode cX11_putRounded 55 = .ok (.getfield 71, 3) := by decide +kernel
theorem dX11_putRounded_58 : decode cX11_putRounded 58 = .ok (.aload_n 0, 1) := by decide +kernel
theorem dX11_putRounded_59 : decode cX11_putRounded 59 = .ok (.getfield 162, 3) := by decide +kernel
theorem dX11_putRounded_62 : decode cX11_putRounded 62 = .ok (.invokevirtual 74, 3) := by decide +kernel
theorem dX11_putRounded_65 : decode cX11_putRounded 65 = .ok (.aload_n 0, 1) := by decide +kernel
theorem dX11_putRounded_66 : decode cX11_putRounded 66 = .ok (.getfield 71, 3) := by decide +kernel
theorem dX11_putRounded_69 : decode cX11_putRounded 69 = .ok (.aload_n 0, 1) := by decide +kernel
theorem dX11_putRounded_70 : decode cX11_putRounded 70 = .ok (.getfield 162, 3) := by decide +kernel
theorem dX11_putRounded_73 : decode cX11_putRounded 73 = .ok (.invokevirtual 239, 3) := by decide +kernel
theorem dX11_putRounded_76 : decode cX11_putRounded 76 = .ok (.aload_n 0, 1) := by decide +kernel
theorem dX11_putRounded_77 : decode cX11_putRounded 77 = .ok (.getfield 71, 3) := by decide +kernel
theorem dX11_putRounded_80 : decode cX11_putRounded 80 = .ok (.aload_n 0, 1) := by decide +kernel
theorem dX11_putRounded_81 : decode cX11_putRounded 81 = .ok (.getfield 165, 3) := by decide +kernel
theorem dX11_putRounded_84 : decode cX11_putRounded 84 = .ok (.invokevirtual 96, 3) := by decide +kernel
theorem dX11_putRounded_87 : decode cX11_putRounded 87 = .ok (.istore_n 3, 1) := by decide +kernel
theorem dX11_putRounded_88 : decode cX11_putRounded 88 = .ok (.aload_n 0, 1) := by decide +kernel
theorem dX11_putRounded_89 : decode cX11_putRounded 89 = .ok (.getfield 162, 3) := by decide +kernel
theorem dX11_putRounded_92 : decode cX11_putRounded 92 = .ok (.getfield 89, 3) := by decide +kernel
theorem dX11_putRounded_95 : decode cX11_putRounded 95 = .ok (.ifCond .ne 7, 3) := by decide +kernel
theorem dX11_putRounded_98 : decode cX11_putRounded 98 = .ok (.iconst 0, 1) := by decide +kernel
theorem dX11_putRounded_99 : decode cX11_putRounded 99 = .ok (.goto 20, 3) := by decide +kernel
theorem dX11_putRounded_102 : decode cX11_putRounded 102 = .ok (.iload_n 3, 1) := by decide +kernel
theorem dX11_putRounded_103 : decode cX11_putRounded 103 = .ok (.ifCond .ge 7, 3) := by decide +kernel
theorem dX11_putRounded_106 : decode cX11_putRounded 106 = .ok (.iconst 1, 1) := by decide +kernel
theorem dX11_putRounded_107 : decode cX11_putRounded 107 = .ok (.goto 12, 3) := by decide +kernel
theorem dX11_putRounded_110 : decode cX11_putRounded 110 = .ok (.iload_n 3, 1) := by decide +kernel
theorem dX11_putRounded_111 : decode cX11_putRounded 111 = .ok (.ifCond .ne 7, 3) := by decide +kernel
theorem dX11_putRounded_114 : decode cX11_putRounded 114 = .ok (.iconst 2, 1) := by decide +kernel
theorem dX11_putRounded_115 : decode cX11_putRounded 115 = .ok (.goto 4, 3) := by decide +kernel
theorem dX11_putRounded_118 : decode cX11_putRounded 118 = .ok (.iconst 3, 1) := by decide +kernel
theorem dX11_putRounded_119 : decode cX11_putRounded 119 = .ok (.istore 4, 2) := by decide +kernel
theorem dX11_putRounded_121 : decode cX11_putRounded 121 = .ok (.iload 4, 2) := by decide +kernel
theorem dX11_putRounded_123 : decode cX11_putRounded 123 = .ok (.aload_n 0, 1) := by decide +kernel
theorem dX11_putRounded_124 : decode cX11_putRounded 124 = .ok (.getfield 168, 3) := by decide +kernel
theorem dX11_putRounded_127 : decode cX11_putRounded 127 = .ok (.iconst 0, 1) := by decide +kernel
theorem dX11_putRounded_128 : decode cX11_putRounded 128 = .ok (.invokevirtual 216, 3) := by decide +kernel
theorem dX11_putRounded_131 : decode cX11_putRounded 131 = .ok (.iconst 1, 1) := by decide +kernel
theorem dX11_putRounded_132 : decode cX11_putRounded 132 = .ok (.if_icmp .ne 7, 3) := by decide +kernel
theorem dX11_putRounded_135 : decode cX11_putRounded 135 = .ok (.iconst 1, 1) := by decide +kernel
theorem dX11_putRounded_136 : decode cX11_putRounded 136 = .ok (.goto 4, 3) := by decide +kernel
theorem dX11_putRounded_139 : decode cX11_putRounded 139 = .ok (.iconst 0, 1) := by decide +kernel
theorem dX11_putRounded_140 : decode cX11_putRounded 140 = .ok (.iload_n 2, 1) := by decide +kernel
theorem dX11_putRounded_141 : decode cX11_putRounded 141 = .ok (.aload_n 0, 1) := by decide +kernel
theorem dX11_putRounded_142 : decode cX11_putRounded 142 = .ok (.getfield 19, 3) := by decide +kernel
theorem dX11_putRounded_145 : decode cX11_putRounded 145 = .ok (.invokestatic 219, 3) := by decide +kernel
theorem dX11_putRounded_148 : decode cX11_putRounded 148 = .ok (.ifCond .eq 11, 3) := by decide +kernel
theorem dX11_putRounded_151 : decode cX11_putRounded 151 = .ok (.aload_n 0, 1) := by decide +kernel
theorem dX11_putRounded_152 : decode cX11_putRounded 152 = .ok (.getfield 168, 3) := by decide +kernel
theorem dX11_putRounded_155 : decode cX11_putRounded 155 = .ok (.iconst 1, 1) := by decide +kernel
theorem dX11_putRounded_156 : decode cX11_putRounded 156 = .ok (.invokevirtual 223, 3) := by decide +kernel
theorem dX11_putRounded_159 : decode cX11_putRounded 159 = .ok (.aload_n 0, 1) := by decide +kernel
theorem dX11_putRounded_160 : decode cX11_putRounded 160 = .ok (.aload_n 0, 1) := by decide +kernel
theorem dX11_putRounded_161 : decode cX11_putRounded 161 = .ok (.getfield 168, 3) := by decide +kernel
theorem dX11_putRounded_164 : decode cX11_putRounded 164 = .ok (.invokevirtual 355, 3) := by decide +kernel
theorem dX11_putRounded_167 : decode cX11_putRounded 167 = .ok (.aload_n 0, 1) := by decide +kernel
theorem dX11_putRounded_168 : decode cX11_putRounded 168 = .ok (.aload_n 0, 1) := by decide +kernel
theorem dX11_putRounded_169 : decode cX11_putRounded 169 = .ok (.getfield 342, 3) := by decide +kernel
theorem dX11_putRounded_172 : decode cX11_putRounded 172 = .ok (.iload_n 1, 1) := by decide +kernel
theorem dX11_putRounded_173 : decode cX11_putRounded 173 = .ok (.isub, 1) := by decide +kernel
theorem dX11_putRounded_174 : decode cX11_putRounded 174 = .ok (.iconst 1, 1) := by decide +kernel
theorem dX11_putRounded_175 : decode cX11_putRounded 175 = .ok (.iadd, 1) := by decide +kernel
theorem dX11_putRounded_176 : decode cX11_putRounded 176 = .ok (.putfield 336, 3) := by decide +kernel
theorem dX11_putRounded_179 : decode cX11_putRounded 179 = .ok (.aload_n 0, 1) := by decide +kernel
theorem dX11_putRounded_180 : decode cX11_putRounded 180 = .ok (.getfield 333, 3) := by decide +kernel
theorem dX11_putRounded_183 : decode cX11_putRounded 183 = .ok (.iload_n 1, 1) := by decide +kernel
theorem dX11_putRounded_184 : decode cX11_putRounded 184 = .ok (.if_icmp .le 23, 3) := by decide +kernel
theorem dX11_putRounded_187 : decode cX11_putRounded 187 = .ok (.aload_n 0, 1) := by decide +kernel
theorem dX11_putRounded_188 : decode cX11_putRounded 188 = .ok (.dup, 1) := by decide +kernel
theorem dX11_putRounded_189 : decode cX11_putRounded 189 = .ok (.getfield 333, 3) := by decide +kernel
theorem dX11_putRounded_192 : decode cX11_putRounded 192 = .ok (.iconst 1, 1) := by decide +kernel
theorem dX11_putRounded_193 : decode cX11_putRounded 193 = .ok (.isub, 1) := by decide +kernel
theorem dX11_putRounded_194 : decode cX11_putRounded 194 = .ok (.putfield 333, 3) := by decide +kernel
theorem dX11_putRounded_197 : decode cX11_putRounded 197 = .ok (.aload_n 0, 1) := by decide +kernel
theorem dX11_putRounded_198 : decode cX11_putRounded 198 = .ok (.dup, 1) := by decide +kernel
theorem dX11_putRounded_199 : decode cX11_putRounded 199 = .ok (.getfield 336, 3) := by decide +kernel
theorem dX11_putRounded_202 : decode cX11_putRounded 202 = .ok (.iconst 1, 1) := by decide +kernel
theorem dX11_putRounded_203 : decode cX11_putRounded 203 = .ok (.iadd, 1) := by decide +kernel
theorem dX11_putRounded_204 : decode cX11_putRounded 204 = .ok (.putfield 336, 3) := by decide +kernel
theorem dX11_putRounded_207 : decode cX11_putRounded 207 = .ok (.aload_n 0, 1) := by decide +kernel
theorem dX11_putRounded_208 : decode cX11_putRounded 208 = .ok (.invokevirtual 360, 3) := by decide +kernel
theorem dX11_putRounded_211 : decode cX11_putRounded 211 = .ok (.return_, 1) := by decide +kernel
theorem dX11_putSixteens_0 : decode cX11_putSixteens 0 = .ok (.bipush 64, 2) := by decide +kernel
theorem dX11_putSixteens_2 : decode cX11_putSixteens 2 = .ok (.aload_n 0, 1) := by decide +kernel
theorem dX11_putSixteens_3 : decode cX11_putSixteens 3 = .ok (.getfield 28, 3) := by decide +kernel
theorem dX11_putSixteens_6 : decode cX11_putSixteens 6 = .ok (.invokestatic 363, 3) := by decide +kernel
theorem dX11_putSixteens_9 : decode cX11_putSixteens 9 = .ok (.isub, 1) := by decide +kernel
theorem dX11_putSixteens_10 : decode cX11_putSixteens 10 = .ok (.istore_n 1, 1) := by decide +kernel
theorem dX11_putSixteens_11 : decode cX11_putSixteens 11 = .ok (.iload_n 1, 1) := by decide +kernel
theorem dX11_putSixteens_12 : decode cX11_putSixteens 12 = .ok (.iconst 1, 1) := by decide +kernel
theorem dX11_putSixteens_13 : decode cX11_putSixteens 13 = .ok (.if_icmp .ne 7, 3) := by decide +kernel
theorem dX11_putSixteens_16 : decode cX11_putSixteens 16 = .ok (.lconst 0, 1) := by decide +kernel
theorem dX11_putSixteens_17 : decode cX11_putSixteens 17 = .ok (.goto 12, 3) := by decide +kernel
theorem dX11_putSixteens_20 : decode cX11_putSixteens 20 = .ok (.aload_n 0, 1) := by decide +kernel
theorem dX11_putSixteens_21 : decode cX11_putSixteens 21 = .ok (.getfield 28, 3) := by decide +kernel
theorem dX11_putSixteens_24 : decode cX11_putSixteens 24 = .ok (.bipush 65, 2) := by decide +kernel
theorem dX11_putSixteens_26 : decode cX11_putSixteens 26 = .ok (.iload_n 1, 1) := by decide +kernel
theorem dX11_putSixteens_27 : decode cX11_putSixteens 27 = .ok (.isub, 1) := by decide +kernel
theorem dX11_putSixteens_28 : decode cX11_putSixteens 28 = .ok (.lshl, 1) := by decide +kernel
theorem dX11_putSixteens_29 : decode cX11_putSixteens 29 = .ok (.lstore_n 2, 1) := by decide +kernel
theorem dX11_putSixteens_30 : decode cX11_putSixteens 30 = .ok (.aload_n 0, 1) := by decide +kernel
theorem dX11_putSixteens_31 : decode cX11_putSixteens 31 = .ok (.ldc_w 367, 3) := by decide +kernel
theorem dX11_putSixteens_34 : decode cX11_putSixteens 34 = .ok (.invokevirtual 369, 3) := by decide +kernel
theorem dX11_putSixteens_37 : decode cX11_putSixteens 37 = .ok (.lload_n 2, 1) := by decide +kernel
theorem dX11_putSixteens_38 : decode cX11_putSixteens 38 = .ok (.lconst 0, 1) := by decide +kernel
theorem dX11_putSixteens_39 : decode cX11_putSixteens 39 = .ok (.lcmp, 1) := by decide +kernel
theorem dX11_putSixteens_40 : decode cX11_putSixteens 40 = .ok (.ifCond .eq 9, 3) := by decide +kernel
theorem dX11_putSixteens_43 : decode cX11_putSixteens 43 = .ok (.aload_n 0, 1) := by decide +kernel
theorem dX11_putSixteens_44 : decode cX11_putSixteens 44 = .ok (.bipush 46, 2) := by decide +kernel
theorem dX11_putSixteens_46 : decode cX11_putSixteens 46 = .ok (.invokevirtual 328, 3) := by decide +kernel
theorem dX11_putSixteens_49 : decode cX11_putSixteens 49 = .ok (.lload_n 2, 1) := by decide +kernel
theorem dX11_putSixteens_50 : decode cX11_putSixteens 50 = .ok (.lconst 0, 1) := by decide +kernel
theorem dX11_putSixteens_51 : decode cX11_putSixteens 51 = .ok (.lcmp, 1) := by decide +kernel
theorem dX11_putSixteens_52 : decode cX11_putSixteens 52 = .ok (.ifCond .eq 44, 3) := by decide +kernel
theorem dX11_putSixteens_55 : decode cX11_putSixteens 55 = .ok (.lload_n 2, 1) := by decide +kernel
theorem dX11_putSixteens_56 : decode cX11_putSixteens 56 = .ok (.bipush 60, 2) := by decide +kernel
theorem dX11_putSixteens_58 : decode cX11_putSixteens 58 = .ok (.lushr, 1) := by decide +kernel
theorem dX11_putSixteens_59 : decode cX11_putSixteens 59 = .ok (.l2i, 1) := by decide +kernel
theorem dX11_putSixteens_60 : decode cX11_putSixteens 60 = .ok (.istore 4, 2) := by decide +kernel
theorem dX11_putSixteens_62 : decode cX11_putSixteens 62 = .ok (.aload_n 0, 1) := by decide +kernel
theorem dX11_putSixteens_63 : decode cX11_putSixteens 63 = .ok (.iload 4, 2) := by decide +kernel
theorem dX11_putSixteens_65 : decode cX11_putSixteens 65 = .ok (.bipush 10, 2) := by decide +kernel
theorem dX11_putSixteens_67 : decode cX11_putSixteens 67 = .ok (.if_icmp .ge 11, 3) := by decide +kernel
theorem dX11_putSixteens_70 : decode cX11_putSixteens 70 = .ok (.bipush 48, 2) := by decide +kernel
theorem dX11_putSixteens_72 : decode cX11_putSixteens 72 = .ok (.iload 4, 2) := by decide +kernel
theorem dX11_putSixteens_74 : decode cX11_putSixteens 74 = .ok (.iadd, 1) := by decide +kernel
theorem dX11_putSixteens_75 : decode cX11_putSixteens 75 = .ok (.goto 11, 3) := by decide +kernel
theorem dX11_putSixteens_78 : decode cX11_putSixteens 78 = .ok (.bipush 97, 2) := by decide +kernel
theorem dX11_putSixteens_80 : decode cX11_putSixteens 80 = .ok (.iload 4, 2) := by decide +kernel
theorem dX11_putSixteens_82 : decode cX11_putSixteens 82 = .ok (.iadd, 1) := by decide +kernel
theorem dX11_putSixteens_83 : decode cX11_putSixteens 83 = .ok (.bipush 10, 2) := by decide +kernel
theorem dX11_putSixteens_85 : decode cX11_putSixteens 85 = .ok (.isub, 1) := by decide +kernel
theorem dX11_putSixteens_86 : decode cX11_putSixteens 86 = .ok (.invokevirtual 328, 3) := by decide +kernel
theorem dX11_putSixteens_89 : decode cX11_putSixteens 89 = .ok (.lload_n 2, 1) := by decide +kernel
theorem dX11_putSixteens_90 : decode cX11_putSixteens 90 = .ok (.iconst 4, 1) := by decide +kernel
theorem dX11_putSixteens_91 : decode cX11_putSixteens 91 = .ok (.lshl, 1) := by decide +kernel
theorem dX11_putSixteens_92 : decode cX11_putSixteens 92 = .ok (.lstore_n 2, 1) := by decide +kernel
theorem dX11_putSixteens_93 : decode cX11_putSixteens 93 = .ok (.goto (-44), 3) := by decide +kernel
theorem dX11_putSixteens_96 : decode cX11_putSixteens 96 = .ok (.aload_n 0, 1) := by decide +kernel
theorem dX11_putSixteens_97 : decode cX11_putSixteens 97 = .ok (.bipush 112, 2) := by decide +kernel
theorem dX11_putSixteens_99 : decode cX11_putSixteens 99 = .ok (.invokevirtual 328, 3) := by decide +kernel
theorem dX11_putSixteens_102 : decode cX11_putSixteens 102 = .ok (.aload_n 0, 1) := by decide +kernel
theorem dX11_putSixteens_103 : decode cX11_putSixteens 103 = .ok (.aload_n 0, 1) := by decide +kernel
theorem dX11_putSixteens_104 : decode cX11_putSixteens 104 = .ok (.getfield 35, 3) := by decide +kernel
theorem dX11_putSixteens_107 : decode cX11_putSixteens 107 = .ok (.iload_n 1, 1) := by decide +kernel
theorem dX11_putSixteens_108 : decode cX11_putSixteens 108 = .ok (.iadd, 1) := by decide +kernel
theorem dX11_putSixteens_109 : decode cX11_putSixteens 109 = .ok (.iconst 1, 1) := by decide +kernel
theorem dX11_putSixteens_110 : decode cX11_putSixteens 110 = .ok (.isub, 1) := by decide +kernel
theorem dX11_putSixteens_111 : decode cX11_putSixteens 111 = .ok (.invokevirtual 339, 3) := by decide +kernel
theorem dX11_putSixteens_114 : decode cX11_putSixteens 114 = .ok (.return_, 1) := by decide +kernel
theorem dX11_putExact_0 : decode cX11_putExact 0 = .ok (.aload_n 0, 1) := by decide +kernel
theorem dX11_putExact_1 : decode cX11_putExact 1 = .ok (.getfield 168, 3) := by decide +kernel
theorem dX11_putExact_4 : decode cX11_putExact 4 = .ok (.aload_n 0, 1) := by decide +kernel
theorem dX11_putExact_5 : decode cX11_putExact 5 = .ok (.getfield 28, 3) := by decide +kernel
theorem dX11_putExact_8 : decode cX11_putExact 8 = .ok (.invokevirtual 56, 3) := by decide +kernel
theorem dX11_putExact_11 : decode cX11_putExact 11 = .ok (.aload_n 0, 1) := by decide +kernel
theorem dX11_putExact_12 : decode cX11_putExact 12 = .ok (.getfield 35, 3) := by decide +kernel
theorem dX11_putExact_15 : decode cX11_putExact 15 = .ok (.ifCond .lt 30, 3) := by decide +kernel
theorem dX11_putExact_18 : decode cX11_putExact 18 = .ok (.aload_n 0, 1) := by decide +kernel
theorem dX11_putExact_19 : decode cX11_putExact 19 = .ok (.getfield 168, 3) := by decide +kernel
theorem dX11_putExact_22 : decode cX11_putExact 22 = .ok (.aload_n 0, 1) := by decide +kernel
theorem dX11_putExact_23 : decode cX11_putExact 23 = .ok (.getfield 35, 3) := by decide +kernel
theorem dX11_putExact_26 : decode cX11_putExact 26 = .ok (.invokevirtual 92, 3) := by decide +kernel
theorem dX11_putExact_29 : decode cX11_putExact 29 = .ok (.aload_n 0, 1) := by decide +kernel
theorem dX11_putExact_30 : decode cX11_putExact 30 = .ok (.aload_n 0, 1) := by decide +kernel
theorem dX11_putExact_31 : decode cX11_putExact 31 = .ok (.getfield 168, 3) := by decide +kernel
theorem dX11_putExact_34 : decode cX11_putExact 34 = .ok (.invokevirtual 355, 3) := by decide +kernel
theorem dX11_putExact_37 : decode cX11_putExact 37 = .ok (.aload_n 0, 1) := by decide +kernel
theorem dX11_putExact_38 : decode cX11_putExact 38 = .ok (.iconst 0, 1) := by decide +kernel
theorem dX11_putExact_39 : decode cX11_putExact 39 = .ok (.putfield 336, 3) := by decide +kernel
theorem dX11_putExact_42 : decode cX11_putExact 42 = .ok (.goto 91, 3) := by decide +kernel
theorem dX11_putExact_45 : decode cX11_putExact 45 = .ok (.iconst 0, 1) := by decide +kernel
theorem dX11_putExact_46 : decode cX11_putExact 46 = .ok (.istore_n 1, 1) := by decide +kernel
theorem dX11_putExact_47 : decode cX11_putExact 47 = .ok (.iload_n 1, 1) := by decide +kernel
theorem dX11_putExact_48 : decode cX11_putExact 48 = .ok (.aload_n 0, 1) := by decide +kernel
theorem dX11_putExact_49 : decode cX11_putExact 49 = .ok (.getfield 35, 3) := by decide +kernel
theorem dX11_putExact_52 : decode cX11_putExact 52 = .ok (.ineg, 1) := by decide +kernel
theorem dX11_putExact_53 : decode cX11_putExact 53 = .ok (.if_icmp .ge 20, 3) := by decide +kernel
theorem dX11_putExact_56 : decode cX11_putExact 56 = .ok (.aload_n 0, 1) := by decide +kernel
theorem dX11_putExact_57 : decode cX11_putExact 57 = .ok (.getfield 168, 3) := by decide +kernel
theorem dX11_putExact_60 : decode cX11_putExact 60 = .ok (.ldc2_w 373, 3) := by decide +kernel
theorem dX11_putExact_63 : decode cX11_putExact 63 = .ok (.iconst 0, 1) := by decide +kernel
theorem dX11_putExact_64 : decode cX11_putExact 64 = .ok (.invokevirtual 287, 3) := by decide +kernel
theorem dX11_putExact_67 : decode cX11_putExact 67 = .ok (.iinc 1 1, 3) := by decide +kernel
theorem dX11_putExact_70 : decode cX11_putExact 70 = .ok (.goto (-23), 3) := by decide +kernel
theorem dX11_putExact_73 : decode cX11_putExact 73 = .ok (.aload_n 0, 1) := by decide +kernel
theorem dX11_putExact_74 : decode cX11_putExact 74 = .ok (.aload_n 0, 1) := by decide +kernel
theorem dX11_putExact_75 : decode cX11_putExact 75 = .ok (.getfield 168, 3) := by decide +kernel
theorem dX11_putExact_78 : decode cX11_putExact 78 = .ok (.invokevirtual 355, 3) := by decide +kernel
theorem dX11_putExact_81 : decode cX11_putExact 81 = .ok (.aload_n 0, 1) := by decide +kernel
theorem dX11_putExact_82 : decode cX11_putExact 82 = .ok (.aload_n 0, 1) := by decide +kernel
theorem dX11_putExact_83 : decode cX11_putExact 83 = .ok (.getfield 35, 3) := by decide +kernel
theorem dX11_putExact_86 : decode cX11_putExact 86 = .ok (.putfield 336, 3) := by decide +kernel
theorem dX11_putExact_89 : decode cX11_putExact 89 = .ok (.aload_n 0, 1) := by decide +kernel
theorem dX11_putExact_90 : decode cX11_putExact 90 = .ok (.getfield 336, 3) := by decide +kernel
theorem dX11_putExact_93 : decode cX11_putExact 93 = .ok (.ifCond .ge 40, 3) := by decide +kernel
theorem dX11_putExact_96 : decode cX11_putExact 96 = .ok (.aload_n 0, 1) := by decide +kernel
theorem dX11_putExact_97 : decode cX11_putExact 97 = .ok (.getfield 159, 3) := by decide +kernel
theorem dX11_putExact_100 : decode cX11_putExact 100 = .ok (.aload_n 0, 1) := by decide +kernel
theorem dX11_putExact_101 : decode cX11_putExact 101 = .ok (.getfield 333, 3) := by decide +kernel
theorem dX11_putExact_104 : decode cX11_putExact 104 = .ok (.iconst 1, 1) := by decide +kernel
theorem dX11_putExact_105 : decode cX11_putExact 105 = .ok (.isub, 1) := by decide +kernel
theorem dX11_putExact_106 : decode cX11_putExact 106 = .ok (.iaload, 1) := by decide +kernel
theorem dX11_putExact_107 : decode cX11_putExact 107 = .ok (.ifCond .ne 26, 3) := by decide +kernel
theorem dX11_putExact_110 : decode cX11_putExact 110 = .ok (.aload_n 0, 1) := by decide +kernel
theorem dX11_putExact_111 : decode cX11_putExact 111 = .ok (.dup, 1) := by decide +kernel
theorem dX11_putExact_112 : decode cX11_putExact 112 = .ok (.getfield 333, 3) := by decide +kernel
theorem dX11_putExact_115 : decode cX11_putExact 115 = .ok (.iconst 1, 1) := by decide +kernel
theorem dX11_putExact_116 : decode cX11_putExact 116 = .ok (.isub, 1) := by decide +kernel
theorem dX11_putExact_117 : decode cX11_putExact 117 = .ok (.putfield 333, 3) := by decide +kernel
theorem dX11_putExact_120 : decode cX11_putExact 120 = .ok (.aload_n 0, 1) := by decide +kernel
theorem dX11_putExact_121 : decode cX11_putExact 121 = .ok (.dup, 1) := by decide +kernel
theorem dX11_putExact_122 : decode cX11_putExact 122 = .ok (.getfield 336, 3) := by decide +kernel
theorem dX11_putExact_125 : decode cX11_putExact 125 = .ok (.iconst 1, 1) := by decide +kernel
theorem dX11_putExact_126 : decode cX11_putExact 126 = .ok (.iadd, 1) := by decide +kernel
theorem dX11_putExact_127 : decode cX11_putExact 127 = .ok (.putfield 336, 3) := by decide +kernel
theorem dX11_putExact_130 : decode cX11_putExact 130 = .ok (.goto (-41), 3) := by decide +kernel
theorem dX11_putExact_133 : decode cX11_putExact 133 = .ok (.aload_n 0, 1) := by decide +kernel
theorem dX11_putExact_134 : decode cX11_putExact 134 = .ok (.invokevirtual 375, 3) := by decide +kernel
theorem dX11_putExact_137 : decode cX11_putExact 137 = .ok (.return_, 1) := by decide +kernel
theorem dX11_putNought_0 : decode cX11_putNought 0 = .ok (.iload_n 1, 1) := by decide +kernel
theorem dX11_putNought_1 : decode cX11_putNought 1 = .ok (.iconst 1, 1) := by decide +kernel
theorem dX11_putNought_2 : decode cX11_putNought 2 = .ok (.if_icmp .ne 13, 3) := by decide +kernel
theorem dX11_putNought_5 : decode cX11_putNought 5 = .ok (.aload_n 0, 1) := by decide +kernel
theorem dX11_putNought_6 : decode cX11_putNought 6 = .ok (.ldc_w 378, 3) := by decide +kernel
theorem dX11_putNought_9 : decode cX11_putNought 9 = .ok (.invokevirtual 369, 3) := by decide +kernel
theorem dX11_putNought_12 : decode cX11_putNought 12 = .ok (.goto 89, 3) := by decide +kernel
theorem dX11_putNought_15 : decode cX11_putNought 15 = .ok (.iload_n 1, 1) := by decide +kernel
theorem dX11_putNought_16 : decode cX11_putNought 16 = .ok (.iconst 4, 1) := by decide +kernel
theorem dX11_putNought_17 : decode cX11_putNought 17 = .ok (.if_icmp .ne 13, 3) := by decide +kernel
theorem dX11_putNought_20 : decode cX11_putNought 20 = .ok (.aload_n 0, 1) := by decide +kernel
theorem dX11_putNought_21 : decode cX11_putNought 21 = .ok (.ldc_w 380, 3) := by decide +kernel
theorem dX11_putNought_24 : decode cX11_putNought 24 = .ok (.invokevirtual 369, 3) := by decide +kernel
theorem dX11_putNought_27 : decode cX11_putNought 27 = .ok (.goto 74, 3) := by decide +kernel
theorem dX11_putNought_30 : decode cX11_putNought 30 = .ok (.aload_n 0, 1) := by decide +kernel
theorem dX11_putNought_31 : decode cX11_putNought 31 = .ok (.bipush 48, 2) := by decide +kernel
theorem dX11_putNought_33 : decode cX11_putNought 33 = .ok (.invokevirtual 328, 3) := by decide +kernel
theorem dX11_putNought_36 : decode cX11_putNought 36 = .ok (.iload_n 1, 1) := by decide +kernel
theorem dX11_putNought_37 : decode cX11_putNought 37 = .ok (.iconst 2, 1) := by decide +kernel
theorem dX11_putNought_38 : decode cX11_putNought 38 = .ok (.if_icmp .ne 7, 3) := by decide +kernel
theorem dX11_putNought_41 : decode cX11_putNought 41 = .ok (.iload_n 2, 1) := by decide +kernel
theorem dX11_putNought_42 : decode cX11_putNought 42 = .ok (.goto 15, 3) := by decide +kernel
theorem dX11_putNought_45 : decode cX11_putNought 45 = .ok (.iload_n 1, 1) := by decide +kernel
theorem dX11_putNought_46 : decode cX11_putNought 46 = .ok (.iconst 3, 1) := by decide +kernel
theorem dX11_putNought_47 : decode cX11_putNought 47 = .ok (.if_icmp .ne 9, 3) := by decide +kernel
theorem dX11_putNought_50 : decode cX11_putNought 50 = .ok (.iload_n 2, 1) := by decide +kernel
theorem dX11_putNought_51 : decode cX11_putNought 51 = .ok (.iconst 1, 1) := by decide +kernel
theorem dX11_putNought_52 : decode cX11_putNought 52 = .ok (.isub, 1) := by decide +kernel
theorem dX11_putNought_53 : decode cX11_putNought 53 = .ok (.goto 4, 3) := by decide +kernel
theorem dX11_putNought_56 : decode cX11_putNought 56 = .ok (.iconst 0, 1) := by decide +kernel
theorem dX11_putNought_57 : decode cX11_putNought 57 = .ok (.istore_n 3, 1) := by decide +kernel
theorem dX11_putNought_58 : decode cX11_putNought 58 = .ok (.iload_n 3, 1) := by decide +kernel
theorem dX11_putNought_59 : decode cX11_putNought 59 = .ok (.ifCond .le 9, 3) := by decide +kernel
theorem dX11_putNought_62 : decode cX11_putNought 62 = .ok (.aload_n 0, 1) := by decide +kernel
theorem dX11_putNought_63 : decode cX11_putNought 63 = .ok (.bipush 46, 2) := by decide +kernel
theorem dX11_putNought_65 : decode cX11_putNought 65 = .ok (.invokevirtual 328, 3) := by decide +kernel
theorem dX11_putNought_68 : decode cX11_putNought 68 = .ok (.iconst 0, 1) := by decide +kernel
theorem dX11_putNought_69 : decode cX11_putNought 69 = .ok (.istore 4, 2) := by decide +kernel
theorem dX11_putNought_71 : decode cX11_putNought 71 = .ok (.iload 4, 2) := by decide +kernel
theorem dX11_putNought_73 : decode cX11_putNought 73 = .ok (.iload_n 3, 1) := by decide +kernel
theorem dX11_putNought_74 : decode cX11_putNought 74 = .ok (.if_icmp .ge 15, 3) := by decide +kernel
theorem dX11_putNought_77 : decode cX11_putNought 77 = .ok (.aload_n 0, 1) := by decide +kernel
theorem dX11_putNought_78 : decode cX11_putNought 78 = .ok (.bipush 48, 2) := by decide +kernel
theorem dX11_putNought_80 : decode cX11_putNought 80 = .ok (.invokevirtual 328, 3) := by decide +kernel
theorem dX11_putNought_83 : decode cX11_putNought 83 = .ok (.iinc 4 1, 3) := by decide +kernel
theorem dX11_putNought_86 : decode cX11_putNought 86 = .ok (.goto (-15), 3) := by decide +kernel
theorem dX11_putNought_89 : decode cX11_putNought 89 = .ok (.iload_n 1, 1) := by decide +kernel
theorem dX11_putNought_90 : decode cX11_putNought 90 = .ok (.iconst 3, 1) := by decide +kernel
theorem dX11_putNought_91 : decode cX11_putNought 91 = .ok (.if_icmp .ne 10, 3) := by decide +kernel
theorem dX11_putNought_94 : decode cX11_putNought 94 = .ok (.aload_n 0, 1) := by decide +kernel
theorem dX11_putNought_95 : decode cX11_putNought 95 = .ok (.ldc_w 382, 3) := by decide +kernel
theorem dX11_putNought_98 : decode cX11_putNought 98 = .ok (.invokevirtual 369, 3) := by decide +kernel
theorem dX11_putNought_101 : decode cX11_putNought 101 = .ok (.return_, 1) := by decide +kernel
theorem dX11_write_0 : decode cX11_write 0 = .ok (.iload_n 2, 1) := by decide +kernel
theorem dX11_write_1 : decode cX11_write 1 = .ok (.ifCond .lt 51, 3) := by decide +kernel
theorem dX11_write_4 : decode cX11_write 4 = .ok (.iload_n 2, 1) := by decide +kernel
theorem dX11_write_5 : decode cX11_write 5 = .ok (.iconst 5, 1) := by decide +kernel
theorem dX11_write_6 : decode cX11_write 6 = .ok (.if_icmp .gt 46, 3) := by decide +kernel
theorem dX11_write_9 : decode cX11_write 9 = .ok (.iload 4, 2) := by decide +kernel
theorem dX11_write_11 : decode cX11_write 11 = .ok (.invokestatic 196, 3) := by decide +kernel
theorem dX11_write_14 : decode cX11_write 14 = .ok (.ifCond .eq 38, 3) := by decide +kernel
theorem dX11_write_17 : decode cX11_write 17 = .ok (.iload_n 2, 1) := by decide +kernel
theorem dX11_write_18 : decode cX11_write 18 = .ok (.iconst 2, 1) := by decide +kernel
theorem dX11_write_19 : decode cX11_write 19 = .ok (.if_icmp .ne 13, 3) := by decide +kernel
theorem dX11_write_22 : decode cX11_write 22 = .ok (.iload_n 3, 1) := by decide +kernel
theorem dX11_write_23 : decode cX11_write 23 = .ok (.ifCond .lt 29, 3) := by decide +kernel
theorem dX11_write_26 : decode cX11_write 26 = .ok (.iload_n 3, 1) := by decide +kernel
theorem dX11_write_27 : decode cX11_write 27 = .ok (.bipush 60, 2) := by decide +kernel
theorem dX11_write_29 : decode cX11_write 29 = .ok (.if_icmp .gt 23, 3) := by decide +kernel
theorem dX11_write_32 : decode cX11_write 32 = .ok (.iload_n 2, 1) := by decide +kernel
theorem dX11_write_33 : decode cX11_write 33 = .ok (.iconst 3, 1) := by decide +kernel
theorem dX11_write_34 : decode cX11_write 34 = .ok (.if_icmp .ne 14, 3) := by decide +kernel
theorem dX11_write_37 : decode cX11_write 37 = .ok (.iload_n 3, 1) := by decide +kernel
theorem dX11_write_38 : decode cX11_write 38 = .ok (.iconst 1, 1) := by decide +kernel
theorem dX11_write_39 : decode cX11_write 39 = .ok (.if_icmp .lt 13, 3) := by decide +kernel
theorem dX11_write_42 : decode cX11_write 42 = .ok (.iload_n 3, 1) := by decide +kernel
theorem dX11_write_43 : decode cX11_write 43 = .ok (.bipush 60, 2) := by decide +kernel
theorem dX11_write_45 : decode cX11_write 45 = .ok (.if_icmp .gt 7, 3) := by decide +kernel
theorem dX11_write_48 : decode cX11_write 48 = .ok (.iconst 1, 1) := by decide +kernel
theorem dX11_write_49 : decode cX11_write 49 = .ok (.goto 4, 3) := by decide +kernel
theorem dX11_write_52 : decode cX11_write 52 = .ok (.iconst 0, 1) := by decide +kernel
theorem dX11_write_53 : decode cX11_write 53 = .ok (.istore 5, 2) := by decide +kernel
theorem dX11_write_55 : decode cX11_write 55 = .ok (.aload_n 0, 1) := by decide +kernel
theorem dX11_write_56 : decode cX11_write 56 = .ok (.iload_n 1, 1) := by decide +kernel
theorem dX11_write_57 : decode cX11_write 57 = .ok (.invokestatic 177, 3) := by decide +kernel
theorem dX11_write_60 : decode cX11_write 60 = .ok (.iload 5, 2) := by decide +kernel
theorem dX11_write_62 : decode cX11_write 62 = .ok (.invokevirtual 184, 3) := by decide +kernel
theorem dX11_write_65 : decode cX11_write 65 = .ok (.ifCond .ne 5, 3) := by decide +kernel
theorem dX11_write_68 : decode cX11_write 68 = .ok (.iconst 0, 1) := by decide +kernel
theorem dX11_write_69 : decode cX11_write 69 = .ok (.ireturn, 1) := by decide +kernel
theorem dX11_write_70 : decode cX11_write 70 = .ok (.aload_n 0, 1) := by decide +kernel
theorem dX11_write_71 : decode cX11_write 71 = .ok (.iload_n 1, 1) := by decide +kernel
theorem dX11_write_72 : decode cX11_write 72 = .ok (.invokevirtual 190, 3) := by decide +kernel
theorem dX11_write_75 : decode cX11_write 75 = .ok (.aload_n 0, 1) := by decide +kernel
theorem dX11_write_76 : decode cX11_write 76 = .ok (.iconst 0, 1) := by decide +kernel
theorem dX11_write_77 : decode cX11_write 77 = .ok (.putfield 316, 3) := by decide +kernel
theorem dX11_write_80 : decode cX11_write 80 = .ok (.aload_n 0, 1) := by decide +kernel
theorem dX11_write_81 : decode cX11_write 81 = .ok (.getfield 25, 3) := by decide +kernel
theorem dX11_write_84 : decode cX11_write 84 = .ok (.iconst 4, 1) := by decide +kernel
theorem dX11_write_85 : decode cX11_write 85 = .ok (.if_icmp .ne 15, 3) := by decide +kernel
theorem dX11_write_88 : decode cX11_write 88 = .ok (.aload_n 0, 1) := by decide +kernel
theorem dX11_write_89 : decode cX11_write 89 = .ok (.ldc_w 384, 3) := by decide +kernel
theorem dX11_write_92 : decode cX11_write 92 = .ok (.invokevirtual 369, 3) := by decide +kernel
theorem dX11_write_95 : decode cX11_write 95 = .ok (.aload_n 0, 1) := by decide +kernel
theorem dX11_write_96 : decode cX11_write 96 = .ok (.getfield 316, 3) := by decide +kernel
theorem dX11_write_99 : decode cX11_write 99 = .ok (.ireturn, 1) := by decide +kernel
theorem dX11_write_100 : decode cX11_write 100 = .ok (.aload_n 0, 1) := by decide +kernel
theorem dX11_write_101 : decode cX11_write 101 = .ok (.getfield 19, 3) := by decide +kernel
theorem dX11_write_104 : decode cX11_write 104 = .ok (.iconst 1, 1) := by decide +kernel
theorem dX11_write_105 : decode cX11_write 105 = .ok (.if_icmp .ne 9, 3) := by decide +kernel
theorem dX11_write_108 : decode cX11_write 108 = .ok (.aload_n 0, 1) := by decide +kernel
theorem dX11_write_109 : decode cX11_write 109 = .ok (.bipush 45, 2) := by decide +kernel
theorem dX11_write_111 : decode cX11_write 111 = .ok (.invokevirtual 328, 3) := by decide +kernel
theorem dX11_write_114 : decode cX11_write 114 = .ok (.aload_n 0, 1) := by decide +kernel
theorem dX11_write_115 : decode cX11_write 115 = .ok (.getfield 25, 3) := by decide +kernel
theorem dX11_write_118 : decode cX11_write 118 = .ok (.iconst 3, 1) := by decide +kernel
theorem dX11_write_119 : decode cX11_write 119 = .ok (.if_icmp .ne 13, 3) := by decide +kernel
theorem dX11_write_122 : decode cX11_write 122 = .ok (.aload_n 0, 1) := by decide +kernel
theorem dX11_write_123 : decode cX11_write 123 = .ok (.ldc_w 386, 3) := by decide +kernel
theorem dX11_write_126 : decode cX11_write 126 = .ok (.invokevirtual 369, 3) := by decide +kernel
theorem dX11_write_129 : decode cX11_write 129 = .ok (.goto 118, 3) := by decide +kernel
theorem dX11_write_132 : decode cX11_write 132 = .ok (.aload_n 0, 1) := by decide +kernel
theorem dX11_write_133 : decode cX11_write 133 = .ok (.getfield 25, 3) := by decide +kernel
theorem dX11_write_136 : decode cX11_write 136 = .ok (.ifCond .ne 12, 3) := by decide +kernel
theorem dX11_write_139 : decode cX11_write 139 = .ok (.aload_n 0, 1) := by decide +kernel
theorem dX11_write_140 : decode cX11_write 140 = .ok (.iload_n 2, 1) := by decide +kernel
theorem dX11_write_141 : decode cX11_write 141 = .ok (.iload_n 3, 1) := by decide +kernel
theorem dX11_write_142 : decode cX11_write 142 = .ok (.invokevirtual 388, 3) := by decide +kernel
theorem dX11_write_145 : decode cX11_write 145 = .ok (.goto 102, 3) := by decide +kernel
theorem dX11_write_148 : decode cX11_write 148 = .ok (.iload_n 2, 1) := by decide +kernel
theorem dX11_write_149 : decode cX11_write 149 = .ok (.iconst 2, 1) := by decide +kernel
theorem dX11_write_150 : decode cX11_write 150 = .ok (.if_icmp .ge 51, 3) := by decide +kernel
theorem dX11_write_153 : decode cX11_write 153 = .ok (.aload_n 0, 1) := by decide +kernel
theorem dX11_write_154 : decode cX11_write 154 = .ok (.aload_n 0, 1) := by decide +kernel
theorem dX11_write_155 : decode cX11_write 155 = .ok (.getfield 1, 3) := by decide +kernel
theorem dX11_write_158 : decode cX11_write 158 = .ok (.iload_n 1, 1) := by decide +kernel
theorem dX11_write_159 : decode cX11_write 159 = .ok (.iaload, 1) := by decide +kernel
theorem dX11_write_160 : decode cX11_write 160 = .ok (.aload_n 0, 1) := by decide +kernel
theorem dX11_write_161 : decode cX11_write 161 = .ok (.getfield 11, 3) := by decide +kernel
theorem dX11_write_164 : decode cX11_write 164 = .ok (.iload_n 1, 1) := by decide +kernel
theorem dX11_write_165 : decode cX11_write 165 = .ok (.laload, 1) := by decide +kernel
theorem dX11_write_166 : decode cX11_write 166 = .ok (.aload_n 0, 1) := by decide +kernel
theorem dX11_write_167 : decode cX11_write 167 = .ok (.getfield 1, 3) := by decide +kernel
theorem dX11_write_170 : decode cX11_write 170 = .ok (.iload_n 1, 1) := by decide +kernel
theorem dX11_write_171 : decode cX11_write 171 = .ok (.iaload, 1) := by decide +kernel
theorem dX11_write_172 : decode cX11_write 172 = .ok (.invokestatic 15, 3) := by decide +kernel
theorem dX11_write_175 : decode cX11_write 175 = .ok (.ldc2_w 23, 3) := by decide +kernel
theorem dX11_write_178 : decode cX11_write 178 = .ok (.lxor, 1) := by decide +kernel
theorem dX11_write_179 : decode cX11_write 179 = .ok (.land, 1) := by decide +kernel
theorem dX11_write_180 : decode cX11_write 180 = .ok (.invokevirtual 391, 3) := by decide +kernel
theorem dX11_write_183 : decode cX11_write 183 = .ok (.iload_n 2, 1) := by decide +kernel
theorem dX11_write_184 : decode cX11_write 184 = .ok (.ifCond .ne 10, 3) := by decide +kernel
theorem dX11_write_187 : decode cX11_write 187 = .ok (.aload_n 0, 1) := by decide +kernel
theorem dX11_write_188 : decode cX11_write 188 = .ok (.invokevirtual 375, 3) := by decide +kernel
theorem dX11_write_191 : decode cX11_write 191 = .ok (.goto 56, 3) := by decide +kernel
theorem dX11_write_194 : decode cX11_write 194 = .ok (.aload_n 0, 1) := by decide +kernel
theorem dX11_write_195 : decode cX11_write 195 = .ok (.invokevirtual 360, 3) := by decide +kernel
theorem dX11_write_198 : decode cX11_write 198 = .ok (.goto 49, 3) := by decide +kernel
theorem dX11_write_201 : decode cX11_write 201 = .ok (.iload_n 2, 1) := by decide +kernel
theorem dX11_write_202 : decode cX11_write 202 = .ok (.iconst 2, 1) := by decide +kernel
theorem dX11_write_203 : decode cX11_write 203 = .ok (.if_icmp .ne 13, 3) := by decide +kernel
theorem dX11_write_206 : decode cX11_write 206 = .ok (.aload_n 0, 1) := by decide +kernel
theorem dX11_write_207 : decode cX11_write 207 = .ok (.iload_n 3, 1) := by decide +kernel
theorem dX11_write_208 : decode cX11_write 208 = .ok (.iload 4, 2) := by decide +kernel
theorem dX11_write_210 : decode cX11_write 210 = .ok (.invokevirtual 395, 3) := by decide +kernel
theorem dX11_write_213 : decode cX11_write 213 = .ok (.goto 34, 3) := by decide +kernel
theorem dX11_write_216 : decode cX11_write 216 = .ok (.iload_n 2, 1) := by decide +kernel
theorem dX11_write_217 : decode cX11_write 217 = .ok (.iconst 3, 1) := by decide +kernel
theorem dX11_write_218 : decode cX11_write 218 = .ok (.if_icmp .ne 13, 3) := by decide +kernel
theorem dX11_write_221 : decode cX11_write 221 = .ok (.aload_n 0, 1) := by decide +kernel
theorem dX11_write_222 : decode cX11_write 222 = .ok (.iload_n 3, 1) := by decide +kernel
theorem dX11_write_223 : decode cX11_write 223 = .ok (.iload 4, 2) := by decide +kernel
theorem dX11_write_225 : decode cX11_write 225 = .ok (.invokevirtual 398, 3) := by decide +kernel
theorem dX11_write_228 : decode cX11_write 228 = .ok (.goto 19, 3) := by decide +kernel
theorem dX11_write_231 : decode cX11_write 231 = .ok (.iload_n 2, 1) := by decide +kernel
theorem dX11_write_232 : decode cX11_write 232 = .ok (.iconst 4, 1) := by decide +kernel
theorem dX11_write_233 : decode cX11_write 233 = .ok (.if_icmp .ne 10, 3) := by decide +kernel
theorem dX11_write_236 : decode cX11_write 236 = .ok (.aload_n 0, 1) := by decide +kernel
theorem dX11_write_237 : decode cX11_write 237 = .ok (.invokevirtual 401, 3) := by decide +kernel
theorem dX11_write_240 : decode cX11_write 240 = .ok (.goto 7, 3) := by decide +kernel
theorem dX11_write_243 : decode cX11_write 243 = .ok (.aload_n 0, 1) := by decide +kernel
theorem dX11_write_244 : decode cX11_write 244 = .ok (.invokevirtual 404, 3) := by decide +kernel
theorem dX11_write_247 : decode cX11_write 247 = .ok (.aload_n 0, 1) := by decide +kernel
theorem dX11_write_248 : decode cX11_write 248 = .ok (.getfield 316, 3) := by decide +kernel
theorem dX11_write_251 : decode cX11_write 251 = .ok (.ireturn, 1) := by decide +kernel
theorem dX11_letter_0 : decode cX11_letter 0 = .ok (.aload_n 0, 1) := by decide +kernel
theorem dX11_letter_1 : decode cX11_letter 1 = .ok (.iconst 0, 1) := by decide +kernel
theorem dX11_letter_2 : decode cX11_letter 2 = .ok (.putfield 174, 3) := by decide +kernel
theorem dX11_letter_5 : decode cX11_letter 5 = .ok (.iload_n 1, 1) := by decide +kernel
theorem dX11_letter_6 : decode cX11_letter 6 = .ok (.ifCond .lt 20, 3) := by decide +kernel
theorem dX11_letter_9 : decode cX11_letter 9 = .ok (.iload_n 1, 1) := by decide +kernel
theorem dX11_letter_10 : decode cX11_letter 10 = .ok (.aload_n 0, 1) := by decide +kernel
theorem dX11_letter_11 : decode cX11_letter 11 = .ok (.getfield 316, 3) := by decide +kernel
theorem dX11_letter_14 : decode cX11_letter 14 = .ok (.if_icmp .ge 12, 3) := by decide +kernel
theorem dX11_letter_17 : decode cX11_letter 17 = .ok (.aload_n 0, 1) := by decide +kernel
theorem dX11_letter_18 : decode cX11_letter 18 = .ok (.getfield 156, 3) := by decide +kernel
theorem dX11_letter_21 : decode cX11_letter 21 = .ok (.iload_n 1, 1) := by decide +kernel
theorem dX11_letter_22 : decode cX11_letter 22 = .ok (.iaload, 1) := by decide +kernel
theorem dX11_letter_23 : decode cX11_letter 23 = .ok (.goto 4, 3) := by decide +kernel
theorem dX11_letter_26 : decode cX11_letter 26 = .ok (.iconst (-1), 1) := by decide +kernel
theorem dX11_letter_27 : decode cX11_letter 27 = .ok (.ireturn, 1) := by decide +kernel
