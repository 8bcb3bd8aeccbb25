theorem dJ0_length_8abf5_0 : decode cJ0_length_8abf5 0 = .ok (.aload_n 0, 1) := by decide +kernel
theorem dJ0_length_8abf5_1 : decode cJ0_length_8abf5 1 = .ok (.getfield 9, 3) := by decide +kernel
theorem dJ0_length_8abf5_4 : decode cJ0_length_8abf5 4 = .ok (.arraylength, 1) := by decide +kernel
theorem dJ0_length_8abf5_5 : decode cJ0_length_8abf5 5 = .ok (.aload_n 0, 1) := by decide +kernel
theorem dJ0_length_8abf5_6 : decode cJ0_length_8abf5 6 = .ok (.invokevirtual 335, 3) := by decide +kernel
theorem dJ0_length_8abf5_9 : decode cJ0_length_8abf5 9 = .ok (.ishr, 1) := by decide +kernel
theorem dJ0_length_8abf5_10 : decode cJ0_length_8abf5 10 = .ok (.ireturn, 1) := by decide +kernel
theorem dJ0_coder_7d493_0 : decode cJ0_coder_7d493 0 = .ok (.getstatic 38, 3) := by decide +kernel
theorem dJ0_coder_7d493_3 : decode cJ0_coder_7d493 3 = .ok (.ifCond .eq 10, 3) := by decide +kernel
theorem dJ0_coder_7d493_6 : decode cJ0_coder_7d493 6 = .ok (.aload_n 0, 1) := by decide +kernel
theorem dJ0_coder_7d493_7 : decode cJ0_coder_7d493 7 = .ok (.getfield 15, 3) := by decide +kernel
theorem dJ0_coder_7d493_10 : decode cJ0_coder_7d493 10 = .ok (.goto 4, 3) := by decide +kernel
theorem dJ0_coder_7d493_13 : decode cJ0_coder_7d493 13 = .ok (.iconst 1, 1) := by decide +kernel
theorem dJ0_coder_7d493_14 : decode cJ0_coder_7d493 14 = .ok (.ireturn, 1) := by decide +kernel
theorem dJ0_isLatin1_aae02_0 : decode cJ0_isLatin1_aae02 0 = .ok (.getstatic 38, 3) := by decide +kernel
theorem dJ0_isLatin1_aae02_3 : decode cJ0_isLatin1_aae02 3 = .ok (.ifCond .eq 14, 3) := by decide +kernel
theorem dJ0_isLatin1_aae02_6 : decode cJ0_isLatin1_aae02 6 = .ok (.aload_n 0, 1) := by decide +kernel
theorem dJ0_isLatin1_aae02_7 : decode cJ0_isLatin1_aae02 7 = .ok (.getfield 15, 3) := by decide +kernel
theorem dJ0_isLatin1_aae02_10 : decode cJ0_isLatin1_aae02 10 = .ok (.ifCond .ne 7, 3) := by decide +kernel
theorem dJ0_isLatin1_aae02_13 : decode cJ0_isLatin1_aae02 13 = .ok (.iconst 1, 1) := by decide +kernel
theorem dJ0_isLatin1_aae02_14 : decode cJ0_isLatin1_aae02 14 = .ok (.goto 4, 3) := by decide +kernel
theorem dJ0_isLatin1_aae02_17 : decode cJ0_isLatin1_aae02 17 = .ok (.iconst 0, 1) := by decide +kernel
theorem dJ0_isLatin1_aae02_18 : decode cJ0_isLatin1_aae02 18 = .ok (.ireturn, 1) := by decide +kernel
theorem dJ0_charAt_5068e_0 : decode cJ0_charAt_5068e 0 = .ok (.aload_n 0, 1) := by decide +kernel
theorem dJ0_charAt_5068e_1 : decode cJ0_charAt_5068e 1 = .ok (.invokevirtual 492, 3) := by decide +kernel
theorem dJ0_charAt_5068e_4 : decode cJ0_charAt_5068e 4 = .ok (.ifCond .eq 12, 3) := by decide +kernel
theorem dJ0_charAt_5068e_7 : decode cJ0_charAt_5068e 7 = .ok (.aload_n 0, 1) := by decide +kernel
theorem dJ0_charAt_5068e_8 : decode cJ0_charAt_5068e 8 = .ok (.getfield 9, 3) := by decide +kernel
theorem dJ0_charAt_5068e_11 : decode cJ0_charAt_5068e 11 = .ok (.iload_n 1, 1) := by decide +kernel
theorem dJ0_charAt_5068e_12 : decode cJ0_charAt_5068e 12 = .ok (.invokestatic 495, 3) := by decide +kernel
theorem dJ0_charAt_5068e_15 : decode cJ0_charAt_5068e 15 = .ok (.ireturn, 1) := by decide +kernel
theorem dJ0_charAt_5068e_16 : decode cJ0_charAt_5068e 16 = .ok (.aload_n 0, 1) := by decide +kernel
theorem dJ0_charAt_5068e_17 : decode cJ0_charAt_5068e 17 = .ok (.getfield 9, 3) := by decide +kernel
theorem dJ0_charAt_5068e_20 : decode cJ0_charAt_5068e 20 = .ok (.iload_n 1, 1) := by decide +kernel
theorem dJ0_charAt_5068e_21 : decode cJ0_charAt_5068e 21 = .ok (.invokestatic 498, 3) := by decide +kernel
theorem dJ0_charAt_5068e_24 : decode cJ0_charAt_5068e 24 = .ok (.ireturn, 1) := by decide +kernel
theorem dJ1_charAt_3b067_0 : decode cJ1_charAt_3b067 0 = .ok (.iload_n 1, 1) := by decide +kernel
theorem dJ1_charAt_3b067_1 : decode cJ1_charAt_3b067 1 = .ok (.aload_n 0, 1) := by decide +kernel
theorem dJ1_charAt_3b067_2 : decode cJ1_charAt_3b067 2 = .ok (.arraylength, 1) := by decide +kernel
theorem dJ1_charAt_3b067_3 : decode cJ1_charAt_3b067 3 = .ok (.invokestatic 9, 3) := by decide +kernel
theorem dJ1_charAt_3b067_6 : decode cJ1_charAt_3b067 6 = .ok (.aload_n 0, 1) := by decide +kernel
theorem dJ1_charAt_3b067_7 : decode cJ1_charAt_3b067 7 = .ok (.iload_n 1, 1) := by decide +kernel
theorem dJ1_charAt_3b067_8 : decode cJ1_charAt_3b067 8 = .ok (.baload, 1) := by decide +kernel
theorem dJ1_charAt_3b067_9 : decode cJ1_charAt_3b067 9 = .ok (.sipush 255, 3) := by decide +kernel
theorem dJ1_charAt_3b067_12 : decode cJ1_charAt_3b067 12 = .ok (.iand, 1) := by decide +kernel
theorem dJ1_charAt_3b067_13 : decode cJ1_charAt_3b067 13 = .ok (.i2c, 1) := by decide +kernel
theorem dJ1_charAt_3b067_14 : decode cJ1_charAt_3b067 14 = .ok (.ireturn, 1) := by decide +kernel
theorem dJ0_checkIndex_df160_0 : decode cJ0_checkIndex_df160 0 = .ok (.iload_n 0, 1) := by decide +kernel
theorem dJ0_checkIndex_df160_1 : decode cJ0_checkIndex_df160 1 = .ok (.iload_n 1, 1) := by decide +kernel
theorem dJ0_checkIndex_df160_2 : decode cJ0_checkIndex_df160 2 = .ok (.getstatic 1053, 3) := by decide +kernel
theorem dJ0_checkIndex_df160_5 : decode cJ0_checkIndex_df160 5 = .ok (.invokestatic 1059, 3) := by decide +kernel
theorem dJ0_checkIndex_df160_8 : decode cJ0_checkIndex_df160 8 = .ok (.pop, 1) := by decide +kernel
theorem dJ0_checkIndex_df160_9 : decode cJ0_checkIndex_df160 9 = .ok (.return_, 1) := by decide +kernel
theorem dJ3_checkIndex_8e157_0 : decode cJ3_checkIndex_8e157 0 = .ok (.iload_n 0, 1) := by decide +kernel
theorem dJ3_checkIndex_8e157_1 : decode cJ3_checkIndex_8e157 1 = .ok (.ifCond .lt 8, 3) := by decide +kernel
theorem dJ3_checkIndex_8e157_4 : decode cJ3_checkIndex_8e157 4 = .ok (.iload_n 0, 1) := by decide +kernel
theorem dJ3_checkIndex_8e157_5 : decode cJ3_checkIndex_8e157 5 = .ok (.iload_n 1, 1) := by decide +kernel
theorem dJ3_checkIndex_8e157_6 : decode cJ3_checkIndex_8e157 6 = .ok (.if_icmp .lt 10, 3) := by decide +kernel
theorem dJ3_checkIndex_8e157_9 : decode cJ3_checkIndex_8e157 9 = .ok (.aload_n 2, 1) := by decide +kernel
theorem dJ3_checkIndex_8e157_10 : decode cJ3_checkIndex_8e157 10 = .ok (.iload_n 0, 1) := by decide +kernel
theorem dJ3_checkIndex_8e157_11 : decode cJ3_checkIndex_8e157 11 = .ok (.iload_n 1, 1) := by decide +kernel
theorem dJ3_checkIndex_8e157_12 : decode cJ3_checkIndex_8e157 12 = .ok (.invokestatic 95, 3) := by decide +kernel
theorem dJ3_checkIndex_8e157_15 : decode cJ3_checkIndex_8e157 15 = .ok (.athrow, 1) := by decide +kernel
theorem dJ3_checkIndex_8e157_16 : decode cJ3_checkIndex_8e157 16 = .ok (.iload_n 0, 1) := by decide +kernel
theorem dJ3_checkIndex_8e157_17 : decode cJ3_checkIndex_8e157 17 = .ok (.ireturn, 1) := by decide +kernel
theorem dX5_put_0 : decode cX5_put 0 = .ok (.aload_n 0, 1) := by decide +kernel
theorem dX5_put_1 : decode cX5_put 1 = .ok (.getfield 13, 3) := by decide +kernel
theorem dX5_put_4 : decode cX5_put 4 = .ok (.sipush 1077, 3) := by decide +kernel
theorem dX5_put_7 : decode cX5_put 7 = .ok (.if_icmp .ge 23, 3) := by decide +kernel
theorem dX5_put_10 : decode cX5_put 10 = .ok (.aload_n 0, 1) := by decide +kernel
theorem dX5_put_11 : decode cX5_put 11 = .ok (.getfield 9, 3) := by decide +kernel
theorem dX5_put_14 : decode cX5_put 14 = .ok (.aload_n 0, 1) := by decide +kernel
theorem dX5_put_15 : decode cX5_put 15 = .ok (.getfield 13, 3) := by decide +kernel
theorem dX5_put_18 : decode cX5_put 18 = .ok (.iload_n 1, 1) := by decide +kernel
theorem dX5_put_19 : decode cX5_put 19 = .ok (.iastore, 1) := by decide +kernel
theorem dX5_put_20 : decode cX5_put 20 = .ok (.aload_n 0, 1) := by decide +kernel
theorem dX5_put_21 : decode cX5_put 21 = .ok (.dup, 1) := by decide +kernel
theorem dX5_put_22 : decode cX5_put 22 = .ok (.getfield 13, 3) := by decide +kernel
theorem dX5_put_25 : decode cX5_put 25 = .ok (.iconst 1, 1) := by decide +kernel
theorem dX5_put_26 : decode cX5_put 26 = .ok (.iadd, 1) := by decide +kernel
theorem dX5_put_27 : decode cX5_put 27 = .ok (.putfield 13, 3) := by decide +kernel
theorem dX5_put_30 : decode cX5_put 30 = .ok (.return_, 1) := by decide +kernel
theorem dX5_putText_0 : decode cX5_putText 0 = .ok (.iconst 0, 1) := by decide +kernel
theorem dX5_putText_1 : decode cX5_putText 1 = .ok (.istore_n 2, 1) := by decide +kernel
theorem dX5_putText_2 : decode cX5_putText 2 = .ok (.iload_n 2, 1) := by decide +kernel
theorem dX5_putText_3 : decode cX5_putText 3 = .ok (.aload_n 1, 1) := by decide +kernel
theorem dX5_putText_4 : decode cX5_putText 4 = .ok (.invokevirtual 17, 3) := by decide +kernel
theorem dX5_putText_7 : decode cX5_putText 7 = .ok (.if_icmp .ge 18, 3) := by decide +kernel
theorem dX5_putText_10 : decode cX5_putText 10 = .ok (.aload_n 0, 1) := by decide +kernel
theorem dX5_putText_11 : decode cX5_putText 11 = .ok (.aload_n 1, 1) := by decide +kernel
theorem dX5_putText_12 : decode cX5_putText 12 = .ok (.iload_n 2, 1) := by decide +kernel
theorem dX5_putText_13 : decode cX5_putText 13 = .ok (.invokevirtual 22, 3) := by decide +kernel
theorem dX5_putText_16 : decode cX5_putText 16 = .ok (.invokevirtual 26, 3) := by decide +kernel
theorem dX5_putText_19 : decode cX5_putText 19 = .ok (.iinc 2 1, 3) := by decide +kernel
theorem dX5_putText_22 : decode cX5_putText 22 = .ok (.goto (-20), 3) := by decide +kernel
theorem dX5_putText_25 : decode cX5_putText 25 = .ok (.return_, 1) := by decide +kernel
theorem dX7_at_0 : decode cX7_at 0 = .ok (.iload_n 1, 1) := by decide +kernel
theorem dX7_at_1 : decode cX7_at 1 = .ok (.ifCond .lt 27, 3) := by decide +kernel
theorem dX7_at_4 : decode cX7_at 4 = .ok (.iload_n 1, 1) := by decide +kernel
theorem dX7_at_5 : decode cX7_at 5 = .ok (.aload_n 0, 1) := by decide +kernel
theorem dX7_at_6 : decode cX7_at 6 = .ok (.getfield 15, 3) := by decide +kernel
theorem dX7_at_9 : decode cX7_at 9 = .ok (.if_icmp .ge 19, 3) := by decide +kernel
theorem dX7_at_12 : decode cX7_at 12 = .ok (.iload_n 1, 1) := by decide +kernel
theorem dX7_at_13 : decode cX7_at 13 = .ok (.sipush 1200, 3) := by decide +kernel
theorem dX7_at_16 : decode cX7_at 16 = .ok (.if_icmp .ge 12, 3) := by decide +kernel
theorem dX7_at_19 : decode cX7_at 19 = .ok (.aload_n 0, 1) := by decide +kernel
theorem dX7_at_20 : decode cX7_at 20 = .ok (.getfield 11, 3) := by decide +kernel
theorem dX7_at_23 : decode cX7_at 23 = .ok (.iload_n 1, 1) := by decide +kernel
theorem dX7_at_24 : decode cX7_at 24 = .ok (.iaload, 1) := by decide +kernel
theorem dX7_at_25 : decode cX7_at 25 = .ok (.goto 4, 3) := by decide +kernel
theorem dX7_at_28 : decode cX7_at 28 = .ok (.iconst (-1), 1) := by decide +kernel
theorem dX7_at_29 : decode cX7_at 29 = .ok (.ireturn, 1) := by decide +kernel
theorem dX7_isTenFigure_0 : decode cX7_isTenFigure 0 = .ok (.iload_n 0, 1) := by decide +kernel
theorem dX7_isTenFigure_1 : decode cX7_isTenFigure 1 = .ok (.bipush 48, 2) := by decide +kernel
theorem dX7_isTenFigure_3 : decode cX7_isTenFigure 3 = .ok (.if_icmp .lt 13, 3) := by decide +kernel
theorem dX7_isTenFigure_6 : decode cX7_isTenFigure 6 = .ok (.iload_n 0, 1) := by decide +kernel
theorem dX7_isTenFigure_7 : decode cX7_isTenFigure 7 = .ok (.bipush 57, 2) := by decide +kernel
theorem dX7_isTenFigure_9 : decode cX7_isTenFigure 9 = .ok (.if_icmp .gt 7, 3) := by decide +kernel
theorem dX7_isTenFigure_12 : decode cX7_isTenFigure 12 = .ok (.iconst 1, 1) := by decide +kernel
theorem dX7_isTenFigure_13 : decode cX7_isTenFigure 13 = .ok (.goto 4, 3) := by decide +kernel
theorem dX7_isTenFigure_16 : decode cX7_isTenFigure 16 = .ok (.iconst 0, 1) := by decide +kernel
theorem dX7_isTenFigure_17 : decode cX7_isTenFigure 17 = .ok (.ireturn, 1) := by decide +kernel
theorem dX7_figureAt_0 : decode cX7_figureAt 0 = .ok (.aload_n 0, 1) := by decide +kernel
theorem dX7_figureAt_1 : decode cX7_figureAt 1 = .ok (.iload_n 1, 1) := by decide +kernel
theorem dX7_figureAt_2 : decode cX7_figureAt 2 = .ok (.invokevirtual 19, 3) := by decide +kernel
theorem dX7_figureAt_5 : decode cX7_figureAt 5 = .ok (.istore_n 2, 1) := by decide +kernel
theorem dX7_figureAt_6 : decode cX7_figureAt 6 = .ok (.iload_n 2, 1) := by decide +kernel
theorem dX7_figureAt_7 : decode cX7_figureAt 7 = .ok (.invokestatic 90, 3) := by decide +kernel
theorem dX7_figureAt_10 : decode cX7_figureAt 10 = .ok (.ifCond .eq 8, 3) := by decide +kernel
theorem dX7_figureAt_13 : decode cX7_figureAt 13 = .ok (.iload_n 2, 1) := by decide +kernel
theorem dX7_figureAt_14 : decode cX7_figureAt 14 = .ok (.bipush 48, 2) := by decide +kernel
theorem dX7_figureAt_16 : decode cX7_figureAt 16 = .ok (.isub, 1) := by decide +kernel
theorem dX7_figureAt_17 : decode cX7_figureAt 17 = .ok (.ireturn, 1) := by decide +kernel
theorem dX7_figureAt_18 : decode cX7_figureAt 18 = .ok (.aload_n 0, 1) := by decide +kernel
theorem dX7_figureAt_19 : decode cX7_figureAt 19 = .ok (.getfield 41, 3) := by decide +kernel
theorem dX7_figureAt_22 : decode cX7_figureAt 22 = .ok (.ifCond .eq 25, 3) := by decide +kernel
theorem dX7_figureAt_25 : decode cX7_figureAt 25 = .ok (.iload_n 2, 1) := by decide +kernel
theorem dX7_figureAt_26 : decode cX7_figureAt 26 = .ok (.bipush 97, 2) := by decide +kernel
theorem dX7_figureAt_28 : decode cX7_figureAt 28 = .ok (.if_icmp .lt 19, 3) := by decide +kernel
theorem dX7_figureAt_31 : decode cX7_figureAt 31 = .ok (.iload_n 2, 1) := by decide +kernel
theorem dX7_figureAt_32 : decode cX7_figureAt 32 = .ok (.bipush 102, 2) := by decide +kernel
theorem dX7_figureAt_34 : decode cX7_figureAt 34 = .ok (.if_icmp .gt 13, 3) := by decide +kernel
theorem dX7_figureAt_37 : decode cX7_figureAt 37 = .ok (.iload_n 2, 1) := by decide +kernel
theorem dX7_figureAt_38 : decode cX7_figureAt 38 = .ok (.bipush 97, 2) := by decide +kernel
theorem dX7_figureAt_40 : decode cX7_figureAt 40 = .ok (.isub, 1) := by decide +kernel
theorem dX7_figureAt_41 : decode cX7_figureAt 41 = .ok (.bipush 10, 2) := by decide +kernel
theorem dX7_figureAt_43 : decode cX7_figureAt 43 = .ok (.iadd, 1) := by decide +kernel
theorem dX7_figureAt_44 : decode cX7_figureAt 44 = .ok (.goto 4, 3) := by decide +kernel
theorem dX7_figureAt_47 : decode cX7_figureAt 47 = .ok (.iconst (-1), 1) := by decide +kernel
theorem dX7_figureAt_48 : decode cX7_figureAt 48 = .ok (.ireturn, 1) := by decide +kernel
theorem dX7_parseFigures_0 : decode cX7_parseFigures 0 = .ok (.iconst 0, 1) := by decide +kernel
theorem dX7_parseFigures_1 : decode cX7_parseFigures 1 = .ok (.istore_n 1, 1) := by decide +kernel
theorem dX7_parseFigures_2 : decode cX7_parseFigures 2 = .ok (.iconst 0, 1) := by decide +kernel
theorem dX7_parseFigures_3 : decode cX7_parseFigures 3 = .ok (.istore_n 2, 1) := by decide +kernel
theorem dX7_parseFigures_4 : decode cX7_parseFigures 4 = .ok (.aload_n 0, 1) := by decide +kernel
theorem dX7_parseFigures_5 : decode cX7_parseFigures 5 = .ok (.iconst 0, 1) := by decide +kernel
theorem dX7_parseFigures_6 : decode cX7_parseFigures 6 = .ok (.putfield 84, 3) := by decide +kernel
theorem dX7_parseFigures_9 : decode cX7_parseFigures 9 = .ok (.aload_n 0, 1) := by decide +kernel
theorem dX7_parseFigures_10 : decode cX7_parseFigures 10 = .ok (.iconst 0, 1) := by decide +kernel
theorem dX7_parseFigures_11 : decode cX7_parseFigures 11 = .ok (.putfield 87, 3) := by decide +kernel
theorem dX7_parseFigures_14 : decode cX7_parseFigures 14 = .ok (.aload_n 0, 1) := by decide +kernel
theorem dX7_parseFigures_15 : decode cX7_parseFigures 15 = .ok (.aload_n 0, 1) := by decide +kernel
theorem dX7_parseFigures_16 : decode cX7_parseFigures 16 = .ok (.getfield 44, 3) := by decide +kernel
theorem dX7_parseFigures_19 : decode cX7_parseFigures 19 = .ok (.putfield 51, 3) := by decide +kernel
theorem dX7_parseFigures_22 : decode cX7_parseFigures 22 = .ok (.aload_n 0, 1) := by decide +kernel
theorem dX7_parseFigures_23 : decode cX7_parseFigures 23 = .ok (.getfield 51, 3) := by decide +kernel
theorem dX7_parseFigures_26 : decode cX7_parseFigures 26 = .ok (.aload_n 0, 1) := by decide +kernel
theorem dX7_parseFigures_27 : decode cX7_parseFigures 27 = .ok (.getfield 15, 3) := by decide +kernel
theorem dX7_parseFigures_30 : decode cX7_parseFigures 30 = .ok (.if_icmp .ge 101, 3) := by decide +kernel
theorem dX7_parseFigures_33 : decode cX7_parseFigures 33 = .ok (.aload_n 0, 1) := by decide +kernel
theorem dX7_parseFigures_34 : decode cX7_parseFigures 34 = .ok (.aload_n 0, 1) := by decide +kernel
theorem dX7_parseFigures_35 : decode cX7_parseFigures 35 = .ok (.getfield 51, 3) := by decide +kernel
theorem dX7_parseFigures_38 : decode cX7_parseFigures 38 = .ok (.invokevirtual 66, 3) := by decide +kernel
theorem dX7_parseFigures_41 : decode cX7_parseFigures 41 = .ok (.istore_n 3, 1) := by decide +kernel
theorem dX7_parseFigures_42 : decode cX7_parseFigures 42 = .ok (.iload_n 3, 1) := by decide +kernel
theorem dX7_parseFigures_43 : decode cX7_parseFigures 43 = .ok (.ifCond .lt 51, 3) := by decide +kernel
theorem dX7_parseFigures_46 : decode cX7_parseFigures 46 = .ok (.iconst 1, 1) := by decide +kernel
theorem dX7_parseFigures_47 : decode cX7_parseFigures 47 = .ok (.istore_n 1, 1) := by decide +kernel
theorem dX7_parseFigures_48 : decode cX7_parseFigures 48 = .ok (.aload_n 0, 1) := by decide +kernel
theorem dX7_parseFigures_49 : decode cX7_parseFigures 49 = .ok (.dup, 1) := by decide +kernel
theorem dX7_parseFigures_50 : decode cX7_parseFigures 50 = .ok (.getfield 84, 3) := by decide +kernel
theorem dX7_parseFigures_53 : decode cX7_parseFigures 53 = .ok (.iload_n 2, 1) := by decide +kernel
theorem dX7_parseFigures_54 : decode cX7_parseFigures 54 = .ok (.ifCond .eq 7, 3) := by decide +kernel
theorem dX7_parseFigures_57 : decode cX7_parseFigures 57 = .ok (.iconst 1, 1) := by decide +kernel
theorem dX7_parseFigures_58 : decode cX7_parseFigures 58 = .ok (.goto 4, 3) := by decide +kernel
theorem dX7_parseFigures_61 : decode cX7_parseFigures 61 = .ok (.iconst 0, 1) := by decide +kernel
theorem dX7_parseFigures_62 : decode cX7_parseFigures 62 = .ok (.iadd, 1) := by decide +kernel
theorem dX7_parseFigures_63 : decode cX7_parseFigures 63 = .ok (.putfield 84, 3) := by decide +kernel
theorem dX7_parseFigures_66 : decode cX7_parseFigures 66 = .ok (.aload_n 0, 1) := by decide +kernel
theorem dX7_parseFigures_67 : decode cX7_parseFigures 67 = .ok (.dup, 1) := by decide +kernel
theorem dX7_parseFigures_68 : decode cX7_parseFigures 68 = .ok (.getfield 87, 3) := by decide +kernel
theorem dX7_parseFigures_71 : decode cX7_parseFigures 71 = .ok (.aload_n 0, 1) := by decide +kernel
theorem dX7_parseFigures_72 : decode cX7_parseFigures 72 = .ok (.getfield 87, 3) := by decide +kernel
theorem dX7_parseFigures_75 : decode cX7_parseFigures 75 = .ok (.ifCond .gt 7, 3) := by decide +kernel
theorem dX7_parseFigures_78 : decode cX7_parseFigures 78 = .ok (.iload_n 3, 1) := by decide +kernel
theorem dX7_parseFigures_79 : decode cX7_parseFigures 79 = .ok (.ifCond .le 7, 3) := by decide +kernel
theorem dX7_parseFigures_82 : decode cX7_parseFigures 82 = .ok (.iconst 1, 1) := by decide +kernel
theorem dX7_parseFigures_83 : decode cX7_parseFigures 83 = .ok (.goto 4, 3) := by decide +kernel
theorem dX7_parseFigures_86 : decode cX7_parseFigures 86 = .ok (.iconst 0, 1) := by decide +kernel
theorem dX7_parseFigures_87 : decode cX7_parseFigures 87 = .ok (.iadd, 1) := by decide +kernel
theorem dX7_parseFigures_88 : decode cX7_parseFigures 88 = .ok (.putfield 87, 3) := by decide +kernel
theorem dX7_parseFigures_91 : decode cX7_parseFigures 91 = .ok (.goto 27, 3) := by decide +kernel
theorem dX7_parseFigures_94 : decode cX7_parseFigures 94 = .ok (.aload_n 0, 1) := by decide +kernel
theorem dX7_parseFigures_95 : decode cX7_parseFigures 95 = .ok (.aload_n 0, 1) := by decide +kernel
theorem dX7_parseFigures_96 : decode cX7_parseFigures 96 = .ok (.getfield 51, 3) := by decide +kernel
theorem dX7_parseFigures_99 : decode cX7_parseFigures 99 = .ok (.invokevirtual 19, 3) := by decide +kernel
theorem dX7_parseFigures_102 : decode cX7_parseFigures 102 = .ok (.bipush 46, 2) := by decide +kernel
theorem dX7_parseFigures_104 : decode cX7_parseFigures 104 = .ok (.if_icmp .ne 12, 3) := by decide +kernel
theorem dX7_parseFigures_107 : decode cX7_parseFigures 107 = .ok (.iload_n 2, 1) := by decide +kernel
theorem dX7_parseFigures_108 : decode cX7_parseFigures 108 = .ok (.ifCond .ne 8, 3) := by decide +kernel
theorem dX7_parseFigures_111 : decode cX7_parseFigures 111 = .ok (.iconst 1, 1) := by decide +kernel
theorem dX7_parseFigures_112 : decode cX7_parseFigures 112 = .ok (.istore_n 2, 1) := by decide +kernel
theorem dX7_parseFigures_113 : decode cX7_parseFigures 113 = .ok (.goto 5, 3) := by decide +kernel
theorem dX7_parseFigures_116 : decode cX7_parseFigures 116 = .ok (.iload_n 1, 1) := by decide +kernel
theorem dX7_parseFigures_117 : decode cX7_parseFigures 117 = .ok (.ireturn, 1) := by decide +kernel
theorem dX7_parseFigures_118 : decode cX7_parseFigures 118 = .ok (.aload_n 0, 1) := by decide +kernel
theorem dX7_parseFigures_119 : decode cX7_parseFigures 119 = .ok (.dup, 1) := by decide +kernel
theorem dX7_parseFigures_120 : decode cX7_parseFigures 120 = .ok (.getfield 51, 3) := by decide +kernel
theorem dX7_parseFigures_123 : decode cX7_parseFigures 123 = .ok (.iconst 1, 1) := by decide +kernel
theorem dX7_parseFigures_124 : decode cX7_parseFigures 124 = .ok (.iadd, 1) := by decide +kernel
theorem dX7_parseFigures_125 : decode cX7_parseFigures 125 = .ok (.putfield 51, 3) := by decide +kernel
theorem dX7_parseFigures_128 : decode cX7_parseFigures 128 = .ok (.goto (-106), 3) := by decide +kernel
theorem dX7_parseFigures_131 : decode cX7_parseFigures 131 = .ok (.iload_n 1, 1) := by decide +kernel
theorem dX7_parseFigures_132 : decode cX7_parseFigures 132 = .ok (.ireturn, 1) := by decide +kernel
theorem dX7_signLength_0 : decode cX7_signLength 0 = .ok (.aload_n 0, 1) := by decide +kernel
theorem dX7_signLength_1 : decode cX7_signLength 1 = .ok (.iload_n 1, 1) := by decide +kernel
theorem dX7_signLength_2 : decode cX7_signLength 2 = .ok (.invokevirtual 19, 3) := by decide +kernel
theorem dX7_signLength_5 : decode cX7_signLength 5 = .ok (.bipush 45, 2) := by decide +kernel
theorem dX7_signLength_7 : decode cX7_signLength 7 = .ok (.if_icmp .eq 13, 3) := by decide +kernel
theorem dX7_signLength_10 : decode cX7_signLength 10 = .ok (.aload_n 0, 1) := by decide +kernel
theorem dX7_signLength_11 : decode cX7_signLength 11 = .ok (.iload_n 1, 1) := by decide +kernel
theorem dX7_signLength_12 : decode cX7_signLength 12 = .ok (.invokevirtual 19, 3) := by decide +kernel
theorem dX7_signLength_15 : decode cX7_signLength 15 = .ok (.bipush 43, 2) := by decide +kernel
theorem dX7_signLength_17 : decode cX7_signLength 17 = .ok (.if_icmp .ne 7, 3) := by decide +kernel
theorem dX7_signLength_20 : decode cX7_signLength 20 = .ok (.iconst 1, 1) := by decide +kernel
theorem dX7_signLength_21 : decode cX7_signLength 21 = .ok (.goto 4, 3) := by decide +kernel
theorem dX7_signLength_24 : decode cX7_signLength 24 = .ok (.iconst 0, 1) := by decide +kernel
theorem dX7_signLength_25 : decode cX7_signLength 25 = .ok (.ireturn, 1) := by decide +kernel
theorem dX7_parsePower_0 : decode cX7_parsePower 0 = .ok (.iload_n 1, 1) := by decide +kernel
theorem dX7_parsePower_1 : decode cX7_parsePower 1 = .ok (.aload_n 0, 1) := by decide +kernel
theorem dX7_parsePower_2 : decode cX7_parsePower 2 = .ok (.iload_n 1, 1) := by decide +kernel
theorem dX7_parsePower_3 : decode cX7_parsePower 3 = .ok (.invokevirtual 27, 3) := by decide +kernel
theorem dX7_parsePower_6 : decode cX7_parsePower 6 = .ok (.iadd, 1) := by decide +kernel
theorem dX7_parsePower_7 : decode cX7_parsePower 7 = .ok (.istore_n 2, 1) := by decide +kernel
theorem dX7_parsePower_8 : decode cX7_parsePower 8 = .ok (.iload_n 2, 1) := by decide +kernel
theorem dX7_parsePower_9 : decode cX7_parsePower 9 = .ok (.istore_n 3, 1) := by decide +kernel
theorem dX7_parsePower_10 : decode cX7_parsePower 10 = .ok (.iload_n 3, 1) := by decide +kernel
theorem dX7_parsePower_11 : decode cX7_parsePower 11 = .ok (.iload_n 2, 1) := by decide +kernel
theorem dX7_parsePower_12 : decode cX7_parsePower 12 = .ok (.bipush 6, 2) := by decide +kernel
theorem dX7_parsePower_14 : decode cX7_parsePower 14 = .ok (.iadd, 1) := by decide +kernel
theorem dX7_parsePower_15 : decode cX7_parsePower 15 = .ok (.if_icmp .ge 40, 3) := by decide +kernel
theorem dX7_parsePower_18 : decode cX7_parsePower 18 = .ok (.aload_n 0, 1) := by decide +kernel
theorem dX7_parsePower_19 : decode cX7_parsePower 19 = .ok (.iload_n 3, 1) := by decide +kernel
theorem dX7_parsePower_20 : decode cX7_parsePower 20 = .ok (.invokevirtual 19, 3) := by decide +kernel
theorem dX7_parsePower_23 : decode cX7_parsePower 23 = .ok (.invokestatic 90, 3) := by decide +kernel
theorem dX7_parsePower_26 : decode cX7_parsePower 26 = .ok (.ifCond .eq 29, 3) := by decide +kernel
theorem dX7_parsePower_29 : decode cX7_parsePower 29 = .ok (.aload_n 0, 1) := by decide +kernel
theorem dX7_parsePower_30 : decode cX7_parsePower 30 = .ok (.bipush 10, 2) := by decide +kernel
theorem dX7_parsePower_32 : decode cX7_parsePower 32 = .ok (.aload_n 0, 1) := by decide +kernel
theorem dX7_parsePower_33 : decode cX7_parsePower 33 = .ok (.getfield 54, 3) := by decide +kernel
theorem dX7_parsePower_36 : decode cX7_parsePower 36 = .ok (.imul, 1) := by decide +kernel
theorem dX7_parsePower_37 : decode cX7_parsePower 37 = .ok (.aload_n 0, 1) := by decide +kernel
theorem dX7_parsePower_38 : decode cX7_parsePower 38 = .ok (.iload_n 3, 1) := by decide +kernel
theorem dX7_parsePower_39 : decode cX7_parsePower 39 = .ok (.invokevirtual 19, 3) := by decide +kernel
theorem dX7_parsePower_42 : decode cX7_parsePower 42 = .ok (.iadd, 1) := by decide +kernel
theorem dX7_parsePower_43 : decode cX7_parsePower 43 = .ok (.bipush 48, 2) := by decide +kernel
theorem dX7_parsePower_45 : decode cX7_parsePower 45 = .ok (.isub, 1) := by decide +kernel
theorem dX7_parsePower_46 : decode cX7_parsePower 46 = .ok (.putfield 54, 3) := by decide +kernel
theorem dX7_parsePower_49 : decode cX7_parsePower 49 = .ok (.iinc 3 1, 3) := by decide +kernel
theorem dX7_parsePower_52 : decode cX7_parsePower 52 = .ok (.goto (-42), 3) := by decide +kernel
theorem dX7_parsePower_55 : decode cX7_parsePower 55 = .ok (.aload_n 0, 1) := by decide +kernel
theorem dX7_parsePower_56 : decode cX7_parsePower 56 = .ok (.iload_n 1, 1) := by decide +kernel
theorem dX7_parsePower_57 : decode cX7_parsePower 57 = .ok (.invokevirtual 19, 3) := by decide +kernel
theorem dX7_parsePower_60 : decode cX7_parsePower 60 = .ok (.bipush 45, 2) := by decide +kernel
theorem dX7_parsePower_62 : decode cX7_parsePower 62 = .ok (.if_icmp .ne 12, 3) := by decide +kernel
theorem dX7_parsePower_65 : decode cX7_parsePower 65 = .ok (.aload_n 0, 1) := by decide +kernel
theorem dX7_parsePower_66 : decode cX7_parsePower 66 = .ok (.aload_n 0, 1) := by decide +kernel
theorem dX7_parsePower_67 : decode cX7_parsePower 67 = .ok (.getfield 54, 3) := by decide +kernel
theorem dX7_parsePower_70 : decode cX7_parsePower 70 = .ok (.ineg, 1) := by decide +kernel
theorem dX7_parsePower_71 : decode cX7_parsePower 71 = .ok (.putfield 54, 3) := by decide +kernel
theorem dX7_parsePower_74 : decode cX7_parsePower 74 = .ok (.iload_n 3, 1) := by decide +kernel
theorem dX7_parsePower_75 : decode cX7_parsePower 75 = .ok (.iload_n 2, 1) := by decide +kernel
theorem dX7_parsePower_76 : decode cX7_parsePower 76 = .ok (.if_icmp .le 15, 3) := by decide +kernel
theorem dX7_parsePower_79 : decode cX7_parsePower 79 = .ok (.iload_n 3, 1) := by decide +kernel
theorem dX7_parsePower_80 : decode cX7_parsePower 80 = .ok (.aload_n 0, 1) := by decide +kernel
theorem dX7_parsePower_81 : decode cX7_parsePower 81 = .ok (.getfield 15, 3) := by decide +kernel
theorem dX7_parsePower_84 : decode cX7_parsePower 84 = .ok (.if_icmp .ne 7, 3) := by decide +kernel
theorem dX7_parsePower_87 : decode cX7_parsePower 87 = .ok (.iconst (-1), 1) := by decide +kernel
theorem dX7_parsePower_88 : decode cX7_parsePower 88 = .ok (.goto 4, 3) := by decide +kernel
theorem dX7_parsePower_91 : decode cX7_parsePower 91 = .ok (.iload_n 3, 1) := by decide +kernel
theorem dX7_parsePower_92 : decode cX7_parsePower 92 = .ok (.ireturn, 1) := by decide +kernel
theorem dX7_parseWord_0 : decode cX7_parseWord 0 = .ok (.iconst 0, 1) := by decide +kernel
theorem dX7_parseWord_1 : decode cX7_parseWord 1 = .ok (.istore_n 3, 1) := by decide +kernel
theorem dX7_parseWord_2 : decode cX7_parseWord 2 = .ok (.iload_n 3, 1) := by decide +kernel
theorem dX7_parseWord_3 : decode cX7_parseWord 3 = .ok (.aload_n 1, 1) := by decide +kernel
theorem dX7_parseWord_4 : decode cX7_parseWord 4 = .ok (.invokevirtual 75, 3) := by decide +kernel
theorem dX7_parseWord_7 : decode cX7_parseWord 7 = .ok (.if_icmp .ge 28, 3) := by decide +kernel
theorem dX7_parseWord_10 : decode cX7_parseWord 10 = .ok (.aload_n 0, 1) := by decide +kernel
theorem dX7_parseWord_11 : decode cX7_parseWord 11 = .ok (.iload_n 2, 1) := by decide +kernel
theorem dX7_parseWord_12 : decode cX7_parseWord 12 = .ok (.iload_n 3, 1) := by decide +kernel
theorem dX7_parseWord_13 : decode cX7_parseWord 13 = .ok (.iadd, 1) := by decide +kernel
theorem dX7_parseWord_14 : decode cX7_parseWord 14 = .ok (.invokevirtual 19, 3) := by decide +kernel
theorem dX7_parseWord_17 : decode cX7_parseWord 17 = .ok (.aload_n 1, 1) := by decide +kernel
theorem dX7_parseWord_18 : decode cX7_parseWord 18 = .ok (.iload_n 3, 1) := by decide +kernel
theorem dX7_parseWord_19 : decode cX7_parseWord 19 = .ok (.invokevirtual 80, 3) := by decide +kernel
theorem dX7_parseWord_22 : decode cX7_parseWord 22 = .ok (.if_icmp .eq 7, 3) := by decide +kernel
theorem dX7_parseWord_25 : decode cX7_parseWord 25 = .ok (.iload_n 2, 1) := by decide +kernel
theorem dX7_parseWord_26 : decode cX7_parseWord 26 = .ok (.iload_n 3, 1) := by decide +kernel
theorem dX7_parseWord_27 : decode cX7_parseWord 27 = .ok (.iadd, 1) := by decide +kernel
theorem dX7_parseWord_28 : decode cX7_parseWord 28 = .ok (.ireturn, 1) := by decide +kernel
theorem dX7_parseWord_29 : decode cX7_parseWord 29 = .ok (.iinc 3 1, 3) := by decide +kernel
theorem dX7_parseWord_32 : decode cX7_parseWord 32 = .ok (.goto (-30), 3) := by decide +kernel
theorem dX7_parseWord_35 : decode cX7_parseWord 35 = .ok (.iload_n 2, 1) := by decide +kernel
theorem dX7_parseWord_36 : decode cX7_parseWord 36 = .ok (.aload_n 1, 1) := by decide +kernel
theorem dX7_parseWord_37 : decode cX7_parseWord 37 = .ok (.invokevirtual 75, 3) := by decide +kernel
theorem dX7_parseWord_40 : decode cX7_parseWord 40 = .ok (.iadd, 1) := by decide +kernel
theorem dX7_parseWord_41 : decode cX7_parseWord 41 = .ok (.istore_n 3, 1) := by decide +kernel
theorem dX7_parseWord_42 : decode cX7_parseWord 42 = .ok (.iload_n 3, 1) := by decide +kernel
theorem dX7_parseWord_43 : decode cX7_parseWord 43 = .ok (.aload_n 0, 1) := by decide +kernel
theorem dX7_parseWord_44 : decode cX7_parseWord 44 = .ok (.getfield 15, 3) := by decide +kernel
theorem dX7_parseWord_47 : decode cX7_parseWord 47 = .ok (.if_icmp .ne 7, 3) := by decide +kernel
theorem dX7_parseWord_50 : decode cX7_parseWord 50 = .ok (.iconst (-1), 1) := by decide +kernel
theorem dX7_parseWord_51 : decode cX7_parseWord 51 = .ok (.goto 4, 3) := by decide +kernel
theorem dX7_parseWord_54 : decode cX7_parseWord 54 = .ok (.iload_n 3, 1) := by decide +kernel
theorem dX7_parseWord_55 : decode cX7_parseWord 55 = .ok (.ireturn, 1) := by decide +kernel
theorem dX7_parse_0 : decode cX7_parse 0 = .ok (.aload_n 0, 1) := by decide +kernel
theorem dX7_parse_1 : decode cX7_parse 1 = .ok (.aload_n 0, 1) := by decide +kernel
theorem dX7_parse_2 : decode cX7_parse 2 = .ok (.iconst 0, 1) := by decide +kernel
theorem dX7_parse_3 : decode cX7_parse 3 = .ok (.invokevirtual 19, 3) := by decide +kernel
theorem dX7_parse_6 : decode cX7_parse 6 = .ok (.bipush 45, 2) := by decide +kernel
theorem dX7_parse_8 : decode cX7_parse 8 = .ok (.if_icmp .ne 7, 3) := by decide +kernel
theorem dX7_parse_11 : decode cX7_parse 11 = .ok (.iconst 1, 1) := by decide +kernel
theorem dX7_parse_12 : decode cX7_parse 12 = .ok (.goto 4, 3) := by decide +kernel
theorem dX7_parse_15 : decode cX7_parse 15 = .ok (.iconst 0, 1) := by decide +kernel
theorem dX7_parse_16 : decode cX7_parse 16 = .ok (.putfield 23, 3) := by decide +kernel
theorem dX7_parse_19 : decode cX7_parse 19 = .ok (.aload_n 0, 1) := by decide +kernel
theorem dX7_parse_20 : decode cX7_parse 20 = .ok (.iconst 0, 1) := by decide +kernel
theorem dX7_parse_21 : decode cX7_parse 21 = .ok (.invokevirtual 27, 3) := by decide +kernel
theorem dX7_parse_24 : decode cX7_parse 24 = .ok (.istore_n 1, 1) := by decide +kernel
theorem dX7_parse_25 : decode cX7_parse 25 = .ok (.aload_n 0, 1) := by decide +kernel
theorem dX7_parse_26 : decode cX7_parse 26 = .ok (.iload_n 1, 1) := by decide +kernel
theorem dX7_parse_27 : decode cX7_parse 27 = .ok (.invokevirtual 19, 3) := by decide +kernel
theorem dX7_parse_30 : decode cX7_parse 30 = .ok (.bipush 105, 2) := by decide +kernel
theorem dX7_parse_32 : decode cX7_parse 32 = .ok (.if_icmp .ne 16, 3) := by decide +kernel
theorem dX7_parse_35 : decode cX7_parse 35 = .ok (.aload_n 0, 1) := by decide +kernel
theorem dX7_parse_36 : decode cX7_parse 36 = .ok (.iconst 3, 1) := by decide +kernel
theorem dX7_parse_37 : decode cX7_parse 37 = .ok (.putfield 30, 3) := by decide +kernel
theorem dX7_parse_40 : decode cX7_parse 40 = .ok (.aload_n 0, 1) := by decide +kernel
theorem dX7_parse_41 : decode cX7_parse 41 = .ok (.ldc 33, 2) := by decide +kernel
theorem dX7_parse_43 : decode cX7_parse 43 = .ok (.iload_n 1, 1) := by decide +kernel
theorem dX7_parse_44 : decode cX7_parse 44 = .ok (.invokevirtual 35, 3) := by decide +kernel
theorem dX7_parse_47 : decode cX7_parse 47 = .ok (.ireturn, 1) := by decide +kernel
theorem dX7_parse_48 : decode cX7_parse 48 = .ok (.aload_n 0, 1) := by decide +kernel
theorem dX7_parse_49 : decode cX7_parse 49 = .ok (.iload_n 1, 1) := by decide +kernel
theorem dX7_parse_50 : decode cX7_parse 50 = .ok (.invokevirtual 19, 3) := by decide +kernel
theorem dX7_parse_53 : decode cX7_parse 53 = .ok (.bipush 110, 2) := by decide +kernel
theorem dX7_parse_55 : decode cX7_parse 55 = .ok (.if_icmp .ne 16, 3) := by decide +kernel
theorem dX7_parse_58 : decode cX7_parse 58 = .ok (.aload_n 0, 1) := by decide +kernel
theorem dX7_parse_59 : decode cX7_parse 59 = .ok (.iconst 4, 1) := by decide +kernel
theorem dX7_parse_60 : decode cX7_parse 60 = .ok (.putfield 30, 3) := by decide +kernel
theorem dX7_parse_63 : decode cX7_parse 63 = .ok (.aload_n 0, 1) := by decide +kernel
theorem dX7_parse_64 : decode cX7_parse 64 = .ok (.ldc 39, 2) := by decide +kernel
theorem dX7_parse_66 : decode cX7_parse 66 = .ok (.iload_n 1, 1) := by decide +kernel
theorem dX7_parse_67 : decode cX7_parse 67 = .ok (.invokevirtual 35, 3) := by decide +kernel
theorem dX7_parse_70 : decode cX7_parse 70 = .ok (.ireturn, 1) := by decide +kernel
theorem dX7_parse_71 : decode cX7_parse 71 = .ok (.aload_n 0, 1) := by decide +kernel
theorem dX7_parse_72 : decode cX7_parse 72 = .ok (.iconst 2, 1) := by decide +kernel
theorem dX7_parse_73 : decode cX7_parse 73 = .ok (.putfield 30, 3) := by decide +kernel
theorem dX7_parse_76 : decode cX7_parse 76 = .ok (.aload_n 0, 1) := by decide +kernel
theorem dX7_parse_77 : decode cX7_parse 77 = .ok (.aload_n 0, 1) := by decide +kernel
theorem dX7_parse_78 : decode cX7_parse 78 = .ok (.iload_n 1, 1) := by decide +kernel
theorem dX7_parse_79 : decode cX7_parse 79 = .ok (.invokevirtual 19, 3) := by decide +kernel
theorem dX7_parse_82 : decode cX7_parse 82 = .ok (.bipush 48, 2) := by decide +kernel
theorem dX7_parse_84 : decode cX7_parse 84 = .ok (.if_icmp .ne 19, 3) := by decide +kernel
theorem dX7_parse_87 : decode cX7_parse 87 = .ok (.aload_n 0, 1) := by decide +kernel
theorem dX7_parse_88 : decode cX7_parse 88 = .ok (.iload_n 1, 1) := by decide +kernel
theorem dX7_parse_89 : decode cX7_parse 89 = .ok (.iconst 1, 1) := by decide +kernel
theorem dX7_parse_90 : decode cX7_parse 90 = .ok (.iadd, 1) := by decide +kernel
theorem dX7_parse_91 : decode cX7_parse 91 = .ok (.invokevirtual 19, 3) := by decide +kernel
theorem dX7_parse_94 : decode cX7_parse 94 = .ok (.bipush 120, 2) := by decide +kernel
theorem dX7_parse_96 : decode cX7_parse 96 = .ok (.if_icmp .ne 7, 3) := by decide +kernel
theorem dX7_parse_99 : decode cX7_parse 99 = .ok (.iconst 1, 1) := by decide +kernel
theorem dX7_parse_100 : decode cX7_parse 100 = .ok (.goto 4, 3) := by decide +kernel
theorem dX7_parse_103 : decode cX7_parse 103 = .ok (.iconst 0, 1) := by decide +kernel
theorem dX7_parse_104 : decode cX7_parse 104 = .ok (.putfield 41, 3) := by decide +kernel
theorem dX7_parse_107 : decode cX7_parse 107 = .ok (.aload_n 0, 1) := by decide +kernel
theorem dX7_parse_108 : decode cX7_parse 108 = .ok (.aload_n 0, 1) := by decide +kernel
theorem dX7_parse_109 : decode cX7_parse 109 = .ok (.getfield 41, 3) := by decide +kernel
theorem dX7_parse_112 : decode cX7_parse 112 = .ok (.ifCond .eq 9, 3) := by decide +kernel
theorem dX7_parse_115 : decode cX7_parse 115 = .ok (.iload_n 1, 1) := by decide +kernel
theorem dX7_parse_116 : decode cX7_parse 116 = .ok (.iconst 2, 1) := by decide +kernel
theorem dX7_parse_117 : decode cX7_parse 117 = .ok (.iadd, 1) := by decide +kernel
theorem dX7_parse_118 : decode cX7_parse 118 = .ok (.goto 4, 3) := by decide +kernel
theorem dX7_parse_121 : decode cX7_parse 121 = .ok (.iload_n 1, 1) := by decide +kernel
theorem dX7_parse_122 : decode cX7_parse 122 = .ok (.putfield 44, 3) := by decide +kernel
theorem dX7_parse_125 : decode cX7_parse 125 = .ok (.aload_n 0, 1) := by decide +kernel
theorem dX7_parse_126 : decode cX7_parse 126 = .ok (.invokevirtual 47, 3) := by decide +kernel
theorem dX7_parse_129 : decode cX7_parse 129 = .ok (.ifCond .ne 8, 3) := by decide +kernel
theorem dX7_parse_132 : decode cX7_parse 132 = .ok (.aload_n 0, 1) := by decide +kernel
theorem dX7_parse_133 : decode cX7_parse 133 = .ok (.getfield 51, 3) := by decide +kernel
theorem dX7_parse_136 : decode cX7_parse 136 = .ok (.ireturn, 1) := by decide +kernel
theorem dX7_parse_137 : decode cX7_parse 137 = .ok (.aload_n 0, 1) := by decide +kernel
theorem dX7_parse_138 : decode cX7_parse 138 = .ok (.iconst 0, 1) := by decide +kernel
theorem dX7_parse_139 : decode cX7_parse 139 = .ok (.putfield 54, 3) := by decide +kernel
theorem dX7_parse_142 : decode cX7_parse 142 = .ok (.aload_n 0, 1) := by decide +kernel
theorem dX7_parse_143 : decode cX7_parse 143 = .ok (.getfield 51, 3) := by decide +kernel
theorem dX7_parse_146 : decode cX7_parse 146 = .ok (.aload_n 0, 1) := by decide +kernel
theorem dX7_parse_147 : decode cX7_parse 147 = .ok (.getfield 15, 3) := by decide +kernel
theorem dX7_parse_150 : decode cX7_parse 150 = .ok (.if_icmp .ne 5, 3) := by decide +kernel
theorem dX7_parse_153 : decode cX7_parse 153 = .ok (.iconst (-1), 1) := by decide +kernel
theorem dX7_parse_154 : decode cX7_parse 154 = .ok (.ireturn, 1) := by decide +kernel
theorem dX7_parse_155 : decode cX7_parse 155 = .ok (.aload_n 0, 1) := by decide +kernel
theorem dX7_parse_156 : decode cX7_parse 156 = .ok (.aload_n 0, 1) := by decide +kernel
theorem dX7_parse_157 : decode cX7_parse 157 = .ok (.getfield 51, 3) := by decide +kernel
theorem dX7_parse_160 : decode cX7_parse 160 = .ok (.invokevirtual 19, 3) := by decide +kernel
theorem dX7_parse_163 : decode cX7_parse 163 = .ok (.aload_n 0, 1) := by decide +kernel
theorem dX7_parse_164 : decode cX7_parse 164 = .ok (.getfield 41, 3) := by decide +kernel
theorem dX7_parse_167 : decode cX7_parse 167 = .ok (.ifCond .eq 8, 3) := by decide +kernel
theorem dX7_parse_170 : decode cX7_parse 170 = .ok (.bipush 112, 2) := by decide +kernel
theorem dX7_parse_172 : decode cX7_parse 172 = .ok (.goto 5, 3) := by decide +kernel
theorem dX7_parse_175 : decode cX7_parse 175 = .ok (.bipush 101, 2) := by decide +kernel
theorem dX7_parse_177 : decode cX7_parse 177 = .ok (.if_icmp .ne 16, 3) := by decide +kernel
theorem dX7_parse_180 : decode cX7_parse 180 = .ok (.aload_n 0, 1) := by decide +kernel
theorem dX7_parse_181 : decode cX7_parse 181 = .ok (.aload_n 0, 1) := by decide +kernel
theorem dX7_parse_182 : decode cX7_parse 182 = .ok (.getfield 51, 3) := by decide +kernel
theorem dX7_parse_185 : decode cX7_parse 185 = .ok (.iconst 1, 1) := by decide +kernel
theorem dX7_parse_186 : decode cX7_parse 186 = .ok (.iadd, 1) := by decide +kernel
theorem dX7_parse_187 : decode cX7_parse 187 = .ok (.invokevirtual 57, 3) := by decide +kernel
theorem dX7_parse_190 : decode cX7_parse 190 = .ok (.goto 7, 3) := by decide +kernel
theorem dX7_parse_193 : decode cX7_parse 193 = .ok (.aload_n 0, 1) := by decide +kernel
theorem dX7_parse_194 : decode cX7_parse 194 = .ok (.getfield 51, 3) := by decide +kernel
theorem dX7_parse_197 : decode cX7_parse 197 = .ok (.ireturn, 1) := by decide +kernel
theorem dX9_needPlace_0 : decode cX9_needPlace 0 = .ok (.iload_n 0, 1) := by decide +kernel
theorem dX9_needPlace_1 : decode cX9_needPlace 1 = .ok (.ifCond .lt 9, 3) := by decide +kernel
theorem dX9_needPlace_4 : decode cX9_needPlace 4 = .ok (.iload_n 0, 1) := by decide +kernel
theorem dX9_needPlace_5 : decode cX9_needPlace 5 = .ok (.bipush 16, 2) := by decide +kernel
theorem dX9_needPlace_7 : decode cX9_needPlace 7 = .ok (.if_icmp .lt 13, 3) := by decide +kernel
theorem dX9_needPlace_10 : decode cX9_needPlace 10 = .ok (.new 198, 3) := by decide +kernel
theorem dX9_needPlace_13 : decode cX9_needPlace 13 = .ok (.dup, 1) := by decide +kernel
theorem dX9_needPlace_14 : decode cX9_needPlace 14 = .ok (.ldc 200, 2) := by decide +kernel
theorem dX9_needPlace_16 : decode cX9_needPlace 16 = .ok (.invokespecial 202, 3) := by decide +kernel
theorem dX9_needPlace_19 : decode cX9_needPlace 19 = .ok (.athrow, 1) := by decide +kernel
theorem dX9_needPlace_20 : decode cX9_needPlace 20 = .ok (.return_, 1) := by decide +kernel
theorem dX11_put__0 : decode cX11_put_ 0 = .ok (.aload_n 0, 1) := by decide +kernel
theorem dX11_put__1 : decode cX11_put_ 1 = .ok (.getfield 156, 3) := by decide +kernel
theorem dX11_put__4 : decode cX11_put_ 4 = .ok (.aload_n 0, 1) := by decide +kernel
theorem dX11_put__5 : decode cX11_put_ 5 = .ok (.getfield 316, 3) := by decide +kernel
theorem dX11_put__8 : decode cX11_put_ 8 = .ok (.iload_n 1, 1) := by decide +kernel
theorem dX11_put__9 : decode cX11_put_ 9 = .ok (.iastore, 1) := by decide +kernel
theorem dX11_put__10 : decode cX11_put_ 10 = .ok (.aload_n 0, 1) := by decide +kernel
theorem dX11_put__11 : decode cX11_put_ 11 = .ok (.dup, 1) := by decide +kernel
theorem dX11_put__12 : decode cX11_put_ 12 = .ok (.getfield 316, 3) := by decide +kernel
theorem dX11_put__15 : decode cX11_put_ 15 = .ok (.iconst 1, 1) := by decide +kernel
theorem dX11_put__16 : decode cX11_put_ 16 = .ok (.iadd, 1) := by decide +kernel
theorem dX11_put__17 : decode cX11_put_ 17 = .ok (.putfield 316, 3) := by decide +kernel
theorem dX11_put__20 : decode cX11_put_ 20 = .ok (.return_, 1) := by decide +kernel
theorem dX11_putWord_0 : decode cX11_putWord 0 = .ok (.iconst 0, 1) := by decide +kernel
theorem dX11_putWord_1 : decode cX11_putWord 1 = .ok (.istore_n 2, 1) := by decide +kernel
theorem dX11_putWord_2 : decode cX11_putWord 2 = .ok (.iload_n 2, 1) := by decide +kernel
theorem dX11_putWord_3 : decode cX11_putWord 3 = .ok (.aload_n 1, 1) := by decide +kernel
theorem dX11_putWord_4 : decode cX11_putWord 4 = .ok (.invokevirtual 319, 3) := by decide +kernel
theorem dX11_putWord_7 : decode cX11_putWord 7 = .ok (.if_icmp .ge 18, 3) := by decide +kernel
theorem dX11_putWord_10 : decode cX11_putWord 10 = .ok (.aload_n 0, 1) := by decide +kernel
theorem dX11_putWord_11 : decode cX11_putWord 11 = .ok (.aload_n 1, 1) := by decide +kernel
theorem dX11_putWord_12 : decode cX11_putWord 12 = .ok (.iload_n 2, 1) := by decide +kernel
theorem dX11_putWord_13 : decode cX11_putWord 13 = .ok (.invokevirtual 324, 3) := by decide +kernel
theorem dX11_putWord_16 : decode cX11_putWord 16 = .ok (.invokevirtual 328, 3) := by decide +kernel
theorem dX11_putWord_19 : decode cX11_putWord 19 = .ok (.iinc 2 1, 3) := by decide +kernel
theorem dX11_putWord_22 : decode cX11_putWord 22 = .ok (.goto (-20), 3) := by decide +kernel
theorem dX11_putWord_25 : decode cX11_putWord 25 = .ok (.return_, 1) := by decide +kernel
theorem dX11_putNought_0 : decode cX11_putNought 0 = .ok (.iload_n 1, 1) := by decide +kernel
theorem dX11_putNought_1 : decode cX11_putNought 1 = .ok (.iconst 1, 1) := by decide +kernel
theorem dX11_putNought_2 : decode cX11_putNought 2 = .ok (.if_icmp .ne 13, 3) := by decide +kernel
theorem dX11_putNought_5 : decode cX11_putNought 5 = .ok (.aload_n 0, 1) := by decide +kernel
theorem dX11_putNought_6 : decode cX11_putNought 6 = .ok (.ldc_w 378, 3) := by decide +kernel
theorem dX11_putNought_9 : decode cX11_putNought 9 = .ok (.invokevirtual 369, 3) := by decide +kernel
theorem dX11_putNought_12 : decode cX11_putNought 12 = .ok (.goto 89, 3) := by decide +kernel
theorem dX11_putNought_15 : decode cX11_putNought 15 = .ok (.iload_n 1, 1) := by decide +kernel
theorem dX11_putNought_16 : decode cX11_putNought 16 = .ok (.iconst 4, 1) := by decide +kernel
theorem dX11_putNought_17 : decode cX11_putNought 17 = .ok (.if_icmp .ne 13, 3) := by decide +kernel
theorem dX11_putNought_20 : decode cX11_putNought 20 = .ok (.aload_n 0, 1) := by decide +kernel
theorem dX11_putNought_21 : decode cX11_putNought 21 = .ok (.ldc_w 380, 3) := by decide +kernel
theorem dX11_putNought_24 : decode cX11_putNought 24 = .ok (.invokevirtual 369, 3) := by decide +kernel
theorem dX11_putNought_27 : decode cX11_putNought 27 = .ok (.goto 74, 3) := by decide +kernel
theorem dX11_putNought_30 : decode cX11_putNought 30 = .ok (.aload_n 0, 1) := by decide +kernel
theorem dX11_putNought_31 : decode cX11_putNought 31 = .ok (.bipush 48, 2) := by decide +kernel
theorem dX11_putNought_33 : decode cX11_putNought 33 = .ok (.invokevirtual 328, 3) := by decide +kernel
theorem dX11_putNought_36 : decode cX11_putNought 36 = .ok (.iload_n 1, 1) := by decide +kernel
theorem dX11_putNought_37 : decode cX11_putNought 37 = .ok (.iconst 2, 1) := by decide +kernel
theorem dX11_putNought_38 : decode cX11_putNought 38 = .ok (.if_icmp .ne 7, 3) := by decide +kernel
theorem dX11_putNought_41 : decode cX11_putNought 41 = .ok (.iload_n 2, 1) := by decide +kernel
theorem dX11_putNought_42 : decode cX11_putNought 42 = .ok (.goto 15, 3) := by decide +kernel
theorem dX11_putNought_45 : decode cX11_putNought 45 = .ok (.iload_n 1, 1) := by decide +kernel
theorem dX11_putNought_46 : decode cX11_putNought 46 = .ok (.iconst 3, 1) := by decide +kernel
theorem dX11_putNought_47 : decode cX11_putNought 47 = .ok (.if_icmp .ne 9, 3) := by decide +kernel
theorem dX11_putNought_50 : decode cX11_putNought 50 = .ok (.iload_n 2, 1) := by decide +kernel
theorem dX11_putNought_51 : decode cX11_putNought 51 = .ok (.iconst 1, 1) := by decide +kernel
theorem dX11_putNought_52 : decode cX11_putNought 52 = .ok (.isub, 1) := by decide +kernel
theorem dX11_putNought_53 : decode cX11_putNought 53 = .ok (.goto 4, 3) := by decide +kernel
theorem dX11_putNought_56 : decode cX11_putNought 56 = .ok (.iconst 0, 1) := by decide +kernel
theorem dX11_putNought_57 : decode cX11_putNought 57 = .ok (.istore_n 3, 1) := by decide +kernel
theorem dX11_putNought_58 : decode cX11_putNought 58 = .ok (.iload_n 3, 1) := by decide +kernel
theorem dX11_putNought_59 : decode cX11_putNought 59 = .ok (.ifCond .le 9, 3) := by decide +kernel
theorem dX11_putNought_62 : decode cX11_putNought 62 = .ok (.aload_n 0, 1) := by decide +kernel
theorem dX11_putNought_63 : decode cX11_putNought 63 = .ok (.bipush 46, 2) := by decide +kernel
theorem dX11_putNought_65 : decode cX11_putNought 65 = .ok (.invokevirtual 328, 3) := by decide +kernel
theorem dX11_putNought_68 : decode cX11_putNought 68 = .ok (.iconst 0, 1) := by decide +kernel
theorem dX11_putNought_69 : decode cX11_putNought 69 = .ok (.istore 4, 2) := by decide +kernel
theorem dX11_putNought_71 : decode cX11_putNought 71 = .ok (.iload 4, 2) := by decide +kernel
theorem dX11_putNought_73 : decode cX11_putNought 73 = .ok (.iload_n 3, 1) := by decide +kernel
theorem dX11_putNought_74 : decode cX11_putNought 74 = .ok (.if_icmp .ge 15, 3) := by decide +kernel
theorem dX11_putNought_77 : decode cX11_putNought 77 = .ok (.aload_n 0, 1) := by decide +kernel
theorem dX11_putNought_78 : decode cX11_putNought 78 = .ok (.bipush 48, 2) := by decide +kernel
theorem dX11_putNought_80 : decode cX11_putNought 80 = .ok (.invokevirtual 328, 3) := by decide +kernel
theorem dX11_putNought_83 : decode cX11_putNought 83 = .ok (.iinc 4 1, 3) := by decide +kernel
theorem dX11_putNought_86 : decode cX11_putNought 86 = .ok (.goto (-15), 3) := by decide +kernel
theorem dX11_putNought_89 : decode cX11_putNought 89 = .ok (.iload_n 1, 1) := by decide +kernel
theorem dX11_putNought_90 : decode cX11_putNought 90 = .ok (.iconst 3, 1) := by decide +kernel
theorem dX11_putNought_91 : decode cX11_putNought 91 = .ok (.if_icmp .ne 10, 3) := by decide +kernel
theorem dX11_putNought_94 : decode cX11_putNought 94 = .ok (.aload_n 0, 1) := by decide +kernel
theorem dX11_putNought_95 : decode cX11_putNought 95 = .ok (.ldc_w 382, 3) := by decide +kernel
theorem dX11_putNought_98 : decode cX11_putNought 98 = .ok (.invokevirtual 369, 3) := by decide +kernel
theorem dX11_putNought_101 : decode cX11_putNought 101 = .ok (.return_, 1) := by decide +kernel
