theorem dX4_trim_0 : decode cX4_trim 0 = .ok (.aload_n 0, 1) := by decide +kernel
theorem dX4_trim_1 : decode cX4_trim 1 = .ok (.getfield 15, 3) := by decide +kernel
theorem dX4_trim_4 : decode cX4_trim 4 = .ok (.ifCond .le 32, 3) := by decide +kernel
theorem dX4_trim_7 : decode cX4_trim 7 = .ok (.aload_n 0, 1) := by decide +kernel
theorem dX4_trim_8 : decode cX4_trim 8 = .ok (.getfield 9, 3) := by decide +kernel
theorem dX4_trim_11 : decode cX4_trim 11 = .ok (.aload_n 0, 1) := by decide +kernel
theorem dX4_trim_12 : decode cX4_trim 12 = .ok (.getfield 15, 3) := by decide +kernel
theorem dX4_trim_15 : decode cX4_trim 15 = .ok (.iconst 1, 1) := by decide +kernel
theorem dX4_trim_16 : decode cX4_trim 16 = .ok (.isub, 1) := by decide +kernel
theorem dX4_trim_17 : decode cX4_trim 17 = .ok (.laload, 1) := by decide +kernel
theorem dX4_trim_18 : decode cX4_trim 18 = .ok (.lconst 0, 1) := by decide +kernel
theorem dX4_trim_19 : decode cX4_trim 19 = .ok (.lcmp, 1) := by decide +kernel
theorem dX4_trim_20 : decode cX4_trim 20 = .ok (.ifCond .ne 16, 3) := by decide +kernel
theorem dX4_trim_23 : decode cX4_trim 23 = .ok (.aload_n 0, 1) := by decide +kernel
theorem dX4_trim_24 : decode cX4_trim 24 = .ok (.dup, 1) := by decide +kernel
theorem dX4_trim_25 : decode cX4_trim 25 = .ok (.getfield 15, 3) := by decide +kernel
theorem dX4_trim_28 : decode cX4_trim 28 = .ok (.iconst 1, 1) := by decide +kernel
theorem dX4_trim_29 : decode cX4_trim 29 = .ok (.isub, 1) := by decide +kernel
theorem dX4_trim_30 : decode cX4_trim 30 = .ok (.putfield 15, 3) := by decide +kernel
theorem dX4_trim_33 : decode cX4_trim 33 = .ok (.goto (-33), 3) := by decide +kernel
theorem dX4_trim_36 : decode cX4_trim 36 = .ok (.return_, 1) := by decide +kernel
theorem dX4_take_0 : decode cX4_take 0 = .ok (.aload_n 0, 1) := by decide +kernel
theorem dX4_take_1 : decode cX4_take 1 = .ok (.getfield 9, 3) := by decide +kernel
theorem dX4_take_4 : decode cX4_take 4 = .ok (.iconst 0, 1) := by decide +kernel
theorem dX4_take_5 : decode cX4_take 5 = .ok (.lload_n 1, 1) := by decide +kernel
theorem dX4_take_6 : decode cX4_take 6 = .ok (.ldc2_w 13, 3) := by decide +kernel
theorem dX4_take_9 : decode cX4_take 9 = .ok (.land, 1) := by decide +kernel
theorem dX4_take_10 : decode cX4_take 10 = .ok (.lastore, 1) := by decide +kernel
theorem dX4_take_11 : decode cX4_take 11 = .ok (.aload_n 0, 1) := by decide +kernel
theorem dX4_take_12 : decode cX4_take 12 = .ok (.getfield 9, 3) := by decide +kernel
theorem dX4_take_15 : decode cX4_take 15 = .ok (.iconst 1, 1) := by decide +kernel
theorem dX4_take_16 : decode cX4_take 16 = .ok (.lload_n 1, 1) := by decide +kernel
theorem dX4_take_17 : decode cX4_take 17 = .ok (.bipush 32, 2) := by decide +kernel
theorem dX4_take_19 : decode cX4_take 19 = .ok (.lushr, 1) := by decide +kernel
theorem dX4_take_20 : decode cX4_take 20 = .ok (.lastore, 1) := by decide +kernel
theorem dX4_take_21 : decode cX4_take 21 = .ok (.aload_n 0, 1) := by decide +kernel
theorem dX4_take_22 : decode cX4_take 22 = .ok (.iconst 2, 1) := by decide +kernel
theorem dX4_take_23 : decode cX4_take 23 = .ok (.putfield 15, 3) := by decide +kernel
theorem dX4_take_26 : decode cX4_take 26 = .ok (.aload_n 0, 1) := by decide +kernel
theorem dX4_take_27 : decode cX4_take 27 = .ok (.invokevirtual 19, 3) := by decide +kernel
theorem dX4_take_30 : decode cX4_take 30 = .ok (.return_, 1) := by decide +kernel
theorem dX4_copy_0 : decode cX4_copy 0 = .ok (.iconst 0, 1) := by decide +kernel
theorem dX4_copy_1 : decode cX4_copy 1 = .ok (.istore_n 2, 1) := by decide +kernel
theorem dX4_copy_2 : decode cX4_copy 2 = .ok (.iload_n 2, 1) := by decide +kernel
theorem dX4_copy_3 : decode cX4_copy 3 = .ok (.aload_n 1, 1) := by decide +kernel
theorem dX4_copy_4 : decode cX4_copy 4 = .ok (.getfield 15, 3) := by decide +kernel
theorem dX4_copy_7 : decode cX4_copy 7 = .ok (.if_icmp .ge 21, 3) := by decide +kernel
theorem dX4_copy_10 : decode cX4_copy 10 = .ok (.aload_n 0, 1) := by decide +kernel
theorem dX4_copy_11 : decode cX4_copy 11 = .ok (.getfield 9, 3) := by decide +kernel
theorem dX4_copy_14 : decode cX4_copy 14 = .ok (.iload_n 2, 1) := by decide +kernel
theorem dX4_copy_15 : decode cX4_copy 15 = .ok (.aload_n 1, 1) := by decide +kernel
theorem dX4_copy_16 : decode cX4_copy 16 = .ok (.getfield 9, 3) := by decide +kernel
theorem dX4_copy_19 : decode cX4_copy 19 = .ok (.iload_n 2, 1) := by decide +kernel
theorem dX4_copy_20 : decode cX4_copy 20 = .ok (.laload, 1) := by decide +kernel
theorem dX4_copy_21 : decode cX4_copy 21 = .ok (.lastore, 1) := by decide +kernel
theorem dX4_copy_22 : decode cX4_copy 22 = .ok (.iinc 2 1, 3) := by decide +kernel
theorem dX4_copy_25 : decode cX4_copy 25 = .ok (.goto (-23), 3) := by decide +kernel
theorem dX4_copy_28 : decode cX4_copy 28 = .ok (.aload_n 0, 1) := by decide +kernel
theorem dX4_copy_29 : decode cX4_copy 29 = .ok (.aload_n 1, 1) := by decide +kernel
theorem dX4_copy_30 : decode cX4_copy 30 = .ok (.getfield 15, 3) := by decide +kernel
theorem dX4_copy_33 : decode cX4_copy 33 = .ok (.putfield 15, 3) := by decide +kernel
theorem dX4_copy_36 : decode cX4_copy 36 = .ok (.return_, 1) := by decide +kernel
theorem dX4_isNought_0 : decode cX4_isNought 0 = .ok (.aload_n 0, 1) := by decide +kernel
theorem dX4_isNought_1 : decode cX4_isNought 1 = .ok (.getfield 15, 3) := by decide +kernel
theorem dX4_isNought_4 : decode cX4_isNought 4 = .ok (.ifCond .ne 7, 3) := by decide +kernel
theorem dX4_isNought_7 : decode cX4_isNought 7 = .ok (.iconst 1, 1) := by decide +kernel
theorem dX4_isNought_8 : decode cX4_isNought 8 = .ok (.goto 4, 3) := by decide +kernel
theorem dX4_isNought_11 : decode cX4_isNought 11 = .ok (.iconst 0, 1) := by decide +kernel
theorem dX4_isNought_12 : decode cX4_isNought 12 = .ok (.ireturn, 1) := by decide +kernel
theorem dX4_scale_0 : decode cX4_scale 0 = .ok (.lload_n 3, 1) := by decide +kernel
theorem dX4_scale_1 : decode cX4_scale 1 = .ok (.lstore 5, 2) := by decide +kernel
theorem dX4_scale_3 : decode cX4_scale 3 = .ok (.lload_n 1, 1) := by decide +kernel
theorem dX4_scale_4 : decode cX4_scale 4 = .ok (.lconst 0, 1) := by decide +kernel
theorem dX4_scale_5 : decode cX4_scale 5 = .ok (.lcmp, 1) := by decide +kernel
theorem dX4_scale_6 : decode cX4_scale 6 = .ok (.ifCond .ne 8, 3) := by decide +kernel
theorem dX4_scale_9 : decode cX4_scale 9 = .ok (.aload_n 0, 1) := by decide +kernel
theorem dX4_scale_10 : decode cX4_scale 10 = .ok (.iconst 0, 1) := by decide +kernel
theorem dX4_scale_11 : decode cX4_scale 11 = .ok (.putfield 15, 3) := by decide +kernel
theorem dX4_scale_14 : decode cX4_scale 14 = .ok (.iconst 0, 1) := by decide +kernel
theorem dX4_scale_15 : decode cX4_scale 15 = .ok (.istore 7, 2) := by decide +kernel
theorem dX4_scale_17 : decode cX4_scale 17 = .ok (.iload 7, 2) := by decide +kernel
theorem dX4_scale_19 : decode cX4_scale 19 = .ok (.aload_n 0, 1) := by decide +kernel
theorem dX4_scale_20 : decode cX4_scale 20 = .ok (.getfield 15, 3) := by decide +kernel
theorem dX4_scale_23 : decode cX4_scale 23 = .ok (.if_icmp .ge 43, 3) := by decide +kernel
theorem dX4_scale_26 : decode cX4_scale 26 = .ok (.lload 5, 2) := by decide +kernel
theorem dX4_scale_28 : decode cX4_scale 28 = .ok (.aload_n 0, 1) := by decide +kernel
theorem dX4_scale_29 : decode cX4_scale 29 = .ok (.getfield 9, 3) := by decide +kernel
theorem dX4_scale_32 : decode cX4_scale 32 = .ok (.iload 7, 2) := by decide +kernel
theorem dX4_scale_34 : decode cX4_scale 34 = .ok (.laload, 1) := by decide +kernel
theorem dX4_scale_35 : decode cX4_scale 35 = .ok (.lload_n 1, 1) := by decide +kernel
theorem dX4_scale_36 : decode cX4_scale 36 = .ok (.lmul, 1) := by decide +kernel
theorem dX4_scale_37 : decode cX4_scale 37 = .ok (.ladd, 1) := by decide +kernel
theorem dX4_scale_38 : decode cX4_scale 38 = .ok (.lstore 5, 2) := by decide +kernel
theorem dX4_scale_40 : decode cX4_scale 40 = .ok (.aload_n 0, 1) := by decide +kernel
theorem dX4_scale_41 : decode cX4_scale 41 = .ok (.getfield 9, 3) := by decide +kernel
theorem dX4_scale_44 : decode cX4_scale 44 = .ok (.iload 7, 2) := by decide +kernel
theorem dX4_scale_46 : decode cX4_scale 46 = .ok (.lload 5, 2) := by decide +kernel
theorem dX4_scale_48 : decode cX4_scale 48 = .ok (.ldc2_w 13, 3) := by decide +kernel
theorem dX4_scale_51 : decode cX4_scale 51 = .ok (.land, 1) := by decide +kernel
theorem dX4_scale_52 : decode cX4_scale 52 = .ok (.lastore, 1) := by decide +kernel
theorem dX4_scale_53 : decode cX4_scale 53 = .ok (.lload 5, 2) := by decide +kernel
theorem dX4_scale_55 : decode cX4_scale 55 = .ok (.bipush 32, 2) := by decide +kernel
theorem dX4_scale_57 : decode cX4_scale 57 = .ok (.lushr, 1) := by decide +kernel
theorem dX4_scale_58 : decode cX4_scale 58 = .ok (.lstore 5, 2) := by decide +kernel
theorem dX4_scale_60 : decode cX4_scale 60 = .ok (.iinc 7 1, 3) := by decide +kernel
theorem dX4_scale_63 : decode cX4_scale 63 = .ok (.goto (-46), 3) := by decide +kernel
theorem dX4_scale_66 : decode cX4_scale 66 = .ok (.lload 5, 2) := by decide +kernel
theorem dX4_scale_68 : decode cX4_scale 68 = .ok (.lconst 0, 1) := by decide +kernel
theorem dX4_scale_69 : decode cX4_scale 69 = .ok (.lcmp, 1) := by decide +kernel
theorem dX4_scale_70 : decode cX4_scale 70 = .ok (.ifCond .eq 34, 3) := by decide +kernel
theorem dX4_scale_73 : decode cX4_scale 73 = .ok (.aload_n 0, 1) := by decide +kernel
theorem dX4_scale_74 : decode cX4_scale 74 = .ok (.getfield 15, 3) := by decide +kernel
theorem dX4_scale_77 : decode cX4_scale 77 = .ok (.sipush 160, 3) := by decide +kernel
theorem dX4_scale_80 : decode cX4_scale 80 = .ok (.if_icmp .ge 24, 3) := by decide +kernel
theorem dX4_scale_83 : decode cX4_scale 83 = .ok (.aload_n 0, 1) := by decide +kernel
theorem dX4_scale_84 : decode cX4_scale 84 = .ok (.getfield 9, 3) := by decide +kernel
theorem dX4_scale_87 : decode cX4_scale 87 = .ok (.aload_n 0, 1) := by decide +kernel
theorem dX4_scale_88 : decode cX4_scale 88 = .ok (.getfield 15, 3) := by decide +kernel
theorem dX4_scale_91 : decode cX4_scale 91 = .ok (.lload 5, 2) := by decide +kernel
theorem dX4_scale_93 : decode cX4_scale 93 = .ok (.lastore, 1) := by decide +kernel
theorem dX4_scale_94 : decode cX4_scale 94 = .ok (.aload_n 0, 1) := by decide +kernel
theorem dX4_scale_95 : decode cX4_scale 95 = .ok (.dup, 1) := by decide +kernel
theorem dX4_scale_96 : decode cX4_scale 96 = .ok (.getfield 15, 3) := by decide +kernel
theorem dX4_scale_99 : decode cX4_scale 99 = .ok (.iconst 1, 1) := by decide +kernel
theorem dX4_scale_100 : decode cX4_scale 100 = .ok (.iadd, 1) := by decide +kernel
theorem dX4_scale_101 : decode cX4_scale 101 = .ok (.putfield 15, 3) := by decide +kernel
theorem dX4_scale_104 : decode cX4_scale 104 = .ok (.return_, 1) := by decide +kernel
theorem dX4_scaleByFives_0 : decode cX4_scaleByFives 0 = .ok (.iload_n 1, 1) := by decide +kernel
theorem dX4_scaleByFives_1 : decode cX4_scaleByFives 1 = .ok (.istore_n 2, 1) := by decide +kernel
theorem dX4_scaleByFives_2 : decode cX4_scaleByFives 2 = .ok (.iload_n 2, 1) := by decide +kernel
theorem dX4_scaleByFives_3 : decode cX4_scaleByFives 3 = .ok (.bipush 13, 2) := by decide +kernel
theorem dX4_scaleByFives_5 : decode cX4_scaleByFives 5 = .ok (.if_icmp .lt 17, 3) := by decide +kernel
theorem dX4_scaleByFives_8 : decode cX4_scaleByFives 8 = .ok (.aload_n 0, 1) := by decide +kernel
theorem dX4_scaleByFives_9 : decode cX4_scaleByFives 9 = .ok (.ldc2_w 22, 3) := by decide +kernel
theorem dX4_scaleByFives_12 : decode cX4_scaleByFives 12 = .ok (.lconst 0, 1) := by decide +kernel
theorem dX4_scaleByFives_13 : decode cX4_scaleByFives 13 = .ok (.invokevirtual 24, 3) := by decide +kernel
theorem dX4_scaleByFives_16 : decode cX4_scaleByFives 16 = .ok (.iinc 2 (-13), 3) := by decide +kernel
theorem dX4_scaleByFives_19 : decode cX4_scaleByFives 19 = .ok (.goto (-17), 3) := by decide +kernel
theorem dX4_scaleByFives_22 : decode cX4_scaleByFives 22 = .ok (.lconst 1, 1) := by decide +kernel
theorem dX4_scaleByFives_23 : decode cX4_scaleByFives 23 = .ok (.lstore_n 3, 1) := by decide +kernel
theorem dX4_scaleByFives_24 : decode cX4_scaleByFives 24 = .ok (.iload_n 2, 1) := by decide +kernel
theorem dX4_scaleByFives_25 : decode cX4_scaleByFives 25 = .ok (.ifCond .le 15, 3) := by decide +kernel
theorem dX4_scaleByFives_28 : decode cX4_scaleByFives 28 = .ok (.lload_n 3, 1) := by decide +kernel
theorem dX4_scaleByFives_29 : decode cX4_scaleByFives 29 = .ok (.ldc2_w 28, 3) := by decide +kernel
theorem dX4_scaleByFives_32 : decode cX4_scaleByFives 32 = .ok (.lmul, 1) := by decide +kernel
theorem dX4_scaleByFives_33 : decode cX4_scaleByFives 33 = .ok (.lstore_n 3, 1) := by decide +kernel
theorem dX4_scaleByFives_34 : decode cX4_scaleByFives 34 = .ok (.iinc 2 (-1), 3) := by decide +kernel
theorem dX4_scaleByFives_37 : decode cX4_scaleByFives 37 = .ok (.goto (-13), 3) := by decide +kernel
theorem dX4_scaleByFives_40 : decode cX4_scaleByFives 40 = .ok (.aload_n 0, 1) := by decide +kernel
theorem dX4_scaleByFives_41 : decode cX4_scaleByFives 41 = .ok (.lload_n 3, 1) := by decide +kernel
theorem dX4_scaleByFives_42 : decode cX4_scaleByFives 42 = .ok (.lconst 0, 1) := by decide +kernel
theorem dX4_scaleByFives_43 : decode cX4_scaleByFives 43 = .ok (.invokevirtual 24, 3) := by decide +kernel
theorem dX4_scaleByFives_46 : decode cX4_scaleByFives 46 = .ok (.return_, 1) := by decide +kernel
theorem dX4_limb_0 : decode cX4_limb 0 = .ok (.iload_n 1, 1) := by decide +kernel
theorem dX4_limb_1 : decode cX4_limb 1 = .ok (.ifCond .lt 20, 3) := by decide +kernel
theorem dX4_limb_4 : decode cX4_limb 4 = .ok (.iload_n 1, 1) := by decide +kernel
theorem dX4_limb_5 : decode cX4_limb 5 = .ok (.aload_n 0, 1) := by decide +kernel
theorem dX4_limb_6 : decode cX4_limb 6 = .ok (.getfield 15, 3) := by decide +kernel
theorem dX4_limb_9 : decode cX4_limb 9 = .ok (.if_icmp .ge 12, 3) := by decide +kernel
theorem dX4_limb_12 : decode cX4_limb 12 = .ok (.aload_n 0, 1) := by decide +kernel
theorem dX4_limb_13 : decode cX4_limb 13 = .ok (.getfield 9, 3) := by decide +kernel
theorem dX4_limb_16 : decode cX4_limb 16 = .ok (.iload_n 1, 1) := by decide +kernel
theorem dX4_limb_17 : decode cX4_limb 17 = .ok (.laload, 1) := by decide +kernel
theorem dX4_limb_18 : decode cX4_limb 18 = .ok (.goto 4, 3) := by decide +kernel
theorem dX4_limb_21 : decode cX4_limb 21 = .ok (.lconst 0, 1) := by decide +kernel
theorem dX4_limb_22 : decode cX4_limb 22 = .ok (.lreturn, 1) := by decide +kernel
theorem dX4_shiftUp_0 : decode cX4_shiftUp 0 = .ok (.iload_n 1, 1) := by decide +kernel
theorem dX4_shiftUp_1 : decode cX4_shiftUp 1 = .ok (.iconst 5, 1) := by decide +kernel
theorem dX4_shiftUp_2 : decode cX4_shiftUp 2 = .ok (.ishr, 1) := by decide +kernel
theorem dX4_shiftUp_3 : decode cX4_shiftUp 3 = .ok (.istore_n 2, 1) := by decide +kernel
theorem dX4_shiftUp_4 : decode cX4_shiftUp 4 = .ok (.iload_n 1, 1) := by decide +kernel
theorem dX4_shiftUp_5 : decode cX4_shiftUp 5 = .ok (.bipush 31, 2) := by decide +kernel
theorem dX4_shiftUp_7 : decode cX4_shiftUp 7 = .ok (.iand, 1) := by decide +kernel
theorem dX4_shiftUp_8 : decode cX4_shiftUp 8 = .ok (.istore_n 3, 1) := by decide +kernel
theorem dX4_shiftUp_9 : decode cX4_shiftUp 9 = .ok (.iload_n 1, 1) := by decide +kernel
theorem dX4_shiftUp_10 : decode cX4_shiftUp 10 = .ok (.ifCond .le 22, 3) := by decide +kernel
theorem dX4_shiftUp_13 : decode cX4_shiftUp 13 = .ok (.aload_n 0, 1) := by decide +kernel
theorem dX4_shiftUp_14 : decode cX4_shiftUp 14 = .ok (.getfield 15, 3) := by decide +kernel
theorem dX4_shiftUp_17 : decode cX4_shiftUp 17 = .ok (.ifCond .eq 15, 3) := by decide +kernel
theorem dX4_shiftUp_20 : decode cX4_shiftUp 20 = .ok (.iload_n 2, 1) := by decide +kernel
theorem dX4_shiftUp_21 : decode cX4_shiftUp 21 = .ok (.sipush 160, 3) := by decide +kernel
theorem dX4_shiftUp_24 : decode cX4_shiftUp 24 = .ok (.aload_n 0, 1) := by decide +kernel
theorem dX4_shiftUp_25 : decode cX4_shiftUp 25 = .ok (.getfield 15, 3) := by decide +kernel
theorem dX4_shiftUp_28 : decode cX4_shiftUp 28 = .ok (.isub, 1) := by decide +kernel
theorem dX4_shiftUp_29 : decode cX4_shiftUp 29 = .ok (.if_icmp .lt 4, 3) := by decide +kernel
theorem dX4_shiftUp_32 : decode cX4_shiftUp 32 = .ok (.return_, 1) := by decide +kernel
theorem dX4_shiftUp_33 : decode cX4_shiftUp 33 = .ok (.aload_n 0, 1) := by decide +kernel
theorem dX4_shiftUp_34 : decode cX4_shiftUp 34 = .ok (.getfield 15, 3) := by decide +kernel
theorem dX4_shiftUp_37 : decode cX4_shiftUp 37 = .ok (.istore 4, 2) := by decide +kernel
theorem dX4_shiftUp_39 : decode cX4_shiftUp 39 = .ok (.iload 4, 2) := by decide +kernel
theorem dX4_shiftUp_41 : decode cX4_shiftUp 41 = .ok (.ifCond .lt 44, 3) := by decide +kernel
theorem dX4_shiftUp_44 : decode cX4_shiftUp 44 = .ok (.aload_n 0, 1) := by decide +kernel
theorem dX4_shiftUp_45 : decode cX4_shiftUp 45 = .ok (.getfield 9, 3) := by decide +kernel
theorem dX4_shiftUp_48 : decode cX4_shiftUp 48 = .ok (.iload 4, 2) := by decide +kernel
theorem dX4_shiftUp_50 : decode cX4_shiftUp 50 = .ok (.iload_n 2, 1) := by decide +kernel
theorem dX4_shiftUp_51 : decode cX4_shiftUp 51 = .ok (.iadd, 1) := by decide +kernel
theorem dX4_shiftUp_52 : decode cX4_shiftUp 52 = .ok (.aload_n 0, 1) := by decide +kernel
theorem dX4_shiftUp_53 : decode cX4_shiftUp 53 = .ok (.iload 4, 2) := by decide +kernel
theorem dX4_shiftUp_55 : decode cX4_shiftUp 55 = .ok (.invokevirtual 30, 3) := by decide +kernel
theorem dX4_shiftUp_58 : decode cX4_shiftUp 58 = .ok (.iload_n 3, 1) := by decide +kernel
theorem dX4_shiftUp_59 : decode cX4_shiftUp 59 = .ok (.lshl, 1) := by decide +kernel
theorem dX4_shiftUp_60 : decode cX4_shiftUp 60 = .ok (.ldc2_w 13, 3) := by decide +kernel
theorem dX4_shiftUp_63 : decode cX4_shiftUp 63 = .ok (.land, 1) := by decide +kernel
theorem dX4_shiftUp_64 : decode cX4_shiftUp 64 = .ok (.aload_n 0, 1) := by decide +kernel
theorem dX4_shiftUp_65 : decode cX4_shiftUp 65 = .ok (.iload 4, 2) := by decide +kernel
theorem dX4_shiftUp_67 : decode cX4_shiftUp 67 = .ok (.iconst 1, 1) := by decide +kernel
theorem dX4_shiftUp_68 : decode cX4_shiftUp 68 = .ok (.isub, 1) := by decide +kernel
theorem dX4_shiftUp_69 : decode cX4_shiftUp 69 = .ok (.invokevirtual 30, 3) := by decide +kernel
theorem dX4_shiftUp_72 : decode cX4_shiftUp 72 = .ok (.bipush 32, 2) := by decide +kernel
theorem dX4_shiftUp_74 : decode cX4_shiftUp 74 = .ok (.iload_n 3, 1) := by decide +kernel
theorem dX4_shiftUp_75 : decode cX4_shiftUp 75 = .ok (.isub, 1) := by decide +kernel
theorem dX4_shiftUp_76 : decode cX4_shiftUp 76 = .ok (.lushr, 1) := by decide +kernel
theorem dX4_shiftUp_77 : decode cX4_shiftUp 77 = .ok (.lor, 1) := by decide +kernel
theorem dX4_shiftUp_78 : decode cX4_shiftUp 78 = .ok (.lastore, 1) := by decide +kernel
theorem dX4_shiftUp_79 : decode cX4_shiftUp 79 = .ok (.iinc 4 (-1), 3) := by decide +kernel
theorem dX4_shiftUp_82 : decode cX4_shiftUp 82 = .ok (.goto (-43), 3) := by decide +kernel
theorem dX4_shiftUp_85 : decode cX4_shiftUp 85 = .ok (.iconst 0, 1) := by decide +kernel
theorem dX4_shiftUp_86 : decode cX4_shiftUp 86 = .ok (.istore 4, 2) := by decide +kernel
theorem dX4_shiftUp_88 : decode cX4_shiftUp 88 = .ok (.iload 4, 2) := by decide +kernel
theorem dX4_shiftUp_90 : decode cX4_shiftUp 90 = .ok (.iload_n 2, 1) := by decide +kernel
theorem dX4_shiftUp_91 : decode cX4_shiftUp 91 = .ok (.if_icmp .ge 17, 3) := by decide +kernel
theorem dX4_shiftUp_94 : decode cX4_shiftUp 94 = .ok (.aload_n 0, 1) := by decide +kernel
theorem dX4_shiftUp_95 : decode cX4_shiftUp 95 = .ok (.getfield 9, 3) := by decide +kernel
theorem dX4_shiftUp_98 : decode cX4_shiftUp 98 = .ok (.iload 4, 2) := by decide +kernel
theorem dX4_shiftUp_100 : decode cX4_shiftUp 100 = .ok (.lconst 0, 1) := by decide +kernel
theorem dX4_shiftUp_101 : decode cX4_shiftUp 101 = .ok (.lastore, 1) := by decide +kernel
theorem dX4_shiftUp_102 : decode cX4_shiftUp 102 = .ok (.iinc 4 1, 3) := by decide +kernel
theorem dX4_shiftUp_105 : decode cX4_shiftUp 105 = .ok (.goto (-17), 3) := by decide +kernel
theorem dX4_shiftUp_108 : decode cX4_shiftUp 108 = .ok (.aload_n 0, 1) := by decide +kernel
theorem dX4_shiftUp_109 : decode cX4_shiftUp 109 = .ok (.dup, 1) := by decide +kernel
theorem dX4_shiftUp_110 : decode cX4_shiftUp 110 = .ok (.getfield 15, 3) := by decide +kernel
theorem dX4_shiftUp_113 : decode cX4_shiftUp 113 = .ok (.iload_n 2, 1) := by decide +kernel
theorem dX4_shiftUp_114 : decode cX4_shiftUp 114 = .ok (.iconst 1, 1) := by decide +kernel
theorem dX4_shiftUp_115 : decode cX4_shiftUp 115 = .ok (.iadd, 1) := by decide +kernel
theorem dX4_shiftUp_116 : decode cX4_shiftUp 116 = .ok (.iadd, 1) := by decide +kernel
theorem dX4_shiftUp_117 : decode cX4_shiftUp 117 = .ok (.putfield 15, 3) := by decide +kernel
theorem dX4_shiftUp_120 : decode cX4_shiftUp 120 = .ok (.aload_n 0, 1) := by decide +kernel
theorem dX4_shiftUp_121 : decode cX4_shiftUp 121 = .ok (.invokevirtual 19, 3) := by decide +kernel
theorem dX4_shiftUp_124 : decode cX4_shiftUp 124 = .ok (.return_, 1) := by decide +kernel
theorem dJ9_max_7cf53_0 : decode cJ9_max_7cf53 0 = .ok (.iload_n 0, 1) := by decide +kernel
theorem dJ9_max_7cf53_1 : decode cJ9_max_7cf53 1 = .ok (.iload_n 1, 1) := by decide +kernel
theorem dJ9_max_7cf53_2 : decode cJ9_max_7cf53 2 = .ok (.if_icmp .lt 7, 3) := by decide +kernel
theorem dJ9_max_7cf53_5 : decode cJ9_max_7cf53 5 = .ok (.iload_n 0, 1) := by decide +kernel
theorem dJ9_max_7cf53_6 : decode cJ9_max_7cf53 6 = .ok (.goto 4, 3) := by decide +kernel
theorem dJ9_max_7cf53_9 : decode cJ9_max_7cf53 9 = .ok (.iload_n 1, 1) := by decide +kernel
theorem dJ9_max_7cf53_10 : decode cJ9_max_7cf53 10 = .ok (.ireturn, 1) := by decide +kernel
theorem dX4_plus_0 : decode cX4_plus 0 = .ok (.aload_n 0, 1) := by decide +kernel
theorem dX4_plus_1 : decode cX4_plus 1 = .ok (.getfield 15, 3) := by decide +kernel
theorem dX4_plus_4 : decode cX4_plus 4 = .ok (.aload_n 1, 1) := by decide +kernel
theorem dX4_plus_5 : decode cX4_plus 5 = .ok (.getfield 15, 3) := by decide +kernel
theorem dX4_plus_8 : decode cX4_plus 8 = .ok (.invokestatic 34, 3) := by decide +kernel
theorem dX4_plus_11 : decode cX4_plus 11 = .ok (.istore_n 2, 1) := by decide +kernel
theorem dX4_plus_12 : decode cX4_plus 12 = .ok (.lconst 0, 1) := by decide +kernel
theorem dX4_plus_13 : decode cX4_plus 13 = .ok (.lstore_n 3, 1) := by decide +kernel
theorem dX4_plus_14 : decode cX4_plus 14 = .ok (.iconst 0, 1) := by decide +kernel
theorem dX4_plus_15 : decode cX4_plus 15 = .ok (.istore 5, 2) := by decide +kernel
theorem dX4_plus_17 : decode cX4_plus 17 = .ok (.iload 5, 2) := by decide +kernel
theorem dX4_plus_19 : decode cX4_plus 19 = .ok (.iload_n 2, 1) := by decide +kernel
theorem dX4_plus_20 : decode cX4_plus 20 = .ok (.if_icmp .ge 42, 3) := by decide +kernel
theorem dX4_plus_23 : decode cX4_plus 23 = .ok (.lload_n 3, 1) := by decide +kernel
theorem dX4_plus_24 : decode cX4_plus 24 = .ok (.aload_n 0, 1) := by decide +kernel
theorem dX4_plus_25 : decode cX4_plus 25 = .ok (.iload 5, 2) := by decide +kernel
theorem dX4_plus_27 : decode cX4_plus 27 = .ok (.invokevirtual 30, 3) := by decide +kernel
theorem dX4_plus_30 : decode cX4_plus 30 = .ok (.aload_n 1, 1) := by decide +kernel
theorem dX4_plus_31 : decode cX4_plus 31 = .ok (.iload 5, 2) := by decide +kernel
theorem dX4_plus_33 : decode cX4_plus 33 = .ok (.invokevirtual 30, 3) := by decide +kernel
theorem dX4_plus_36 : decode cX4_plus 36 = .ok (.ladd, 1) := by decide +kernel
theorem dX4_plus_37 : decode cX4_plus 37 = .ok (.ladd, 1) := by decide +kernel
theorem dX4_plus_38 : decode cX4_plus 38 = .ok (.lstore_n 3, 1) := by decide +kernel
theorem dX4_plus_39 : decode cX4_plus 39 = .ok (.aload_n 0, 1) := by decide +kernel
theorem dX4_plus_40 : decode cX4_plus 40 = .ok (.getfield 9, 3) := by decide +kernel
theorem dX4_plus_43 : decode cX4_plus 43 = .ok (.iload 5, 2) := by decide +kernel
theorem dX4_plus_45 : decode cX4_plus 45 = .ok (.lload_n 3, 1) := by decide +kernel
theorem dX4_plus_46 : decode cX4_plus 46 = .ok (.ldc2_w 13, 3) := by decide +kernel
theorem dX4_plus_49 : decode cX4_plus 49 = .ok (.land, 1) := by decide +kernel
theorem dX4_plus_50 : decode cX4_plus 50 = .ok (.lastore, 1) := by decide +kernel
theorem dX4_plus_51 : decode cX4_plus 51 = .ok (.lload_n 3, 1) := by decide +kernel
theorem dX4_plus_52 : decode cX4_plus 52 = .ok (.bipush 32, 2) := by decide +kernel
theorem dX4_plus_54 : decode cX4_plus 54 = .ok (.lushr, 1) := by decide +kernel
theorem dX4_plus_55 : decode cX4_plus 55 = .ok (.lstore_n 3, 1) := by decide +kernel
theorem dX4_plus_56 : decode cX4_plus 56 = .ok (.iinc 5 1, 3) := by decide +kernel
theorem dX4_plus_59 : decode cX4_plus 59 = .ok (.goto (-42), 3) := by decide +kernel
theorem dX4_plus_62 : decode cX4_plus 62 = .ok (.aload_n 0, 1) := by decide +kernel
theorem dX4_plus_63 : decode cX4_plus 63 = .ok (.iload_n 2, 1) := by decide +kernel
theorem dX4_plus_64 : decode cX4_plus 64 = .ok (.putfield 15, 3) := by decide +kernel
theorem dX4_plus_67 : decode cX4_plus 67 = .ok (.lload_n 3, 1) := by decide +kernel
theorem dX4_plus_68 : decode cX4_plus 68 = .ok (.lconst 0, 1) := by decide +kernel
theorem dX4_plus_69 : decode cX4_plus 69 = .ok (.lcmp, 1) := by decide +kernel
theorem dX4_plus_70 : decode cX4_plus 70 = .ok (.ifCond .eq 33, 3) := by decide +kernel
theorem dX4_plus_73 : decode cX4_plus 73 = .ok (.aload_n 0, 1) := by decide +kernel
theorem dX4_plus_74 : decode cX4_plus 74 = .ok (.getfield 15, 3) := by decide +kernel
theorem dX4_plus_77 : decode cX4_plus 77 = .ok (.sipush 160, 3) := by decide +kernel
theorem dX4_plus_80 : decode cX4_plus 80 = .ok (.if_icmp .ge 23, 3) := by decide +kernel
theorem dX4_plus_83 : decode cX4_plus 83 = .ok (.aload_n 0, 1) := by decide +kernel
theorem dX4_plus_84 : decode cX4_plus 84 = .ok (.getfield 9, 3) := by decide +kernel
theorem dX4_plus_87 : decode cX4_plus 87 = .ok (.aload_n 0, 1) := by decide +kernel
theorem dX4_plus_88 : decode cX4_plus 88 = .ok (.getfield 15, 3) := by decide +kernel
theorem dX4_plus_91 : decode cX4_plus 91 = .ok (.lload_n 3, 1) := by decide +kernel
theorem dX4_plus_92 : decode cX4_plus 92 = .ok (.lastore, 1) := by decide +kernel
theorem dX4_plus_93 : decode cX4_plus 93 = .ok (.aload_n 0, 1) := by decide +kernel
theorem dX4_plus_94 : decode cX4_plus 94 = .ok (.dup, 1) := by decide +kernel
theorem dX4_plus_95 : decode cX4_plus 95 = .ok (.getfield 15, 3) := by decide +kernel
theorem dX4_plus_98 : decode cX4_plus 98 = .ok (.iconst 1, 1) := by decide +kernel
theorem dX4_plus_99 : decode cX4_plus 99 = .ok (.iadd, 1) := by decide +kernel
theorem dX4_plus_100 : decode cX4_plus 100 = .ok (.putfield 15, 3) := by decide +kernel
theorem dX4_plus_103 : decode cX4_plus 103 = .ok (.return_, 1) := by decide +kernel
theorem dX4_minus_0 : decode cX4_minus 0 = .ok (.lconst 0, 1) := by decide +kernel
theorem dX4_minus_1 : decode cX4_minus 1 = .ok (.lstore_n 2, 1) := by decide +kernel
theorem dX4_minus_2 : decode cX4_minus 2 = .ok (.iconst 0, 1) := by decide +kernel
theorem dX4_minus_3 : decode cX4_minus 3 = .ok (.istore 4, 2) := by decide +kernel
theorem dX4_minus_5 : decode cX4_minus 5 = .ok (.iload 4, 2) := by decide +kernel
theorem dX4_minus_7 : decode cX4_minus 7 = .ok (.aload_n 0, 1) := by decide +kernel
theorem dX4_minus_8 : decode cX4_minus 8 = .ok (.getfield 15, 3) := by decide +kernel
theorem dX4_minus_11 : decode cX4_minus 11 = .ok (.if_icmp .ge 43, 3) := by decide +kernel
theorem dX4_minus_14 : decode cX4_minus 14 = .ok (.lload_n 2, 1) := by decide +kernel
theorem dX4_minus_15 : decode cX4_minus 15 = .ok (.aload_n 0, 1) := by decide +kernel
theorem dX4_minus_16 : decode cX4_minus 16 = .ok (.getfield 9, 3) := by decide +kernel
theorem dX4_minus_19 : decode cX4_minus 19 = .ok (.iload 4, 2) := by decide +kernel
theorem dX4_minus_21 : decode cX4_minus 21 = .ok (.laload, 1) := by decide +kernel
theorem dX4_minus_22 : decode cX4_minus 22 = .ok (.aload_n 1, 1) := by decide +kernel
theorem dX4_minus_23 : decode cX4_minus 23 = .ok (.iload 4, 2) := by decide +kernel
theorem dX4_minus_25 : decode cX4_minus 25 = .ok (.invokevirtual 30, 3) := by decide +kernel
theorem dX4_minus_28 : decode cX4_minus 28 = .ok (.lsub, 1) := by decide +kernel
theorem dX4_minus_29 : decode cX4_minus 29 = .ok (.ladd, 1) := by decide +kernel
theorem dX4_minus_30 : decode cX4_minus 30 = .ok (.lstore_n 2, 1) := by decide +kernel
theorem dX4_minus_31 : decode cX4_minus 31 = .ok (.aload_n 0, 1) := by decide +kernel
theorem dX4_minus_32 : decode cX4_minus 32 = .ok (.getfield 9, 3) := by decide +kernel
theorem dX4_minus_35 : decode cX4_minus 35 = .ok (.iload 4, 2) := by decide +kernel
theorem dX4_minus_37 : decode cX4_minus 37 = .ok (.lload_n 2, 1) := by decide +kernel
theorem dX4_minus_38 : decode cX4_minus 38 = .ok (.ldc2_w 13, 3) := by decide +kernel
theorem dX4_minus_41 : decode cX4_minus 41 = .ok (.land, 1) := by decide +kernel
theorem dX4_minus_42 : decode cX4_minus 42 = .ok (.lastore, 1) := by decide +kernel
theorem dX4_minus_43 : decode cX4_minus 43 = .ok (.lload_n 2, 1) := by decide +kernel
theorem dX4_minus_44 : decode cX4_minus 44 = .ok (.bipush 32, 2) := by decide +kernel
theorem dX4_minus_46 : decode cX4_minus 46 = .ok (.lshr, 1) := by decide +kernel
theorem dX4_minus_47 : decode cX4_minus 47 = .ok (.lstore_n 2, 1) := by decide +kernel
theorem dX4_minus_48 : decode cX4_minus 48 = .ok (.iinc 4 1, 3) := by decide +kernel
theorem dX4_minus_51 : decode cX4_minus 51 = .ok (.goto (-46), 3) := by decide +kernel
theorem dX4_minus_54 : decode cX4_minus 54 = .ok (.aload_n 0, 1) := by decide +kernel
theorem dX4_minus_55 : decode cX4_minus 55 = .ok (.invokevirtual 19, 3) := by decide +kernel
theorem dX4_minus_58 : decode cX4_minus 58 = .ok (.return_, 1) := by decide +kernel
theorem dX4_comparedWith_0 : decode cX4_comparedWith 0 = .ok (.aload_n 0, 1) := by decide +kernel
theorem dX4_comparedWith_1 : decode cX4_comparedWith 1 = .ok (.getfield 15, 3) := by decide +kernel
theorem dX4_comparedWith_4 : decode cX4_comparedWith 4 = .ok (.aload_n 1, 1) := by decide +kernel
theorem dX4_comparedWith_5 : decode cX4_comparedWith 5 = .ok (.getfield 15, 3) := by decide +kernel
theorem dX4_comparedWith_8 : decode cX4_comparedWith 8 = .ok (.if_icmp .eq 20, 3) := by decide +kernel
theorem dX4_comparedWith_11 : decode cX4_comparedWith 11 = .ok (.aload_n 0, 1) := by decide +kernel
theorem dX4_comparedWith_12 : decode cX4_comparedWith 12 = .ok (.getfield 15, 3) := by decide +kernel
theorem dX4_comparedWith_15 : decode cX4_comparedWith 15 = .ok (.aload_n 1, 1) := by decide +kernel
theorem dX4_comparedWith_16 : decode cX4_comparedWith 16 = .ok (.getfield 15, 3) := by decide +kernel
theorem dX4_comparedWith_19 : decode cX4_comparedWith 19 = .ok (.if_icmp .ge 7, 3) := by decide +kernel
theorem dX4_comparedWith_22 : decode cX4_comparedWith 22 = .ok (.iconst (-1), 1) := by decide +kernel
theorem dX4_comparedWith_23 : decode cX4_comparedWith 23 = .ok (.goto 4, 3) := by decide +kernel
theorem dX4_comparedWith_26 : decode cX4_comparedWith 26 = .ok (.iconst 1, 1) := by decide +kernel
theorem dX4_comparedWith_27 : decode cX4_comparedWith 27 = .ok (.ireturn, 1) := by decide +kernel
theorem dX4_comparedWith_28 : decode cX4_comparedWith 28 = .ok (.aload_n 0, 1) := by decide +kernel
theorem dX4_comparedWith_29 : decode cX4_comparedWith 29 = .ok (.getfield 15, 3) := by decide +kernel
theorem dX4_comparedWith_32 : decode cX4_comparedWith 32 = .ok (.iconst 1, 1) := by decide +kernel
theorem dX4_comparedWith_33 : decode cX4_comparedWith 33 = .ok (.isub, 1) := by decide +kernel
theorem dX4_comparedWith_34 : decode cX4_comparedWith 34 = .ok (.istore_n 2, 1) := by decide +kernel
theorem dX4_comparedWith_35 : decode cX4_comparedWith 35 = .ok (.iload_n 2, 1) := by decide +kernel
theorem dX4_comparedWith_36 : decode cX4_comparedWith 36 = .ok (.ifCond .lt 47, 3) := by decide +kernel
theorem dX4_comparedWith_39 : decode cX4_comparedWith 39 = .ok (.aload_n 0, 1) := by decide +kernel
theorem dX4_comparedWith_40 : decode cX4_comparedWith 40 = .ok (.getfield 9, 3) := by decide +kernel
theorem dX4_comparedWith_43 : decode cX4_comparedWith 43 = .ok (.iload_n 2, 1) := by decide +kernel
theorem dX4_comparedWith_44 : decode cX4_comparedWith 44 = .ok (.laload, 1) := by decide +kernel
theorem dX4_comparedWith_45 : decode cX4_comparedWith 45 = .ok (.aload_n 1, 1) := by decide +kernel
theorem dX4_comparedWith_46 : decode cX4_comparedWith 46 = .ok (.getfield 9, 3) := by decide +kernel
theorem dX4_comparedWith_49 : decode cX4_comparedWith 49 = .ok (.iload_n 2, 1) := by decide +kernel
theorem dX4_comparedWith_50 : decode cX4_comparedWith 50 = .ok (.laload, 1) := by decide +kernel
theorem dX4_comparedWith_51 : decode cX4_comparedWith 51 = .ok (.lcmp, 1) := by decide +kernel
theorem dX4_comparedWith_52 : decode cX4_comparedWith 52 = .ok (.ifCond .eq 25, 3) := by decide +kernel
theorem dX4_comparedWith_55 : decode cX4_comparedWith 55 = .ok (.aload_n 0, 1) := by decide +kernel
theorem dX4_comparedWith_56 : decode cX4_comparedWith 56 = .ok (.getfield 9, 3) := by decide +kernel
theorem dX4_comparedWith_59 : decode cX4_comparedWith 59 = .ok (.iload_n 2, 1) := by decide +kernel
theorem dX4_comparedWith_60 : decode cX4_comparedWith 60 = .ok (.laload, 1) := by decide +kernel
theorem dX4_comparedWith_61 : decode cX4_comparedWith 61 = .ok (.aload_n 1, 1) := by decide +kernel
theorem dX4_comparedWith_62 : decode cX4_comparedWith 62 = .ok (.getfield 9, 3) := by decide +kernel
theorem dX4_comparedWith_65 : decode cX4_comparedWith 65 = .ok (.iload_n 2, 1) := by decide +kernel
theorem dX4_comparedWith_66 : decode cX4_comparedWith 66 = .ok (.laload, 1) := by decide +kernel
theorem dX4_comparedWith_67 : decode cX4_comparedWith 67 = .ok (.lcmp, 1) := by decide +kernel
theorem dX4_comparedWith_68 : decode cX4_comparedWith 68 = .ok (.ifCond .ge 7, 3) := by decide +kernel
theorem dX4_comparedWith_71 : decode cX4_comparedWith 71 = .ok (.iconst (-1), 1) := by decide +kernel
theorem dX4_comparedWith_72 : decode cX4_comparedWith 72 = .ok (.goto 4, 3) := by decide +kernel
theorem dX4_comparedWith_75 : decode cX4_comparedWith 75 = .ok (.iconst 1, 1) := by decide +kernel
theorem dX4_comparedWith_76 : decode cX4_comparedWith 76 = .ok (.ireturn, 1) := by decide +kernel
theorem dX4_comparedWith_77 : decode cX4_comparedWith 77 = .ok (.iinc 2 (-1), 3) := by decide +kernel
theorem dX4_comparedWith_80 : decode cX4_comparedWith 80 = .ok (.goto (-45), 3) := by decide +kernel
theorem dX4_comparedWith_83 : decode cX4_comparedWith 83 = .ok (.iconst 0, 1) := by decide +kernel
theorem dX4_comparedWith_84 : decode cX4_comparedWith 84 = .ok (.ireturn, 1) := by decide +kernel
theorem dJ6_numberOfLeadingZeros_0f7a4_0 : decode cJ6_numberOfLeadingZeros_0f7a4 0 = .ok (.iload_n 0, 1) := by decide +kernel
theorem dJ6_numberOfLeadingZeros_0f7a4_1 : decode cJ6_numberOfLeadingZeros_0f7a4 1 = .ok (.ifCond .gt 14, 3) := by decide +kernel
theorem dJ6_numberOfLeadingZeros_0f7a4_4 : decode cJ6_numberOfLeadingZeros_0f7a4 4 = .ok (.iload_n 0, 1) := by decide +kernel
theorem dJ6_numberOfLeadingZeros_0f7a4_5 : decode cJ6_numberOfLeadingZeros_0f7a4 5 = .ok (.ifCond .ne 8, 3) := by decide +kernel
theorem dJ6_numberOfLeadingZeros_0f7a4_8 : decode cJ6_numberOfLeadingZeros_0f7a4 8 = .ok (.bipush 32, 2) := by decide +kernel
theorem dJ6_numberOfLeadingZeros_0f7a4_10 : decode cJ6_numberOfLeadingZeros_0f7a4 10 = .ok (.goto 4, 3) := by decide +kernel
theorem dJ6_numberOfLeadingZeros_0f7a4_13 : decode cJ6_numberOfLeadingZeros_0f7a4 13 = .ok (.iconst 0, 1) := by decide +kernel
theorem dJ6_numberOfLeadingZeros_0f7a4_14 : decode cJ6_numberOfLeadingZeros_0f7a4 14 = .ok (.ireturn, 1) := by decide +kernel
theorem dJ6_numberOfLeadingZeros_0f7a4_15 : decode cJ6_numberOfLeadingZeros_0f7a4 15 = .ok (.bipush 31, 2) := by decide +kernel
theorem dJ6_numberOfLeadingZeros_0f7a4_17 : decode cJ6_numberOfLeadingZeros_0f7a4 17 = .ok (.istore_n 1, 1) := by decide +kernel
theorem dJ6_numberOfLeadingZeros_0f7a4_18 : decode cJ6_numberOfLeadingZeros_0f7a4 18 = .ok (.iload_n 0, 1) := by decide +kernel
theorem dJ6_numberOfLeadingZeros_0f7a4_19 : decode cJ6_numberOfLeadingZeros_0f7a4 19 = .ok (.ldc_w 264, 3) := by decide +kernel
theorem dJ6_numberOfLeadingZeros_0f7a4_22 : decode cJ6_numberOfLeadingZeros_0f7a4 22 = .ok (.if_icmp .lt 11, 3) := by decide +kernel
theorem dJ6_numberOfLeadingZeros_0f7a4_25 : decode cJ6_numberOfLeadingZeros_0f7a4 25 = .ok (.iinc 1 (-16), 3) := by decide +kernel
theorem dJ6_numberOfLeadingZeros_0f7a4_28 : decode cJ6_numberOfLeadingZeros_0f7a4 28 = .ok (.iload_n 0, 1) := by decide +kernel
theorem dJ6_numberOfLeadingZeros_0f7a4_29 : decode cJ6_numberOfLeadingZeros_0f7a4 29 = .ok (.bipush 16, 2) := by decide +kernel
theorem dJ6_numberOfLeadingZeros_0f7a4_31 : decode cJ6_numberOfLeadingZeros_0f7a4 31 = .ok (.iushr, 1) := by decide +kernel
theorem dJ6_numberOfLeadingZeros_0f7a4_32 : decode cJ6_numberOfLeadingZeros_0f7a4 32 = .ok (.istore_n 0, 1) := by decide +kernel
theorem dJ6_numberOfLeadingZeros_0f7a4_33 : decode cJ6_numberOfLeadingZeros_0f7a4 33 = .ok (.iload_n 0, 1) := by decide +kernel
theorem dJ6_numberOfLeadingZeros_0f7a4_34 : decode cJ6_numberOfLeadingZeros_0f7a4 34 = .ok (.sipush 256, 3) := by decide +kernel
theorem dJ6_numberOfLeadingZeros_0f7a4_37 : decode cJ6_numberOfLeadingZeros_0f7a4 37 = .ok (.if_icmp .lt 11, 3) := by decide +kernel
theorem dJ6_numberOfLeadingZeros_0f7a4_40 : decode cJ6_numberOfLeadingZeros_0f7a4 40 = .ok (.iinc 1 (-8), 3) := by decide +kernel
theorem dJ6_numberOfLeadingZeros_0f7a4_43 : decode cJ6_numberOfLeadingZeros_0f7a4 43 = .ok (.iload_n 0, 1) := by decide +kernel
theorem dJ6_numberOfLeadingZeros_0f7a4_44 : decode cJ6_numberOfLeadingZeros_0f7a4 44 = .ok (.bipush 8, 2) := by decide +kernel
theorem dJ6_numberOfLeadingZeros_0f7a4_46 : decode cJ6_numberOfLeadingZeros_0f7a4 46 = .ok (.iushr, 1) := by decide +kernel
theorem dJ6_numberOfLeadingZeros_0f7a4_47 : decode cJ6_numberOfLeadingZeros_0f7a4 47 = .ok (.istore_n 0, 1) := by decide +kernel
theorem dJ6_numberOfLeadingZeros_0f7a4_48 : decode cJ6_numberOfLeadingZeros_0f7a4 48 = .ok (.iload_n 0, 1) := by decide +kernel
theorem dJ6_numberOfLeadingZeros_0f7a4_49 : decode cJ6_numberOfLeadingZeros_0f7a4 49 = .ok (.bipush 16, 2) := by decide +kernel
theorem dJ6_numberOfLeadingZeros_0f7a4_51 : decode cJ6_numberOfLeadingZeros_0f7a4 51 = .ok (.if_icmp .lt 10, 3) := by decide +kernel
theorem dJ6_numberOfLeadingZeros_0f7a4_54 : decode cJ6_numberOfLeadingZeros_0f7a4 54 = .ok (.iinc 1 (-4), 3) := by decide +kernel
theorem dJ6_numberOfLeadingZeros_0f7a4_57 : decode cJ6_numberOfLeadingZeros_0f7a4 57 = .ok (.iload_n 0, 1) := by decide +kernel
theorem dJ6_numberOfLeadingZeros_0f7a4_58 : decode cJ6_numberOfLeadingZeros_0f7a4 58 = .ok (.iconst 4, 1) := by decide +kernel
theorem dJ6_numberOfLeadingZeros_0f7a4_59 : decode cJ6_numberOfLeadingZeros_0f7a4 59 = .ok (.iushr, 1) := by decide +kernel
theorem dJ6_numberOfLeadingZeros_0f7a4_60 : decode cJ6_numberOfLeadingZeros_0f7a4 60 = .ok (.istore_n 0, 1) := by decide +kernel
theorem dJ6_numberOfLeadingZeros_0f7a4_61 : decode cJ6_numberOfLeadingZeros_0f7a4 61 = .ok (.iload_n 0, 1) := by decide +kernel
theorem dJ6_numberOfLeadingZeros_0f7a4_62 : decode cJ6_numberOfLeadingZeros_0f7a4 62 = .ok (.iconst 4, 1) := by decide +kernel
theorem dJ6_numberOfLeadingZeros_0f7a4_63 : decode cJ6_numberOfLeadingZeros_0f7a4 63 = .ok (.if_icmp .lt 10, 3) := by decide +kernel
theorem dJ6_numberOfLeadingZeros_0f7a4_66 : decode cJ6_numberOfLeadingZeros_0f7a4 66 = .ok (.iinc 1 (-2), 3) := by decide +kernel
theorem dJ6_numberOfLeadingZeros_0f7a4_69 : decode cJ6_numberOfLeadingZeros_0f7a4 69 = .ok (.iload_n 0, 1) := by decide +kernel
theorem dJ6_numberOfLeadingZeros_0f7a4_70 : decode cJ6_numberOfLeadingZeros_0f7a4 70 = .ok (.iconst 2, 1) := by decide +kernel
theorem dJ6_numberOfLeadingZeros_0f7a4_71 : decode cJ6_numberOfLeadingZeros_0f7a4 71 = .ok (.iushr, 1) := by decide +kernel
theorem dJ6_numberOfLeadingZeros_0f7a4_72 : decode cJ6_numberOfLeadingZeros_0f7a4 72 = .ok (.istore_n 0, 1) := by decide +kernel
theorem dJ6_numberOfLeadingZeros_0f7a4_73 : decode cJ6_numberOfLeadingZeros_0f7a4 73 = .ok (.iload_n 1, 1) := by decide +kernel
theorem dJ6_numberOfLeadingZeros_0f7a4_74 : decode cJ6_numberOfLeadingZeros_0f7a4 74 = .ok (.iload_n 0, 1) := by decide +kernel
theorem dJ6_numberOfLeadingZeros_0f7a4_75 : decode cJ6_numberOfLeadingZeros_0f7a4 75 = .ok (.iconst 1, 1) := by decide +kernel
theorem dJ6_numberOfLeadingZeros_0f7a4_76 : decode cJ6_numberOfLeadingZeros_0f7a4 76 = .ok (.iushr, 1) := by decide +kernel
theorem dJ6_numberOfLeadingZeros_0f7a4_77 : decode cJ6_numberOfLeadingZeros_0f7a4 77 = .ok (.isub, 1) := by decide +kernel
theorem dJ6_numberOfLeadingZeros_0f7a4_78 : decode cJ6_numberOfLeadingZeros_0f7a4 78 = .ok (.ireturn, 1) := by decide +kernel
theorem dJ13_numberOfLeadingZeros_95d88_0 : decode cJ13_numberOfLeadingZeros_95d88 0 = .ok (.lload_n 0, 1) := by decide +kernel
theorem dJ13_numberOfLeadingZeros_95d88_1 : decode cJ13_numberOfLeadingZeros_95d88 1 = .ok (.bipush 32, 2) := by decide +kernel
theorem dJ13_numberOfLeadingZeros_95d88_3 : decode cJ13_numberOfLeadingZeros_95d88 3 = .ok (.lushr, 1) := by decide +kernel
theorem dJ13_numberOfLeadingZeros_95d88_4 : decode cJ13_numberOfLeadingZeros_95d88 4 = .ok (.l2i, 1) := by decide +kernel
theorem dJ13_numberOfLeadingZeros_95d88_5 : decode cJ13_numberOfLeadingZeros_95d88 5 = .ok (.istore_n 2, 1) := by decide +kernel
theorem dJ13_numberOfLeadingZeros_95d88_6 : decode cJ13_numberOfLeadingZeros_95d88 6 = .ok (.iload_n 2, 1) := by decide +kernel
theorem dJ13_numberOfLeadingZeros_95d88_7 : decode cJ13_numberOfLeadingZeros_95d88 7 = .ok (.ifCond .ne 14, 3) := by decide +kernel
theorem dJ13_numberOfLeadingZeros_95d88_10 : decode cJ13_numberOfLeadingZeros_95d88 10 = .ok (.bipush 32, 2) := by decide +kernel
theorem dJ13_numberOfLeadingZeros_95d88_12 : decode cJ13_numberOfLeadingZeros_95d88 12 = .ok (.lload_n 0, 1) := by decide +kernel
theorem dJ13_numberOfLeadingZeros_95d88_13 : decode cJ13_numberOfLeadingZeros_95d88 13 = .ok (.l2i, 1) := by decide +kernel
theorem dJ13_numberOfLeadingZeros_95d88_14 : decode cJ13_numberOfLeadingZeros_95d88 14 = .ok (.invokestatic 308, 3) := by decide +kernel
theorem dJ13_numberOfLeadingZeros_95d88_17 : decode cJ13_numberOfLeadingZeros_95d88 17 = .ok (.iadd, 1) := by decide +kernel
theorem dJ13_numberOfLeadingZeros_95d88_18 : decode cJ13_numberOfLeadingZeros_95d88 18 = .ok (.goto 7, 3) := by decide +kernel
theorem dJ13_numberOfLeadingZeros_95d88_21 : decode cJ13_numberOfLeadingZeros_95d88 21 = .ok (.iload_n 2, 1) := by decide +kernel
theorem dJ13_numberOfLeadingZeros_95d88_22 : decode cJ13_numberOfLeadingZeros_95d88 22 = .ok (.invokestatic 308, 3) := by decide +kernel
theorem dJ13_numberOfLeadingZeros_95d88_25 : decode cJ13_numberOfLeadingZeros_95d88 25 = .ok (.ireturn, 1) := by decide +kernel
theorem dX4_bits_0 : decode cX4_bits 0 = .ok (.bipush 32, 2) := by decide +kernel
theorem dX4_bits_2 : decode cX4_bits 2 = .ok (.aload_n 0, 1) := by decide +kernel
theorem dX4_bits_3 : decode cX4_bits 3 = .ok (.getfield 15, 3) := by decide +kernel
theorem dX4_bits_6 : decode cX4_bits 6 = .ok (.imul, 1) := by decide +kernel
theorem dX4_bits_7 : decode cX4_bits 7 = .ok (.aload_n 0, 1) := by decide +kernel
theorem dX4_bits_8 : decode cX4_bits 8 = .ok (.getfield 15, 3) := by decide +kernel
theorem dX4_bits_11 : decode cX4_bits 11 = .ok (.ifCond .ne 7, 3) := by decide +kernel
theorem dX4_bits_14 : decode cX4_bits 14 = .ok (.iconst 0, 1) := by decide +kernel
theorem dX4_bits_15 : decode cX4_bits 15 = .ok (.goto 19, 3) := by decide +kernel
theorem dX4_bits_18 : decode cX4_bits 18 = .ok (.aload_n 0, 1) := by decide +kernel
theorem dX4_bits_19 : decode cX4_bits 19 = .ok (.aload_n 0, 1) := by decide +kernel
theorem dX4_bits_20 : decode cX4_bits 20 = .ok (.getfield 15, 3) := by decide +kernel
theorem dX4_bits_23 : decode cX4_bits 23 = .ok (.iconst 1, 1) := by decide +kernel
theorem dX4_bits_24 : decode cX4_bits 24 = .ok (.isub, 1) := by decide +kernel
theorem dX4_bits_25 : decode cX4_bits 25 = .ok (.invokevirtual 30, 3) := by decide +kernel
theorem dX4_bits_28 : decode cX4_bits 28 = .ok (.invokestatic 40, 3) := by decide +kernel
theorem dX4_bits_31 : decode cX4_bits 31 = .ok (.bipush 32, 2) := by decide +kernel
theorem dX4_bits_33 : decode cX4_bits 33 = .ok (.isub, 1) := by decide +kernel
theorem dX4_bits_34 : decode cX4_bits 34 = .ok (.isub, 1) := by decide +kernel
theorem dX4_bits_35 : decode cX4_bits 35 = .ok (.ireturn, 1) := by decide +kernel
theorem dX4_bitsFrom_0 : decode cX4_bitsFrom 0 = .ok (.iload_n 1, 1) := by decide +kernel
theorem dX4_bitsFrom_1 : decode cX4_bitsFrom 1 = .ok (.iconst 5, 1) := by decide +kernel
theorem dX4_bitsFrom_2 : decode cX4_bitsFrom 2 = .ok (.ishr, 1) := by decide +kernel
theorem dX4_bitsFrom_3 : decode cX4_bitsFrom 3 = .ok (.istore_n 2, 1) := by decide +kernel
theorem dX4_bitsFrom_4 : decode cX4_bitsFrom 4 = .ok (.iload_n 1, 1) := by decide +kernel
theorem dX4_bitsFrom_5 : decode cX4_bitsFrom 5 = .ok (.bipush 31, 2) := by decide +kernel
theorem dX4_bitsFrom_7 : decode cX4_bitsFrom 7 = .ok (.iand, 1) := by decide +kernel
theorem dX4_bitsFrom_8 : decode cX4_bitsFrom 8 = .ok (.istore_n 3, 1) := by decide +kernel
theorem dX4_bitsFrom_9 : decode cX4_bitsFrom 9 = .ok (.aload_n 0, 1) := by decide +kernel
theorem dX4_bitsFrom_10 : decode cX4_bitsFrom 10 = .ok (.iload_n 2, 1) := by decide +kernel
theorem dX4_bitsFrom_11 : decode cX4_bitsFrom 11 = .ok (.invokevirtual 30, 3) := by decide +kernel
theorem dX4_bitsFrom_14 : decode cX4_bitsFrom 14 = .ok (.iload_n 3, 1) := by decide +kernel
theorem dX4_bitsFrom_15 : decode cX4_bitsFrom 15 = .ok (.lushr, 1) := by decide +kernel
theorem dX4_bitsFrom_16 : decode cX4_bitsFrom 16 = .ok (.aload_n 0, 1) := by decide +kernel
theorem dX4_bitsFrom_17 : decode cX4_bitsFrom 17 = .ok (.iload_n 2, 1) := by decide +kernel
theorem dX4_bitsFrom_18 : decode cX4_bitsFrom 18 = .ok (.iconst 1, 1) := by decide +kernel
theorem dX4_bitsFrom_19 : decode cX4_bitsFrom 19 = .ok (.iadd, 1) := by decide +kernel
theorem dX4_bitsFrom_20 : decode cX4_bitsFrom 20 = .ok (.invokevirtual 30, 3) := by decide +kernel
theorem dX4_bitsFrom_23 : decode cX4_bitsFrom 23 = .ok (.bipush 32, 2) := by decide +kernel
theorem dX4_bitsFrom_25 : decode cX4_bitsFrom 25 = .ok (.iload_n 3, 1) := by decide +kernel
theorem dX4_bitsFrom_26 : decode cX4_bitsFrom 26 = .ok (.isub, 1) := by decide +kernel
theorem dX4_bitsFrom_27 : decode cX4_bitsFrom 27 = .ok (.lshl, 1) := by decide +kernel
theorem dX4_bitsFrom_28 : decode cX4_bitsFrom 28 = .ok (.lor, 1) := by decide +kernel
theorem dX4_bitsFrom_29 : decode cX4_bitsFrom 29 = .ok (.lstore 4, 2) := by decide +kernel
theorem dX4_bitsFrom_31 : decode cX4_bitsFrom 31 = .ok (.iload_n 3, 1) := by decide +kernel
theorem dX4_bitsFrom_32 : decode cX4_bitsFrom 32 = .ok (.ifCond .ne 8, 3) := by decide +kernel
theorem dX4_bitsFrom_35 : decode cX4_bitsFrom 35 = .ok (.lload 4, 2) := by decide +kernel
theorem dX4_bitsFrom_37 : decode cX4_bitsFrom 37 = .ok (.goto 18, 3) := by decide +kernel
theorem dX4_bitsFrom_40 : decode cX4_bitsFrom 40 = .ok (.lload 4, 2) := by decide +kernel
theorem dX4_bitsFrom_42 : decode cX4_bitsFrom 42 = .ok (.aload_n 0, 1) := by decide +kernel
theorem dX4_bitsFrom_43 : decode cX4_bitsFrom 43 = .ok (.iload_n 2, 1) := by decide +kernel
theorem dX4_bitsFrom_44 : decode cX4_bitsFrom 44 = .ok (.iconst 2, 1) := by decide +kernel
theorem dX4_bitsFrom_45 : decode cX4_bitsFrom 45 = .ok (.iadd, 1) := by decide +kernel
theorem dX4_bitsFrom_46 : decode cX4_bitsFrom 46 = .ok (.invokevirtual 30, 3) := by decide +kernel
theorem dX4_bitsFrom_49 : decode cX4_bitsFrom 49 = .ok (.bipush 64, 2) := by decide +kernel
theorem dX4_bitsFrom_51 : decode cX4_bitsFrom 51 = .ok (.iload_n 3, 1) := by decide +kernel
theorem dX4_bitsFrom_52 : decode cX4_bitsFrom 52 = .ok (.isub, 1) := by decide +kernel
theorem dX4_bitsFrom_53 : decode cX4_bitsFrom 53 = .ok (.lshl, 1) := by decide +kernel
theorem dX4_bitsFrom_54 : decode cX4_bitsFrom 54 = .ok (.lor, 1) := by decide +kernel
theorem dX4_bitsFrom_55 : decode cX4_bitsFrom 55 = .ok (.lreturn, 1) := by decide +kernel
theorem dX4_bit_0 : decode cX4_bit 0 = .ok (.aload_n 0, 1) := by decide +kernel
theorem dX4_bit_1 : decode cX4_bit 1 = .ok (.iload_n 1, 1) := by decide +kernel
theorem dX4_bit_2 : decode cX4_bit 2 = .ok (.iconst 5, 1) := by decide +kernel
theorem dX4_bit_3 : decode cX4_bit 3 = .ok (.ishr, 1) := by decide +kernel
theorem dX4_bit_4 : decode cX4_bit 4 = .ok (.invokevirtual 30, 3) := by decide +kernel
theorem dX4_bit_7 : decode cX4_bit 7 = .ok (.iload_n 1, 1) := by decide +kernel
theorem dX4_bit_8 : decode cX4_bit 8 = .ok (.bipush 31, 2) := by decide +kernel
theorem dX4_bit_10 : decode cX4_bit 10 = .ok (.iand, 1) := by decide +kernel
theorem dX4_bit_11 : decode cX4_bit 11 = .ok (.lushr, 1) := by decide +kernel
theorem dX4_bit_12 : decode cX4_bit 12 = .ok (.lconst 1, 1) := by decide +kernel
theorem dX4_bit_13 : decode cX4_bit 13 = .ok (.land, 1) := by decide +kernel
theorem dX4_bit_14 : decode cX4_bit 14 = .ok (.lconst 0, 1) := by decide +kernel
theorem dX4_bit_15 : decode cX4_bit 15 = .ok (.lcmp, 1) := by decide +kernel
theorem dX4_bit_16 : decode cX4_bit 16 = .ok (.ifCond .eq 7, 3) := by decide +kernel
theorem dX4_bit_19 : decode cX4_bit 19 = .ok (.iconst 1, 1) := by decide +kernel
theorem dX4_bit_20 : decode cX4_bit 20 = .ok (.goto 4, 3) := by decide +kernel
theorem dX4_bit_23 : decode cX4_bit 23 = .ok (.iconst 0, 1) := by decide +kernel
theorem dX4_bit_24 : decode cX4_bit 24 = .ok (.ireturn, 1) := by decide +kernel
theorem dX4_anyBelow_0 : decode cX4_anyBelow 0 = .ok (.iload_n 1, 1) := by decide +kernel
theorem dX4_anyBelow_1 : decode cX4_anyBelow 1 = .ok (.iconst 5, 1) := by decide +kernel
theorem dX4_anyBelow_2 : decode cX4_anyBelow 2 = .ok (.ishr, 1) := by decide +kernel
theorem dX4_anyBelow_3 : decode cX4_anyBelow 3 = .ok (.istore_n 2, 1) := by decide +kernel
theorem dX4_anyBelow_4 : decode cX4_anyBelow 4 = .ok (.iconst 0, 1) := by decide +kernel
theorem dX4_anyBelow_5 : decode cX4_anyBelow 5 = .ok (.istore_n 3, 1) := by decide +kernel
theorem dX4_anyBelow_6 : decode cX4_anyBelow 6 = .ok (.iload_n 3, 1) := by decide +kernel
theorem dX4_anyBelow_7 : decode cX4_anyBelow 7 = .ok (.iload_n 2, 1) := by decide +kernel
theorem dX4_anyBelow_8 : decode cX4_anyBelow 8 = .ok (.if_icmp .ge 30, 3) := by decide +kernel
theorem dX4_anyBelow_11 : decode cX4_anyBelow 11 = .ok (.iload_n 3, 1) := by decide +kernel
theorem dX4_anyBelow_12 : decode cX4_anyBelow 12 = .ok (.aload_n 0, 1) := by decide +kernel
theorem dX4_anyBelow_13 : decode cX4_anyBelow 13 = .ok (.getfield 15, 3) := by decide +kernel
theorem dX4_anyBelow_16 : decode cX4_anyBelow 16 = .ok (.if_icmp .ge 22, 3) := by decide +kernel
theorem dX4_anyBelow_19 : decode cX4_anyBelow 19 = .ok (.aload_n 0, 1) := by decide +kernel
theorem dX4_anyBelow_20 : decode cX4_anyBelow 20 = .ok (.getfield 9, 3) := by decide +kernel
theorem dX4_anyBelow_23 : decode cX4_anyBelow 23 = .ok (.iload_n 3, 1) := by decide +kernel
theorem dX4_anyBelow_24 : decode cX4_anyBelow 24 = .ok (.laload, 1) := by decide +kernel
theorem dX4_anyBelow_25 : decode cX4_anyBelow 25 = .ok (.lconst 0, 1) := by decide +kernel
theorem dX4_anyBelow_26 : decode cX4_anyBelow 26 = .ok (.lcmp, 1) := by decide +kernel
theorem dX4_anyBelow_27 : decode cX4_anyBelow 27 = .ok (.ifCond .eq 5, 3) := by decide +kernel
theorem dX4_anyBelow_30 : decode cX4_anyBelow 30 = .ok (.iconst 1, 1) := by decide +kernel
theorem dX4_anyBelow_31 : decode cX4_anyBelow 31 = .ok (.ireturn, 1) := by decide +kernel
theorem dX4_anyBelow_32 : decode cX4_anyBelow 32 = .ok (.iinc 3 1, 3) := by decide +kernel
theorem dX4_anyBelow_35 : decode cX4_anyBelow 35 = .ok (.goto (-29), 3) := by decide +kernel
theorem dX4_anyBelow_38 : decode cX4_anyBelow 38 = .ok (.aload_n 0, 1) := by decide +kernel
theorem dX4_anyBelow_39 : decode cX4_anyBelow 39 = .ok (.iload_n 2, 1) := by decide +kernel
theorem dX4_anyBelow_40 : decode cX4_anyBelow 40 = .ok (.invokevirtual 30, 3) := by decide +kernel
theorem dX4_anyBelow_43 : decode cX4_anyBelow 43 = .ok (.lconst 1, 1) := by decide +kernel
theorem dX4_anyBelow_44 : decode cX4_anyBelow 44 = .ok (.iload_n 1, 1) := by decide +kernel
theorem dX4_anyBelow_45 : decode cX4_anyBelow 45 = .ok (.bipush 31, 2) := by decide +kernel
theorem dX4_anyBelow_47 : decode cX4_anyBelow 47 = .ok (.iand, 1) := by decide +kernel
theorem dX4_anyBelow_48 : decode cX4_anyBelow 48 = .ok (.lshl, 1) := by decide +kernel
theorem dX4_anyBelow_49 : decode cX4_anyBelow 49 = .ok (.lconst 1, 1) := by decide +kernel
theorem dX4_anyBelow_50 : decode cX4_anyBelow 50 = .ok (.lsub, 1) := by decide +kernel
theorem dX4_anyBelow_51 : decode cX4_anyBelow 51 = .ok (.land, 1) := by decide +kernel
theorem dX4_anyBelow_52 : decode cX4_anyBelow 52 = .ok (.lconst 0, 1) := by decide +kernel
theorem dX4_anyBelow_53 : decode cX4_anyBelow 53 = .ok (.lcmp, 1) := by decide +kernel
theorem dX4_anyBelow_54 : decode cX4_anyBelow 54 = .ok (.ifCond .eq 7, 3) := by decide +kernel
theorem dX4_anyBelow_57 : decode cX4_anyBelow 57 = .ok (.iconst 1, 1) := by decide +kernel
theorem dX4_anyBelow_58 : decode cX4_anyBelow 58 = .ok (.goto 4, 3) := by decide +kernel
theorem dX4_anyBelow_61 : decode cX4_anyBelow 61 = .ok (.iconst 0, 1) := by decide +kernel
theorem dX4_anyBelow_62 : decode cX4_anyBelow 62 = .ok (.ireturn, 1) := by decide +kernel
theorem dX4_cutBillion_0 : decode cX4_cutBillion 0 = .ok (.lconst 0, 1) := by decide +kernel
theorem dX4_cutBillion_1 : decode cX4_cutBillion 1 = .ok (.lstore_n 1, 1) := by decide +kernel
theorem dX4_cutBillion_2 : decode cX4_cutBillion 2 = .ok (.aload_n 0, 1) := by decide +kernel
theorem dX4_cutBillion_3 : decode cX4_cutBillion 3 = .ok (.getfield 15, 3) := by decide +kernel
theorem dX4_cutBillion_6 : decode cX4_cutBillion 6 = .ok (.iconst 1, 1) := by decide +kernel
theorem dX4_cutBillion_7 : decode cX4_cutBillion 7 = .ok (.isub, 1) := by decide +kernel
theorem dX4_cutBillion_8 : decode cX4_cutBillion 8 = .ok (.istore_n 3, 1) := by decide +kernel
theorem dX4_cutBillion_9 : decode cX4_cutBillion 9 = .ok (.iload_n 3, 1) := by decide +kernel
theorem dX4_cutBillion_10 : decode cX4_cutBillion 10 = .ok (.ifCond .lt 38, 3) := by decide +kernel
theorem dX4_cutBillion_13 : decode cX4_cutBillion 13 = .ok (.lload_n 1, 1) := by decide +kernel
theorem dX4_cutBillion_14 : decode cX4_cutBillion 14 = .ok (.bipush 32, 2) := by decide +kernel
theorem dX4_cutBillion_16 : decode cX4_cutBillion 16 = .ok (.lshl, 1) := by decide +kernel
theorem dX4_cutBillion_17 : decode cX4_cutBillion 17 = .ok (.aload_n 0, 1) := by decide +kernel
theorem dX4_cutBillion_18 : decode cX4_cutBillion 18 = .ok (.getfield 9, 3) := by decide +kernel
theorem dX4_cutBillion_21 : decode cX4_cutBillion 21 = .ok (.iload_n 3, 1) := by decide +kernel
theorem dX4_cutBillion_22 : decode cX4_cutBillion 22 = .ok (.laload, 1) := by decide +kernel
theorem dX4_cutBillion_23 : decode cX4_cutBillion 23 = .ok (.lor, 1) := by decide +kernel
theorem dX4_cutBillion_24 : decode cX4_cutBillion 24 = .ok (.lstore_n 1, 1) := by decide +kernel
theorem dX4_cutBillion_25 : decode cX4_cutBillion 25 = .ok (.aload_n 0, 1) := by decide +kernel
theorem dX4_cutBillion_26 : decode cX4_cutBillion 26 = .ok (.getfield 9, 3) := by decide +kernel
theorem dX4_cutBillion_29 : decode cX4_cutBillion 29 = .ok (.iload_n 3, 1) := by decide +kernel
theorem dX4_cutBillion_30 : decode cX4_cutBillion 30 = .ok (.lload_n 1, 1) := by decide +kernel
theorem dX4_cutBillion_31 : decode cX4_cutBillion 31 = .ok (.ldc2_w 46, 3) := by decide +kernel
theorem dX4_cutBillion_34 : decode cX4_cutBillion 34 = .ok (.ldiv, 1) := by decide +kernel
theorem dX4_cutBillion_35 : decode cX4_cutBillion 35 = .ok (.lastore, 1) := by decide +kernel
theorem dX4_cutBillion_36 : decode cX4_cutBillion 36 = .ok (.lload_n 1, 1) := by decide +kernel
theorem dX4_cutBillion_37 : decode cX4_cutBillion 37 = .ok (.ldc2_w 46, 3) := by decide +kernel
theorem dX4_cutBillion_40 : decode cX4_cutBillion 40 = .ok (.lrem, 1) := by decide +kernel
theorem dX4_cutBillion_41 : decode cX4_cutBillion 41 = .ok (.lstore_n 1, 1) := by decide +kernel
theorem dX4_cutBillion_42 : decode cX4_cutBillion 42 = .ok (.iinc 3 (-1), 3) := by decide +kernel
theorem dX4_cutBillion_45 : decode cX4_cutBillion 45 = .ok (.goto (-36), 3) := by decide +kernel
theorem dX4_cutBillion_48 : decode cX4_cutBillion 48 = .ok (.aload_n 0, 1) := by decide +kernel
theorem dX4_cutBillion_49 : decode cX4_cutBillion 49 = .ok (.invokevirtual 19, 3) := by decide +kernel
theorem dX4_cutBillion_52 : decode cX4_cutBillion 52 = .ok (.lload_n 1, 1) := by decide +kernel
theorem dX4_cutBillion_53 : decode cX4_cutBillion 53 = .ok (.l2i, 1) := by decide +kernel
theorem dX4_cutBillion_54 : decode cX4_cutBillion 54 = .ok (.ireturn, 1) := by decide +kernel
theorem dJ6_compare_7cf53_0 : decode cJ6_compare_7cf53 0 = .ok (.iload_n 0, 1) := by decide +kernel
theorem dJ6_compare_7cf53_1 : decode cJ6_compare_7cf53 1 = .ok (.iload_n 1, 1) := by decide +kernel
theorem dJ6_compare_7cf53_2 : decode cJ6_compare_7cf53 2 = .ok (.if_icmp .ge 7, 3) := by decide +kernel
theorem dJ6_compare_7cf53_5 : decode cJ6_compare_7cf53 5 = .ok (.iconst (-1), 1) := by decide +kernel
theorem dJ6_compare_7cf53_6 : decode cJ6_compare_7cf53 6 = .ok (.goto 13, 3) := by decide +kernel
theorem dJ6_compare_7cf53_9 : decode cJ6_compare_7cf53 9 = .ok (.iload_n 0, 1) := by decide +kernel
theorem dJ6_compare_7cf53_10 : decode cJ6_compare_7cf53 10 = .ok (.iload_n 1, 1) := by decide +kernel
theorem dJ6_compare_7cf53_11 : decode cJ6_compare_7cf53 11 = .ok (.if_icmp .ne 7, 3) := by decide +kernel
theorem dJ6_compare_7cf53_14 : decode cJ6_compare_7cf53 14 = .ok (.iconst 0, 1) := by decide +kernel
theorem dJ6_compare_7cf53_15 : decode cJ6_compare_7cf53 15 = .ok (.goto 4, 3) := by decide +kernel
theorem dJ6_compare_7cf53_18 : decode cJ6_compare_7cf53 18 = .ok (.iconst 1, 1) := by decide +kernel
theorem dJ6_compare_7cf53_19 : decode cJ6_compare_7cf53 19 = .ok (.ireturn, 1) := by decide +kernel
theorem dJ6_numberOfTrailingZeros_0f7a4_0 : decode cJ6_numberOfTrailingZeros_0f7a4 0 = .ok (.iload_n 0, 1) := by decide +kernel
theorem dJ6_numberOfTrailingZeros_0f7a4_1 : decode cJ6_numberOfTrailingZeros_0f7a4 1 = .ok (.iconst (-1), 1) := by decide +kernel
theorem dJ6_numberOfTrailingZeros_0f7a4_2 : decode cJ6_numberOfTrailingZeros_0f7a4 2 = .ok (.ixor, 1) := by decide +kernel
theorem dJ6_numberOfTrailingZeros_0f7a4_3 : decode cJ6_numberOfTrailingZeros_0f7a4 3 = .ok (.iload_n 0, 1) := by decide +kernel
theorem dJ6_numberOfTrailingZeros_0f7a4_4 : decode cJ6_numberOfTrailingZeros_0f7a4 4 = .ok (.iconst 1, 1) := by decide +kernel
theorem dJ6_numberOfTrailingZeros_0f7a4_5 : decode cJ6_numberOfTrailingZeros_0f7a4 5 = .ok (.isub, 1) := by decide +kernel
theorem dJ6_numberOfTrailingZeros_0f7a4_6 : decode cJ6_numberOfTrailingZeros_0f7a4 6 = .ok (.iand, 1) := by decide +kernel
theorem dJ6_numberOfTrailingZeros_0f7a4_7 : decode cJ6_numberOfTrailingZeros_0f7a4 7 = .ok (.istore_n 0, 1) := by decide +kernel
theorem dJ6_numberOfTrailingZeros_0f7a4_8 : decode cJ6_numberOfTrailingZeros_0f7a4 8 = .ok (.iload_n 0, 1) := by decide +kernel
theorem dJ6_numberOfTrailingZeros_0f7a4_9 : decode cJ6_numberOfTrailingZeros_0f7a4 9 = .ok (.ifCond .gt 8, 3) := by decide +kernel
theorem dJ6_numberOfTrailingZeros_0f7a4_12 : decode cJ6_numberOfTrailingZeros_0f7a4 12 = .ok (.iload_n 0, 1) := by decide +kernel
theorem dJ6_numberOfTrailingZeros_0f7a4_13 : decode cJ6_numberOfTrailingZeros_0f7a4 13 = .ok (.bipush 32, 2) := by decide +kernel
theorem dJ6_numberOfTrailingZeros_0f7a4_15 : decode cJ6_numberOfTrailingZeros_0f7a4 15 = .ok (.iand, 1) := by decide +kernel
theorem dJ6_numberOfTrailingZeros_0f7a4_16 : decode cJ6_numberOfTrailingZeros_0f7a4 16 = .ok (.ireturn, 1) := by decide +kernel
theorem dJ6_numberOfTrailingZeros_0f7a4_17 : decode cJ6_numberOfTrailingZeros_0f7a4 17 = .ok (.iconst 1, 1) := by decide +kernel
theorem dJ6_numberOfTrailingZeros_0f7a4_18 : decode cJ6_numberOfTrailingZeros_0f7a4 18 = .ok (.istore_n 1, 1) := by decide +kernel
theorem dJ6_numberOfTrailingZeros_0f7a4_19 : decode cJ6_numberOfTrailingZeros_0f7a4 19 = .ok (.iload_n 0, 1) := by decide +kernel
theorem dJ6_numberOfTrailingZeros_0f7a4_20 : decode cJ6_numberOfTrailingZeros_0f7a4 20 = .ok (.ldc_w 264, 3) := by decide +kernel
theorem dJ6_numberOfTrailingZeros_0f7a4_23 : decode cJ6_numberOfTrailingZeros_0f7a4 23 = .ok (.if_icmp .le 11, 3) := by decide +kernel
theorem dJ6_numberOfTrailingZeros_0f7a4_26 : decode cJ6_numberOfTrailingZeros_0f7a4 26 = .ok (.iinc 1 16, 3) := by decide +kernel
theorem dJ6_numberOfTrailingZeros_0f7a4_29 : decode cJ6_numberOfTrailingZeros_0f7a4 29 = .ok (.iload_n 0, 1) := by decide +kernel
theorem dJ6_numberOfTrailingZeros_0f7a4_30 : decode cJ6_numberOfTrailingZeros_0f7a4 30 = .ok (.bipush 16, 2) := by decide +kernel
theorem dJ6_numberOfTrailingZeros_0f7a4_32 : decode cJ6_numberOfTrailingZeros_0f7a4 32 = .ok (.iushr, 1) := by decide +kernel
theorem dJ6_numberOfTrailingZeros_0f7a4_33 : decode cJ6_numberOfTrailingZeros_0f7a4 33 = .ok (.istore_n 0, 1) := by decide +kernel
theorem dJ6_numberOfTrailingZeros_0f7a4_34 : decode cJ6_numberOfTrailingZeros_0f7a4 34 = .ok (.iload_n 0, 1) := by decide +kernel
theorem dJ6_numberOfTrailingZeros_0f7a4_35 : decode cJ6_numberOfTrailingZeros_0f7a4 35 = .ok (.sipush 256, 3) := by decide +kernel
theorem dJ6_numberOfTrailingZeros_0f7a4_38 : decode cJ6_numberOfTrailingZeros_0f7a4 38 = .ok (.if_icmp .le 11, 3) := by decide +kernel
theorem dJ6_numberOfTrailingZeros_0f7a4_41 : decode cJ6_numberOfTrailingZeros_0f7a4 41 = .ok (.iinc 1 8, 3) := by decide +kernel
theorem dJ6_numberOfTrailingZeros_0f7a4_44 : decode cJ6_numberOfTrailingZeros_0f7a4 44 = .ok (.iload_n 0, 1) := by decide +kernel
theorem dJ6_numberOfTrailingZeros_0f7a4_45 : decode cJ6_numberOfTrailingZeros_0f7a4 45 = .ok (.bipush 8, 2) := by decide +kernel
theorem dJ6_numberOfTrailingZeros_0f7a4_47 : decode cJ6_numberOfTrailingZeros_0f7a4 47 = .ok (.iushr, 1) := by decide +kernel
theorem dJ6_numberOfTrailingZeros_0f7a4_48 : decode cJ6_numberOfTrailingZeros_0f7a4 48 = .ok (.istore_n 0, 1) := by decide +kernel
theorem dJ6_numberOfTrailingZeros_0f7a4_49 : decode cJ6_numberOfTrailingZeros_0f7a4 49 = .ok (.iload_n 0, 1) := by decide +kernel
theorem dJ6_numberOfTrailingZeros_0f7a4_50 : decode cJ6_numberOfTrailingZeros_0f7a4 50 = .ok (.bipush 16, 2) := by decide +kernel
theorem dJ6_numberOfTrailingZeros_0f7a4_52 : decode cJ6_numberOfTrailingZeros_0f7a4 52 = .ok (.if_icmp .le 10, 3) := by decide +kernel
theorem dJ6_numberOfTrailingZeros_0f7a4_55 : decode cJ6_numberOfTrailingZeros_0f7a4 55 = .ok (.iinc 1 4, 3) := by decide +kernel
theorem dJ6_numberOfTrailingZeros_0f7a4_58 : decode cJ6_numberOfTrailingZeros_0f7a4 58 = .ok (.iload_n 0, 1) := by decide +kernel
theorem dJ6_numberOfTrailingZeros_0f7a4_59 : decode cJ6_numberOfTrailingZeros_0f7a4 59 = .ok (.iconst 4, 1) := by decide +kernel
theorem dJ6_numberOfTrailingZeros_0f7a4_60 : decode cJ6_numberOfTrailingZeros_0f7a4 60 = .ok (.iushr, 1) := by decide +kernel
theorem dJ6_numberOfTrailingZeros_0f7a4_61 : decode cJ6_numberOfTrailingZeros_0f7a4 61 = .ok (.istore_n 0, 1) := by decide +kernel
theorem dJ6_numberOfTrailingZeros_0f7a4_62 : decode cJ6_numberOfTrailingZeros_0f7a4 62 = .ok (.iload_n 0, 1) := by decide +kernel
theorem dJ6_numberOfTrailingZeros_0f7a4_63 : decode cJ6_numberOfTrailingZeros_0f7a4 63 = .ok (.iconst 4, 1) := by decide +kernel
theorem dJ6_numberOfTrailingZeros_0f7a4_64 : decode cJ6_numberOfTrailingZeros_0f7a4 64 = .ok (.if_icmp .le 10, 3) := by decide +kernel
theorem dJ6_numberOfTrailingZeros_0f7a4_67 : decode cJ6_numberOfTrailingZeros_0f7a4 67 = .ok (.iinc 1 2, 3) := by decide +kernel
theorem dJ6_numberOfTrailingZeros_0f7a4_70 : decode cJ6_numberOfTrailingZeros_0f7a4 70 = .ok (.iload_n 0, 1) := by decide +kernel
theorem dJ6_numberOfTrailingZeros_0f7a4_71 : decode cJ6_numberOfTrailingZeros_0f7a4 71 = .ok (.iconst 2, 1) := by decide +kernel
theorem dJ6_numberOfTrailingZeros_0f7a4_72 : decode cJ6_numberOfTrailingZeros_0f7a4 72 = .ok (.iushr, 1) := by decide +kernel
theorem dJ6_numberOfTrailingZeros_0f7a4_73 : decode cJ6_numberOfTrailingZeros_0f7a4 73 = .ok (.istore_n 0, 1) := by decide +kernel
theorem dJ6_numberOfTrailingZeros_0f7a4_74 : decode cJ6_numberOfTrailingZeros_0f7a4 74 = .ok (.iload_n 1, 1) := by decide +kernel
theorem dJ6_numberOfTrailingZeros_0f7a4_75 : decode cJ6_numberOfTrailingZeros_0f7a4 75 = .ok (.iload_n 0, 1) := by decide +kernel
theorem dJ6_numberOfTrailingZeros_0f7a4_76 : decode cJ6_numberOfTrailingZeros_0f7a4 76 = .ok (.iconst 1, 1) := by decide +kernel
theorem dJ6_numberOfTrailingZeros_0f7a4_77 : decode cJ6_numberOfTrailingZeros_0f7a4 77 = .ok (.iushr, 1) := by decide +kernel
theorem dJ6_numberOfTrailingZeros_0f7a4_78 : decode cJ6_numberOfTrailingZeros_0f7a4 78 = .ok (.iadd, 1) := by decide +kernel
theorem dJ6_numberOfTrailingZeros_0f7a4_79 : decode cJ6_numberOfTrailingZeros_0f7a4 79 = .ok (.ireturn, 1) := by decide +kernel
theorem dJ13_compare_74951_0 : decode cJ13_compare_74951 0 = .ok (.lload_n 0, 1) := by decide +kernel
theorem dJ13_compare_74951_1 : decode cJ13_compare_74951 1 = .ok (.lload_n 2, 1) := by decide +kernel
theorem dJ13_compare_74951_2 : decode cJ13_compare_74951 2 = .ok (.lcmp, 1) := by decide +kernel
theorem dJ13_compare_74951_3 : decode cJ13_compare_74951 3 = .ok (.ifCond .ge 7, 3) := by decide +kernel
theorem dJ13_compare_74951_6 : decode cJ13_compare_74951 6 = .ok (.iconst (-1), 1) := by decide +kernel
theorem dJ13_compare_74951_7 : decode cJ13_compare_74951 7 = .ok (.goto 14, 3) := by decide +kernel
theorem dJ13_compare_74951_10 : decode cJ13_compare_74951 10 = .ok (.lload_n 0, 1) := by decide +kernel
theorem dJ13_compare_74951_11 : decode cJ13_compare_74951 11 = .ok (.lload_n 2, 1) := by decide +kernel
theorem dJ13_compare_74951_12 : decode cJ13_compare_74951 12 = .ok (.lcmp, 1) := by decide +kernel
theorem dJ13_compare_74951_13 : decode cJ13_compare_74951 13 = .ok (.ifCond .ne 7, 3) := by decide +kernel
theorem dJ13_compare_74951_16 : decode cJ13_compare_74951 16 = .ok (.iconst 0, 1) := by decide +kernel
theorem dJ13_compare_74951_17 : decode cJ13_compare_74951 17 = .ok (.goto 4, 3) := by decide +kernel
theorem dJ13_compare_74951_20 : decode cJ13_compare_74951 20 = .ok (.iconst 1, 1) := by decide +kernel
theorem dJ13_compare_74951_21 : decode cJ13_compare_74951 21 = .ok (.ireturn, 1) := by decide +kernel
theorem dJ13_numberOfTrailingZeros_95d88_0 : decode cJ13_numberOfTrailingZeros_95d88 0 = .ok (.lload_n 0, 1) := by decide +kernel
theorem dJ13_numberOfTrailingZeros_95d88_1 : decode cJ13_numberOfTrailingZeros_95d88 1 = .ok (.l2i, 1) := by decide +kernel
theorem dJ13_numberOfTrailingZeros_95d88_2 : decode cJ13_numberOfTrailingZeros_95d88 2 = .ok (.istore_n 2, 1) := by decide +kernel
theorem dJ13_numberOfTrailingZeros_95d88_3 : decode cJ13_numberOfTrailingZeros_95d88 3 = .ok (.iload_n 2, 1) := by decide +kernel
theorem dJ13_numberOfTrailingZeros_95d88_4 : decode cJ13_numberOfTrailingZeros_95d88 4 = .ok (.ifCond .ne 17, 3) := by decide +kernel
theorem dJ13_numberOfTrailingZeros_95d88_7 : decode cJ13_numberOfTrailingZeros_95d88 7 = .ok (.bipush 32, 2) := by decide +kernel
theorem dJ13_numberOfTrailingZeros_95d88_9 : decode cJ13_numberOfTrailingZeros_95d88 9 = .ok (.lload_n 0, 1) := by decide +kernel
theorem dJ13_numberOfTrailingZeros_95d88_10 : decode cJ13_numberOfTrailingZeros_95d88 10 = .ok (.bipush 32, 2) := by decide +kernel
theorem dJ13_numberOfTrailingZeros_95d88_12 : decode cJ13_numberOfTrailingZeros_95d88 12 = .ok (.lushr, 1) := by decide +kernel
theorem dJ13_numberOfTrailingZeros_95d88_13 : decode cJ13_numberOfTrailingZeros_95d88 13 = .ok (.l2i, 1) := by decide +kernel
theorem dJ13_numberOfTrailingZeros_95d88_14 : decode cJ13_numberOfTrailingZeros_95d88 14 = .ok (.invokestatic 311, 3) := by decide +kernel
theorem dJ13_numberOfTrailingZeros_95d88_17 : decode cJ13_numberOfTrailingZeros_95d88 17 = .ok (.iadd, 1) := by decide +kernel
theorem dJ13_numberOfTrailingZeros_95d88_18 : decode cJ13_numberOfTrailingZeros_95d88 18 = .ok (.goto 7, 3) := by decide +kernel
theorem dJ13_numberOfTrailingZeros_95d88_21 : decode cJ13_numberOfTrailingZeros_95d88 21 = .ok (.iload_n 2, 1) := by decide +kernel
theorem dJ13_numberOfTrailingZeros_95d88_22 : decode cJ13_numberOfTrailingZeros_95d88 22 = .ok (.invokestatic 311, 3) := by decide +kernel
theorem dJ13_numberOfTrailingZeros_95d88_25 : decode cJ13_numberOfTrailingZeros_95d88 25 = .ok (.ireturn, 1) := by decide +kernel
theorem dJ13_bitCount_95d88_0 : decode cJ13_bitCount_95d88 0 = .ok (.lload_n 0, 1) := by decide +kernel
theorem dJ13_bitCount_95d88_1 : decode cJ13_bitCount_95d88 1 = .ok (.lload_n 0, 1) := by decide +kernel
theorem dJ13_bitCount_95d88_2 : decode cJ13_bitCount_95d88 2 = .ok (.iconst 1, 1) := by decide +kernel
theorem dJ13_bitCount_95d88_3 : decode cJ13_bitCount_95d88 3 = .ok (.lushr, 1) := by decide +kernel
theorem dJ13_bitCount_95d88_4 : decode cJ13_bitCount_95d88 4 = .ok (.ldc2_w 314, 3) := by decide +kernel
theorem dJ13_bitCount_95d88_7 : decode cJ13_bitCount_95d88 7 = .ok (.land, 1) := by decide +kernel
theorem dJ13_bitCount_95d88_8 : decode cJ13_bitCount_95d88 8 = .ok (.lsub, 1) := by decide +kernel
theorem dJ13_bitCount_95d88_9 : decode cJ13_bitCount_95d88 9 = .ok (.lstore_n 0, 1) := by decide +kernel
theorem dJ13_bitCount_95d88_10 : decode cJ13_bitCount_95d88 10 = .ok (.lload_n 0, 1) := by decide +kernel
theorem dJ13_bitCount_95d88_11 : decode cJ13_bitCount_95d88 11 = .ok (.ldc2_w 316, 3) := by decide +kernel
theorem dJ13_bitCount_95d88_14 : decode cJ13_bitCount_95d88 14 = .ok (.land, 1) := by decide +kernel
theorem dJ13_bitCount_95d88_15 : decode cJ13_bitCount_95d88 15 = .ok (.lload_n 0, 1) := by decide +kernel
theorem dJ13_bitCount_95d88_16 : decode cJ13_bitCount_95d88 16 = .ok (.iconst 2, 1) := by decide +kernel
theorem dJ13_bitCount_95d88_17 : decode cJ13_bitCount_95d88 17 = .ok (.lushr, 1) := by decide +kernel
theorem dJ13_bitCount_95d88_18 : decode cJ13_bitCount_95d88 18 = .ok (.ldc2_w 316, 3) := by decide +kernel
theorem dJ13_bitCount_95d88_21 : decode cJ13_bitCount_95d88 21 = .ok (.land, 1) := by decide +kernel
theorem dJ13_bitCount_95d88_22 : decode cJ13_bitCount_95d88 22 = .ok (.ladd, 1) := by decide +kernel
theorem dJ13_bitCount_95d88_23 : decode cJ13_bitCount_95d88 23 = .ok (.lstore_n 0, 1) := by decide +kernel
theorem dJ13_bitCount_95d88_24 : decode cJ13_bitCount_95d88 24 = .ok (.lload_n 0, 1) := by decide +kernel
theorem dJ13_bitCount_95d88_25 : decode cJ13_bitCount_95d88 25 = .ok (.lload_n 0, 1) := by decide +kernel
theorem dJ13_bitCount_95d88_26 : decode cJ13_bitCount_95d88 26 = .ok (.iconst 4, 1) := by decide +kernel
theorem dJ13_bitCount_95d88_27 : decode cJ13_bitCount_95d88 27 = .ok (.lushr, 1) := by decide +kernel
theorem dJ13_bitCount_95d88_28 : decode cJ13_bitCount_95d88 28 = .ok (.ladd, 1) := by decide +kernel
theorem dJ13_bitCount_95d88_29 : decode cJ13_bitCount_95d88 29 = .ok (.ldc2_w 318, 3) := by decide +kernel
theorem dJ13_bitCount_95d88_32 : decode cJ13_bitCount_95d88 32 = .ok (.land, 1) := by decide +kernel
theorem dJ13_bitCount_95d88_33 : decode cJ13_bitCount_95d88 33 = .ok (.lstore_n 0, 1) := by decide +kernel
theorem dJ13_bitCount_95d88_34 : decode cJ13_bitCount_95d88 34 = .ok (.lload_n 0, 1) := by decide +kernel
theorem dJ13_bitCount_95d88_35 : decode cJ13_bitCount_95d88 35 = .ok (.lload_n 0, 1) := by decide +kernel
theorem dJ13_bitCount_95d88_36 : decode cJ13_bitCount_95d88 36 = .ok (.bipush 8, 2) := by decide +kernel
theorem dJ13_bitCount_95d88_38 : decode cJ13_bitCount_95d88 38 = .ok (.lushr, 1) := by decide +kernel
theorem dJ13_bitCount_95d88_39 : decode cJ13_bitCount_95d88 39 = .ok (.ladd, 1) := by decide +kernel
theorem dJ13_bitCount_95d88_40 : decode cJ13_bitCount_95d88 40 = .ok (.lstore_n 0, 1) := by decide +kernel
theorem dJ13_bitCount_95d88_41 : decode cJ13_bitCount_95d88 41 = .ok (.lload_n 0, 1) := by decide +kernel
theorem dJ13_bitCount_95d88_42 : decode cJ13_bitCount_95d88 42 = .ok (.lload_n 0, 1) := by decide +kernel
theorem dJ13_bitCount_95d88_43 : decode cJ13_bitCount_95d88 43 = .ok (.bipush 16, 2) := by decide +kernel
theorem dJ13_bitCount_95d88_45 : decode cJ13_bitCount_95d88 45 = .ok (.lushr, 1) := by decide +kernel
theorem dJ13_bitCount_95d88_46 : decode cJ13_bitCount_95d88 46 = .ok (.ladd, 1) := by decide +kernel
theorem dJ13_bitCount_95d88_47 : decode cJ13_bitCount_95d88 47 = .ok (.lstore_n 0, 1) := by decide +kernel
theorem dJ13_bitCount_95d88_48 : decode cJ13_bitCount_95d88 48 = .ok (.lload_n 0, 1) := by decide +kernel
theorem dJ13_bitCount_95d88_49 : decode cJ13_bitCount_95d88 49 = .ok (.lload_n 0, 1) := by decide +kernel
theorem dJ13_bitCount_95d88_50 : decode cJ13_bitCount_95d88 50 = .ok (.bipush 32, 2) := by decide +kernel
theorem dJ13_bitCount_95d88_52 : decode cJ13_bitCount_95d88 52 = .ok (.lushr, 1) := by decide +kernel
theorem dJ13_bitCount_95d88_53 : decode cJ13_bitCount_95d88 53 = .ok (.ladd, 1) := by decide +kernel
theorem dJ13_bitCount_95d88_54 : decode cJ13_bitCount_95d88 54 = .ok (.lstore_n 0, 1) := by decide +kernel
theorem dJ13_bitCount_95d88_55 : decode cJ13_bitCount_95d88 55 = .ok (.lload_n 0, 1) := by decide +kernel
theorem dJ13_bitCount_95d88_56 : decode cJ13_bitCount_95d88 56 = .ok (.l2i, 1) := by decide +kernel
theorem dJ13_bitCount_95d88_57 : decode cJ13_bitCount_95d88 57 = .ok (.bipush 127, 2) := by decide +kernel
theorem dJ13_bitCount_95d88_59 : decode cJ13_bitCount_95d88 59 = .ok (.iand, 1) := by decide +kernel
theorem dJ13_bitCount_95d88_60 : decode cJ13_bitCount_95d88 60 = .ok (.ireturn, 1) := by decide +kernel
theorem dJ9_floorDiv_f86c9_0 : decode cJ9_floorDiv_f86c9 0 = .ok (.lload_n 0, 1) := by decide +kernel
theorem dJ9_floorDiv_f86c9_1 : decode cJ9_floorDiv_f86c9 1 = .ok (.lload_n 2, 1) := by decide +kernel
theorem dJ9_floorDiv_f86c9_2 : decode cJ9_floorDiv_f86c9 2 = .ok (.ldiv, 1) := by decide +kernel
theorem dJ9_floorDiv_f86c9_3 : decode cJ9_floorDiv_f86c9 3 = .ok (.lstore 4, 2) := by decide +kernel
theorem dJ9_floorDiv_f86c9_5 : decode cJ9_floorDiv_f86c9 5 = .ok (.lload_n 0, 1) := by decide +kernel
theorem dJ9_floorDiv_f86c9_6 : decode cJ9_floorDiv_f86c9 6 = .ok (.lload_n 2, 1) := by decide +kernel
theorem dJ9_floorDiv_f86c9_7 : decode cJ9_floorDiv_f86c9 7 = .ok (.lxor, 1) := by decide +kernel
theorem dJ9_floorDiv_f86c9_8 : decode cJ9_floorDiv_f86c9 8 = .ok (.lconst 0, 1) := by decide +kernel
theorem dJ9_floorDiv_f86c9_9 : decode cJ9_floorDiv_f86c9 9 = .ok (.lcmp, 1) := by decide +kernel
theorem dJ9_floorDiv_f86c9_10 : decode cJ9_floorDiv_f86c9 10 = .ok (.ifCond .ge 17, 3) := by decide +kernel
theorem dJ9_floorDiv_f86c9_13 : decode cJ9_floorDiv_f86c9 13 = .ok (.lload 4, 2) := by decide +kernel
theorem dJ9_floorDiv_f86c9_15 : decode cJ9_floorDiv_f86c9 15 = .ok (.lload_n 2, 1) := by decide +kernel
theorem dJ9_floorDiv_f86c9_16 : decode cJ9_floorDiv_f86c9 16 = .ok (.lmul, 1) := by decide +kernel
theorem dJ9_floorDiv_f86c9_17 : decode cJ9_floorDiv_f86c9 17 = .ok (.lload_n 0, 1) := by decide +kernel
theorem dJ9_floorDiv_f86c9_18 : decode cJ9_floorDiv_f86c9 18 = .ok (.lcmp, 1) := by decide +kernel
theorem dJ9_floorDiv_f86c9_19 : decode cJ9_floorDiv_f86c9 19 = .ok (.ifCond .eq 8, 3) := by decide +kernel
theorem dJ9_floorDiv_f86c9_22 : decode cJ9_floorDiv_f86c9 22 = .ok (.lload 4, 2) := by decide +kernel
theorem dJ9_floorDiv_f86c9_24 : decode cJ9_floorDiv_f86c9 24 = .ok (.lconst 1, 1) := by decide +kernel
theorem dJ9_floorDiv_f86c9_25 : decode cJ9_floorDiv_f86c9 25 = .ok (.lsub, 1) := by decide +kernel
theorem dJ9_floorDiv_f86c9_26 : decode cJ9_floorDiv_f86c9 26 = .ok (.lreturn, 1) := by decide +kernel
theorem dJ9_floorDiv_f86c9_27 : decode cJ9_floorDiv_f86c9 27 = .ok (.lload 4, 2) := by decide +kernel
theorem dJ9_floorDiv_f86c9_29 : decode cJ9_floorDiv_f86c9 29 = .ok (.lreturn, 1) := by decide +kernel
theorem dJ9_abs_0f7a4_0 : decode cJ9_abs_0f7a4 0 = .ok (.iload_n 0, 1) := by decide +kernel
theorem dJ9_abs_0f7a4_1 : decode cJ9_abs_0f7a4 1 = .ok (.ifCond .ge 8, 3) := by decide +kernel
theorem dJ9_abs_0f7a4_4 : decode cJ9_abs_0f7a4 4 = .ok (.iload_n 0, 1) := by decide +kernel
theorem dJ9_abs_0f7a4_5 : decode cJ9_abs_0f7a4 5 = .ok (.ineg, 1) := by decide +kernel
theorem dJ9_abs_0f7a4_6 : decode cJ9_abs_0f7a4 6 = .ok (.goto 4, 3) := by decide +kernel
theorem dJ9_abs_0f7a4_9 : decode cJ9_abs_0f7a4 9 = .ok (.iload_n 0, 1) := by decide +kernel
theorem dJ9_abs_0f7a4_10 : decode cJ9_abs_0f7a4 10 = .ok (.ireturn, 1) := by decide +kernel
theorem dJ9_max_f86c9_0 : decode cJ9_max_f86c9 0 = .ok (.lload_n 0, 1) := by decide +kernel
theorem dJ9_max_f86c9_1 : decode cJ9_max_f86c9 1 = .ok (.lload_n 2, 1) := by decide +kernel
theorem dJ9_max_f86c9_2 : decode cJ9_max_f86c9 2 = .ok (.lcmp, 1) := by decide +kernel
theorem dJ9_max_f86c9_3 : decode cJ9_max_f86c9 3 = .ok (.ifCond .lt 7, 3) := by decide +kernel
theorem dJ9_max_f86c9_6 : decode cJ9_max_f86c9 6 = .ok (.lload_n 0, 1) := by decide +kernel
theorem dJ9_max_f86c9_7 : decode cJ9_max_f86c9 7 = .ok (.goto 4, 3) := by decide +kernel
theorem dJ9_max_f86c9_10 : decode cJ9_max_f86c9 10 = .ok (.lload_n 2, 1) := by decide +kernel
theorem dJ9_max_f86c9_11 : decode cJ9_max_f86c9 11 = .ok (.lreturn, 1) := by decide +kernel
theorem dJ9_min_7cf53_0 : decode cJ9_min_7cf53 0 = .ok (.iload_n 0, 1) := by decide +kernel
theorem dJ9_min_7cf53_1 : decode cJ9_min_7cf53 1 = .ok (.iload_n 1, 1) := by decide +kernel
theorem dJ9_min_7cf53_2 : decode cJ9_min_7cf53 2 = .ok (.if_icmp .gt 7, 3) := by decide +kernel
theorem dJ9_min_7cf53_5 : decode cJ9_min_7cf53 5 = .ok (.iload_n 0, 1) := by decide +kernel
theorem dJ9_min_7cf53_6 : decode cJ9_min_7cf53 6 = .ok (.goto 4, 3) := by decide +kernel
theorem dJ9_min_7cf53_9 : decode cJ9_min_7cf53 9 = .ok (.iload_n 1, 1) := by decide +kernel
theorem dJ9_min_7cf53_10 : decode cJ9_min_7cf53 10 = .ok (.ireturn, 1) := by decide +kernel
