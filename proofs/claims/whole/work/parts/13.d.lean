theorem dX9_needFormat_0 : decode cX9_needFormat 0 = .ok (.iload_n 0, 1) := by decide +kernel
theorem dX9_needFormat_1 : decode cX9_needFormat 1 = .ok (.ifCond .eq 18, 3) := by decide +kernel
theorem dX9_needFormat_4 : decode cX9_needFormat 4 = .ok (.iload_n 0, 1) := by decide +kernel
theorem dX9_needFormat_5 : decode cX9_needFormat 5 = .ok (.iconst 1, 1) := by decide +kernel
theorem dX9_needFormat_6 : decode cX9_needFormat 6 = .ok (.if_icmp .eq 13, 3) := by decide +kernel
theorem dX9_needFormat_9 : decode cX9_needFormat 9 = .ok (.new 96, 3) := by decide +kernel
theorem dX9_needFormat_12 : decode cX9_needFormat 12 = .ok (.dup, 1) := by decide +kernel
theorem dX9_needFormat_13 : decode cX9_needFormat 13 = .ok (.ldc 203, 2) := by decide +kernel
theorem dX9_needFormat_15 : decode cX9_needFormat 15 = .ok (.invokespecial 100, 3) := by decide +kernel
theorem dX9_needFormat_18 : decode cX9_needFormat 18 = .ok (.athrow, 1) := by decide +kernel
theorem dX9_needFormat_19 : decode cX9_needFormat 19 = .ok (.return_, 1) := by decide +kernel
theorem dX9_needPlace_0 : decode cX9_needPlace 0 = .ok (.iload_n 0, 1) := by decide +kernel
theorem dX9_needPlace_1 : decode cX9_needPlace 1 = .ok (.ifCond .lt 9, 3) := by decide +kernel
theorem dX9_needPlace_4 : decode cX9_needPlace 4 = .ok (.iload_n 0, 1) := by decide +kernel
theorem dX9_needPlace_5 : decode cX9_needPlace 5 = .ok (.bipush 16, 2) := by decide +kernel
theorem dX9_needPlace_7 : decode cX9_needPlace 7 = .ok (.if_icmp .lt 13, 3) := by decide +kernel
theorem dX9_needPlace_10 : decode cX9_needPlace 10 = .ok (.new 198, 3) := by decide +kernel
theorem dX9_needPlace_13 : decode cX9_needPlace 13 = .ok (.dup, 1) := by decide +kernel
theorem dX9_needPlace_14 : decode cX9_needPlace 14 = .ok (.ldc 200, 2) := by decide +kernel
theorem dX9_needPlace_16 : decode cX9_needPlace 16 = .ok (.invokespecial 202, 3) := by decide +kernel
theorem dX9_needPlace_19 : decode cX9_needPlace 19 = .ok (.athrow, 1) := by decide +kernel
theorem dX9_needPlace_20 : decode cX9_needPlace 20 = .ok (.return_, 1) := by decide +kernel
theorem dX9_put_0 : decode cX9_put 0 = .ok (.aload_n 0, 1) := by decide +kernel
theorem dX9_put_1 : decode cX9_put 1 = .ok (.getfield 9, 3) := by decide +kernel
theorem dX9_put_4 : decode cX9_put 4 = .ok (.iload_n 1, 1) := by decide +kernel
theorem dX9_put_5 : decode cX9_put 5 = .ok (.iload_n 2, 1) := by decide +kernel
theorem dX9_put_6 : decode cX9_put 6 = .ok (.iastore, 1) := by decide +kernel
theorem dX9_put_7 : decode cX9_put 7 = .ok (.aload_n 0, 1) := by decide +kernel
theorem dX9_put_8 : decode cX9_put 8 = .ok (.getfield 13, 3) := by decide +kernel
theorem dX9_put_11 : decode cX9_put 11 = .ok (.iload_n 1, 1) := by decide +kernel
theorem dX9_put_12 : decode cX9_put 12 = .ok (.lload_n 3, 1) := by decide +kernel
theorem dX9_put_13 : decode cX9_put 13 = .ok (.lastore, 1) := by decide +kernel
theorem dX9_put_14 : decode cX9_put 14 = .ok (.return_, 1) := by decide +kernel
theorem dX9_set_0 : decode cX9_set 0 = .ok (.iload_n 1, 1) := by decide +kernel
theorem dX9_set_1 : decode cX9_set 1 = .ok (.invokestatic 68, 3) := by decide +kernel
theorem dX9_set_4 : decode cX9_set 4 = .ok (.iload_n 2, 1) := by decide +kernel
theorem dX9_set_5 : decode cX9_set 5 = .ok (.invokestatic 72, 3) := by decide +kernel
theorem dX9_set_8 : decode cX9_set 8 = .ok (.aload_n 0, 1) := by decide +kernel
theorem dX9_set_9 : decode cX9_set 9 = .ok (.iload_n 1, 1) := by decide +kernel
theorem dX9_set_10 : decode cX9_set 10 = .ok (.iload_n 2, 1) := by decide +kernel
theorem dX9_set_11 : decode cX9_set 11 = .ok (.iload_n 2, 1) := by decide +kernel
theorem dX9_set_12 : decode cX9_set 12 = .ok (.ifCond .ne 11, 3) := by decide +kernel
theorem dX9_set_15 : decode cX9_set 15 = .ok (.lload_n 3, 1) := by decide +kernel
theorem dX9_set_16 : decode cX9_set 16 = .ok (.ldc2_w 75, 3) := by decide +kernel
theorem dX9_set_19 : decode cX9_set 19 = .ok (.land, 1) := by decide +kernel
theorem dX9_set_20 : decode cX9_set 20 = .ok (.goto 4, 3) := by decide +kernel
theorem dX9_set_23 : decode cX9_set 23 = .ok (.lload_n 3, 1) := by decide +kernel
theorem dX9_set_24 : decode cX9_set 24 = .ok (.invokevirtual 77, 3) := by decide +kernel
theorem dX9_set_27 : decode cX9_set 27 = .ok (.return_, 1) := by decide +kernel
theorem dX9_pattern_0 : decode cX9_pattern 0 = .ok (.iload_n 1, 1) := by decide +kernel
theorem dX9_pattern_1 : decode cX9_pattern 1 = .ok (.invokestatic 68, 3) := by decide +kernel
theorem dX9_pattern_4 : decode cX9_pattern 4 = .ok (.aload_n 0, 1) := by decide +kernel
theorem dX9_pattern_5 : decode cX9_pattern 5 = .ok (.getfield 13, 3) := by decide +kernel
theorem dX9_pattern_8 : decode cX9_pattern 8 = .ok (.iload_n 1, 1) := by decide +kernel
theorem dX9_pattern_9 : decode cX9_pattern 9 = .ok (.laload, 1) := by decide +kernel
theorem dX9_pattern_10 : decode cX9_pattern 10 = .ok (.lreturn, 1) := by decide +kernel
theorem dX2_endlessSize_0 : decode cX2_endlessSize 0 = .ok (.iload_n 0, 1) := by decide +kernel
theorem dX2_endlessSize_1 : decode cX2_endlessSize 1 = .ok (.ifCond .ne 9, 3) := by decide +kernel
theorem dX2_endlessSize_4 : decode cX2_endlessSize 4 = .ok (.ldc2_w 15, 3) := by decide +kernel
theorem dX2_endlessSize_7 : decode cX2_endlessSize 7 = .ok (.goto 6, 3) := by decide +kernel
theorem dX2_endlessSize_10 : decode cX2_endlessSize 10 = .ok (.ldc2_w 17, 3) := by decide +kernel
theorem dX2_endlessSize_13 : decode cX2_endlessSize 13 = .ok (.lreturn, 1) := by decide +kernel
theorem dX2_lowest_0 : decode cX2_lowest 0 = .ok (.iload_n 0, 1) := by decide +kernel
theorem dX2_lowest_1 : decode cX2_lowest 1 = .ok (.ifCond .ne 9, 3) := by decide +kernel
theorem dX2_lowest_4 : decode cX2_lowest 4 = .ok (.sipush (-149), 3) := by decide +kernel
theorem dX2_lowest_7 : decode cX2_lowest 7 = .ok (.goto 6, 3) := by decide +kernel
theorem dX2_lowest_10 : decode cX2_lowest 10 = .ok (.sipush (-1074), 3) := by decide +kernel
theorem dX2_lowest_13 : decode cX2_lowest 13 = .ok (.ireturn, 1) := by decide +kernel
theorem dX2_precision_0 : decode cX2_precision 0 = .ok (.iload_n 0, 1) := by decide +kernel
theorem dX2_precision_1 : decode cX2_precision 1 = .ok (.ifCond .ne 8, 3) := by decide +kernel
theorem dX2_precision_4 : decode cX2_precision 4 = .ok (.bipush 24, 2) := by decide +kernel
theorem dX2_precision_6 : decode cX2_precision 6 = .ok (.goto 5, 3) := by decide +kernel
theorem dX2_precision_9 : decode cX2_precision 9 = .ok (.bipush 53, 2) := by decide +kernel
theorem dX2_precision_11 : decode cX2_precision 11 = .ok (.ireturn, 1) := by decide +kernel
theorem dX2_signBit_0 : decode cX2_signBit 0 = .ok (.iload_n 0, 1) := by decide +kernel
theorem dX2_signBit_1 : decode cX2_signBit 1 = .ok (.ifCond .ne 9, 3) := by decide +kernel
theorem dX2_signBit_4 : decode cX2_signBit 4 = .ok (.ldc2_w 9, 3) := by decide +kernel
theorem dX2_signBit_7 : decode cX2_signBit 7 = .ok (.goto 6, 3) := by decide +kernel
theorem dX2_signBit_10 : decode cX2_signBit 10 = .ok (.ldc2_w 13, 3) := by decide +kernel
theorem dX2_signBit_13 : decode cX2_signBit 13 = .ok (.lreturn, 1) := by decide +kernel
theorem dX8_unpack_0 : decode cX8_unpack 0 = .ok (.iload_n 1, 1) := by decide +kernel
theorem dX8_unpack_1 : decode cX8_unpack 1 = .ok (.invokestatic 9, 3) := by decide +kernel
theorem dX8_unpack_4 : decode cX8_unpack 4 = .ok (.iconst 1, 1) := by decide +kernel
theorem dX8_unpack_5 : decode cX8_unpack 5 = .ok (.isub, 1) := by decide +kernel
theorem dX8_unpack_6 : decode cX8_unpack 6 = .ok (.istore 4, 2) := by decide +kernel
theorem dX8_unpack_8 : decode cX8_unpack 8 = .ok (.lload_n 2, 1) := by decide +kernel
theorem dX8_unpack_9 : decode cX8_unpack 9 = .ok (.iload_n 1, 1) := by decide +kernel
theorem dX8_unpack_10 : decode cX8_unpack 10 = .ok (.invokestatic 15, 3) := by decide +kernel
theorem dX8_unpack_13 : decode cX8_unpack 13 = .ok (.ldc2_w 19, 3) := by decide +kernel
theorem dX8_unpack_16 : decode cX8_unpack 16 = .ok (.lxor, 1) := by decide +kernel
theorem dX8_unpack_17 : decode cX8_unpack 17 = .ok (.land, 1) := by decide +kernel
theorem dX8_unpack_18 : decode cX8_unpack 18 = .ok (.lstore 5, 2) := by decide +kernel
theorem dX8_unpack_20 : decode cX8_unpack 20 = .ok (.lload 5, 2) := by decide +kernel
theorem dX8_unpack_22 : decode cX8_unpack 22 = .ok (.lconst 1, 1) := by decide +kernel
theorem dX8_unpack_23 : decode cX8_unpack 23 = .ok (.iload 4, 2) := by decide +kernel
theorem dX8_unpack_25 : decode cX8_unpack 25 = .ok (.lshl, 1) := by decide +kernel
theorem dX8_unpack_26 : decode cX8_unpack 26 = .ok (.lconst 1, 1) := by decide +kernel
theorem dX8_unpack_27 : decode cX8_unpack 27 = .ok (.lsub, 1) := by decide +kernel
theorem dX8_unpack_28 : decode cX8_unpack 28 = .ok (.land, 1) := by decide +kernel
theorem dX8_unpack_29 : decode cX8_unpack 29 = .ok (.lstore 7, 2) := by decide +kernel
theorem dX8_unpack_31 : decode cX8_unpack 31 = .ok (.lload 5, 2) := by decide +kernel
theorem dX8_unpack_33 : decode cX8_unpack 33 = .ok (.iload 4, 2) := by decide +kernel
theorem dX8_unpack_35 : decode cX8_unpack 35 = .ok (.lushr, 1) := by decide +kernel
theorem dX8_unpack_36 : decode cX8_unpack 36 = .ok (.l2i, 1) := by decide +kernel
theorem dX8_unpack_37 : decode cX8_unpack 37 = .ok (.istore 9, 2) := by decide +kernel
theorem dX8_unpack_39 : decode cX8_unpack 39 = .ok (.aload_n 0, 1) := by decide +kernel
theorem dX8_unpack_40 : decode cX8_unpack 40 = .ok (.lload 5, 2) := by decide +kernel
theorem dX8_unpack_42 : decode cX8_unpack 42 = .ok (.lload_n 2, 1) := by decide +kernel
theorem dX8_unpack_43 : decode cX8_unpack 43 = .ok (.lcmp, 1) := by decide +kernel
theorem dX8_unpack_44 : decode cX8_unpack 44 = .ok (.ifCond .eq 7, 3) := by decide +kernel
theorem dX8_unpack_47 : decode cX8_unpack 47 = .ok (.iconst 1, 1) := by decide +kernel
theorem dX8_unpack_48 : decode cX8_unpack 48 = .ok (.goto 4, 3) := by decide +kernel
theorem dX8_unpack_51 : decode cX8_unpack 51 = .ok (.iconst 0, 1) := by decide +kernel
theorem dX8_unpack_52 : decode cX8_unpack 52 = .ok (.putfield 21, 3) := by decide +kernel
theorem dX8_unpack_55 : decode cX8_unpack 55 = .ok (.aload_n 0, 1) := by decide +kernel
theorem dX8_unpack_56 : decode cX8_unpack 56 = .ok (.lconst 0, 1) := by decide +kernel
theorem dX8_unpack_57 : decode cX8_unpack 57 = .ok (.putfield 27, 3) := by decide +kernel
theorem dX8_unpack_60 : decode cX8_unpack 60 = .ok (.aload_n 0, 1) := by decide +kernel
theorem dX8_unpack_61 : decode cX8_unpack 61 = .ok (.iconst 0, 1) := by decide +kernel
theorem dX8_unpack_62 : decode cX8_unpack 62 = .ok (.putfield 31, 3) := by decide +kernel
theorem dX8_unpack_65 : decode cX8_unpack 65 = .ok (.aload_n 0, 1) := by decide +kernel
theorem dX8_unpack_66 : decode cX8_unpack 66 = .ok (.iconst 0, 1) := by decide +kernel
theorem dX8_unpack_67 : decode cX8_unpack 67 = .ok (.putfield 35, 3) := by decide +kernel
theorem dX8_unpack_70 : decode cX8_unpack 70 = .ok (.lload 5, 2) := by decide +kernel
theorem dX8_unpack_72 : decode cX8_unpack 72 = .ok (.iload_n 1, 1) := by decide +kernel
theorem dX8_unpack_73 : decode cX8_unpack 73 = .ok (.invokestatic 38, 3) := by decide +kernel
theorem dX8_unpack_76 : decode cX8_unpack 76 = .ok (.lcmp, 1) := by decide +kernel
theorem dX8_unpack_77 : decode cX8_unpack 77 = .ok (.ifCond .lt 22, 3) := by decide +kernel
theorem dX8_unpack_80 : decode cX8_unpack 80 = .ok (.aload_n 0, 1) := by decide +kernel
theorem dX8_unpack_81 : decode cX8_unpack 81 = .ok (.lload 7, 2) := by decide +kernel
theorem dX8_unpack_83 : decode cX8_unpack 83 = .ok (.lconst 0, 1) := by decide +kernel
theorem dX8_unpack_84 : decode cX8_unpack 84 = .ok (.lcmp, 1) := by decide +kernel
theorem dX8_unpack_85 : decode cX8_unpack 85 = .ok (.ifCond .ne 7, 3) := by decide +kernel
theorem dX8_unpack_88 : decode cX8_unpack 88 = .ok (.iconst 3, 1) := by decide +kernel
theorem dX8_unpack_89 : decode cX8_unpack 89 = .ok (.goto 4, 3) := by decide +kernel
theorem dX8_unpack_92 : decode cX8_unpack 92 = .ok (.iconst 4, 1) := by decide +kernel
theorem dX8_unpack_93 : decode cX8_unpack 93 = .ok (.putfield 41, 3) := by decide +kernel
theorem dX8_unpack_96 : decode cX8_unpack 96 = .ok (.goto 92, 3) := by decide +kernel
theorem dX8_unpack_99 : decode cX8_unpack 99 = .ok (.iload 9, 2) := by decide +kernel
theorem dX8_unpack_101 : decode cX8_unpack 101 = .ok (.ifCond .ne 36, 3) := by decide +kernel
theorem dX8_unpack_104 : decode cX8_unpack 104 = .ok (.aload_n 0, 1) := by decide +kernel
theorem dX8_unpack_105 : decode cX8_unpack 105 = .ok (.lload 7, 2) := by decide +kernel
theorem dX8_unpack_107 : decode cX8_unpack 107 = .ok (.lconst 0, 1) := by decide +kernel
theorem dX8_unpack_108 : decode cX8_unpack 108 = .ok (.lcmp, 1) := by decide +kernel
theorem dX8_unpack_109 : decode cX8_unpack 109 = .ok (.ifCond .ne 7, 3) := by decide +kernel
theorem dX8_unpack_112 : decode cX8_unpack 112 = .ok (.iconst 0, 1) := by decide +kernel
theorem dX8_unpack_113 : decode cX8_unpack 113 = .ok (.goto 4, 3) := by decide +kernel
theorem dX8_unpack_116 : decode cX8_unpack 116 = .ok (.iconst 1, 1) := by decide +kernel
theorem dX8_unpack_117 : decode cX8_unpack 117 = .ok (.putfield 41, 3) := by decide +kernel
theorem dX8_unpack_120 : decode cX8_unpack 120 = .ok (.aload_n 0, 1) := by decide +kernel
theorem dX8_unpack_121 : decode cX8_unpack 121 = .ok (.lload 7, 2) := by decide +kernel
theorem dX8_unpack_123 : decode cX8_unpack 123 = .ok (.putfield 27, 3) := by decide +kernel
theorem dX8_unpack_126 : decode cX8_unpack 126 = .ok (.aload_n 0, 1) := by decide +kernel
theorem dX8_unpack_127 : decode cX8_unpack 127 = .ok (.iload_n 1, 1) := by decide +kernel
theorem dX8_unpack_128 : decode cX8_unpack 128 = .ok (.invokestatic 44, 3) := by decide +kernel
theorem dX8_unpack_131 : decode cX8_unpack 131 = .ok (.putfield 31, 3) := by decide +kernel
theorem dX8_unpack_134 : decode cX8_unpack 134 = .ok (.goto 54, 3) := by decide +kernel
theorem dX8_unpack_137 : decode cX8_unpack 137 = .ok (.aload_n 0, 1) := by decide +kernel
theorem dX8_unpack_138 : decode cX8_unpack 138 = .ok (.iconst 2, 1) := by decide +kernel
theorem dX8_unpack_139 : decode cX8_unpack 139 = .ok (.putfield 41, 3) := by decide +kernel
theorem dX8_unpack_142 : decode cX8_unpack 142 = .ok (.aload_n 0, 1) := by decide +kernel
theorem dX8_unpack_143 : decode cX8_unpack 143 = .ok (.lload 7, 2) := by decide +kernel
theorem dX8_unpack_145 : decode cX8_unpack 145 = .ok (.lconst 1, 1) := by decide +kernel
theorem dX8_unpack_146 : decode cX8_unpack 146 = .ok (.iload 4, 2) := by decide +kernel
theorem dX8_unpack_148 : decode cX8_unpack 148 = .ok (.lshl, 1) := by decide +kernel
theorem dX8_unpack_149 : decode cX8_unpack 149 = .ok (.lor, 1) := by decide +kernel
theorem dX8_unpack_150 : decode cX8_unpack 150 = .ok (.putfield 27, 3) := by decide +kernel
theorem dX8_unpack_153 : decode cX8_unpack 153 = .ok (.aload_n 0, 1) := by decide +kernel
theorem dX8_unpack_154 : decode cX8_unpack 154 = .ok (.iload_n 1, 1) := by decide +kernel
theorem dX8_unpack_155 : decode cX8_unpack 155 = .ok (.invokestatic 44, 3) := by decide +kernel
theorem dX8_unpack_158 : decode cX8_unpack 158 = .ok (.iconst 1, 1) := by decide +kernel
theorem dX8_unpack_159 : decode cX8_unpack 159 = .ok (.isub, 1) := by decide +kernel
theorem dX8_unpack_160 : decode cX8_unpack 160 = .ok (.iload 9, 2) := by decide +kernel
theorem dX8_unpack_162 : decode cX8_unpack 162 = .ok (.iadd, 1) := by decide +kernel
theorem dX8_unpack_163 : decode cX8_unpack 163 = .ok (.putfield 31, 3) := by decide +kernel
theorem dX8_unpack_166 : decode cX8_unpack 166 = .ok (.aload_n 0, 1) := by decide +kernel
theorem dX8_unpack_167 : decode cX8_unpack 167 = .ok (.lload 7, 2) := by decide +kernel
theorem dX8_unpack_169 : decode cX8_unpack 169 = .ok (.lconst 0, 1) := by decide +kernel
theorem dX8_unpack_170 : decode cX8_unpack 170 = .ok (.lcmp, 1) := by decide +kernel
theorem dX8_unpack_171 : decode cX8_unpack 171 = .ok (.ifCond .ne 13, 3) := by decide +kernel
theorem dX8_unpack_174 : decode cX8_unpack 174 = .ok (.iload 9, 2) := by decide +kernel
theorem dX8_unpack_176 : decode cX8_unpack 176 = .ok (.iconst 1, 1) := by decide +kernel
theorem dX8_unpack_177 : decode cX8_unpack 177 = .ok (.if_icmp .le 7, 3) := by decide +kernel
theorem dX8_unpack_180 : decode cX8_unpack 180 = .ok (.iconst 1, 1) := by decide +kernel
theorem dX8_unpack_181 : decode cX8_unpack 181 = .ok (.goto 4, 3) := by decide +kernel
theorem dX8_unpack_184 : decode cX8_unpack 184 = .ok (.iconst 0, 1) := by decide +kernel
theorem dX8_unpack_185 : decode cX8_unpack 185 = .ok (.putfield 35, 3) := by decide +kernel
theorem dX8_unpack_188 : decode cX8_unpack 188 = .ok (.return_, 1) := by decide +kernel
theorem dX9_look_0 : decode cX9_look 0 = .ok (.aload_n 2, 1) := by decide +kernel
theorem dX9_look_1 : decode cX9_look 1 = .ok (.aload_n 0, 1) := by decide +kernel
theorem dX9_look_2 : decode cX9_look 2 = .ok (.getfield 9, 3) := by decide +kernel
theorem dX9_look_5 : decode cX9_look 5 = .ok (.iload_n 1, 1) := by decide +kernel
theorem dX9_look_6 : decode cX9_look 6 = .ok (.iaload, 1) := by decide +kernel
theorem dX9_look_7 : decode cX9_look 7 = .ok (.aload_n 0, 1) := by decide +kernel
theorem dX9_look_8 : decode cX9_look 8 = .ok (.getfield 13, 3) := by decide +kernel
theorem dX9_look_11 : decode cX9_look 11 = .ok (.iload_n 1, 1) := by decide +kernel
theorem dX9_look_12 : decode cX9_look 12 = .ok (.laload, 1) := by decide +kernel
theorem dX9_look_13 : decode cX9_look 13 = .ok (.invokevirtual 211, 3) := by decide +kernel
theorem dX9_look_16 : decode cX9_look 16 = .ok (.return_, 1) := by decide +kernel
theorem dX9_told_0 : decode cX9_told 0 = .ok (.iload_n 1, 1) := by decide +kernel
theorem dX9_told_1 : decode cX9_told 1 = .ok (.invokestatic 68, 3) := by decide +kernel
theorem dX9_told_4 : decode cX9_told 4 = .ok (.aload_n 0, 1) := by decide +kernel
theorem dX9_told_5 : decode cX9_told 5 = .ok (.iload_n 1, 1) := by decide +kernel
theorem dX9_told_6 : decode cX9_told 6 = .ok (.aload_n 0, 1) := by decide +kernel
theorem dX9_told_7 : decode cX9_told 7 = .ok (.getfield 20, 3) := by decide +kernel
theorem dX9_told_10 : decode cX9_told 10 = .ok (.invokevirtual 81, 3) := by decide +kernel
theorem dX9_told_13 : decode cX9_told 13 = .ok (.iload_n 2, 1) := by decide +kernel
theorem dX9_told_14 : decode cX9_told 14 = .ok (.tableswitch 69 0 3 #[30, 37, 45, 61], 30) := by decide +kernel
theorem dX9_told_44 : decode cX9_told 44 = .ok (.aload_n 0, 1) := by decide +kernel
theorem dX9_told_45 : decode cX9_told 45 = .ok (.getfield 9, 3) := by decide +kernel
theorem dX9_told_48 : decode cX9_told 48 = .ok (.iload_n 1, 1) := by decide +kernel
theorem dX9_told_49 : decode cX9_told 49 = .ok (.iaload, 1) := by decide +kernel
theorem dX9_told_50 : decode cX9_told 50 = .ok (.ireturn, 1) := by decide +kernel
theorem dX9_told_51 : decode cX9_told 51 = .ok (.aload_n 0, 1) := by decide +kernel
theorem dX9_told_52 : decode cX9_told 52 = .ok (.getfield 20, 3) := by decide +kernel
theorem dX9_told_55 : decode cX9_told 55 = .ok (.getfield 85, 3) := by decide +kernel
theorem dX9_told_58 : decode cX9_told 58 = .ok (.ireturn, 1) := by decide +kernel
theorem dX9_told_59 : decode cX9_told 59 = .ok (.aload_n 0, 1) := by decide +kernel
theorem dX9_told_60 : decode cX9_told 60 = .ok (.getfield 20, 3) := by decide +kernel
theorem dX9_told_63 : decode cX9_told 63 = .ok (.getfield 89, 3) := by decide +kernel
theorem dX9_told_66 : decode cX9_told 66 = .ok (.ifCond .eq 7, 3) := by decide +kernel
theorem dX9_told_69 : decode cX9_told 69 = .ok (.iconst 1, 1) := by decide +kernel
theorem dX9_told_70 : decode cX9_told 70 = .ok (.goto 4, 3) := by decide +kernel
theorem dX9_told_73 : decode cX9_told 73 = .ok (.iconst 0, 1) := by decide +kernel
theorem dX9_told_74 : decode cX9_told 74 = .ok (.ireturn, 1) := by decide +kernel
theorem dX9_told_75 : decode cX9_told 75 = .ok (.aload_n 0, 1) := by decide +kernel
theorem dX9_told_76 : decode cX9_told 76 = .ok (.getfield 20, 3) := by decide +kernel
theorem dX9_told_79 : decode cX9_told 79 = .ok (.getfield 93, 3) := by decide +kernel
theorem dX9_told_82 : decode cX9_told 82 = .ok (.ireturn, 1) := by decide +kernel
theorem dX9_told_83 : decode cX9_told 83 = .ok (.new 96, 3) := by decide +kernel
theorem dX9_told_86 : decode cX9_told 86 = .ok (.dup, 1) := by decide +kernel
theorem dX9_told_87 : decode cX9_told 87 = .ok (.ldc 98, 2) := by decide +kernel
theorem dX9_told_89 : decode cX9_told 89 = .ok (.invokespecial 100, 3) := by decide +kernel
theorem dX9_told_92 : decode cX9_told 92 = .ok (.athrow, 1) := by decide +kernel
theorem dX2_signed_0 : decode cX2_signed 0 = .ok (.iload_n 1, 1) := by decide +kernel
theorem dX2_signed_1 : decode cX2_signed 1 = .ok (.ifCond .eq 12, 3) := by decide +kernel
theorem dX2_signed_4 : decode cX2_signed 4 = .ok (.lload_n 2, 1) := by decide +kernel
theorem dX2_signed_5 : decode cX2_signed 5 = .ok (.iload_n 0, 1) := by decide +kernel
theorem dX2_signed_6 : decode cX2_signed 6 = .ok (.invokestatic 19, 3) := by decide +kernel
theorem dX2_signed_9 : decode cX2_signed 9 = .ok (.lor, 1) := by decide +kernel
theorem dX2_signed_10 : decode cX2_signed 10 = .ok (.goto 4, 3) := by decide +kernel
theorem dX2_signed_13 : decode cX2_signed 13 = .ok (.lload_n 2, 1) := by decide +kernel
theorem dX2_signed_14 : decode cX2_signed 14 = .ok (.lreturn, 1) := by decide +kernel
theorem dX2_beside_0 : decode cX2_beside 0 = .ok (.lload_n 1, 1) := by decide +kernel
theorem dX2_beside_1 : decode cX2_beside 1 = .ok (.iload_n 0, 1) := by decide +kernel
theorem dX2_beside_2 : decode cX2_beside 2 = .ok (.invokestatic 19, 3) := by decide +kernel
theorem dX2_beside_5 : decode cX2_beside 5 = .ok (.ldc2_w 36, 3) := by decide +kernel
theorem dX2_beside_8 : decode cX2_beside 8 = .ok (.lxor, 1) := by decide +kernel
theorem dX2_beside_9 : decode cX2_beside 9 = .ok (.land, 1) := by decide +kernel
theorem dX2_beside_10 : decode cX2_beside 10 = .ok (.lstore 4, 2) := by decide +kernel
theorem dX2_beside_12 : decode cX2_beside 12 = .ok (.lload 4, 2) := by decide +kernel
theorem dX2_beside_14 : decode cX2_beside 14 = .ok (.lload_n 1, 1) := by decide +kernel
theorem dX2_beside_15 : decode cX2_beside 15 = .ok (.lcmp, 1) := by decide +kernel
theorem dX2_beside_16 : decode cX2_beside 16 = .ok (.ifCond .eq 7, 3) := by decide +kernel
theorem dX2_beside_19 : decode cX2_beside 19 = .ok (.iconst 1, 1) := by decide +kernel
theorem dX2_beside_20 : decode cX2_beside 20 = .ok (.goto 4, 3) := by decide +kernel
theorem dX2_beside_23 : decode cX2_beside 23 = .ok (.iconst 0, 1) := by decide +kernel
theorem dX2_beside_24 : decode cX2_beside 24 = .ok (.istore 6, 2) := by decide +kernel
theorem dX2_beside_26 : decode cX2_beside 26 = .ok (.iload_n 0, 1) := by decide +kernel
theorem dX2_beside_27 : decode cX2_beside 27 = .ok (.invokestatic 29, 3) := by decide +kernel
theorem dX2_beside_30 : decode cX2_beside 30 = .ok (.lstore 7, 2) := by decide +kernel
theorem dX2_beside_32 : decode cX2_beside 32 = .ok (.lload 4, 2) := by decide +kernel
theorem dX2_beside_34 : decode cX2_beside 34 = .ok (.lload 7, 2) := by decide +kernel
theorem dX2_beside_36 : decode cX2_beside 36 = .ok (.lcmp, 1) := by decide +kernel
theorem dX2_beside_37 : decode cX2_beside 37 = .ok (.ifCond .le 5, 3) := by decide +kernel
theorem dX2_beside_40 : decode cX2_beside 40 = .ok (.lload_n 1, 1) := by decide +kernel
theorem dX2_beside_41 : decode cX2_beside 41 = .ok (.lreturn, 1) := by decide +kernel
theorem dX2_beside_42 : decode cX2_beside 42 = .ok (.lload 4, 2) := by decide +kernel
theorem dX2_beside_44 : decode cX2_beside 44 = .ok (.lconst 0, 1) := by decide +kernel
theorem dX2_beside_45 : decode cX2_beside 45 = .ok (.lcmp, 1) := by decide +kernel
theorem dX2_beside_46 : decode cX2_beside 46 = .ok (.ifCond .ne 18, 3) := by decide +kernel
theorem dX2_beside_49 : decode cX2_beside 49 = .ok (.iload_n 0, 1) := by decide +kernel
theorem dX2_beside_50 : decode cX2_beside 50 = .ok (.iload_n 3, 1) := by decide +kernel
theorem dX2_beside_51 : decode cX2_beside 51 = .ok (.ifCond .ne 7, 3) := by decide +kernel
theorem dX2_beside_54 : decode cX2_beside 54 = .ok (.iconst 1, 1) := by decide +kernel
theorem dX2_beside_55 : decode cX2_beside 55 = .ok (.goto 4, 3) := by decide +kernel
theorem dX2_beside_58 : decode cX2_beside 58 = .ok (.iconst 0, 1) := by decide +kernel
theorem dX2_beside_59 : decode cX2_beside 59 = .ok (.lconst 1, 1) := by decide +kernel
theorem dX2_beside_60 : decode cX2_beside 60 = .ok (.invokestatic 25, 3) := by decide +kernel
theorem dX2_beside_63 : decode cX2_beside 63 = .ok (.lreturn, 1) := by decide +kernel
theorem dX2_beside_64 : decode cX2_beside 64 = .ok (.iload_n 3, 1) := by decide +kernel
theorem dX2_beside_65 : decode cX2_beside 65 = .ok (.iload 6, 2) := by decide +kernel
theorem dX2_beside_67 : decode cX2_beside 67 = .ok (.if_icmp .ne 14, 3) := by decide +kernel
theorem dX2_beside_70 : decode cX2_beside 70 = .ok (.iload_n 0, 1) := by decide +kernel
theorem dX2_beside_71 : decode cX2_beside 71 = .ok (.iload 6, 2) := by decide +kernel
theorem dX2_beside_73 : decode cX2_beside 73 = .ok (.lload 4, 2) := by decide +kernel
theorem dX2_beside_75 : decode cX2_beside 75 = .ok (.lconst 1, 1) := by decide +kernel
theorem dX2_beside_76 : decode cX2_beside 76 = .ok (.lsub, 1) := by decide +kernel
theorem dX2_beside_77 : decode cX2_beside 77 = .ok (.invokestatic 25, 3) := by decide +kernel
theorem dX2_beside_80 : decode cX2_beside 80 = .ok (.lreturn, 1) := by decide +kernel
theorem dX2_beside_81 : decode cX2_beside 81 = .ok (.lload 4, 2) := by decide +kernel
theorem dX2_beside_83 : decode cX2_beside 83 = .ok (.lload 7, 2) := by decide +kernel
theorem dX2_beside_85 : decode cX2_beside 85 = .ok (.lcmp, 1) := by decide +kernel
theorem dX2_beside_86 : decode cX2_beside 86 = .ok (.ifCond .ne 7, 3) := by decide +kernel
theorem dX2_beside_89 : decode cX2_beside 89 = .ok (.lload_n 1, 1) := by decide +kernel
theorem dX2_beside_90 : decode cX2_beside 90 = .ok (.goto 13, 3) := by decide +kernel
theorem dX2_beside_93 : decode cX2_beside 93 = .ok (.iload_n 0, 1) := by decide +kernel
theorem dX2_beside_94 : decode cX2_beside 94 = .ok (.iload 6, 2) := by decide +kernel
theorem dX2_beside_96 : decode cX2_beside 96 = .ok (.lload 4, 2) := by decide +kernel
theorem dX2_beside_98 : decode cX2_beside 98 = .ok (.lconst 1, 1) := by decide +kernel
theorem dX2_beside_99 : decode cX2_beside 99 = .ok (.ladd, 1) := by decide +kernel
theorem dX2_beside_100 : decode cX2_beside 100 = .ok (.invokestatic 25, 3) := by decide +kernel
theorem dX2_beside_103 : decode cX2_beside 103 = .ok (.lreturn, 1) := by decide +kernel
theorem dX9_step_0 : decode cX9_step 0 = .ok (.iload_n 1, 1) := by decide +kernel
theorem dX9_step_1 : decode cX9_step 1 = .ok (.invokestatic 68, 3) := by decide +kernel
theorem dX9_step_4 : decode cX9_step 4 = .ok (.aload_n 0, 1) := by decide +kernel
theorem dX9_step_5 : decode cX9_step 5 = .ok (.getfield 13, 3) := by decide +kernel
theorem dX9_step_8 : decode cX9_step 8 = .ok (.iload_n 1, 1) := by decide +kernel
theorem dX9_step_9 : decode cX9_step 9 = .ok (.aload_n 0, 1) := by decide +kernel
theorem dX9_step_10 : decode cX9_step 10 = .ok (.getfield 9, 3) := by decide +kernel
theorem dX9_step_13 : decode cX9_step 13 = .ok (.iload_n 1, 1) := by decide +kernel
theorem dX9_step_14 : decode cX9_step 14 = .ok (.iaload, 1) := by decide +kernel
theorem dX9_step_15 : decode cX9_step 15 = .ok (.aload_n 0, 1) := by decide +kernel
theorem dX9_step_16 : decode cX9_step 16 = .ok (.getfield 13, 3) := by decide +kernel
theorem dX9_step_19 : decode cX9_step 19 = .ok (.iload_n 1, 1) := by decide +kernel
theorem dX9_step_20 : decode cX9_step 20 = .ok (.laload, 1) := by decide +kernel
theorem dX9_step_21 : decode cX9_step 21 = .ok (.iload_n 2, 1) := by decide +kernel
theorem dX9_step_22 : decode cX9_step 22 = .ok (.invokestatic 135, 3) := by decide +kernel
theorem dX9_step_25 : decode cX9_step 25 = .ok (.lastore, 1) := by decide +kernel
theorem dX9_step_26 : decode cX9_step 26 = .ok (.return_, 1) := by decide +kernel
theorem dX7_append_0 : decode cX7_append 0 = .ok (.aload_n 0, 1) := by decide +kernel
theorem dX7_append_1 : decode cX7_append 1 = .ok (.getfield 15, 3) := by decide +kernel
theorem dX7_append_4 : decode cX7_append 4 = .ok (.sipush 1200, 3) := by decide +kernel
theorem dX7_append_7 : decode cX7_append 7 = .ok (.if_icmp .ge 23, 3) := by decide +kernel
theorem dX7_append_10 : decode cX7_append 10 = .ok (.aload_n 0, 1) := by decide +kernel
theorem dX7_append_11 : decode cX7_append 11 = .ok (.getfield 11, 3) := by decide +kernel
theorem dX7_append_14 : decode cX7_append 14 = .ok (.aload_n 0, 1) := by decide +kernel
theorem dX7_append_15 : decode cX7_append 15 = .ok (.getfield 15, 3) := by decide +kernel
theorem dX7_append_18 : decode cX7_append 18 = .ok (.iload_n 1, 1) := by decide +kernel
theorem dX7_append_19 : decode cX7_append 19 = .ok (.iastore, 1) := by decide +kernel
theorem dX7_append_20 : decode cX7_append 20 = .ok (.aload_n 0, 1) := by decide +kernel
theorem dX7_append_21 : decode cX7_append 21 = .ok (.dup, 1) := by decide +kernel
theorem dX7_append_22 : decode cX7_append 22 = .ok (.getfield 15, 3) := by decide +kernel
theorem dX7_append_25 : decode cX7_append 25 = .ok (.iconst 1, 1) := by decide +kernel
theorem dX7_append_26 : decode cX7_append 26 = .ok (.iadd, 1) := by decide +kernel
theorem dX7_append_27 : decode cX7_append 27 = .ok (.putfield 15, 3) := by decide +kernel
theorem dX7_append_30 : decode cX7_append 30 = .ok (.return_, 1) := by decide +kernel
theorem dX7_hasRoomFor_0 : decode cX7_hasRoomFor 0 = .ok (.iload_n 1, 1) := by decide +kernel
theorem dX7_hasRoomFor_1 : decode cX7_hasRoomFor 1 = .ok (.sipush 1200, 3) := by decide +kernel
theorem dX7_hasRoomFor_4 : decode cX7_hasRoomFor 4 = .ok (.aload_n 0, 1) := by decide +kernel
theorem dX7_hasRoomFor_5 : decode cX7_hasRoomFor 5 = .ok (.getfield 15, 3) := by decide +kernel
theorem dX7_hasRoomFor_8 : decode cX7_hasRoomFor 8 = .ok (.isub, 1) := by decide +kernel
theorem dX7_hasRoomFor_9 : decode cX7_hasRoomFor 9 = .ok (.if_icmp .gt 7, 3) := by decide +kernel
theorem dX7_hasRoomFor_12 : decode cX7_hasRoomFor 12 = .ok (.iconst 1, 1) := by decide +kernel
theorem dX7_hasRoomFor_13 : decode cX7_hasRoomFor 13 = .ok (.goto 4, 3) := by decide +kernel
theorem dX7_hasRoomFor_16 : decode cX7_hasRoomFor 16 = .ok (.iconst 0, 1) := by decide +kernel
theorem dX7_hasRoomFor_17 : decode cX7_hasRoomFor 17 = .ok (.ireturn, 1) := by decide +kernel
theorem dX9_feed_0 : decode cX9_feed 0 = .ok (.iload_n 3, 1) := by decide +kernel
theorem dX9_feed_1 : decode cX9_feed 1 = .ok (.iconst 1, 1) := by decide +kernel
theorem dX9_feed_2 : decode cX9_feed 2 = .ok (.if_icmp .lt 20, 3) := by decide +kernel
theorem dX9_feed_5 : decode cX9_feed 5 = .ok (.iload_n 3, 1) := by decide +kernel
theorem dX9_feed_6 : decode cX9_feed 6 = .ok (.bipush 8, 2) := by decide +kernel
theorem dX9_feed_8 : decode cX9_feed 8 = .ok (.if_icmp .gt 14, 3) := by decide +kernel
theorem dX9_feed_11 : decode cX9_feed 11 = .ok (.aload_n 0, 1) := by decide +kernel
theorem dX9_feed_12 : decode cX9_feed 12 = .ok (.getfield 33, 3) := by decide +kernel
theorem dX9_feed_15 : decode cX9_feed 15 = .ok (.iload_n 3, 1) := by decide +kernel
theorem dX9_feed_16 : decode cX9_feed 16 = .ok (.invokevirtual 162, 3) := by decide +kernel
theorem dX9_feed_19 : decode cX9_feed 19 = .ok (.ifCond .ne 13, 3) := by decide +kernel
theorem dX9_feed_22 : decode cX9_feed 22 = .ok (.new 96, 3) := by decide +kernel
theorem dX9_feed_25 : decode cX9_feed 25 = .ok (.dup, 1) := by decide +kernel
theorem dX9_feed_26 : decode cX9_feed 26 = .ok (.ldc 166, 2) := by decide +kernel
theorem dX9_feed_28 : decode cX9_feed 28 = .ok (.invokespecial 100, 3) := by decide +kernel
theorem dX9_feed_31 : decode cX9_feed 31 = .ok (.athrow, 1) := by decide +kernel
theorem dX9_feed_32 : decode cX9_feed 32 = .ok (.iconst 0, 1) := by decide +kernel
theorem dX9_feed_33 : decode cX9_feed 33 = .ok (.istore 4, 2) := by decide +kernel
theorem dX9_feed_35 : decode cX9_feed 35 = .ok (.iload 4, 2) := by decide +kernel
theorem dX9_feed_37 : decode cX9_feed 37 = .ok (.iload_n 3, 1) := by decide +kernel
theorem dX9_feed_38 : decode cX9_feed 38 = .ok (.if_icmp .ge 28, 3) := by decide +kernel
theorem dX9_feed_41 : decode cX9_feed 41 = .ok (.aload_n 0, 1) := by decide +kernel
theorem dX9_feed_42 : decode cX9_feed 42 = .ok (.getfield 33, 3) := by decide +kernel
theorem dX9_feed_45 : decode cX9_feed 45 = .ok (.lload_n 1, 1) := by decide +kernel
theorem dX9_feed_46 : decode cX9_feed 46 = .ok (.bipush 8, 2) := by decide +kernel
theorem dX9_feed_48 : decode cX9_feed 48 = .ok (.iload 4, 2) := by decide +kernel
theorem dX9_feed_50 : decode cX9_feed 50 = .ok (.imul, 1) := by decide +kernel
theorem dX9_feed_51 : decode cX9_feed 51 = .ok (.lushr, 1) := by decide +kernel
theorem dX9_feed_52 : decode cX9_feed 52 = .ok (.l2i, 1) := by decide +kernel
theorem dX9_feed_53 : decode cX9_feed 53 = .ok (.sipush 255, 3) := by decide +kernel
theorem dX9_feed_56 : decode cX9_feed 56 = .ok (.iand, 1) := by decide +kernel
theorem dX9_feed_57 : decode cX9_feed 57 = .ok (.invokevirtual 168, 3) := by decide +kernel
theorem dX9_feed_60 : decode cX9_feed 60 = .ok (.iinc 4 1, 3) := by decide +kernel
theorem dX9_feed_63 : decode cX9_feed 63 = .ok (.goto (-28), 3) := by decide +kernel
theorem dX9_feed_66 : decode cX9_feed 66 = .ok (.aload_n 0, 1) := by decide +kernel
theorem dX9_feed_67 : decode cX9_feed 67 = .ok (.getfield 33, 3) := by decide +kernel
theorem dX9_feed_70 : decode cX9_feed 70 = .ok (.getfield 171, 3) := by decide +kernel
theorem dX9_feed_73 : decode cX9_feed 73 = .ok (.ireturn, 1) := by decide +kernel
theorem dX9_needWay_0 : decode cX9_needWay 0 = .ok (.iload_n 0, 1) := by decide +kernel
theorem dX9_needWay_1 : decode cX9_needWay 1 = .ok (.ifCond .lt 8, 3) := by decide +kernel
theorem dX9_needWay_4 : decode cX9_needWay 4 = .ok (.iload_n 0, 1) := by decide +kernel
theorem dX9_needWay_5 : decode cX9_needWay 5 = .ok (.iconst 3, 1) := by decide +kernel
theorem dX9_needWay_6 : decode cX9_needWay 6 = .ok (.if_icmp .le 13, 3) := by decide +kernel
theorem dX9_needWay_9 : decode cX9_needWay 9 = .ok (.new 96, 3) := by decide +kernel
theorem dX9_needWay_12 : decode cX9_needWay 12 = .ok (.dup, 1) := by decide +kernel
theorem dX9_needWay_13 : decode cX9_needWay 13 = .ok (.ldc 205, 2) := by decide +kernel
theorem dX9_needWay_15 : decode cX9_needWay 15 = .ok (.invokespecial 100, 3) := by decide +kernel
theorem dX9_needWay_18 : decode cX9_needWay 18 = .ok (.athrow, 1) := by decide +kernel
theorem dX9_needWay_19 : decode cX9_needWay 19 = .ok (.return_, 1) := by decide +kernel
theorem dX9_lookAtTwo_0 : decode cX9_lookAtTwo 0 = .ok (.iload_n 1, 1) := by decide +kernel
theorem dX9_lookAtTwo_1 : decode cX9_lookAtTwo 1 = .ok (.invokestatic 68, 3) := by decide +kernel
theorem dX9_lookAtTwo_4 : decode cX9_lookAtTwo 4 = .ok (.iload_n 2, 1) := by decide +kernel
theorem dX9_lookAtTwo_5 : decode cX9_lookAtTwo 5 = .ok (.invokestatic 68, 3) := by decide +kernel
theorem dX9_lookAtTwo_8 : decode cX9_lookAtTwo 8 = .ok (.iload_n 3, 1) := by decide +kernel
theorem dX9_lookAtTwo_9 : decode cX9_lookAtTwo 9 = .ok (.invokestatic 68, 3) := by decide +kernel
theorem dX9_lookAtTwo_12 : decode cX9_lookAtTwo 12 = .ok (.iload 4, 2) := by decide +kernel
theorem dX9_lookAtTwo_14 : decode cX9_lookAtTwo 14 = .ok (.invokestatic 107, 3) := by decide +kernel
theorem dX9_lookAtTwo_17 : decode cX9_lookAtTwo 17 = .ok (.aload_n 0, 1) := by decide +kernel
theorem dX9_lookAtTwo_18 : decode cX9_lookAtTwo 18 = .ok (.iload_n 1, 1) := by decide +kernel
theorem dX9_lookAtTwo_19 : decode cX9_lookAtTwo 19 = .ok (.aload_n 0, 1) := by decide +kernel
theorem dX9_lookAtTwo_20 : decode cX9_lookAtTwo 20 = .ok (.getfield 20, 3) := by decide +kernel
theorem dX9_lookAtTwo_23 : decode cX9_lookAtTwo 23 = .ok (.invokevirtual 81, 3) := by decide +kernel
theorem dX9_lookAtTwo_26 : decode cX9_lookAtTwo 26 = .ok (.aload_n 0, 1) := by decide +kernel
theorem dX9_lookAtTwo_27 : decode cX9_lookAtTwo 27 = .ok (.iload_n 2, 1) := by decide +kernel
theorem dX9_lookAtTwo_28 : decode cX9_lookAtTwo 28 = .ok (.aload_n 0, 1) := by decide +kernel
theorem dX9_lookAtTwo_29 : decode cX9_lookAtTwo 29 = .ok (.getfield 24, 3) := by decide +kernel
theorem dX9_lookAtTwo_32 : decode cX9_lookAtTwo 32 = .ok (.invokevirtual 81, 3) := by decide +kernel
theorem dX9_lookAtTwo_35 : decode cX9_lookAtTwo 35 = .ok (.return_, 1) := by decide +kernel
