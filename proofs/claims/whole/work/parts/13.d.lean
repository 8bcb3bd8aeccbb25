theorem dX4_limb_0 : decode cX4_limb 0 = .ok (.iload_n 1, 1) := by decide +kernel
theorem dX4_limb_1 : decode cX4_limb 1 = .ok (.ifCond .lt 20, 3) := by decide +kernel
theorem dX4_limb_4 : decode cX4_limb 4 = .ok (.iload_n 1, 1) := by decide +kernel
theorem dX4_limb_5 : decode cX4_limb 5 = .ok (.aload_n 0, 1) := by decide +kernel
theorem dX4_limb_6 : decode cX4_limb 6 = .ok (.getfield 15, 3) := by decide +kernel
theorem dX4_limb_9 : decode cX4_limb 9 = .ok (.if_icmp .ge 12, 3) := by decide +kernel
theorem dX4_limb_12 : decode cX4_limb 12 = .ok (.aload_n 0, 1) := by decide +kernel
theorem dX4_limb_13 : decode cX4_limb 13 = .ok (.getfield 9, 3) := by decide +kernel
theorem dX4_limb_16 : decode cX4_limb 16 = .ok (.iload_n 1, 1) := by decide +kernel
theorem dX4_limb_17 : decode cX4_limb 17 = .ok (.laload, 1) := by decide +kernel
theorem dX4_limb_18 : decode cX4_limb 18 = .ok (.goto 4, 3) := by decide +kernel
theorem dX4_limb_21 : decode cX4_limb 21 = .ok (.lconst 0, 1) := by decide +kernel
theorem dX4_limb_22 : decode cX4_limb 22 = .ok (.lreturn, 1) := by decide +kernel
theorem dX4_trim_0 : decode cX4_trim 0 = .ok (.aload_n 0, 1) := by decide +kernel
theorem dX4_trim_1 : decode cX4_trim 1 = .ok (.getfield 15, 3) := by decide +kernel
theorem dX4_trim_4 : decode cX4_trim 4 = .ok (.ifCond .le 32, 3) := by decide +kernel
theorem dX4_trim_7 : decode cX4_trim 7 = .ok (.aload_n 0, 1) := by decide +kernel
theorem dX4_trim_8 : decode cX4_trim 8 = .ok (.getfield 9, 3) := by decide +kernel
theorem dX4_trim_11 : decode cX4_trim 11 = .ok (.aload_n 0, 1) := by decide +kernel
theorem dX4_trim_12 : decode cX4_trim 12 = .ok (.getfield 15, 3) := by decide +kernel
theorem dX4_trim_15 : decode cX4_trim 15 = .ok (.iconst 1, 1) := by decide +kernel
theorem dX4_trim_16 : decode cX4_trim 16 = .ok (.isub, 1) := by decide +kernel
theorem dX4_trim_17 : decode cX4_trim 17 = .ok (.laload, 1) := by decide +kernel
theorem dX4_trim_18 : decode cX4_trim 18 = .ok (.lconst 0, 1) := by decide +kernel
theorem dX4_trim_19 : decode cX4_trim 19 = .ok (.lcmp, 1) := by decide +kernel
theorem dX4_trim_20 : decode cX4_trim 20 = .ok (.ifCond .ne 16, 3) := by decide +kernel
theorem dX4_trim_23 : decode cX4_trim 23 = .ok (.aload_n 0, 1) := by decide +kernel
theorem dX4_trim_24 : decode cX4_trim 24 = .ok (.dup, 1) := by decide +kernel
theorem dX4_trim_25 : decode cX4_trim 25 = .ok (.getfield 15, 3) := by decide +kernel
theorem dX4_trim_28 : decode cX4_trim 28 = .ok (.iconst 1, 1) := by decide +kernel
theorem dX4_trim_29 : decode cX4_trim 29 = .ok (.isub, 1) := by decide +kernel
theorem dX4_trim_30 : decode cX4_trim 30 = .ok (.putfield 15, 3) := by decide +kernel
theorem dX4_trim_33 : decode cX4_trim 33 = .ok (.goto (-33), 3) := by decide +kernel
theorem dX4_trim_36 : decode cX4_trim 36 = .ok (.return_, 1) := by decide +kernel
theorem dX4_take_0 : decode cX4_take 0 = .ok (.aload_n 0, 1) := by decide +kernel
theorem dX4_take_1 : decode cX4_take 1 = .ok (.getfield 9, 3) := by decide +kernel
theorem dX4_take_4 : decode cX4_take 4 = .ok (.iconst 0, 1) := by decide +kernel
theorem dX4_take_5 : decode cX4_take 5 = .ok (.lload_n 1, 1) := by decide +kernel
theorem dX4_take_6 : decode cX4_take 6 = .ok (.ldc2_w 13, 3) := by decide +kernel
theorem dX4_take_9 : decode cX4_take 9 = .ok (.land, 1) := by decide +kernel
theorem dX4_take_10 : decode cX4_take 10 = .ok (.lastore, 1) := by decide +kernel
theorem dX4_take_11 : decode cX4_take 11 = .ok (.aload_n 0, 1) := by decide +kernel
theorem dX4_take_12 : decode cX4_take 12 = .ok (.getfield 9, 3) := by decide +kernel
theorem dX4_take_15 : decode cX4_take 15 = .ok (.iconst 1, 1) := by decide +kernel
theorem dX4_take_16 : decode cX4_take 16 = .ok (.lload_n 1, 1) := by decide +kernel
theorem dX4_take_17 : decode cX4_take 17 = .ok (.bipush 32, 2) := by decide +kernel
theorem dX4_take_19 : decode cX4_take 19 = .ok (.lushr, 1) := by decide +kernel
theorem dX4_take_20 : decode cX4_take 20 = .ok (.lastore, 1) := by decide +kernel
theorem dX4_take_21 : decode cX4_take 21 = .ok (.aload_n 0, 1) := by decide +kernel
theorem dX4_take_22 : decode cX4_take 22 = .ok (.iconst 2, 1) := by decide +kernel
theorem dX4_take_23 : decode cX4_take 23 = .ok (.putfield 15, 3) := by decide +kernel
theorem dX4_take_26 : decode cX4_take 26 = .ok (.aload_n 0, 1) := by decide +kernel
theorem dX4_take_27 : decode cX4_take 27 = .ok (.invokevirtual 19, 3) := by decide +kernel
theorem dX4_take_30 : decode cX4_take 30 = .ok (.return_, 1) := by decide +kernel
