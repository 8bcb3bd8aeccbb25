set_option maxRecDepth 100000 in
set_option maxHeartbeats 4000000 in
theorem c_X0_rootOf (l : Launch) (D : va_G) (cI cJ : ClassId) (a_p0 a_p0_left a_p0_right a_p0_left_limbs : Nat) (p1 : Int64) (p2 : Int32) (p3 : Int32) (p4 : Int32) (p0_left_size : Int32) (p0_left_limbs : (Nat → Int64)) (u : Int64 × Int32 × (Nat → Int64)) (hf : f_X0_rootOf p1 p2 p3 p4 p0_left_size p0_left_limbs = some u) : CtL l yX0_rootOf cX0_rootOf 15 4 101 [.ref a_p0, .long p1, .int p2, .int p3, .int p4] D cI cJ [(a_p0, .inr (2, [.ref a_p0_left, .ref a_p0_right])), (a_p0_left, .inr (5, [.ref a_p0_left_limbs, .int p0_left_size])), (a_p0_left_limbs, .inl (cJ, 160, .inr (.inl p0_left_limbs)))] [(a_p0, .inr (2, [.ref a_p0_left, .ref a_p0_right])), (a_p0_left, .inr (5, [.ref a_p0_left_limbs, .int u.2.1])), (a_p0_left_limbs, .inl (cJ, 160, .inr (.inl u.2.2)))] u.1 := by
  refine mkL (own := RX0) rfl (by decide +kernel) (Nat.le_of_ble_eq_true rfl) (lv := [(0, .ref a_p0), (1, .long p1), (3, .int p2), (4, .int p3), (5, .int p4)]) rfl ?_
  intro p e s m below meth c Q A ls ar S hA hK hN hret H locs hP hD hS hl
  obtain ⟨hx, hb, hml, hown, hts⟩ := id S
  have hret : ∀ (w : Int64 × Int32 × (Nat → Int64)), w = u → ∀ (H : Heap) (locs : List Loc) (ls : Array Slot) (pc : Nat), decode cX0_rootOf pc = .ok (.lreturn, 1) → va_P D vwCl [(a_p0, .inr (2, [.ref a_p0_left, .ref a_p0_right])), (a_p0_left, .inr (5, [.ref a_p0_left_limbs, .int w.2.1])), (a_p0_left_limbs, .inl (cJ, 160, .inr (.inl w.2.2)))] H → va_D A [(a_p0, .inr (2, [.ref a_p0_left, .ref a_p0_right])), (a_p0_left, .inr (5, [.ref a_p0_left_limbs, .int w.2.1])), (a_p0_left_limbs, .inl (cJ, 160, .inr (.inl w.2.2)))] → va_S A s.heap H locs → W p l e (rmz 4 101) s m ar below meth c H locs 0 0 Q (F0 m pc ls [.long w.1]) := fun w hw => hw ▸ hret
  have keyB110 : ∀ (v4 : Int32) (v5 : Int32) (s0 : Int32) (s2 : Int32) (s3 : Int32) (p0_left_size : Int32) (p0_left_limbs : (Nat → Int64)) (H : Heap) (locs : List Loc) (ls : Array Slot), f_X0_rootOf_B110 v4 v5 s0 s2 s3 p0_left_size p0_left_limbs = some u → va_P D vwCl [(a_p0, .inr (2, [.ref a_p0_left, .ref a_p0_right])), (a_p0_left, .inr (5, [.ref a_p0_left_limbs, .int p0_left_size])), (a_p0_left_limbs, .inl (cJ, 160, .inr (.inl p0_left_limbs)))] H → va_D A [(a_p0, .inr (2, [.ref a_p0_left, .ref a_p0_right])), (a_p0_left, .inr (5, [.ref a_p0_left_limbs, .int p0_left_size])), (a_p0_left_limbs, .inl (cJ, 160, .inr (.inl p0_left_limbs)))] → va_S A s.heap H locs → lv_has ls 15 [(4, .int v4), (5, .int v5)] → W p l e (rmz 4 101) s m ar below meth c H locs 0 0 Q (F0 m 110 ls [.int s3, .int s2, .ref a_p0_left, .int s0]) := by
    intro v4 v5 s0 s2 s3 p0_left_size p0_left_limbs H locs ls hf hP hD hS hl
    unfold f_X0_rootOf_B110 at hf
    refine lv_iload hx hb dX0_rootOf_110 (lv_at hl 0 rfl) ?_
    refine lv_iload hx hb dX0_rootOf_112 (lv_at hl 1 rfl) ?_
    obtain ⟨u3, hu4, hf⟩ := bdE hf
    refine cS_L (ws' := [(a_p0, .inr (2, [.ref a_p0_left, .ref a_p0_right])), (a_p0_left, .inr (5, [.ref a_p0_left_limbs, .int p0_left_size])), (a_p0_left_limbs, .inl (cJ, 160, .inr (.inl p0_left_limbs)))]) (rest := []) S hK hN hA hP hD hS (c_X0_rounded l D cI cJ a_p0_left a_p0_left_limbs s0 s2 s3 v4 v5 p0_left_size p0_left_limbs u3 hu4) mwX0_rounded msX0_rounded kmX0_51 [1, 2] rfl (by decide) rfl rfl rfl ⟨Nat.le_of_ble_eq_true rfl, Nat.le_of_ble_eq_true rfl⟩ ⟨Nat.zero_le _, Nat.zero_le _⟩ hl.1 rfl rfl (Nat.le_of_ble_eq_true rfl) dX0_rootOf_114 (fun H locs hP hD hS => ?_)
    exact hret _ (opE hf) H locs ls 117 dX0_rootOf_117 hP hD hS
  have keyB78 : ∀ (v3 : Int32) (v4 : Int32) (v5 : Int32) (v8 : Int64) (v10 : Int64) (p0_left_size : Int32) (p0_left_limbs : (Nat → Int64)) (H : Heap) (locs : List Loc) (ls : Array Slot), f_X0_rootOf_B78 v3 v4 v5 v8 v10 p0_left_size p0_left_limbs = some u → va_P D vwCl [(a_p0, .inr (2, [.ref a_p0_left, .ref a_p0_right])), (a_p0_left, .inr (5, [.ref a_p0_left_limbs, .int p0_left_size])), (a_p0_left_limbs, .inl (cJ, 160, .inr (.inl p0_left_limbs)))] H → va_D A [(a_p0, .inr (2, [.ref a_p0_left, .ref a_p0_right])), (a_p0_left, .inr (5, [.ref a_p0_left_limbs, .int p0_left_size])), (a_p0_left_limbs, .inl (cJ, 160, .inr (.inl p0_left_limbs)))] → va_S A s.heap H locs → lv_has ls 15 [(0, .ref a_p0), (3, .int v3), (4, .int v4), (5, .int v5), (8, .long v8), (10, .long v10)] → W p l e (rmz 4 101) s m ar below meth c H locs 0 0 Q (F0 m 78 ls []) := by
    intro v3 v4 v5 v8 v10 p0_left_size p0_left_limbs H locs ls hf hP hD hS hl
    unfold f_X0_rootOf_B78 at hf
    refine lv_aload_n hx hb dX0_rootOf_78 rfl (lv_at hl 0 rfl) ?_
    refine va_get (D := D) (ci := 2) (v := .ref a_p0_left) (C := RX0) (T := TX0) (N := 2) hx hb hts uwX0 hown hK hP 0 rfl rfl 0 (by decide) (hts _ kfX0_9) (fun _ h9 => h9) rfl dX0_rootOf_79 ?_
    refine lv_lload hx hb dX0_rootOf_82 (lv_at hl 5 rfl) ?_
    obtain ⟨u1, hu2, hf⟩ := bdE hf
    refine cV_V (ws' := [(a_p0, .inr (2, [.ref a_p0_left, .ref a_p0_right])), (a_p0_left, .inr (5, [.ref a_p0_left_limbs, .int u1.1])), (a_p0_left_limbs, .inl (cJ, 160, .inr (.inl u1.2)))]) (rest := []) S hK hN hA hP hD hS (c_X4_take l D cI cJ a_p0_left a_p0_left_limbs v10 p0_left_size p0_left_limbs u1 hu2) mwX4_take miX4_take kmX0_42 [1, 2] rfl (by decide) rfl rfl rfl 0 rfl rfl ⟨Nat.le_of_ble_eq_true rfl, Nat.le_of_ble_eq_true rfl⟩ ⟨Nat.zero_le _, Nat.zero_le _⟩ hl.1 rfl rfl (Nat.le_of_ble_eq_true rfl) dX0_rootOf_84 (fun H locs hP hD hS => ?_)
    refine lv_iconst (v := 0) hx hb dX0_rootOf_87 (by decide) ?_
    refine lv_aload_n hx hb dX0_rootOf_88 rfl (lv_at hl 0 rfl) ?_
    refine va_get (D := D) (ci := 2) (v := .ref a_p0_left) (C := RX0) (T := TX0) (N := 2) hx hb hts uwX0 hown hK hP 0 rfl rfl 0 (by decide) (hts _ kfX0_9) (fun _ h9 => h9) rfl dX0_rootOf_89 ?_
    refine lv_iload_n hx hb dX0_rootOf_92 rfl (lv_at hl 1 rfl) ?_
    refine lv_iconst (v := 2) hx hb dX0_rootOf_93 (by decide) ?_
    refine lv_idiv hx hb dX0_rootOf_94 (by decide) ?_
    refine lv_bipush (v := 25) hx hb dX0_rootOf_95 (by decide) ?_
    refine lv_isub hx hb dX0_rootOf_97 ?_
    refine lv_lload hx hb dX0_rootOf_98 (lv_at hl 4 rfl) ?_
    refine lv_lconst (v := 0) hx hb dX0_rootOf_100 (by decide) ?_
    refine W.lcmp hx hb dX0_rootOf_101 ?_
    refine lv_if_eq (tgt := 109) hx hb dX0_rootOf_102 (by decide) (fun hc5 => ?_) (fun hc5 => ?_)
    · have hf := ifT hc5 hf
      refine lv_iconst (v := 0) hx hb dX0_rootOf_109 (by decide) ?_
      exact keyB110 v4 v5 (0 : Int32) ((v3 / (2 : Int32)) - (25 : Int32)) (0 : Int32) u1.1 u1.2 H locs ls hf hP hD hS (lv_sub hl [2, 3] rfl)
    · have hf := ifF hc5 hf
      refine lv_iconst (v := 1) hx hb dX0_rootOf_105 (by decide) ?_
      refine lv_goto (tgt := 110) hx hb dX0_rootOf_106 (by decide) ?_
      exact keyB110 v4 v5 (0 : Int32) ((v3 / (2 : Int32)) - (25 : Int32)) (1 : Int32) u1.1 u1.2 H locs ls hf hP hD hS (lv_sub hl [2, 3] rfl)
  have keyL12 : ∀ (n : Nat) (v3 : Int32) (v4 : Int32) (v5 : Int32) (v6 : Int64) (v8 : Int64) (v10 : Int64) (v12 : Int32) (p0_left_size : Int32) (p0_left_limbs : (Nat → Int64)) (H : Heap) (locs : List Loc) (ls : Array Slot), f_X0_rootOf_L12 n v3 v4 v5 v6 v8 v10 v12 p0_left_size p0_left_limbs = some u → va_P D vwCl [(a_p0, .inr (2, [.ref a_p0_left, .ref a_p0_right])), (a_p0_left, .inr (5, [.ref a_p0_left_limbs, .int p0_left_size])), (a_p0_left_limbs, .inl (cJ, 160, .inr (.inl p0_left_limbs)))] H → va_D A [(a_p0, .inr (2, [.ref a_p0_left, .ref a_p0_right])), (a_p0_left, .inr (5, [.ref a_p0_left_limbs, .int p0_left_size])), (a_p0_left_limbs, .inl (cJ, 160, .inr (.inl p0_left_limbs)))] → va_S A s.heap H locs → lv_has ls 15 [(0, .ref a_p0), (3, .int v3), (4, .int v4), (5, .int v5), (6, .long v6), (8, .long v8), (10, .long v10), (12, .int v12)] → W p l e (rmz 4 101) s m ar below meth c H locs 0 0 Q (F0 m 12 ls []) := by
    intro n
    induction n with
      | zero =>
        intro v3 v4 v5 v6 v8 v10 v12 p0_left_size p0_left_limbs H locs ls hf
        cases hf
      | succ n ih =>
        intro v3 v4 v5 v6 v8 v10 v12 p0_left_size p0_left_limbs H locs ls hf hP hD hS hl
        rw [f_X0_rootOf_L12] at hf
        refine lv_iload hx hb dX0_rootOf_12 (lv_at hl 7 rfl) ?_
        refine lv_bipush (v := 57) hx hb dX0_rootOf_14 (by decide) ?_
        refine lv_icmp_ge (tgt := 78) hx hb dX0_rootOf_16 (by decide) (fun hc7 => ?_) (fun hc7 => ?_)
        · have hf := ifT hc7 hf
          exact keyB78 v3 v4 v5 v8 v10 p0_left_size p0_left_limbs H locs ls hf hP hD hS (lv_sub hl [0, 1, 2, 3, 5, 6] rfl)
        · have hf := ifF hc7 hf
          refine lv_lload hx hb dX0_rootOf_19 (lv_at hl 5 rfl) ?_
          refine lv_iconst (v := 2) hx hb dX0_rootOf_21 (by decide) ?_
          refine lv_lshl (v := lsh v8 (2 : Int32)) hx hb dX0_rootOf_22 rfl ?_
          refine lv_lload hx hb dX0_rootOf_23 (lv_at hl 4 rfl) ?_
          refine lv_bipush (v := 62) hx hb dX0_rootOf_25 (by decide) ?_
          refine lv_lushr (v := lus v6 (62 : Int32)) hx hb dX0_rootOf_27 rfl ?_
          refine lv_lor hx hb dX0_rootOf_28 ?_
          refine lv_lstore (lv' := [(8, .long ((lsh v8 (2 : Int32)) ||| (lus v6 (62 : Int32)))), (0, .ref a_p0), (3, .int v3), (4, .int v4), (5, .int v5), (6, .long v6), (10, .long v10), (12, .int v12)]) hx hb dX0_rootOf_29 hl (by decide) rfl (fun ls hl => ?_)
          refine lv_lload hx hb dX0_rootOf_31 (lv_at hl 5 rfl) ?_
          refine lv_iconst (v := 2) hx hb dX0_rootOf_33 (by decide) ?_
          refine lv_lshl (v := lsh v6 (2 : Int32)) hx hb dX0_rootOf_34 rfl ?_
          refine lv_lstore (lv' := [(6, .long (lsh v6 (2 : Int32))), (8, .long ((lsh v8 (2 : Int32)) ||| (lus v6 (62 : Int32)))), (0, .ref a_p0), (3, .int v3), (4, .int v4), (5, .int v5), (10, .long v10), (12, .int v12)]) hx hb dX0_rootOf_35 hl (by decide) rfl (fun ls hl => ?_)
          refine lv_lload hx hb dX0_rootOf_37 (lv_at hl 6 rfl) ?_
          refine lv_iconst (v := 2) hx hb dX0_rootOf_39 (by decide) ?_
          refine lv_lshl (v := lsh v10 (2 : Int32)) hx hb dX0_rootOf_40 rfl ?_
          refine lv_lconst (v := 1) hx hb dX0_rootOf_41 (by decide) ?_
          refine lv_lor hx hb dX0_rootOf_42 ?_
          refine lv_lstore (lv' := [(13, .long ((lsh v10 (2 : Int32)) ||| (1 : Int64))), (6, .long (lsh v6 (2 : Int32))), (8, .long ((lsh v8 (2 : Int32)) ||| (lus v6 (62 : Int32)))), (0, .ref a_p0), (3, .int v3), (4, .int v4), (5, .int v5), (10, .long v10), (12, .int v12)]) hx hb dX0_rootOf_43 hl (by decide) rfl (fun ls hl => ?_)
          refine lv_lload hx hb dX0_rootOf_45 (lv_at hl 7 rfl) ?_
          refine lv_iconst (v := 1) hx hb dX0_rootOf_47 (by decide) ?_
          refine lv_lshl (v := lsh v10 (1 : Int32)) hx hb dX0_rootOf_48 rfl ?_
          refine lv_lstore (lv' := [(10, .long (lsh v10 (1 : Int32))), (13, .long ((lsh v10 (2 : Int32)) ||| (1 : Int64))), (6, .long (lsh v6 (2 : Int32))), (8, .long ((lsh v8 (2 : Int32)) ||| (lus v6 (62 : Int32)))), (0, .ref a_p0), (3, .int v3), (4, .int v4), (5, .int v5), (12, .int v12)]) hx hb dX0_rootOf_49 hl (by decide) rfl (fun ls hl => ?_)
          refine lv_lload hx hb dX0_rootOf_51 (lv_at hl 3 rfl) ?_
          refine lv_lload hx hb dX0_rootOf_53 (lv_at hl 1 rfl) ?_
          refine W.lcmp hx hb dX0_rootOf_55 ?_
          refine lv_if_lt (tgt := 72) hx hb dX0_rootOf_56 (by decide) (fun hc6 => ?_) (fun hc6 => ?_)
          · have hf := ifT hc6 hf
            refine lv_iinc (v := v12 + (1 : Int32)) (lv' := [(12, .int (v12 + (1 : Int32))), (10, .long (lsh v10 (1 : Int32))), (13, .long ((lsh v10 (2 : Int32)) ||| (1 : Int64))), (6, .long (lsh v6 (2 : Int32))), (8, .long ((lsh v8 (2 : Int32)) ||| (lus v6 (62 : Int32)))), (0, .ref a_p0), (3, .int v3), (4, .int v4), (5, .int v5)]) hx hb dX0_rootOf_72 hl (k := 8) rfl (by rfl) (by decide) rfl (fun ls hl => ?_)
            refine lv_goto (tgt := 12) hx hb dX0_rootOf_75 (by decide) ?_
            exact ih v3 v4 v5 (lsh v6 (2 : Int32)) ((lsh v8 (2 : Int32)) ||| (lus v6 (62 : Int32))) (lsh v10 (1 : Int32)) (v12 + (1 : Int32)) p0_left_size p0_left_limbs H locs ls hf hP hD hS (lv_sub hl [5, 6, 7, 8, 3, 4, 1, 0] rfl)
          · have hf := ifF hc6 hf
            refine lv_lload hx hb dX0_rootOf_59 (lv_at hl 3 rfl) ?_
            refine lv_lload hx hb dX0_rootOf_61 (lv_at hl 1 rfl) ?_
            refine lv_lsub hx hb dX0_rootOf_63 ?_
            refine lv_lstore (lv' := [(8, .long (((lsh v8 (2 : Int32)) ||| (lus v6 (62 : Int32))) - ((lsh v10 (2 : Int32)) ||| (1 : Int64)))), (10, .long (lsh v10 (1 : Int32))), (13, .long ((lsh v10 (2 : Int32)) ||| (1 : Int64))), (6, .long (lsh v6 (2 : Int32))), (0, .ref a_p0), (3, .int v3), (4, .int v4), (5, .int v5), (12, .int v12)]) hx hb dX0_rootOf_64 hl (by decide) rfl (fun ls hl => ?_)
            refine lv_lload hx hb dX0_rootOf_66 (lv_at hl 1 rfl) ?_
            refine lv_lconst (v := 1) hx hb dX0_rootOf_68 (by decide) ?_
            refine lv_lor hx hb dX0_rootOf_69 ?_
            refine lv_lstore (lv' := [(10, .long ((lsh v10 (1 : Int32)) ||| (1 : Int64))), (8, .long (((lsh v8 (2 : Int32)) ||| (lus v6 (62 : Int32))) - ((lsh v10 (2 : Int32)) ||| (1 : Int64)))), (13, .long ((lsh v10 (2 : Int32)) ||| (1 : Int64))), (6, .long (lsh v6 (2 : Int32))), (0, .ref a_p0), (3, .int v3), (4, .int v4), (5, .int v5), (12, .int v12)]) hx hb dX0_rootOf_70 hl (by decide) rfl (fun ls hl => ?_)
            refine lv_iinc (v := v12 + (1 : Int32)) (lv' := [(12, .int (v12 + (1 : Int32))), (10, .long ((lsh v10 (1 : Int32)) ||| (1 : Int64))), (8, .long (((lsh v8 (2 : Int32)) ||| (lus v6 (62 : Int32))) - ((lsh v10 (2 : Int32)) ||| (1 : Int64)))), (13, .long ((lsh v10 (2 : Int32)) ||| (1 : Int64))), (6, .long (lsh v6 (2 : Int32))), (0, .ref a_p0), (3, .int v3), (4, .int v4), (5, .int v5)]) hx hb dX0_rootOf_72 hl (k := 8) rfl (by rfl) (by decide) rfl (fun ls hl => ?_)
            refine lv_goto (tgt := 12) hx hb dX0_rootOf_75 (by decide) ?_
            exact ih v3 v4 v5 (lsh v6 (2 : Int32)) (((lsh v8 (2 : Int32)) ||| (lus v6 (62 : Int32))) - ((lsh v10 (2 : Int32)) ||| (1 : Int64))) ((lsh v10 (1 : Int32)) ||| (1 : Int64)) (v12 + (1 : Int32)) p0_left_size p0_left_limbs H locs ls hf hP hD hS (lv_sub hl [5, 6, 7, 8, 4, 2, 1, 0] rfl)
  unfold f_X0_rootOf at hf
  refine lv_lload_n hx hb dX0_rootOf_0 rfl (lv_at hl 1 rfl) ?_
  refine lv_lstore (lv' := [(6, .long p1), (0, .ref a_p0), (1, .long p1), (3, .int p2), (4, .int p3), (5, .int p4)]) hx hb dX0_rootOf_1 hl (by decide) rfl (fun ls hl => ?_)
  refine lv_lconst (v := 0) hx hb dX0_rootOf_3 (by decide) ?_
  refine lv_lstore (lv' := [(8, .long (0 : Int64)), (6, .long p1), (0, .ref a_p0), (1, .long p1), (3, .int p2), (4, .int p3), (5, .int p4)]) hx hb dX0_rootOf_4 hl (by decide) rfl (fun ls hl => ?_)
  refine lv_lconst (v := 0) hx hb dX0_rootOf_6 (by decide) ?_
  refine lv_lstore (lv' := [(10, .long (0 : Int64)), (8, .long (0 : Int64)), (6, .long p1), (0, .ref a_p0), (1, .long p1), (3, .int p2), (4, .int p3), (5, .int p4)]) hx hb dX0_rootOf_7 hl (by decide) rfl (fun ls hl => ?_)
  refine lv_iconst (v := 0) hx hb dX0_rootOf_9 (by decide) ?_
  refine lv_istore (lv' := [(12, .int (0 : Int32)), (10, .long (0 : Int64)), (8, .long (0 : Int64)), (6, .long p1), (0, .ref a_p0), (1, .long p1), (3, .int p2), (4, .int p3), (5, .int p4)]) hx hb dX0_rootOf_10 hl (by decide) rfl (fun ls hl => ?_)
  exact keyL12 FU p2 p3 p4 p1 (0 : Int64) (0 : Int64) (0 : Int32) p0_left_size p0_left_limbs H locs ls hf hP hD hS (lv_sub hl [4, 6, 7, 8, 3, 2, 1, 0] rfl)
set_option maxRecDepth 100000 in
set_option maxHeartbeats 4000000 in
theorem c_X0_squareRoot (l : Launch) (D : va_G) (cI cJ : ClassId) (a_p0 a_p0_left a_p0_right a_p0_left_limbs a_p1 : Nat) (p2 : Int32) (p3 : Int32) (p0_left_size : Int32) (p0_left_limbs : (Nat → Int64)) (p1_kind : Int32) (p1_minus : Int32) (p1_m : Int64) (p1_e : Int32) (p1_narrowBelow : Int32) (u : Int64 × Int32 × (Nat → Int64)) (hf : f_X0_squareRoot p1_kind p1_minus p1_m p1_e p2 p3 p0_left_size p0_left_limbs = some u) : CtL l yX0_squareRoot cX0_squareRoot 6 5 135 [.ref a_p0, .ref a_p1, .int p2, .int p3] D cI cJ [(a_p0, .inr (2, [.ref a_p0_left, .ref a_p0_right])), (a_p0_left, .inr (5, [.ref a_p0_left_limbs, .int p0_left_size])), (a_p0_left_limbs, .inl (cJ, 160, .inr (.inl p0_left_limbs))), (a_p1, .inr (9, [.int p1_kind, .int p1_minus, .long p1_m, .int p1_e, .int p1_narrowBelow]))] [(a_p0, .inr (2, [.ref a_p0_left, .ref a_p0_right])), (a_p0_left, .inr (5, [.ref a_p0_left_limbs, .int u.2.1])), (a_p0_left_limbs, .inl (cJ, 160, .inr (.inl u.2.2))), (a_p1, .inr (9, [.int p1_kind, .int p1_minus, .long p1_m, .int p1_e, .int p1_narrowBelow]))] u.1 := by
  refine mkL (own := RX0) rfl (by decide +kernel) (Nat.le_of_ble_eq_true rfl) (lv := [(0, .ref a_p0), (1, .ref a_p1), (2, .int p2), (3, .int p3)]) rfl ?_
  intro p e s m below meth c Q A ls ar S hA hK hN hret H locs hP hD hS hl
  obtain ⟨hx, hb, hml, hown, hts⟩ := id S
  have hret : ∀ (w : Int64 × Int32 × (Nat → Int64)), w = u → ∀ (H : Heap) (locs : List Loc) (ls : Array Slot) (pc : Nat), decode cX0_squareRoot pc = .ok (.lreturn, 1) → va_P D vwCl [(a_p0, .inr (2, [.ref a_p0_left, .ref a_p0_right])), (a_p0_left, .inr (5, [.ref a_p0_left_limbs, .int w.2.1])), (a_p0_left_limbs, .inl (cJ, 160, .inr (.inl w.2.2))), (a_p1, .inr (9, [.int p1_kind, .int p1_minus, .long p1_m, .int p1_e, .int p1_narrowBelow]))] H → va_D A [(a_p0, .inr (2, [.ref a_p0_left, .ref a_p0_right])), (a_p0_left, .inr (5, [.ref a_p0_left_limbs, .int w.2.1])), (a_p0_left_limbs, .inl (cJ, 160, .inr (.inl w.2.2))), (a_p1, .inr (9, [.int p1_kind, .int p1_minus, .long p1_m, .int p1_e, .int p1_narrowBelow]))] → va_S A s.heap H locs → W p l e (rmz 5 135) s m ar below meth c H locs 0 0 Q (F0 m pc ls [.long w.1]) := fun w hw => hw ▸ hret
  have keyB31 : ∀ (v2 : Int32) (p0_left_size : Int32) (p0_left_limbs : (Nat → Int64)) (H : Heap) (locs : List Loc) (ls : Array Slot), f_X0_squareRoot_B31 p1_kind p1_minus p1_m p1_e v2 p0_left_size p0_left_limbs = some u → va_P D vwCl [(a_p0, .inr (2, [.ref a_p0_left, .ref a_p0_right])), (a_p0_left, .inr (5, [.ref a_p0_left_limbs, .int p0_left_size])), (a_p0_left_limbs, .inl (cJ, 160, .inr (.inl p0_left_limbs))), (a_p1, .inr (9, [.int p1_kind, .int p1_minus, .long p1_m, .int p1_e, .int p1_narrowBelow]))] H → va_D A [(a_p0, .inr (2, [.ref a_p0_left, .ref a_p0_right])), (a_p0_left, .inr (5, [.ref a_p0_left_limbs, .int p0_left_size])), (a_p0_left_limbs, .inl (cJ, 160, .inr (.inl p0_left_limbs))), (a_p1, .inr (9, [.int p1_kind, .int p1_minus, .long p1_m, .int p1_e, .int p1_narrowBelow]))] → va_S A s.heap H locs → lv_has ls 6 [(2, .int v2)] → W p l e (rmz 5 135) s m ar below meth c H locs 0 0 Q (F0 m 31 ls []) := by
    intro v2 p0_left_size p0_left_limbs H locs ls hf hP hD hS hl
    unfold f_X0_squareRoot_B31 at hf
    refine lv_iload_n hx hb dX0_squareRoot_31 rfl (lv_at hl 0 rfl) ?_
    obtain ⟨u1, hu2, hf⟩ := bdE hf
    refine cS_L (ws' := [(a_p0, .inr (2, [.ref a_p0_left, .ref a_p0_right])), (a_p0_left, .inr (5, [.ref a_p0_left_limbs, .int p0_left_size])), (a_p0_left_limbs, .inl (cJ, 160, .inr (.inl p0_left_limbs))), (a_p1, .inr (9, [.int p1_kind, .int p1_minus, .long p1_m, .int p1_e, .int p1_narrowBelow]))]) (rest := []) S hK hN hA hP hD hS (c_X2_none l D cI cJ  v2  u1 hu2) mwX2_none msX2_none kmX0_24 [] rfl (by decide) rfl rfl rfl ⟨Nat.le_of_ble_eq_true rfl, Nat.le_of_ble_eq_true rfl⟩ ⟨Nat.zero_le _, Nat.zero_le _⟩ hl.1 rfl rfl (Nat.le_of_ble_eq_true rfl) dX0_squareRoot_32 (fun H locs hP hD hS => ?_)
    exact hret _ (opE hf) H locs ls 35 dX0_squareRoot_35 hP hD hS
  have keyB80 : ∀ (v2 : Int32) (v3 : Int32) (s0 : Int32) (p0_left_size : Int32) (p0_left_limbs : (Nat → Int64)) (H : Heap) (locs : List Loc) (ls : Array Slot), f_X0_squareRoot_B80 p1_kind p1_minus p1_m p1_e v2 v3 s0 p0_left_size p0_left_limbs = some u → va_P D vwCl [(a_p0, .inr (2, [.ref a_p0_left, .ref a_p0_right])), (a_p0_left, .inr (5, [.ref a_p0_left_limbs, .int p0_left_size])), (a_p0_left_limbs, .inl (cJ, 160, .inr (.inl p0_left_limbs))), (a_p1, .inr (9, [.int p1_kind, .int p1_minus, .long p1_m, .int p1_e, .int p1_narrowBelow]))] H → va_D A [(a_p0, .inr (2, [.ref a_p0_left, .ref a_p0_right])), (a_p0_left, .inr (5, [.ref a_p0_left_limbs, .int p0_left_size])), (a_p0_left_limbs, .inl (cJ, 160, .inr (.inl p0_left_limbs))), (a_p1, .inr (9, [.int p1_kind, .int p1_minus, .long p1_m, .int p1_e, .int p1_narrowBelow]))] → va_S A s.heap H locs → lv_has ls 6 [(0, .ref a_p0), (1, .ref a_p1), (2, .int v2), (3, .int v3)] → W p l e (rmz 5 135) s m ar below meth c H locs 0 0 Q (F0 m 80 ls [.int s0]) := by
    intro v2 v3 s0 p0_left_size p0_left_limbs H locs ls hf hP hD hS hl
    unfold f_X0_squareRoot_B80 at hf
    refine lv_istore (lv' := [(5, .int s0), (0, .ref a_p0), (1, .ref a_p1), (2, .int v2), (3, .int v3)]) hx hb dX0_squareRoot_80 hl (by decide) rfl (fun ls hl => ?_)
    refine lv_aload_n hx hb dX0_squareRoot_82 rfl (lv_at hl 1 rfl) ?_
    refine lv_aload_n hx hb dX0_squareRoot_83 rfl (lv_at hl 2 rfl) ?_
    refine va_get (D := D) (ci := 9) (v := .long p1_m) (C := RX8) (T := TX8) (N := 5) hx hb hts uwX8 hown hK hP 3 rfl rfl 2 (by decide) (hts _ kfX0_38) (fun _ h9 => h9) rfl dX0_squareRoot_84 ?_
    refine lv_iload hx hb dX0_squareRoot_87 (lv_at hl 0 rfl) ?_
    refine lv_lshl (v := lsh p1_m s0) hx hb dX0_squareRoot_89 rfl ?_
    refine lv_aload_n hx hb dX0_squareRoot_90 rfl (lv_at hl 2 rfl) ?_
    refine va_get (D := D) (ci := 9) (v := .int p1_e) (C := RX8) (T := TX8) (N := 5) hx hb hts uwX8 hown hK hP 3 rfl rfl 3 (by decide) (hts _ kfX0_48) (fun _ h9 => h9) rfl dX0_squareRoot_91 ?_
    refine lv_iload hx hb dX0_squareRoot_94 (lv_at hl 0 rfl) ?_
    refine lv_isub hx hb dX0_squareRoot_96 ?_
    refine lv_iload_n hx hb dX0_squareRoot_97 rfl (lv_at hl 3 rfl) ?_
    refine lv_iload_n hx hb dX0_squareRoot_98 rfl (lv_at hl 4 rfl) ?_
    obtain ⟨u5, hu6, hf⟩ := bdE hf
    refine cV_L (ws' := [(a_p0, .inr (2, [.ref a_p0_left, .ref a_p0_right])), (a_p0_left, .inr (5, [.ref a_p0_left_limbs, .int u5.2.1])), (a_p0_left_limbs, .inl (cJ, 160, .inr (.inl u5.2.2))), (a_p1, .inr (9, [.int p1_kind, .int p1_minus, .long p1_m, .int p1_e, .int p1_narrowBelow]))]) (rest := []) S hK hN hA hP hD hS (c_X0_rootOf l D cI cJ a_p0 a_p0_left a_p0_right a_p0_left_limbs (lsh p1_m s0) (p1_e - s0) v2 v3 p0_left_size p0_left_limbs u5 hu6) mwX0_rootOf miX0_rootOf kmX0_80 [0, 1, 2] rfl (by decide) rfl rfl rfl 0 rfl rfl ⟨Nat.le_of_ble_eq_true rfl, Nat.le_of_ble_eq_true rfl⟩ ⟨Nat.zero_le _, Nat.zero_le _⟩ hl.1 rfl rfl (Nat.le_of_ble_eq_true rfl) dX0_squareRoot_99 (fun H locs hP hD hS => ?_)
    exact hret _ (opE hf) H locs ls 102 dX0_squareRoot_102 hP hD hS
  unfold f_X0_squareRoot at hf
  refine lv_aload_n hx hb dX0_squareRoot_0 rfl (lv_at hl 1 rfl) ?_
  refine va_get (D := D) (ci := 9) (v := .int p1_kind) (C := RX8) (T := TX8) (N := 5) hx hb hts uwX8 hown hK hP 3 rfl rfl 0 (by decide) (hts _ kfX0_18) (fun _ h9 => h9) rfl dX0_squareRoot_1 ?_
  refine lv_if_ne (tgt := 16) hx hb dX0_squareRoot_4 (by decide) (fun hc15 => ?_) (fun hc15 => ?_)
  · have hf := ifF hc15 hf
    refine lv_aload_n hx hb dX0_squareRoot_16 rfl (lv_at hl 1 rfl) ?_
    refine va_get (D := D) (ci := 9) (v := .int p1_kind) (C := RX8) (T := TX8) (N := 5) hx hb hts uwX8 hown hK hP 3 rfl rfl 0 (by decide) (hts _ kfX0_18) (fun _ h9 => h9) rfl dX0_squareRoot_17 ?_
    refine lv_iconst (v := 4) hx hb dX0_squareRoot_20 (by decide) ?_
    refine lv_icmp_eq (tgt := 31) hx hb dX0_squareRoot_21 (by decide) (fun hc12 => ?_) (fun hc12 => ?_)
    · have hf := ifT hc12 hf
      exact keyB31 p2 p0_left_size p0_left_limbs H locs ls hf hP hD hS (lv_sub hl [2] rfl)
    · have hf := ifF hc12 hf
      refine lv_aload_n hx hb dX0_squareRoot_24 rfl (lv_at hl 1 rfl) ?_
      refine va_get (D := D) (ci := 9) (v := .int p1_minus) (C := RX8) (T := TX8) (N := 5) hx hb hts uwX8 hown hK hP 3 rfl rfl 1 (by decide) (hts _ kfX0_30) (fun _ h9 => h9) rfl dX0_squareRoot_25 ?_
      refine lv_if_eq (tgt := 36) hx hb dX0_squareRoot_28 (by decide) (fun hc11 => ?_) (fun hc11 => ?_)
      · have hf := ifT hc11 hf
        refine lv_aload_n hx hb dX0_squareRoot_36 rfl (lv_at hl 1 rfl) ?_
        refine va_get (D := D) (ci := 9) (v := .int p1_kind) (C := RX8) (T := TX8) (N := 5) hx hb hts uwX8 hown hK hP 3 rfl rfl 0 (by decide) (hts _ kfX0_18) (fun _ h9 => h9) rfl dX0_squareRoot_37 ?_
        refine lv_iconst (v := 3) hx hb dX0_squareRoot_40 (by decide) ?_
        refine lv_icmp_ne (tgt := 50) hx hb dX0_squareRoot_41 (by decide) (fun hc10 => ?_) (fun hc10 => ?_)
        · have hf := ifF hc10 hf
          refine lv_aload_n hx hb dX0_squareRoot_50 rfl (lv_at hl 1 rfl) ?_
          refine va_get (D := D) (ci := 9) (v := .long p1_m) (C := RX8) (T := TX8) (N := 5) hx hb hts uwX8 hown hK hP 3 rfl rfl 2 (by decide) (hts _ kfX0_38) (fun _ h9 => h9) rfl dX0_squareRoot_51 ?_
          obtain ⟨u3, hu4, hf⟩ := bdE hf
          refine cS_I (ws' := [(a_p0, .inr (2, [.ref a_p0_left, .ref a_p0_right])), (a_p0_left, .inr (5, [.ref a_p0_left_limbs, .int p0_left_size])), (a_p0_left_limbs, .inl (cJ, 160, .inr (.inl p0_left_limbs))), (a_p1, .inr (9, [.int p1_kind, .int p1_minus, .long p1_m, .int p1_e, .int p1_narrowBelow]))]) (rest := []) S hK hN hA hP hD hS (c_J13_numberOfLeadingZeros_95d88 l D cI cJ  p1_m  u3 hu4) mwJ13_numberOfLeadingZeros_95d88 msJ13_numberOfLeadingZeros_95d88 kmX0_74 [] rfl (by decide) rfl rfl rfl ⟨Nat.le_of_ble_eq_true rfl, Nat.le_of_ble_eq_true rfl⟩ ⟨Nat.zero_le _, Nat.zero_le _⟩ hl.1 rfl rfl (Nat.le_of_ble_eq_true rfl) dX0_squareRoot_54 (fun H locs hP hD hS => ?_)
          refine lv_istore (lv' := [(4, .int u3), (0, .ref a_p0), (1, .ref a_p1), (2, .int p2), (3, .int p3)]) hx hb dX0_squareRoot_57 hl (by decide) rfl (fun ls hl => ?_)
          refine lv_aload_n hx hb dX0_squareRoot_59 rfl (lv_at hl 2 rfl) ?_
          refine va_get (D := D) (ci := 9) (v := .int p1_e) (C := RX8) (T := TX8) (N := 5) hx hb hts uwX8 hown hK hP 3 rfl rfl 3 (by decide) (hts _ kfX0_48) (fun _ h9 => h9) rfl dX0_squareRoot_60 ?_
          refine lv_iload hx hb dX0_squareRoot_63 (lv_at hl 0 rfl) ?_
          refine lv_isub hx hb dX0_squareRoot_65 ?_
          refine lv_iconst (v := 2) hx hb dX0_squareRoot_66 (by decide) ?_
          refine lv_irem hx hb dX0_squareRoot_67 (by decide) ?_
          refine lv_if_ne (tgt := 76) hx hb dX0_squareRoot_68 (by decide) (fun hc7 => ?_) (fun hc7 => ?_)
          · have hf := ifF hc7 hf
            refine lv_iload hx hb dX0_squareRoot_76 (lv_at hl 0 rfl) ?_
            refine lv_iconst (v := 1) hx hb dX0_squareRoot_78 (by decide) ?_
            refine lv_isub hx hb dX0_squareRoot_79 ?_
            exact keyB80 p2 p3 (u3 - (1 : Int32)) p0_left_size p0_left_limbs H locs ls hf hP hD hS (lv_sub hl [1, 2, 3, 4] rfl)
          · have hf := ifT hc7 hf
            refine lv_iload hx hb dX0_squareRoot_71 (lv_at hl 0 rfl) ?_
            refine lv_goto (tgt := 80) hx hb dX0_squareRoot_73 (by decide) ?_
            exact keyB80 p2 p3 u3 p0_left_size p0_left_limbs H locs ls hf hP hD hS (lv_sub hl [1, 2, 3, 4] rfl)
        · have hf := ifT hc10 hf
          refine lv_iload_n hx hb dX0_squareRoot_44 rfl (lv_at hl 2 rfl) ?_
          refine lv_iconst (v := 0) hx hb dX0_squareRoot_45 (by decide) ?_
          obtain ⟨u8, hu9, hf⟩ := bdE hf
          refine cS_L (ws' := [(a_p0, .inr (2, [.ref a_p0_left, .ref a_p0_right])), (a_p0_left, .inr (5, [.ref a_p0_left_limbs, .int p0_left_size])), (a_p0_left_limbs, .inl (cJ, 160, .inr (.inl p0_left_limbs))), (a_p1, .inr (9, [.int p1_kind, .int p1_minus, .long p1_m, .int p1_e, .int p1_narrowBelow]))]) (rest := []) S hK hN hA hP hD hS (c_X2_endless l D cI cJ  p2 (0 : Int32)  u8 hu9) mwX2_endless msX2_endless kmX0_34 [] rfl (by decide) rfl rfl rfl ⟨Nat.le_of_ble_eq_true rfl, Nat.le_of_ble_eq_true rfl⟩ ⟨Nat.zero_le _, Nat.zero_le _⟩ hl.1 rfl rfl (Nat.le_of_ble_eq_true rfl) dX0_squareRoot_46 (fun H locs hP hD hS => ?_)
          exact hret _ (opE hf) H locs ls 49 dX0_squareRoot_49 hP hD hS
      · have hf := ifF hc11 hf
        exact keyB31 p2 p0_left_size p0_left_limbs H locs ls hf hP hD hS (lv_sub hl [2] rfl)
  · have hf := ifT hc15 hf
    refine lv_iload_n hx hb dX0_squareRoot_7 rfl (lv_at hl 2 rfl) ?_
    refine lv_aload_n hx hb dX0_squareRoot_8 rfl (lv_at hl 1 rfl) ?_
    refine va_get (D := D) (ci := 9) (v := .int p1_minus) (C := RX8) (T := TX8) (N := 5) hx hb hts uwX8 hown hK hP 3 rfl rfl 1 (by decide) (hts _ kfX0_30) (fun _ h9 => h9) rfl dX0_squareRoot_9 ?_
    obtain ⟨u13, hu14, hf⟩ := bdE hf
    refine cS_L (ws' := [(a_p0, .inr (2, [.ref a_p0_left, .ref a_p0_right])), (a_p0_left, .inr (5, [.ref a_p0_left_limbs, .int p0_left_size])), (a_p0_left_limbs, .inl (cJ, 160, .inr (.inl p0_left_limbs))), (a_p1, .inr (9, [.int p1_kind, .int p1_minus, .long p1_m, .int p1_e, .int p1_narrowBelow]))]) (rest := []) S hK hN hA hP hD hS (c_X2_nought l D cI cJ  p2 p1_minus  u13 hu14) mwX2_nought msX2_nought kmX0_67 [] rfl (by decide) rfl rfl rfl ⟨Nat.le_of_ble_eq_true rfl, Nat.le_of_ble_eq_true rfl⟩ ⟨Nat.zero_le _, Nat.zero_le _⟩ hl.1 rfl rfl (Nat.le_of_ble_eq_true rfl) dX0_squareRoot_12 (fun H locs hP hD hS => ?_)
    exact hret _ (opE hf) H locs ls 15 dX0_squareRoot_15 hP hD hS
set_option maxRecDepth 100000 in
set_option maxHeartbeats 4000000 in
theorem c_X4_scaleByFives (l : Launch) (D : va_G) (cI cJ : ClassId) (a_p0 a_p0_limbs : Nat) (p1 : Int32) (p0_size : Int32) (p0_limbs : (Nat → Int64)) (u : Int32 × (Nat → Int64)) (hf : f_X4_scaleByFives p1 p0_size p0_limbs = some u) : CtV l yX4_scaleByFives cX4_scaleByFives 5 1 27 [.ref a_p0, .int p1] D cI cJ [(a_p0, .inr (5, [.ref a_p0_limbs, .int p0_size])), (a_p0_limbs, .inl (cJ, 160, .inr (.inl p0_limbs)))] [(a_p0, .inr (5, [.ref a_p0_limbs, .int u.1])), (a_p0_limbs, .inl (cJ, 160, .inr (.inl u.2)))] := by
  refine mkV (own := RX4) rfl (by decide +kernel) (Nat.le_of_ble_eq_true rfl) (lv := [(0, .ref a_p0), (1, .int p1)]) rfl ?_
  intro p e s m below meth c Q A ls ar S hA hK hN hret H locs hP hD hS hl
  obtain ⟨hx, hb, hml, hown, hts⟩ := id S
  have hret : ∀ (w : Int32 × (Nat → Int64)), w = u → ∀ (H : Heap) (locs : List Loc) (ls : Array Slot) (pc : Nat), decode cX4_scaleByFives pc = .ok (.return_, 1) → va_P D vwCl [(a_p0, .inr (5, [.ref a_p0_limbs, .int w.1])), (a_p0_limbs, .inl (cJ, 160, .inr (.inl w.2)))] H → va_D A [(a_p0, .inr (5, [.ref a_p0_limbs, .int w.1])), (a_p0_limbs, .inl (cJ, 160, .inr (.inl w.2)))] → va_S A s.heap H locs → W p l e (rmz 1 27) s m ar below meth c H locs 0 0 Q (F0 m pc ls []) := fun w hw => hw ▸ hret
  have keyB40 : ∀ (v3 : Int64) (p0_size : Int32) (p0_limbs : (Nat → Int64)) (H : Heap) (locs : List Loc) (ls : Array Slot), f_X4_scaleByFives_B40 v3 p0_size p0_limbs = some u → va_P D vwCl [(a_p0, .inr (5, [.ref a_p0_limbs, .int p0_size])), (a_p0_limbs, .inl (cJ, 160, .inr (.inl p0_limbs)))] H → va_D A [(a_p0, .inr (5, [.ref a_p0_limbs, .int p0_size])), (a_p0_limbs, .inl (cJ, 160, .inr (.inl p0_limbs)))] → va_S A s.heap H locs → lv_has ls 5 [(0, .ref a_p0), (3, .long v3)] → W p l e (rmz 1 27) s m ar below meth c H locs 0 0 Q (F0 m 40 ls []) := by
    intro v3 p0_size p0_limbs H locs ls hf hP hD hS hl
    unfold f_X4_scaleByFives_B40 at hf
    refine lv_aload_n hx hb dX4_scaleByFives_40 rfl (lv_at hl 0 rfl) ?_
    refine lv_lload_n hx hb dX4_scaleByFives_41 rfl (lv_at hl 1 rfl) ?_
    refine lv_lconst (v := 0) hx hb dX4_scaleByFives_42 (by decide) ?_
    obtain ⟨u1, hu2, hf⟩ := bdE hf
    refine cV_V (ws' := [(a_p0, .inr (5, [.ref a_p0_limbs, .int u1.1])), (a_p0_limbs, .inl (cJ, 160, .inr (.inl u1.2)))]) (rest := []) S hK hN hA hP hD hS (c_X4_scale l D cI cJ a_p0 a_p0_limbs v3 (0 : Int64) p0_size p0_limbs u1 hu2) mwX4_scale miX4_scale kmX4_24 [0, 1] rfl (by decide) rfl rfl rfl 0 rfl rfl ⟨Nat.le_of_ble_eq_true rfl, Nat.le_of_ble_eq_true rfl⟩ ⟨Nat.zero_le _, Nat.zero_le _⟩ hl.1 rfl rfl (Nat.le_of_ble_eq_true rfl) dX4_scaleByFives_43 (fun H locs hP hD hS => ?_)
    exact hret _ (opE hf) H locs ls 46 dX4_scaleByFives_46 hP hD hS
  have keyL24 : ∀ (n : Nat) (v2 : Int32) (v3 : Int64) (p0_size : Int32) (p0_limbs : (Nat → Int64)) (H : Heap) (locs : List Loc) (ls : Array Slot), f_X4_scaleByFives_L24 n v2 v3 p0_size p0_limbs = some u → va_P D vwCl [(a_p0, .inr (5, [.ref a_p0_limbs, .int p0_size])), (a_p0_limbs, .inl (cJ, 160, .inr (.inl p0_limbs)))] H → va_D A [(a_p0, .inr (5, [.ref a_p0_limbs, .int p0_size])), (a_p0_limbs, .inl (cJ, 160, .inr (.inl p0_limbs)))] → va_S A s.heap H locs → lv_has ls 5 [(0, .ref a_p0), (2, .int v2), (3, .long v3)] → W p l e (rmz 1 27) s m ar below meth c H locs 0 0 Q (F0 m 24 ls []) := by
    intro n
    induction n with
      | zero =>
        intro v2 v3 p0_size p0_limbs H locs ls hf
        cases hf
      | succ n ih =>
        intro v2 v3 p0_size p0_limbs H locs ls hf hP hD hS hl
        rw [f_X4_scaleByFives_L24] at hf
        refine lv_iload_n hx hb dX4_scaleByFives_24 rfl (lv_at hl 1 rfl) ?_
        refine lv_if_le (tgt := 40) hx hb dX4_scaleByFives_25 (by decide) (fun hc3 => ?_) (fun hc3 => ?_)
        · have hf := ifT hc3 hf
          exact keyB40 v3 p0_size p0_limbs H locs ls hf hP hD hS (lv_sub hl [0, 2] rfl)
        · have hf := ifF hc3 hf
          refine lv_lload_n hx hb dX4_scaleByFives_28 rfl (lv_at hl 2 rfl) ?_
          refine lv_ldc2 hx hb hown (hts _ kcX4_28) dX4_scaleByFives_29 ?_
          refine lv_lmul hx hb dX4_scaleByFives_32 ?_
          refine lv_lstore_n (lv' := [(3, .long (v3 * (5 : Int64))), (0, .ref a_p0), (2, .int v2)]) hx hb dX4_scaleByFives_33 rfl hl (by decide) rfl (fun ls hl => ?_)
          refine lv_iinc (v := v2 + (-1 : Int32)) (lv' := [(2, .int (v2 + (-1 : Int32))), (3, .long (v3 * (5 : Int64))), (0, .ref a_p0)]) hx hb dX4_scaleByFives_34 hl (k := 2) rfl (by rfl) (by decide) rfl (fun ls hl => ?_)
          refine lv_goto (tgt := 24) hx hb dX4_scaleByFives_37 (by decide) ?_
          exact ih (v2 + (-1 : Int32)) (v3 * (5 : Int64)) p0_size p0_limbs H locs ls hf hP hD hS (lv_sub hl [2, 0, 1] rfl)
  have keyL2 : ∀ (n : Nat) (v2 : Int32) (p0_size : Int32) (p0_limbs : (Nat → Int64)) (H : Heap) (locs : List Loc) (ls : Array Slot), f_X4_scaleByFives_L2 n v2 p0_size p0_limbs = some u → va_P D vwCl [(a_p0, .inr (5, [.ref a_p0_limbs, .int p0_size])), (a_p0_limbs, .inl (cJ, 160, .inr (.inl p0_limbs)))] H → va_D A [(a_p0, .inr (5, [.ref a_p0_limbs, .int p0_size])), (a_p0_limbs, .inl (cJ, 160, .inr (.inl p0_limbs)))] → va_S A s.heap H locs → lv_has ls 5 [(0, .ref a_p0), (2, .int v2)] → W p l e (rmz 1 27) s m ar below meth c H locs 0 0 Q (F0 m 2 ls []) := by
    intro n
    induction n with
      | zero =>
        intro v2 p0_size p0_limbs H locs ls hf
        cases hf
      | succ n ih =>
        intro v2 p0_size p0_limbs H locs ls hf hP hD hS hl
        rw [f_X4_scaleByFives_L2] at hf
        refine lv_iload_n hx hb dX4_scaleByFives_2 rfl (lv_at hl 1 rfl) ?_
        refine lv_bipush (v := 13) hx hb dX4_scaleByFives_3 (by decide) ?_
        refine lv_icmp_lt (tgt := 22) hx hb dX4_scaleByFives_5 (by decide) (fun hc6 => ?_) (fun hc6 => ?_)
        · have hf := ifT hc6 hf
          refine lv_lconst (v := 1) hx hb dX4_scaleByFives_22 (by decide) ?_
          refine lv_lstore_n (lv' := [(3, .long (1 : Int64)), (0, .ref a_p0), (2, .int v2)]) hx hb dX4_scaleByFives_23 rfl hl (by decide) rfl (fun ls hl => ?_)
          exact keyL24 FU v2 (1 : Int64) p0_size p0_limbs H locs ls hf hP hD hS (lv_sub hl [1, 2, 0] rfl)
        · have hf := ifF hc6 hf
          refine lv_aload_n hx hb dX4_scaleByFives_8 rfl (lv_at hl 0 rfl) ?_
          refine lv_ldc2 hx hb hown (hts _ kcX4_22) dX4_scaleByFives_9 ?_
          refine lv_lconst (v := 0) hx hb dX4_scaleByFives_12 (by decide) ?_
          obtain ⟨u4, hu5, hf⟩ := bdE hf
          refine cV_V (ws' := [(a_p0, .inr (5, [.ref a_p0_limbs, .int u4.1])), (a_p0_limbs, .inl (cJ, 160, .inr (.inl u4.2)))]) (rest := []) S hK hN hA hP hD hS (c_X4_scale l D cI cJ a_p0 a_p0_limbs (1220703125 : Int64) (0 : Int64) p0_size p0_limbs u4 hu5) mwX4_scale miX4_scale kmX4_24 [0, 1] rfl (by decide) rfl rfl rfl 0 rfl rfl ⟨Nat.le_of_ble_eq_true rfl, Nat.le_of_ble_eq_true rfl⟩ ⟨Nat.zero_le _, Nat.zero_le _⟩ hl.1 rfl rfl (Nat.le_of_ble_eq_true rfl) dX4_scaleByFives_13 (fun H locs hP hD hS => ?_)
          refine lv_iinc (v := v2 + (-13 : Int32)) (lv' := [(2, .int (v2 + (-13 : Int32))), (0, .ref a_p0)]) hx hb dX4_scaleByFives_16 hl (k := 1) rfl (by rfl) (by decide) rfl (fun ls hl => ?_)
          refine lv_goto (tgt := 2) hx hb dX4_scaleByFives_19 (by decide) ?_
          exact ih (v2 + (-13 : Int32)) u4.1 u4.2 H locs ls hf hP hD hS (lv_sub hl [1, 0] rfl)
  unfold f_X4_scaleByFives at hf
  refine lv_iload_n hx hb dX4_scaleByFives_0 rfl (lv_at hl 1 rfl) ?_
  refine lv_istore_n (lv' := [(2, .int p1), (0, .ref a_p0), (1, .int p1)]) hx hb dX4_scaleByFives_1 rfl hl (by decide) rfl (fun ls hl => ?_)
  exact keyL2 FU p1 p0_size p0_limbs H locs ls hf hP hD hS (lv_sub hl [1, 0] rfl)
set_option maxRecDepth 100000 in
set_option maxHeartbeats 4000000 in
theorem c_X7_at (l : Launch) (D : va_G) (cI cJ : ClassId) (a_p0 a_p0_bytes : Nat) (p1 : Int32) (p0_length : Int32) (p0_minus : Int32) (p0_kind : Int32) (p0_sixteens : Int32) (p0_behindPoint : Int32) (p0_counting : Int32) (p0_power : Int32) (p0_begin : Int32) (p0_end : Int32) (p0_bytes : (Nat → Int32)) (u : Int32) (hf : f_X7_at p0_length p0_bytes p1 = some u) : CtI l yX7_at cX7_at 2 0 0 .int [.ref a_p0, .int p1] D cI cJ [(a_p0, .inr (8, [.ref a_p0_bytes, .int p0_length, .int p0_minus, .int p0_kind, .int p0_sixteens, .int p0_behindPoint, .int p0_counting, .int p0_power, .int p0_begin, .int p0_end])), (a_p0_bytes, .inl (cI, 1200, .inl p0_bytes))] [(a_p0, .inr (8, [.ref a_p0_bytes, .int p0_length, .int p0_minus, .int p0_kind, .int p0_sixteens, .int p0_behindPoint, .int p0_counting, .int p0_power, .int p0_begin, .int p0_end])), (a_p0_bytes, .inl (cI, 1200, .inl p0_bytes))] u := by
  refine mkI (own := RX7) rfl (by decide +kernel) (Nat.le_of_ble_eq_true rfl) (lv := [(0, .ref a_p0), (1, .int p1)]) rfl ?_
  intro p e s m below meth c Q A ls ar S hA hK hN hret H locs hP hD hS hl
  obtain ⟨hx, hb, hml, hown, hts⟩ := id S
  have hret : ∀ (w : Int32), w = u → ∀ (H : Heap) (locs : List Loc) (ls : Array Slot) (pc : Nat), decode cX7_at pc = .ok (.ireturn, 1) → va_P D vwCl [(a_p0, .inr (8, [.ref a_p0_bytes, .int p0_length, .int p0_minus, .int p0_kind, .int p0_sixteens, .int p0_behindPoint, .int p0_counting, .int p0_power, .int p0_begin, .int p0_end])), (a_p0_bytes, .inl (cI, 1200, .inl p0_bytes))] H → va_D A [(a_p0, .inr (8, [.ref a_p0_bytes, .int p0_length, .int p0_minus, .int p0_kind, .int p0_sixteens, .int p0_behindPoint, .int p0_counting, .int p0_power, .int p0_begin, .int p0_end])), (a_p0_bytes, .inl (cI, 1200, .inl p0_bytes))] → va_S A s.heap H locs → W p l e (rmz 0 0) s m ar below meth c H locs 0 0 Q (F0 m pc ls [.int w]) := fun w hw => hw ▸ hret
  unfold f_X7_at at hf
  refine lv_iload_n hx hb dX7_at_0 rfl (lv_at hl 1 rfl) ?_
  refine lv_if_lt (tgt := 28) hx hb dX7_at_1 (by decide) (fun hc4 => ?_) (fun hc4 => ?_)
  · have hf := ifT hc4 hf
    refine lv_iconst (v := -1) hx hb dX7_at_28 (by decide) ?_
    exact hret _ (opE hf) H locs ls 29 dX7_at_29 hP hD hS
  · have hf := ifF hc4 hf
    refine lv_iload_n hx hb dX7_at_4 rfl (lv_at hl 1 rfl) ?_
    refine lv_aload_n hx hb dX7_at_5 rfl (lv_at hl 0 rfl) ?_
    refine va_get (D := D) (ci := 8) (v := .int p0_length) (C := RX7) (T := TX7) (N := 10) hx hb hts uwX7 hown hK hP 0 rfl rfl 1 (by decide) (hts _ kfX7_15) (fun _ h9 => h9) rfl dX7_at_6 ?_
    refine lv_icmp_ge (tgt := 28) hx hb dX7_at_9 (by decide) (fun hc3 => ?_) (fun hc3 => ?_)
    · have hf := ifT hc3 hf
      refine lv_iconst (v := -1) hx hb dX7_at_28 (by decide) ?_
      exact hret _ (opE hf) H locs ls 29 dX7_at_29 hP hD hS
    · have hf := ifF hc3 hf
      refine lv_iload_n hx hb dX7_at_12 rfl (lv_at hl 1 rfl) ?_
      refine lv_sipush (v := 1200) hx hb dX7_at_13 (by decide) ?_
      refine lv_icmp_ge (tgt := 28) hx hb dX7_at_16 (by decide) (fun hc2 => ?_) (fun hc2 => ?_)
      · have hf := ifT hc2 hf
        refine lv_iconst (v := -1) hx hb dX7_at_28 (by decide) ?_
        exact hret _ (opE hf) H locs ls 29 dX7_at_29 hP hD hS
      · have hf := ifF hc2 hf
        refine lv_aload_n hx hb dX7_at_19 rfl (lv_at hl 0 rfl) ?_
        refine va_get (D := D) (ci := 8) (v := .ref a_p0_bytes) (C := RX7) (T := TX7) (N := 10) hx hb hts uwX7 hown hK hP 0 rfl rfl 0 (by decide) (hts _ kfX7_11) (fun _ h9 => h9) rfl dX7_at_20 ?_
        refine lv_iload_n hx hb dX7_at_23 rfl (lv_at hl 1 rfl) ?_
        obtain ⟨hi1, hf⟩ := gdE hf
        refine va_iald hx hb hK hP 1 0 rfl rfl hi1 dX7_at_24 ?_
        refine lv_goto (tgt := 29) hx hb dX7_at_25 (by decide) ?_
        exact hret _ (opE hf) H locs ls 29 dX7_at_29 hP hD hS
set_option maxRecDepth 100000 in
set_option maxHeartbeats 4000000 in
theorem c_X7_isTenFigure (l : Launch) (D : va_G) (cI cJ : ClassId) (p0 : Int32)  (u : Int32) (hf : f_X7_isTenFigure p0 = some u) : CtI l yX7_isTenFigure cX7_isTenFigure 1 0 0 .boolean [.int p0] D cI cJ [] [] u := by
  refine mkZ (own := RX7) rfl (by decide +kernel) (Nat.le_of_ble_eq_true rfl) (lv := [(0, .int p0)]) rfl ?_
  intro p e s m below meth c Q A ls ar S hA hK hN hret H locs hP hD hS hl
  obtain ⟨hx, hb, hml, hown, hts⟩ := id S
  have hret : ∀ (w : Int32), w = u → ∀ (H : Heap) (locs : List Loc) (ls : Array Slot) (pc : Nat), decode cX7_isTenFigure pc = .ok (.ireturn, 1) → (w = 0 ∨ w = 1) → va_P D vwCl [] H → va_D A [] → va_S A s.heap H locs → W p l e (rmz 0 0) s m ar below meth c H locs 0 0 Q (F0 m pc ls [.int w]) := fun w hw => hw ▸ hret
  unfold f_X7_isTenFigure at hf
  refine lv_iload_n hx hb dX7_isTenFigure_0 rfl (lv_at hl 0 rfl) ?_
  refine lv_bipush (v := 48) hx hb dX7_isTenFigure_1 (by decide) ?_
  refine lv_icmp_lt (tgt := 16) hx hb dX7_isTenFigure_3 (by decide) (fun hc2 => ?_) (fun hc2 => ?_)
  · have hf := ifT hc2 hf
    refine lv_iconst (v := 0) hx hb dX7_isTenFigure_16 (by decide) ?_
    exact hret _ (opE hf) H locs ls 17 dX7_isTenFigure_17 (Or.inl rfl) hP hD hS
  · have hf := ifF hc2 hf
    refine lv_iload_n hx hb dX7_isTenFigure_6 rfl (lv_at hl 0 rfl) ?_
    refine lv_bipush (v := 57) hx hb dX7_isTenFigure_7 (by decide) ?_
    refine lv_icmp_gt (tgt := 16) hx hb dX7_isTenFigure_9 (by decide) (fun hc1 => ?_) (fun hc1 => ?_)
    · have hf := ifT hc1 hf
      refine lv_iconst (v := 0) hx hb dX7_isTenFigure_16 (by decide) ?_
      exact hret _ (opE hf) H locs ls 17 dX7_isTenFigure_17 (Or.inl rfl) hP hD hS
    · have hf := ifF hc1 hf
      refine lv_iconst (v := 1) hx hb dX7_isTenFigure_12 (by decide) ?_
      refine lv_goto (tgt := 17) hx hb dX7_isTenFigure_13 (by decide) ?_
      exact hret _ (opE hf) H locs ls 17 dX7_isTenFigure_17 (Or.inr rfl) hP hD hS
set_option maxRecDepth 100000 in
set_option maxHeartbeats 4000000 in
theorem c_X7_figureAt (l : Launch) (D : va_G) (cI cJ : ClassId) (a_p0 a_p0_bytes : Nat) (p1 : Int32) (p0_length : Int32) (p0_minus : Int32) (p0_kind : Int32) (p0_sixteens : Int32) (p0_behindPoint : Int32) (p0_counting : Int32) (p0_power : Int32) (p0_begin : Int32) (p0_end : Int32) (p0_bytes : (Nat → Int32)) (u : Int32) (hf : f_X7_figureAt p0_length p0_sixteens p0_bytes p1 = some u) : CtI l yX7_figureAt cX7_figureAt 3 1 21 .int [.ref a_p0, .int p1] D cI cJ [(a_p0, .inr (8, [.ref a_p0_bytes, .int p0_length, .int p0_minus, .int p0_kind, .int p0_sixteens, .int p0_behindPoint, .int p0_counting, .int p0_power, .int p0_begin, .int p0_end])), (a_p0_bytes, .inl (cI, 1200, .inl p0_bytes))] [(a_p0, .inr (8, [.ref a_p0_bytes, .int p0_length, .int p0_minus, .int p0_kind, .int p0_sixteens, .int p0_behindPoint, .int p0_counting, .int p0_power, .int p0_begin, .int p0_end])), (a_p0_bytes, .inl (cI, 1200, .inl p0_bytes))] u := by
  refine mkI (own := RX7) rfl (by decide +kernel) (Nat.le_of_ble_eq_true rfl) (lv := [(0, .ref a_p0), (1, .int p1)]) rfl ?_
  intro p e s m below meth c Q A ls ar S hA hK hN hret H locs hP hD hS hl
  obtain ⟨hx, hb, hml, hown, hts⟩ := id S
  have hret : ∀ (w : Int32), w = u → ∀ (H : Heap) (locs : List Loc) (ls : Array Slot) (pc : Nat), decode cX7_figureAt pc = .ok (.ireturn, 1) → va_P D vwCl [(a_p0, .inr (8, [.ref a_p0_bytes, .int p0_length, .int p0_minus, .int p0_kind, .int p0_sixteens, .int p0_behindPoint, .int p0_counting, .int p0_power, .int p0_begin, .int p0_end])), (a_p0_bytes, .inl (cI, 1200, .inl p0_bytes))] H → va_D A [(a_p0, .inr (8, [.ref a_p0_bytes, .int p0_length, .int p0_minus, .int p0_kind, .int p0_sixteens, .int p0_behindPoint, .int p0_counting, .int p0_power, .int p0_begin, .int p0_end])), (a_p0_bytes, .inl (cI, 1200, .inl p0_bytes))] → va_S A s.heap H locs → W p l e (rmz 1 21) s m ar below meth c H locs 0 0 Q (F0 m pc ls [.int w]) := fun w hw => hw ▸ hret
  unfold f_X7_figureAt at hf
  refine lv_aload_n hx hb dX7_figureAt_0 rfl (lv_at hl 0 rfl) ?_
  refine lv_iload_n hx hb dX7_figureAt_1 rfl (lv_at hl 1 rfl) ?_
  obtain ⟨u1, hu2, hf⟩ := bdE hf
  refine cV_I (ws' := [(a_p0, .inr (8, [.ref a_p0_bytes, .int p0_length, .int p0_minus, .int p0_kind, .int p0_sixteens, .int p0_behindPoint, .int p0_counting, .int p0_power, .int p0_begin, .int p0_end])), (a_p0_bytes, .inl (cI, 1200, .inl p0_bytes))]) (rest := []) S hK hN hA hP hD hS (c_X7_at l D cI cJ a_p0 a_p0_bytes p1 p0_length p0_minus p0_kind p0_sixteens p0_behindPoint p0_counting p0_power p0_begin p0_end p0_bytes u1 hu2) mwX7_at miX7_at kmX7_19 [0, 1] rfl (by decide) rfl rfl rfl 0 rfl rfl ⟨Nat.le_of_ble_eq_true rfl, Nat.le_of_ble_eq_true rfl⟩ ⟨Nat.zero_le _, Nat.zero_le _⟩ hl.1 rfl rfl (Nat.le_of_ble_eq_true rfl) dX7_figureAt_2 (fun H locs hP hD hS => ?_)
  refine lv_istore_n (lv' := [(2, .int u1), (0, .ref a_p0), (1, .int p1)]) hx hb dX7_figureAt_5 rfl hl (by decide) rfl (fun ls hl => ?_)
  refine lv_iload_n hx hb dX7_figureAt_6 rfl (lv_at hl 0 rfl) ?_
  obtain ⟨u3, hu4, hf⟩ := bdE hf
  refine cS_I (ws' := [(a_p0, .inr (8, [.ref a_p0_bytes, .int p0_length, .int p0_minus, .int p0_kind, .int p0_sixteens, .int p0_behindPoint, .int p0_counting, .int p0_power, .int p0_begin, .int p0_end])), (a_p0_bytes, .inl (cI, 1200, .inl p0_bytes))]) (rest := []) S hK hN hA hP hD hS (c_X7_isTenFigure l D cI cJ  u1  u3 hu4) mwX7_isTenFigure msX7_isTenFigure kmX7_90 [] rfl (by decide) rfl rfl rfl ⟨Nat.le_of_ble_eq_true rfl, Nat.le_of_ble_eq_true rfl⟩ ⟨Nat.zero_le _, Nat.zero_le _⟩ hl.1 rfl rfl (Nat.le_of_ble_eq_true rfl) dX7_figureAt_7 (fun H locs hP hD hS => ?_)
  refine lv_if_eq (tgt := 18) hx hb dX7_figureAt_10 (by decide) (fun hc8 => ?_) (fun hc8 => ?_)
  · have hf := ifT hc8 hf
    refine lv_aload_n hx hb dX7_figureAt_18 rfl (lv_at hl 1 rfl) ?_
    refine va_get (D := D) (ci := 8) (v := .int p0_sixteens) (C := RX7) (T := TX7) (N := 10) hx hb hts uwX7 hown hK hP 0 rfl rfl 4 (by decide) (hts _ kfX7_41) (fun _ h9 => h9) rfl dX7_figureAt_19 ?_
    refine lv_if_eq (tgt := 47) hx hb dX7_figureAt_22 (by decide) (fun hc7 => ?_) (fun hc7 => ?_)
    · have hf := ifT hc7 hf
      refine lv_iconst (v := -1) hx hb dX7_figureAt_47 (by decide) ?_
      exact hret _ (opE hf) H locs ls 48 dX7_figureAt_48 hP hD hS
    · have hf := ifF hc7 hf
      refine lv_iload_n hx hb dX7_figureAt_25 rfl (lv_at hl 0 rfl) ?_
      refine lv_bipush (v := 97) hx hb dX7_figureAt_26 (by decide) ?_
      refine lv_icmp_lt (tgt := 47) hx hb dX7_figureAt_28 (by decide) (fun hc6 => ?_) (fun hc6 => ?_)
      · have hf := ifT hc6 hf
        refine lv_iconst (v := -1) hx hb dX7_figureAt_47 (by decide) ?_
        exact hret _ (opE hf) H locs ls 48 dX7_figureAt_48 hP hD hS
      · have hf := ifF hc6 hf
        refine lv_iload_n hx hb dX7_figureAt_31 rfl (lv_at hl 0 rfl) ?_
        refine lv_bipush (v := 102) hx hb dX7_figureAt_32 (by decide) ?_
        refine lv_icmp_gt (tgt := 47) hx hb dX7_figureAt_34 (by decide) (fun hc5 => ?_) (fun hc5 => ?_)
        · have hf := ifT hc5 hf
          refine lv_iconst (v := -1) hx hb dX7_figureAt_47 (by decide) ?_
          exact hret _ (opE hf) H locs ls 48 dX7_figureAt_48 hP hD hS
        · have hf := ifF hc5 hf
          refine lv_iload_n hx hb dX7_figureAt_37 rfl (lv_at hl 0 rfl) ?_
          refine lv_bipush (v := 97) hx hb dX7_figureAt_38 (by decide) ?_
          refine lv_isub hx hb dX7_figureAt_40 ?_
          refine lv_bipush (v := 10) hx hb dX7_figureAt_41 (by decide) ?_
          refine lv_iadd hx hb dX7_figureAt_43 ?_
          refine lv_goto (tgt := 48) hx hb dX7_figureAt_44 (by decide) ?_
          exact hret _ (opE hf) H locs ls 48 dX7_figureAt_48 hP hD hS
  · have hf := ifF hc8 hf
    refine lv_iload_n hx hb dX7_figureAt_13 rfl (lv_at hl 0 rfl) ?_
    refine lv_bipush (v := 48) hx hb dX7_figureAt_14 (by decide) ?_
    refine lv_isub hx hb dX7_figureAt_16 ?_
    exact hret _ (opE hf) H locs ls 17 dX7_figureAt_17 hP hD hS
set_option maxRecDepth 100000 in
set_option maxHeartbeats 4000000 in
theorem c_X7_gather (l : Launch) (D : va_G) (cI cJ : ClassId) (a_p0 a_p0_bytes a_p1 a_p1_limbs : Nat) (p0_length : Int32) (p0_minus : Int32) (p0_kind : Int32) (p0_sixteens : Int32) (p0_behindPoint : Int32) (p0_counting : Int32) (p0_power : Int32) (p0_begin : Int32) (p0_end : Int32) (p0_bytes : (Nat → Int32)) (p1_size : Int32) (p1_limbs : (Nat → Int64)) (u : Int32 × (Nat → Int64)) (hf : f_X7_gather p0_length p0_sixteens p0_begin p0_end p0_bytes p1_size p1_limbs = some u) : CtV l yX7_gather cX7_gather 9 2 43 [.ref a_p0, .ref a_p1] D cI cJ [(a_p0, .inr (8, [.ref a_p0_bytes, .int p0_length, .int p0_minus, .int p0_kind, .int p0_sixteens, .int p0_behindPoint, .int p0_counting, .int p0_power, .int p0_begin, .int p0_end])), (a_p0_bytes, .inl (cI, 1200, .inl p0_bytes)), (a_p1, .inr (5, [.ref a_p1_limbs, .int p1_size])), (a_p1_limbs, .inl (cJ, 160, .inr (.inl p1_limbs)))] [(a_p0, .inr (8, [.ref a_p0_bytes, .int p0_length, .int p0_minus, .int p0_kind, .int p0_sixteens, .int p0_behindPoint, .int p0_counting, .int p0_power, .int p0_begin, .int p0_end])), (a_p0_bytes, .inl (cI, 1200, .inl p0_bytes)), (a_p1, .inr (5, [.ref a_p1_limbs, .int u.1])), (a_p1_limbs, .inl (cJ, 160, .inr (.inl u.2)))] := by
  refine mkV (own := RX7) rfl (by decide +kernel) (Nat.le_of_ble_eq_true rfl) (lv := [(0, .ref a_p0), (1, .ref a_p1)]) rfl ?_
  intro p e s m below meth c Q A ls ar S hA hK hN hret H locs hP hD hS hl
  obtain ⟨hx, hb, hml, hown, hts⟩ := id S
  have hret : ∀ (w : Int32 × (Nat → Int64)), w = u → ∀ (H : Heap) (locs : List Loc) (ls : Array Slot) (pc : Nat), decode cX7_gather pc = .ok (.return_, 1) → va_P D vwCl [(a_p0, .inr (8, [.ref a_p0_bytes, .int p0_length, .int p0_minus, .int p0_kind, .int p0_sixteens, .int p0_behindPoint, .int p0_counting, .int p0_power, .int p0_begin, .int p0_end])), (a_p0_bytes, .inl (cI, 1200, .inl p0_bytes)), (a_p1, .inr (5, [.ref a_p1_limbs, .int w.1])), (a_p1_limbs, .inl (cJ, 160, .inr (.inl w.2)))] H → va_D A [(a_p0, .inr (8, [.ref a_p0_bytes, .int p0_length, .int p0_minus, .int p0_kind, .int p0_sixteens, .int p0_behindPoint, .int p0_counting, .int p0_power, .int p0_begin, .int p0_end])), (a_p0_bytes, .inl (cI, 1200, .inl p0_bytes)), (a_p1, .inr (5, [.ref a_p1_limbs, .int w.1])), (a_p1_limbs, .inl (cJ, 160, .inr (.inl w.2)))] → va_S A s.heap H locs → W p l e (rmz 2 43) s m ar below meth c H locs 0 0 Q (F0 m pc ls []) := fun w hw => hw ▸ hret
  have keyB96 : ∀ (v3 : Int64) (v5 : Int64) (p1_size : Int32) (p1_limbs : (Nat → Int64)) (H : Heap) (locs : List Loc) (ls : Array Slot), f_X7_gather_B96 p0_length p0_sixteens p0_begin p0_end p0_bytes v3 v5 p1_size p1_limbs = some u → va_P D vwCl [(a_p0, .inr (8, [.ref a_p0_bytes, .int p0_length, .int p0_minus, .int p0_kind, .int p0_sixteens, .int p0_behindPoint, .int p0_counting, .int p0_power, .int p0_begin, .int p0_end])), (a_p0_bytes, .inl (cI, 1200, .inl p0_bytes)), (a_p1, .inr (5, [.ref a_p1_limbs, .int p1_size])), (a_p1_limbs, .inl (cJ, 160, .inr (.inl p1_limbs)))] H → va_D A [(a_p0, .inr (8, [.ref a_p0_bytes, .int p0_length, .int p0_minus, .int p0_kind, .int p0_sixteens, .int p0_behindPoint, .int p0_counting, .int p0_power, .int p0_begin, .int p0_end])), (a_p0_bytes, .inl (cI, 1200, .inl p0_bytes)), (a_p1, .inr (5, [.ref a_p1_limbs, .int p1_size])), (a_p1_limbs, .inl (cJ, 160, .inr (.inl p1_limbs)))] → va_S A s.heap H locs → lv_has ls 9 [(1, .ref a_p1), (3, .long v3), (5, .long v5)] → W p l e (rmz 2 43) s m ar below meth c H locs 0 0 Q (F0 m 96 ls []) := by
    intro v3 v5 p1_size p1_limbs H locs ls hf hP hD hS hl
    unfold f_X7_gather_B96 at hf
    refine lv_aload_n hx hb dX7_gather_96 rfl (lv_at hl 0 rfl) ?_
    refine lv_lload hx hb dX7_gather_97 (lv_at hl 2 rfl) ?_
    refine lv_lload_n hx hb dX7_gather_99 rfl (lv_at hl 1 rfl) ?_
    obtain ⟨u3, hu4, hf⟩ := bdE hf
    refine cV_V (ws' := [(a_p0, .inr (8, [.ref a_p0_bytes, .int p0_length, .int p0_minus, .int p0_kind, .int p0_sixteens, .int p0_behindPoint, .int p0_counting, .int p0_power, .int p0_begin, .int p0_end])), (a_p0_bytes, .inl (cI, 1200, .inl p0_bytes)), (a_p1, .inr (5, [.ref a_p1_limbs, .int u3.1])), (a_p1_limbs, .inl (cJ, 160, .inr (.inl u3.2)))]) (rest := []) S hK hN hA hP hD hS (c_X4_scale l D cI cJ a_p1 a_p1_limbs v5 v3 p1_size p1_limbs u3 hu4) mwX4_scale miX4_scale kmX7_71 [2, 3] rfl (by decide) rfl rfl rfl 0 rfl rfl ⟨Nat.le_of_ble_eq_true rfl, Nat.le_of_ble_eq_true rfl⟩ ⟨Nat.zero_le _, Nat.zero_le _⟩ hl.1 rfl rfl (Nat.le_of_ble_eq_true rfl) dX7_gather_100 (fun H locs hP hD hS => ?_)
    exact hret _ (opE hf) H locs ls 103 dX7_gather_103 hP hD hS
  have keyB69 : ∀ (kL31 : Int32 → Int64 → Int64 → Int32 → Int32 → (Nat → Int64) → Option (Int32 × (Nat → Int64))) (hL31 : ∀ (v2 : Int32) (v3 : Int64) (v5 : Int64) (v7 : Int32) (p1_size : Int32) (p1_limbs : (Nat → Int64)) (H : Heap) (locs : List Loc) (ls : Array Slot), kL31 v2 v3 v5 v7 p1_size p1_limbs = some u → va_P D vwCl [(a_p0, .inr (8, [.ref a_p0_bytes, .int p0_length, .int p0_minus, .int p0_kind, .int p0_sixteens, .int p0_behindPoint, .int p0_counting, .int p0_power, .int p0_begin, .int p0_end])), (a_p0_bytes, .inl (cI, 1200, .inl p0_bytes)), (a_p1, .inr (5, [.ref a_p1_limbs, .int p1_size])), (a_p1_limbs, .inl (cJ, 160, .inr (.inl p1_limbs)))] H → va_D A [(a_p0, .inr (8, [.ref a_p0_bytes, .int p0_length, .int p0_minus, .int p0_kind, .int p0_sixteens, .int p0_behindPoint, .int p0_counting, .int p0_power, .int p0_begin, .int p0_end])), (a_p0_bytes, .inl (cI, 1200, .inl p0_bytes)), (a_p1, .inr (5, [.ref a_p1_limbs, .int p1_size])), (a_p1_limbs, .inl (cJ, 160, .inr (.inl p1_limbs)))] → va_S A s.heap H locs → lv_has ls 9 [(0, .ref a_p0), (1, .ref a_p1), (2, .int v2), (3, .long v3), (5, .long v5), (7, .int v7)] → W p l e (rmz 2 43) s m ar below meth c H locs 0 0 Q (F0 m 31 ls [])) (v2 : Int32) (v3 : Int64) (v5 : Int64) (v7 : Int32) (p1_size : Int32) (p1_limbs : (Nat → Int64)) (H : Heap) (locs : List Loc) (ls : Array Slot), f_X7_gather_B69 p0_length p0_sixteens p0_begin p0_end p0_bytes kL31 v2 v3 v5 v7 p1_size p1_limbs = some u → va_P D vwCl [(a_p0, .inr (8, [.ref a_p0_bytes, .int p0_length, .int p0_minus, .int p0_kind, .int p0_sixteens, .int p0_behindPoint, .int p0_counting, .int p0_power, .int p0_begin, .int p0_end])), (a_p0_bytes, .inl (cI, 1200, .inl p0_bytes)), (a_p1, .inr (5, [.ref a_p1_limbs, .int p1_size])), (a_p1_limbs, .inl (cJ, 160, .inr (.inl p1_limbs)))] H → va_D A [(a_p0, .inr (8, [.ref a_p0_bytes, .int p0_length, .int p0_minus, .int p0_kind, .int p0_sixteens, .int p0_behindPoint, .int p0_counting, .int p0_power, .int p0_begin, .int p0_end])), (a_p0_bytes, .inl (cI, 1200, .inl p0_bytes)), (a_p1, .inr (5, [.ref a_p1_limbs, .int p1_size])), (a_p1_limbs, .inl (cJ, 160, .inr (.inl p1_limbs)))] → va_S A s.heap H locs → lv_has ls 9 [(0, .ref a_p0), (1, .ref a_p1), (2, .int v2), (3, .long v3), (5, .long v5), (7, .int v7)] → W p l e (rmz 2 43) s m ar below meth c H locs 0 0 Q (F0 m 69 ls []) := by
    intro kL31 hL31 v2 v3 v5 v7 p1_size p1_limbs H locs ls hf hP hD hS hl
    unfold f_X7_gather_B69 at hf
    refine lv_lload hx hb dX7_gather_69 (lv_at hl 4 rfl) ?_
    refine lv_ldc2 hx hb hown (hts _ kcX7_69) dX7_gather_71 ?_
    refine W.lcmp hx hb dX7_gather_74 ?_
    refine lv_if_lt (tgt := 90) hx hb dX7_gather_75 (by decide) (fun hc9 => ?_) (fun hc9 => ?_)
    · have hf := ifT hc9 hf
      refine lv_iinc (v := v7 + (1 : Int32)) (lv' := [(7, .int (v7 + (1 : Int32))), (0, .ref a_p0), (1, .ref a_p1), (2, .int v2), (3, .long v3), (5, .long v5)]) hx hb dX7_gather_90 hl (k := 5) rfl (by rfl) (by decide) rfl (fun ls hl => ?_)
      refine lv_goto (tgt := 31) hx hb dX7_gather_93 (by decide) ?_
      exact hL31 v2 v3 v5 (v7 + (1 : Int32)) p1_size p1_limbs H locs ls hf hP hD hS (lv_sub hl [1, 2, 3, 4, 5, 0] rfl)
    · have hf := ifF hc9 hf
      refine lv_aload_n hx hb dX7_gather_78 rfl (lv_at hl 1 rfl) ?_
      refine lv_lload hx hb dX7_gather_79 (lv_at hl 4 rfl) ?_
      refine lv_lload_n hx hb dX7_gather_81 rfl (lv_at hl 3 rfl) ?_
      obtain ⟨u7, hu8, hf⟩ := bdE hf
      refine cV_V (ws' := [(a_p0, .inr (8, [.ref a_p0_bytes, .int p0_length, .int p0_minus, .int p0_kind, .int p0_sixteens, .int p0_behindPoint, .int p0_counting, .int p0_power, .int p0_begin, .int p0_end])), (a_p0_bytes, .inl (cI, 1200, .inl p0_bytes)), (a_p1, .inr (5, [.ref a_p1_limbs, .int u7.1])), (a_p1_limbs, .inl (cJ, 160, .inr (.inl u7.2)))]) (rest := []) S hK hN hA hP hD hS (c_X4_scale l D cI cJ a_p1 a_p1_limbs v5 v3 p1_size p1_limbs u7 hu8) mwX4_scale miX4_scale kmX7_71 [2, 3] rfl (by decide) rfl rfl rfl 0 rfl rfl ⟨Nat.le_of_ble_eq_true rfl, Nat.le_of_ble_eq_true rfl⟩ ⟨Nat.zero_le _, Nat.zero_le _⟩ hl.1 rfl rfl (Nat.le_of_ble_eq_true rfl) dX7_gather_82 (fun H locs hP hD hS => ?_)
      refine lv_lconst (v := 0) hx hb dX7_gather_85 (by decide) ?_
      refine lv_lstore_n (lv' := [(3, .long (0 : Int64)), (0, .ref a_p0), (1, .ref a_p1), (2, .int v2), (5, .long v5), (7, .int v7)]) hx hb dX7_gather_86 rfl hl (by decide) rfl (fun ls hl => ?_)
      refine lv_lconst (v := 1) hx hb dX7_gather_87 (by decide) ?_
      refine lv_lstore (lv' := [(5, .long (1 : Int64)), (3, .long (0 : Int64)), (0, .ref a_p0), (1, .ref a_p1), (2, .int v2), (7, .int v7)]) hx hb dX7_gather_88 hl (by decide) rfl (fun ls hl => ?_)
      refine lv_iinc (v := v7 + (1 : Int32)) (lv' := [(7, .int (v7 + (1 : Int32))), (5, .long (1 : Int64)), (3, .long (0 : Int64)), (0, .ref a_p0), (1, .ref a_p1), (2, .int v2)]) hx hb dX7_gather_90 hl (k := 5) rfl (by rfl) (by decide) rfl (fun ls hl => ?_)
      refine lv_goto (tgt := 31) hx hb dX7_gather_93 (by decide) ?_
      exact hL31 v2 (0 : Int64) (1 : Int64) (v7 + (1 : Int32)) u7.1 u7.2 H locs ls hf hP hD hS (lv_sub hl [3, 4, 5, 2, 1, 0] rfl)
  have keyL31 : ∀ (n : Nat) (v2 : Int32) (v3 : Int64) (v5 : Int64) (v7 : Int32) (p1_size : Int32) (p1_limbs : (Nat → Int64)) (H : Heap) (locs : List Loc) (ls : Array Slot), f_X7_gather_L31 p0_length p0_sixteens p0_begin p0_end p0_bytes n v2 v3 v5 v7 p1_size p1_limbs = some u → va_P D vwCl [(a_p0, .inr (8, [.ref a_p0_bytes, .int p0_length, .int p0_minus, .int p0_kind, .int p0_sixteens, .int p0_behindPoint, .int p0_counting, .int p0_power, .int p0_begin, .int p0_end])), (a_p0_bytes, .inl (cI, 1200, .inl p0_bytes)), (a_p1, .inr (5, [.ref a_p1_limbs, .int p1_size])), (a_p1_limbs, .inl (cJ, 160, .inr (.inl p1_limbs)))] H → va_D A [(a_p0, .inr (8, [.ref a_p0_bytes, .int p0_length, .int p0_minus, .int p0_kind, .int p0_sixteens, .int p0_behindPoint, .int p0_counting, .int p0_power, .int p0_begin, .int p0_end])), (a_p0_bytes, .inl (cI, 1200, .inl p0_bytes)), (a_p1, .inr (5, [.ref a_p1_limbs, .int p1_size])), (a_p1_limbs, .inl (cJ, 160, .inr (.inl p1_limbs)))] → va_S A s.heap H locs → lv_has ls 9 [(0, .ref a_p0), (1, .ref a_p1), (2, .int v2), (3, .long v3), (5, .long v5), (7, .int v7)] → W p l e (rmz 2 43) s m ar below meth c H locs 0 0 Q (F0 m 31 ls []) := by
    intro n
    induction n with
      | zero =>
        intro v2 v3 v5 v7 p1_size p1_limbs H locs ls hf
        cases hf
      | succ n ih =>
        intro v2 v3 v5 v7 p1_size p1_limbs H locs ls hf hP hD hS hl
        rw [f_X7_gather_L31] at hf
        refine lv_iload hx hb dX7_gather_31 (lv_at hl 5 rfl) ?_
        refine lv_aload_n hx hb dX7_gather_33 rfl (lv_at hl 0 rfl) ?_
        refine va_get (D := D) (ci := 8) (v := .int p0_end) (C := RX7) (T := TX7) (N := 10) hx hb hts uwX7 hown hK hP 0 rfl rfl 9 (by decide) (hts _ kfX7_51) (fun _ h9 => h9) rfl dX7_gather_34 ?_
        refine lv_icmp_ge (tgt := 96) hx hb dX7_gather_37 (by decide) (fun hc11 => ?_) (fun hc11 => ?_)
        · have hf := ifT hc11 hf
          exact keyB96 v3 v5 p1_size p1_limbs H locs ls hf hP hD hS (lv_sub hl [1, 3, 4] rfl)
        · have hf := ifF hc11 hf
          refine lv_aload_n hx hb dX7_gather_40 rfl (lv_at hl 0 rfl) ?_
          refine lv_iload hx hb dX7_gather_41 (lv_at hl 5 rfl) ?_
          obtain ⟨u5, hu6, hf⟩ := bdE hf
          refine cV_I (ws' := [(a_p0, .inr (8, [.ref a_p0_bytes, .int p0_length, .int p0_minus, .int p0_kind, .int p0_sixteens, .int p0_behindPoint, .int p0_counting, .int p0_power, .int p0_begin, .int p0_end])), (a_p0_bytes, .inl (cI, 1200, .inl p0_bytes)), (a_p1, .inr (5, [.ref a_p1_limbs, .int p1_size])), (a_p1_limbs, .inl (cJ, 160, .inr (.inl p1_limbs)))]) (rest := []) S hK hN hA hP hD hS (c_X7_figureAt l D cI cJ a_p0 a_p0_bytes v7 p0_length p0_minus p0_kind p0_sixteens p0_behindPoint p0_counting p0_power p0_begin p0_end p0_bytes u5 hu6) mwX7_figureAt miX7_figureAt kmX7_66 [0, 1] rfl (by decide) rfl rfl rfl 0 rfl rfl ⟨Nat.le_of_ble_eq_true rfl, Nat.le_of_ble_eq_true rfl⟩ ⟨Nat.zero_le _, Nat.zero_le _⟩ hl.1 rfl rfl (Nat.le_of_ble_eq_true rfl) dX7_gather_43 (fun H locs hP hD hS => ?_)
          refine lv_istore (lv' := [(8, .int u5), (0, .ref a_p0), (1, .ref a_p1), (2, .int v2), (3, .long v3), (5, .long v5), (7, .int v7)]) hx hb dX7_gather_46 hl (by decide) rfl (fun ls hl => ?_)
          refine lv_iload hx hb dX7_gather_48 (lv_at hl 0 rfl) ?_
          refine lv_if_lt (tgt := 69) hx hb dX7_gather_50 (by decide) (fun hc10 => ?_) (fun hc10 => ?_)
          · have hf := ifT hc10 hf
            exact keyB69 (f_X7_gather_L31 p0_length p0_sixteens p0_begin p0_end p0_bytes n) ih v2 v3 v5 v7 p1_size p1_limbs H locs ls hf hP hD hS (lv_sub hl [1, 2, 3, 4, 5, 6] rfl)
          · have hf := ifF hc10 hf
            refine lv_lload_n hx hb dX7_gather_53 rfl (lv_at hl 4 rfl) ?_
            refine lv_iload_n hx hb dX7_gather_54 rfl (lv_at hl 3 rfl) ?_
            refine lv_i2l (v := v2.toInt64) hx hb dX7_gather_55 rfl ?_
            refine lv_lmul hx hb dX7_gather_56 ?_
            refine lv_iload hx hb dX7_gather_57 (lv_at hl 0 rfl) ?_
            refine lv_i2l (v := u5.toInt64) hx hb dX7_gather_59 rfl ?_
            refine lv_ladd hx hb dX7_gather_60 ?_
            refine lv_lstore_n (lv' := [(3, .long ((v3 * v2.toInt64) + u5.toInt64)), (8, .int u5), (0, .ref a_p0), (1, .ref a_p1), (2, .int v2), (5, .long v5), (7, .int v7)]) hx hb dX7_gather_61 rfl hl (by decide) rfl (fun ls hl => ?_)
            refine lv_lload hx hb dX7_gather_62 (lv_at hl 5 rfl) ?_
            refine lv_iload_n hx hb dX7_gather_64 rfl (lv_at hl 4 rfl) ?_
            refine lv_i2l (v := v2.toInt64) hx hb dX7_gather_65 rfl ?_
            refine lv_lmul hx hb dX7_gather_66 ?_
            refine lv_lstore (lv' := [(5, .long (v5 * v2.toInt64)), (3, .long ((v3 * v2.toInt64) + u5.toInt64)), (8, .int u5), (0, .ref a_p0), (1, .ref a_p1), (2, .int v2), (7, .int v7)]) hx hb dX7_gather_67 hl (by decide) rfl (fun ls hl => ?_)
            exact keyB69 (f_X7_gather_L31 p0_length p0_sixteens p0_begin p0_end p0_bytes n) ih v2 ((v3 * v2.toInt64) + u5.toInt64) (v5 * v2.toInt64) v7 p1_size p1_limbs H locs ls hf hP hD hS (lv_sub hl [3, 4, 5, 1, 0, 6] rfl)
  have keyB14 : ∀ (s0 : Int32) (p1_size : Int32) (p1_limbs : (Nat → Int64)) (H : Heap) (locs : List Loc) (ls : Array Slot), f_X7_gather_B14 p0_length p0_sixteens p0_begin p0_end p0_bytes s0 p1_size p1_limbs = some u → va_P D vwCl [(a_p0, .inr (8, [.ref a_p0_bytes, .int p0_length, .int p0_minus, .int p0_kind, .int p0_sixteens, .int p0_behindPoint, .int p0_counting, .int p0_power, .int p0_begin, .int p0_end])), (a_p0_bytes, .inl (cI, 1200, .inl p0_bytes)), (a_p1, .inr (5, [.ref a_p1_limbs, .int p1_size])), (a_p1_limbs, .inl (cJ, 160, .inr (.inl p1_limbs)))] H → va_D A [(a_p0, .inr (8, [.ref a_p0_bytes, .int p0_length, .int p0_minus, .int p0_kind, .int p0_sixteens, .int p0_behindPoint, .int p0_counting, .int p0_power, .int p0_begin, .int p0_end])), (a_p0_bytes, .inl (cI, 1200, .inl p0_bytes)), (a_p1, .inr (5, [.ref a_p1_limbs, .int p1_size])), (a_p1_limbs, .inl (cJ, 160, .inr (.inl p1_limbs)))] → va_S A s.heap H locs → lv_has ls 9 [(0, .ref a_p0), (1, .ref a_p1)] → W p l e (rmz 2 43) s m ar below meth c H locs 0 0 Q (F0 m 14 ls [.int s0]) := by
    intro s0 p1_size p1_limbs H locs ls hf hP hD hS hl
    unfold f_X7_gather_B14 at hf
    refine lv_istore_n (lv' := [(2, .int s0), (0, .ref a_p0), (1, .ref a_p1)]) hx hb dX7_gather_14 rfl hl (by decide) rfl (fun ls hl => ?_)
    refine lv_lconst (v := 0) hx hb dX7_gather_15 (by decide) ?_
    refine lv_lstore_n (lv' := [(3, .long (0 : Int64)), (2, .int s0), (0, .ref a_p0), (1, .ref a_p1)]) hx hb dX7_gather_16 rfl hl (by decide) rfl (fun ls hl => ?_)
    refine lv_lconst (v := 1) hx hb dX7_gather_17 (by decide) ?_
    refine lv_lstore (lv' := [(5, .long (1 : Int64)), (3, .long (0 : Int64)), (2, .int s0), (0, .ref a_p0), (1, .ref a_p1)]) hx hb dX7_gather_18 hl (by decide) rfl (fun ls hl => ?_)
    refine lv_aload_n hx hb dX7_gather_20 rfl (lv_at hl 4 rfl) ?_
    refine lv_lconst (v := 0) hx hb dX7_gather_21 (by decide) ?_
    obtain ⟨u1, hu2, hf⟩ := bdE hf
    refine cV_V (ws' := [(a_p0, .inr (8, [.ref a_p0_bytes, .int p0_length, .int p0_minus, .int p0_kind, .int p0_sixteens, .int p0_behindPoint, .int p0_counting, .int p0_power, .int p0_begin, .int p0_end])), (a_p0_bytes, .inl (cI, 1200, .inl p0_bytes)), (a_p1, .inr (5, [.ref a_p1_limbs, .int u1.1])), (a_p1_limbs, .inl (cJ, 160, .inr (.inl u1.2)))]) (rest := []) S hK hN hA hP hD hS (c_X4_take l D cI cJ a_p1 a_p1_limbs (0 : Int64) p1_size p1_limbs u1 hu2) mwX4_take miX4_take kmX7_60 [2, 3] rfl (by decide) rfl rfl rfl 0 rfl rfl ⟨Nat.le_of_ble_eq_true rfl, Nat.le_of_ble_eq_true rfl⟩ ⟨Nat.zero_le _, Nat.zero_le _⟩ hl.1 rfl rfl (Nat.le_of_ble_eq_true rfl) dX7_gather_22 (fun H locs hP hD hS => ?_)
    refine lv_aload_n hx hb dX7_gather_25 rfl (lv_at hl 3 rfl) ?_
    refine va_get (D := D) (ci := 8) (v := .int p0_begin) (C := RX7) (T := TX7) (N := 10) hx hb hts uwX7 hown hK hP 0 rfl rfl 8 (by decide) (hts _ kfX7_44) (fun _ h9 => h9) rfl dX7_gather_26 ?_
    refine lv_istore (lv' := [(7, .int p0_begin), (5, .long (1 : Int64)), (3, .long (0 : Int64)), (2, .int s0), (0, .ref a_p0), (1, .ref a_p1)]) hx hb dX7_gather_29 hl (by decide) rfl (fun ls hl => ?_)
    exact keyL31 FU s0 (0 : Int64) (1 : Int64) p0_begin u1.1 u1.2 H locs ls hf hP hD hS (lv_sub hl [4, 5, 3, 2, 1, 0] rfl)
  unfold f_X7_gather at hf
  refine lv_aload_n hx hb dX7_gather_0 rfl (lv_at hl 0 rfl) ?_
  refine va_get (D := D) (ci := 8) (v := .int p0_sixteens) (C := RX7) (T := TX7) (N := 10) hx hb hts uwX7 hown hK hP 0 rfl rfl 4 (by decide) (hts _ kfX7_41) (fun _ h9 => h9) rfl dX7_gather_1 ?_
  refine lv_if_eq (tgt := 12) hx hb dX7_gather_4 (by decide) (fun hc12 => ?_) (fun hc12 => ?_)
  · have hf := ifT hc12 hf
    refine lv_bipush (v := 10) hx hb dX7_gather_12 (by decide) ?_
    exact keyB14 (10 : Int32) p1_size p1_limbs H locs ls hf hP hD hS (lv_sub hl [0, 1] rfl)
  · have hf := ifF hc12 hf
    refine lv_bipush (v := 16) hx hb dX7_gather_7 (by decide) ?_
    refine lv_goto (tgt := 14) hx hb dX7_gather_9 (by decide) ?_
    exact keyB14 (16 : Int32) p1_size p1_limbs H locs ls hf hP hD hS (lv_sub hl [0, 1] rfl)
set_option maxRecDepth 100000 in
set_option maxHeartbeats 4000000 in
theorem c_X0_valueOf (l : Launch) (D : va_G) (cI cJ : ClassId) (a_p0 a_p0_left a_p0_right a_p0_left_limbs a_p0_right_limbs a_p1 a_p1_bytes : Nat) (p2 : Int32) (p3 : Int32) (p0_left_size : Int32) (p0_left_limbs : (Nat → Int64)) (p0_right_size : Int32) (p0_right_limbs : (Nat → Int64)) (p1_length : Int32) (p1_minus : Int32) (p1_kind : Int32) (p1_sixteens : Int32) (p1_behindPoint : Int32) (p1_counting : Int32) (p1_power : Int32) (p1_begin : Int32) (p1_end : Int32) (p1_bytes : (Nat → Int32)) (u : Int64 × Int32 × (Nat → Int64) × Int32 × (Nat → Int64)) (hf : f_X0_valueOf p1_length p1_minus p1_kind p1_sixteens p1_behindPoint p1_counting p1_power p1_begin p1_end p1_bytes p2 p3 p0_left_size p0_left_limbs p0_right_size p0_right_limbs = some u) : CtL l yX0_valueOf cX0_valueOf 6 5 129 [.ref a_p0, .ref a_p1, .int p2, .int p3] D cI cJ [(a_p0, .inr (2, [.ref a_p0_left, .ref a_p0_right])), (a_p0_left, .inr (5, [.ref a_p0_left_limbs, .int p0_left_size])), (a_p0_left_limbs, .inl (cJ, 160, .inr (.inl p0_left_limbs))), (a_p0_right, .inr (5, [.ref a_p0_right_limbs, .int p0_right_size])), (a_p0_right_limbs, .inl (cJ, 160, .inr (.inl p0_right_limbs))), (a_p1, .inr (8, [.ref a_p1_bytes, .int p1_length, .int p1_minus, .int p1_kind, .int p1_sixteens, .int p1_behindPoint, .int p1_counting, .int p1_power, .int p1_begin, .int p1_end])), (a_p1_bytes, .inl (cI, 1200, .inl p1_bytes))] [(a_p0, .inr (2, [.ref a_p0_left, .ref a_p0_right])), (a_p0_left, .inr (5, [.ref a_p0_left_limbs, .int u.2.1])), (a_p0_left_limbs, .inl (cJ, 160, .inr (.inl u.2.2.1))), (a_p0_right, .inr (5, [.ref a_p0_right_limbs, .int u.2.2.2.1])), (a_p0_right_limbs, .inl (cJ, 160, .inr (.inl u.2.2.2.2))), (a_p1, .inr (8, [.ref a_p1_bytes, .int p1_length, .int p1_minus, .int p1_kind, .int p1_sixteens, .int p1_behindPoint, .int p1_counting, .int p1_power, .int p1_begin, .int p1_end])), (a_p1_bytes, .inl (cI, 1200, .inl p1_bytes))] u.1 := by
  refine mkL (own := RX0) rfl (by decide +kernel) (Nat.le_of_ble_eq_true rfl) (lv := [(0, .ref a_p0), (1, .ref a_p1), (2, .int p2), (3, .int p3)]) rfl ?_
  intro p e s m below meth c Q A ls ar S hA hK hN hret H locs hP hD hS hl
  obtain ⟨hx, hb, hml, hown, hts⟩ := id S
  have hret : ∀ (w : Int64 × Int32 × (Nat → Int64) × Int32 × (Nat → Int64)), w = u → ∀ (H : Heap) (locs : List Loc) (ls : Array Slot) (pc : Nat), decode cX0_valueOf pc = .ok (.lreturn, 1) → va_P D vwCl [(a_p0, .inr (2, [.ref a_p0_left, .ref a_p0_right])), (a_p0_left, .inr (5, [.ref a_p0_left_limbs, .int w.2.1])), (a_p0_left_limbs, .inl (cJ, 160, .inr (.inl w.2.2.1))), (a_p0_right, .inr (5, [.ref a_p0_right_limbs, .int w.2.2.2.1])), (a_p0_right_limbs, .inl (cJ, 160, .inr (.inl w.2.2.2.2))), (a_p1, .inr (8, [.ref a_p1_bytes, .int p1_length, .int p1_minus, .int p1_kind, .int p1_sixteens, .int p1_behindPoint, .int p1_counting, .int p1_power, .int p1_begin, .int p1_end])), (a_p1_bytes, .inl (cI, 1200, .inl p1_bytes))] H → va_D A [(a_p0, .inr (2, [.ref a_p0_left, .ref a_p0_right])), (a_p0_left, .inr (5, [.ref a_p0_left_limbs, .int w.2.1])), (a_p0_left_limbs, .inl (cJ, 160, .inr (.inl w.2.2.1))), (a_p0_right, .inr (5, [.ref a_p0_right_limbs, .int w.2.2.2.1])), (a_p0_right_limbs, .inl (cJ, 160, .inr (.inl w.2.2.2.2))), (a_p1, .inr (8, [.ref a_p1_bytes, .int p1_length, .int p1_minus, .int p1_kind, .int p1_sixteens, .int p1_behindPoint, .int p1_counting, .int p1_power, .int p1_begin, .int p1_end])), (a_p1_bytes, .inl (cI, 1200, .inl p1_bytes))] → va_S A s.heap H locs → W p l e (rmz 5 129) s m ar below meth c H locs 0 0 Q (F0 m pc ls [.long w.1]) := fun w hw => hw ▸ hret
  have keyB55 : ∀ (v2 : Int32) (v3 : Int32) (p0_left_size : Int32) (p0_left_limbs : (Nat → Int64)) (p0_right_size : Int32) (p0_right_limbs : (Nat → Int64)) (H : Heap) (locs : List Loc) (ls : Array Slot), f_X0_valueOf_B55 p1_length p1_minus p1_kind p1_sixteens p1_behindPoint p1_counting p1_power p1_begin p1_end p1_bytes v2 v3 p0_left_size p0_left_limbs p0_right_size p0_right_limbs = some u → va_P D vwCl [(a_p0, .inr (2, [.ref a_p0_left, .ref a_p0_right])), (a_p0_left, .inr (5, [.ref a_p0_left_limbs, .int p0_left_size])), (a_p0_left_limbs, .inl (cJ, 160, .inr (.inl p0_left_limbs))), (a_p0_right, .inr (5, [.ref a_p0_right_limbs, .int p0_right_size])), (a_p0_right_limbs, .inl (cJ, 160, .inr (.inl p0_right_limbs))), (a_p1, .inr (8, [.ref a_p1_bytes, .int p1_length, .int p1_minus, .int p1_kind, .int p1_sixteens, .int p1_behindPoint, .int p1_counting, .int p1_power, .int p1_begin, .int p1_end])), (a_p1_bytes, .inl (cI, 1200, .inl p1_bytes))] H → va_D A [(a_p0, .inr (2, [.ref a_p0_left, .ref a_p0_right])), (a_p0_left, .inr (5, [.ref a_p0_left_limbs, .int p0_left_size])), (a_p0_left_limbs, .inl (cJ, 160, .inr (.inl p0_left_limbs))), (a_p0_right, .inr (5, [.ref a_p0_right_limbs, .int p0_right_size])), (a_p0_right_limbs, .inl (cJ, 160, .inr (.inl p0_right_limbs))), (a_p1, .inr (8, [.ref a_p1_bytes, .int p1_length, .int p1_minus, .int p1_kind, .int p1_sixteens, .int p1_behindPoint, .int p1_counting, .int p1_power, .int p1_begin, .int p1_end])), (a_p1_bytes, .inl (cI, 1200, .inl p1_bytes))] → va_S A s.heap H locs → lv_has ls 6 [(0, .ref a_p0), (1, .ref a_p1), (2, .int v2), (3, .int v3)] → W p l e (rmz 5 129) s m ar below meth c H locs 0 0 Q (F0 m 55 ls []) := by
    intro v2 v3 p0_left_size p0_left_limbs p0_right_size p0_right_limbs H locs ls hf hP hD hS hl
    unfold f_X0_valueOf_B55 at hf
    refine lv_aload_n hx hb dX0_valueOf_55 rfl (lv_at hl 1 rfl) ?_
    refine va_get (D := D) (ci := 8) (v := .int p1_minus) (C := RX7) (T := TX7) (N := 10) hx hb hts uwX7 hown hK hP 5 rfl rfl 2 (by decide) (hts _ kfX0_87) (fun _ h9 => h9) rfl dX0_valueOf_56 ?_
    refine lv_aload_n hx hb dX0_valueOf_59 rfl (lv_at hl 0 rfl) ?_
    refine va_get (D := D) (ci := 2) (v := .ref a_p0_left) (C := RX0) (T := TX0) (N := 2) hx hb hts uwX0 hown hK hP 0 rfl rfl 0 (by decide) (hts _ kfX0_9) (fun _ h9 => h9) rfl dX0_valueOf_60 ?_
    refine lv_aload_n hx hb dX0_valueOf_63 rfl (lv_at hl 1 rfl) ?_
    refine va_get (D := D) (ci := 8) (v := .int p1_power) (C := RX7) (T := TX7) (N := 10) hx hb hts uwX7 hown hK hP 5 rfl rfl 7 (by decide) (hts _ kfX0_99) (fun _ h9 => h9) rfl dX0_valueOf_64 ?_
    refine lv_iconst (v := 4) hx hb dX0_valueOf_67 (by decide) ?_
    refine lv_aload_n hx hb dX0_valueOf_68 rfl (lv_at hl 1 rfl) ?_
    refine va_get (D := D) (ci := 8) (v := .int p1_behindPoint) (C := RX7) (T := TX7) (N := 10) hx hb hts uwX7 hown hK hP 5 rfl rfl 5 (by decide) (hts _ kfX0_102) (fun _ h9 => h9) rfl dX0_valueOf_69 ?_
    refine lv_imul hx hb dX0_valueOf_72 ?_
    refine lv_isub hx hb dX0_valueOf_73 ?_
    refine lv_iconst (v := 0) hx hb dX0_valueOf_74 (by decide) ?_
    refine lv_iload_n hx hb dX0_valueOf_75 rfl (lv_at hl 2 rfl) ?_
    refine lv_iload_n hx hb dX0_valueOf_76 rfl (lv_at hl 3 rfl) ?_
    obtain ⟨u5, hu6, hf⟩ := bdE hf
    refine cS_L (ws' := [(a_p0, .inr (2, [.ref a_p0_left, .ref a_p0_right])), (a_p0_left, .inr (5, [.ref a_p0_left_limbs, .int p0_left_size])), (a_p0_left_limbs, .inl (cJ, 160, .inr (.inl p0_left_limbs))), (a_p0_right, .inr (5, [.ref a_p0_right_limbs, .int p0_right_size])), (a_p0_right_limbs, .inl (cJ, 160, .inr (.inl p0_right_limbs))), (a_p1, .inr (8, [.ref a_p1_bytes, .int p1_length, .int p1_minus, .int p1_kind, .int p1_sixteens, .int p1_behindPoint, .int p1_counting, .int p1_power, .int p1_begin, .int p1_end])), (a_p1_bytes, .inl (cI, 1200, .inl p1_bytes))]) (rest := []) S hK hN hA hP hD hS (c_X0_rounded l D cI cJ a_p0_left a_p0_left_limbs p1_minus (p1_power - ((4 : Int32) * p1_behindPoint)) (0 : Int32) v2 v3 p0_left_size p0_left_limbs u5 hu6) mwX0_rounded msX0_rounded kmX0_51 [1, 2] rfl (by decide) rfl rfl rfl ⟨Nat.le_of_ble_eq_true rfl, Nat.le_of_ble_eq_true rfl⟩ ⟨Nat.zero_le _, Nat.zero_le _⟩ hl.1 rfl rfl (Nat.le_of_ble_eq_true rfl) dX0_valueOf_77 (fun H locs hP hD hS => ?_)
    exact hret _ (opE hf) H locs ls 80 dX0_valueOf_80 hP hD hS
  have keyB149 : ∀ (v2 : Int32) (v3 : Int32) (s0 : Int32) (s2 : Int32) (p0_left_size : Int32) (p0_left_limbs : (Nat → Int64)) (p0_right_size : Int32) (p0_right_limbs : (Nat → Int64)) (H : Heap) (locs : List Loc) (ls : Array Slot), f_X0_valueOf_B149 p1_length p1_minus p1_kind p1_sixteens p1_behindPoint p1_counting p1_power p1_begin p1_end p1_bytes v2 v3 s0 s2 p0_left_size p0_left_limbs p0_right_size p0_right_limbs = some u → va_P D vwCl [(a_p0, .inr (2, [.ref a_p0_left, .ref a_p0_right])), (a_p0_left, .inr (5, [.ref a_p0_left_limbs, .int p0_left_size])), (a_p0_left_limbs, .inl (cJ, 160, .inr (.inl p0_left_limbs))), (a_p0_right, .inr (5, [.ref a_p0_right_limbs, .int p0_right_size])), (a_p0_right_limbs, .inl (cJ, 160, .inr (.inl p0_right_limbs))), (a_p1, .inr (8, [.ref a_p1_bytes, .int p1_length, .int p1_minus, .int p1_kind, .int p1_sixteens, .int p1_behindPoint, .int p1_counting, .int p1_power, .int p1_begin, .int p1_end])), (a_p1_bytes, .inl (cI, 1200, .inl p1_bytes))] H → va_D A [(a_p0, .inr (2, [.ref a_p0_left, .ref a_p0_right])), (a_p0_left, .inr (5, [.ref a_p0_left_limbs, .int p0_left_size])), (a_p0_left_limbs, .inl (cJ, 160, .inr (.inl p0_left_limbs))), (a_p0_right, .inr (5, [.ref a_p0_right_limbs, .int p0_right_size])), (a_p0_right_limbs, .inl (cJ, 160, .inr (.inl p0_right_limbs))), (a_p1, .inr (8, [.ref a_p1_bytes, .int p1_length, .int p1_minus, .int p1_kind, .int p1_sixteens, .int p1_behindPoint, .int p1_counting, .int p1_power, .int p1_begin, .int p1_end])), (a_p1_bytes, .inl (cI, 1200, .inl p1_bytes))] → va_S A s.heap H locs → lv_has ls 6 [(2, .int v2), (3, .int v3)] → W p l e (rmz 5 129) s m ar below meth c H locs 0 0 Q (F0 m 149 ls [.int s2, .ref a_p0_left, .int s0]) := by
    intro v2 v3 s0 s2 p0_left_size p0_left_limbs p0_right_size p0_right_limbs H locs ls hf hP hD hS hl
    unfold f_X0_valueOf_B149 at hf
    refine lv_iconst (v := 0) hx hb dX0_valueOf_149 (by decide) ?_
    refine lv_iload_n hx hb dX0_valueOf_150 rfl (lv_at hl 0 rfl) ?_
    refine lv_iload_n hx hb dX0_valueOf_151 rfl (lv_at hl 1 rfl) ?_
    obtain ⟨u9, hu10, hf⟩ := bdE hf
    refine cS_L (ws' := [(a_p0, .inr (2, [.ref a_p0_left, .ref a_p0_right])), (a_p0_left, .inr (5, [.ref a_p0_left_limbs, .int p0_left_size])), (a_p0_left_limbs, .inl (cJ, 160, .inr (.inl p0_left_limbs))), (a_p0_right, .inr (5, [.ref a_p0_right_limbs, .int p0_right_size])), (a_p0_right_limbs, .inl (cJ, 160, .inr (.inl p0_right_limbs))), (a_p1, .inr (8, [.ref a_p1_bytes, .int p1_length, .int p1_minus, .int p1_kind, .int p1_sixteens, .int p1_behindPoint, .int p1_counting, .int p1_power, .int p1_begin, .int p1_end])), (a_p1_bytes, .inl (cI, 1200, .inl p1_bytes))]) (rest := []) S hK hN hA hP hD hS (c_X0_rounded l D cI cJ a_p0_left a_p0_left_limbs s0 s2 (0 : Int32) v2 v3 p0_left_size p0_left_limbs u9 hu10) mwX0_rounded msX0_rounded kmX0_51 [1, 2] rfl (by decide) rfl rfl rfl ⟨Nat.le_of_ble_eq_true rfl, Nat.le_of_ble_eq_true rfl⟩ ⟨Nat.zero_le _, Nat.zero_le _⟩ hl.1 rfl rfl (Nat.le_of_ble_eq_true rfl) dX0_valueOf_152 (fun H locs hP hD hS => ?_)
    exact hret _ (opE hf) H locs ls 155 dX0_valueOf_155 hP hD hS
  have keyB119 : ∀ (v2 : Int32) (v3 : Int32) (v5 : Int32) (p0_left_size : Int32) (p0_left_limbs : (Nat → Int64)) (p0_right_size : Int32) (p0_right_limbs : (Nat → Int64)) (H : Heap) (locs : List Loc) (ls : Array Slot), f_X0_valueOf_B119 p1_length p1_minus p1_kind p1_sixteens p1_behindPoint p1_counting p1_power p1_begin p1_end p1_bytes v2 v3 v5 p0_left_size p0_left_limbs p0_right_size p0_right_limbs = some u → va_P D vwCl [(a_p0, .inr (2, [.ref a_p0_left, .ref a_p0_right])), (a_p0_left, .inr (5, [.ref a_p0_left_limbs, .int p0_left_size])), (a_p0_left_limbs, .inl (cJ, 160, .inr (.inl p0_left_limbs))), (a_p0_right, .inr (5, [.ref a_p0_right_limbs, .int p0_right_size])), (a_p0_right_limbs, .inl (cJ, 160, .inr (.inl p0_right_limbs))), (a_p1, .inr (8, [.ref a_p1_bytes, .int p1_length, .int p1_minus, .int p1_kind, .int p1_sixteens, .int p1_behindPoint, .int p1_counting, .int p1_power, .int p1_begin, .int p1_end])), (a_p1_bytes, .inl (cI, 1200, .inl p1_bytes))] H → va_D A [(a_p0, .inr (2, [.ref a_p0_left, .ref a_p0_right])), (a_p0_left, .inr (5, [.ref a_p0_left_limbs, .int p0_left_size])), (a_p0_left_limbs, .inl (cJ, 160, .inr (.inl p0_left_limbs))), (a_p0_right, .inr (5, [.ref a_p0_right_limbs, .int p0_right_size])), (a_p0_right_limbs, .inl (cJ, 160, .inr (.inl p0_right_limbs))), (a_p1, .inr (8, [.ref a_p1_bytes, .int p1_length, .int p1_minus, .int p1_kind, .int p1_sixteens, .int p1_behindPoint, .int p1_counting, .int p1_power, .int p1_begin, .int p1_end])), (a_p1_bytes, .inl (cI, 1200, .inl p1_bytes))] → va_S A s.heap H locs → lv_has ls 6 [(0, .ref a_p0), (1, .ref a_p1), (2, .int v2), (3, .int v3), (5, .int v5)] → W p l e (rmz 5 129) s m ar below meth c H locs 0 0 Q (F0 m 119 ls []) := by
    intro v2 v3 v5 p0_left_size p0_left_limbs p0_right_size p0_right_limbs H locs ls hf hP hD hS hl
    unfold f_X0_valueOf_B119 at hf
    refine lv_aload_n hx hb dX0_valueOf_119 rfl (lv_at hl 0 rfl) ?_
    refine va_get (D := D) (ci := 2) (v := .ref a_p0_left) (C := RX0) (T := TX0) (N := 2) hx hb hts uwX0 hown hK hP 0 rfl rfl 0 (by decide) (hts _ kfX0_9) (fun _ h9 => h9) rfl dX0_valueOf_120 ?_
    refine lv_lconst (v := 1) hx hb dX0_valueOf_123 (by decide) ?_
    obtain ⟨u7, hu8, hf⟩ := bdE hf
    refine cV_V (ws' := [(a_p0, .inr (2, [.ref a_p0_left, .ref a_p0_right])), (a_p0_left, .inr (5, [.ref a_p0_left_limbs, .int u7.1])), (a_p0_left_limbs, .inl (cJ, 160, .inr (.inl u7.2))), (a_p0_right, .inr (5, [.ref a_p0_right_limbs, .int p0_right_size])), (a_p0_right_limbs, .inl (cJ, 160, .inr (.inl p0_right_limbs))), (a_p1, .inr (8, [.ref a_p1_bytes, .int p1_length, .int p1_minus, .int p1_kind, .int p1_sixteens, .int p1_behindPoint, .int p1_counting, .int p1_power, .int p1_begin, .int p1_end])), (a_p1_bytes, .inl (cI, 1200, .inl p1_bytes))]) (rest := []) S hK hN hA hP hD hS (c_X4_take l D cI cJ a_p0_left a_p0_left_limbs (1 : Int64) p0_left_size p0_left_limbs u7 hu8) mwX4_take miX4_take kmX0_42 [1, 2] rfl (by decide) rfl rfl rfl 0 rfl rfl ⟨Nat.le_of_ble_eq_true rfl, Nat.le_of_ble_eq_true rfl⟩ ⟨Nat.zero_le _, Nat.zero_le _⟩ hl.1 rfl rfl (Nat.le_of_ble_eq_true rfl) dX0_valueOf_124 (fun H locs hP hD hS => ?_)
    refine lv_aload_n hx hb dX0_valueOf_127 rfl (lv_at hl 1 rfl) ?_
    refine va_get (D := D) (ci := 8) (v := .int p1_minus) (C := RX7) (T := TX7) (N := 10) hx hb hts uwX7 hown hK hP 5 rfl rfl 2 (by decide) (hts _ kfX0_87) (fun _ h9 => h9) rfl dX0_valueOf_128 ?_
    refine lv_aload_n hx hb dX0_valueOf_131 rfl (lv_at hl 0 rfl) ?_
    refine va_get (D := D) (ci := 2) (v := .ref a_p0_left) (C := RX0) (T := TX0) (N := 2) hx hb hts uwX0 hown hK hP 0 rfl rfl 0 (by decide) (hts _ kfX0_9) (fun _ h9 => h9) rfl dX0_valueOf_132 ?_
    refine lv_iload hx hb dX0_valueOf_135 (lv_at hl 4 rfl) ?_
    refine lv_if_ge (tgt := 146) hx hb dX0_valueOf_137 (by decide) (fun hc11 => ?_) (fun hc11 => ?_)
    · have hf := ifT hc11 hf
      refine lv_sipush (v := 5000) hx hb dX0_valueOf_146 (by decide) ?_
      exact keyB149 v2 v3 p1_minus (5000 : Int32) u7.1 u7.2 p0_right_size p0_right_limbs H locs ls hf hP hD hS (lv_sub hl [2, 3] rfl)
    · have hf := ifF hc11 hf
      refine lv_sipush (v := -5000) hx hb dX0_valueOf_140 (by decide) ?_
      refine lv_goto (tgt := 149) hx hb dX0_valueOf_143 (by decide) ?_
      exact keyB149 v2 v3 p1_minus (-5000 : Int32) u7.1 u7.2 p0_right_size p0_right_limbs H locs ls hf hP hD hS (lv_sub hl [2, 3] rfl)
  unfold f_X0_valueOf at hf
  refine lv_aload_n hx hb dX0_valueOf_0 rfl (lv_at hl 1 rfl) ?_
  refine va_get (D := D) (ci := 8) (v := .int p1_kind) (C := RX7) (T := TX7) (N := 10) hx hb hts uwX7 hown hK hP 5 rfl rfl 3 (by decide) (hts _ kfX0_84) (fun _ h9 => h9) rfl dX0_valueOf_1 ?_
  refine lv_iconst (v := 4) hx hb dX0_valueOf_4 (by decide) ?_
  refine lv_icmp_ne (tgt := 13) hx hb dX0_valueOf_5 (by decide) (fun hc32 => ?_) (fun hc32 => ?_)
  · have hf := ifF hc32 hf
    refine lv_aload_n hx hb dX0_valueOf_13 rfl (lv_at hl 1 rfl) ?_
    refine va_get (D := D) (ci := 8) (v := .int p1_kind) (C := RX7) (T := TX7) (N := 10) hx hb hts uwX7 hown hK hP 5 rfl rfl 3 (by decide) (hts _ kfX0_84) (fun _ h9 => h9) rfl dX0_valueOf_14 ?_
    refine lv_iconst (v := 3) hx hb dX0_valueOf_17 (by decide) ?_
    refine lv_icmp_ne (tgt := 30) hx hb dX0_valueOf_18 (by decide) (fun hc29 => ?_) (fun hc29 => ?_)
    · have hf := ifF hc29 hf
      refine lv_aload_n hx hb dX0_valueOf_30 rfl (lv_at hl 1 rfl) ?_
      refine lv_aload_n hx hb dX0_valueOf_31 rfl (lv_at hl 0 rfl) ?_
      refine va_get (D := D) (ci := 2) (v := .ref a_p0_left) (C := RX0) (T := TX0) (N := 2) hx hb hts uwX0 hown hK hP 0 rfl rfl 0 (by decide) (hts _ kfX0_9) (fun _ h9 => h9) rfl dX0_valueOf_32 ?_
      obtain ⟨u1, hu2, hf⟩ := bdE hf
      refine cV_V (ws' := [(a_p0, .inr (2, [.ref a_p0_left, .ref a_p0_right])), (a_p0_left, .inr (5, [.ref a_p0_left_limbs, .int u1.1])), (a_p0_left_limbs, .inl (cJ, 160, .inr (.inl u1.2))), (a_p0_right, .inr (5, [.ref a_p0_right_limbs, .int p0_right_size])), (a_p0_right_limbs, .inl (cJ, 160, .inr (.inl p0_right_limbs))), (a_p1, .inr (8, [.ref a_p1_bytes, .int p1_length, .int p1_minus, .int p1_kind, .int p1_sixteens, .int p1_behindPoint, .int p1_counting, .int p1_power, .int p1_begin, .int p1_end])), (a_p1_bytes, .inl (cI, 1200, .inl p1_bytes))]) (rest := []) S hK hN hA hP hD hS (c_X7_gather l D cI cJ a_p1 a_p1_bytes a_p0_left a_p0_left_limbs  p1_length p1_minus p1_kind p1_sixteens p1_behindPoint p1_counting p1_power p1_begin p1_end p1_bytes p0_left_size p0_left_limbs u1 hu2) mwX7_gather miX7_gather kmX0_88 [5, 6, 1, 2] rfl (by decide) rfl rfl rfl 0 rfl rfl ⟨Nat.le_of_ble_eq_true rfl, Nat.le_of_ble_eq_true rfl⟩ ⟨Nat.zero_le _, Nat.zero_le _⟩ hl.1 rfl rfl (Nat.le_of_ble_eq_true rfl) dX0_valueOf_35 (fun H locs hP hD hS => ?_)
      refine lv_aload_n hx hb dX0_valueOf_38 rfl (lv_at hl 0 rfl) ?_
      refine va_get (D := D) (ci := 2) (v := .ref a_p0_left) (C := RX0) (T := TX0) (N := 2) hx hb hts uwX0 hown hK hP 0 rfl rfl 0 (by decide) (hts _ kfX0_9) (fun _ h9 => h9) rfl dX0_valueOf_39 ?_
      obtain ⟨u3, hu4, hf⟩ := bdE hf
      refine cV_I (ws' := [(a_p0, .inr (2, [.ref a_p0_left, .ref a_p0_right])), (a_p0_left, .inr (5, [.ref a_p0_left_limbs, .int u1.1])), (a_p0_left_limbs, .inl (cJ, 160, .inr (.inl u1.2))), (a_p0_right, .inr (5, [.ref a_p0_right_limbs, .int p0_right_size])), (a_p0_right_limbs, .inl (cJ, 160, .inr (.inl p0_right_limbs))), (a_p1, .inr (8, [.ref a_p1_bytes, .int p1_length, .int p1_minus, .int p1_kind, .int p1_sixteens, .int p1_behindPoint, .int p1_counting, .int p1_power, .int p1_begin, .int p1_end])), (a_p1_bytes, .inl (cI, 1200, .inl p1_bytes))]) (rest := []) S hK hN hA hP hD hS (c_X4_isNought l D cI cJ a_p0_left a_p0_left_limbs  u1.1 u3 hu4) mwX4_isNought miX4_isNought kmX0_92 [1] rfl (by decide) rfl rfl rfl 0 rfl rfl ⟨Nat.le_of_ble_eq_true rfl, Nat.le_of_ble_eq_true rfl⟩ ⟨Nat.zero_le _, Nat.zero_le _⟩ hl.1 rfl rfl (Nat.le_of_ble_eq_true rfl) dX0_valueOf_42 (fun H locs hP hD hS => ?_)
      refine lv_if_ne (tgt := 55) hx hb dX0_valueOf_45 (by decide) (fun hc26 => ?_) (fun hc26 => ?_)
      · have hf := ifF hc26 hf
        exact keyB55 p2 p3 u1.1 u1.2 p0_right_size p0_right_limbs H locs ls hf hP hD hS (lv_sub hl [0, 1, 2, 3] rfl)
      · have hf := ifT hc26 hf
        refine lv_aload_n hx hb dX0_valueOf_48 rfl (lv_at hl 1 rfl) ?_
        refine va_get (D := D) (ci := 8) (v := .int p1_sixteens) (C := RX7) (T := TX7) (N := 10) hx hb hts uwX7 hown hK hP 5 rfl rfl 4 (by decide) (hts _ kfX0_96) (fun _ h9 => h9) rfl dX0_valueOf_49 ?_
        refine lv_if_eq (tgt := 81) hx hb dX0_valueOf_52 (by decide) (fun hc25 => ?_) (fun hc25 => ?_)
        · have hf := ifT hc25 hf
          refine lv_aload_n hx hb dX0_valueOf_81 rfl (lv_at hl 1 rfl) ?_
          refine va_get (D := D) (ci := 8) (v := .int p1_power) (C := RX7) (T := TX7) (N := 10) hx hb hts uwX7 hown hK hP 5 rfl rfl 7 (by decide) (hts _ kfX0_99) (fun _ h9 => h9) rfl dX0_valueOf_82 ?_
          refine lv_aload_n hx hb dX0_valueOf_85 rfl (lv_at hl 1 rfl) ?_
          refine va_get (D := D) (ci := 8) (v := .int p1_behindPoint) (C := RX7) (T := TX7) (N := 10) hx hb hts uwX7 hown hK hP 5 rfl rfl 5 (by decide) (hts _ kfX0_102) (fun _ h9 => h9) rfl dX0_valueOf_86 ?_
          refine lv_isub hx hb dX0_valueOf_89 ?_
          refine lv_istore (lv' := [(4, .int (p1_power - p1_behindPoint)), (0, .ref a_p0), (1, .ref a_p1), (2, .int p2), (3, .int p3)]) hx hb dX0_valueOf_90 hl (by decide) rfl (fun ls hl => ?_)
          refine lv_iload hx hb dX0_valueOf_92 (lv_at hl 0 rfl) ?_
          refine lv_aload_n hx hb dX0_valueOf_94 rfl (lv_at hl 2 rfl) ?_
          refine va_get (D := D) (ci := 8) (v := .int p1_counting) (C := RX7) (T := TX7) (N := 10) hx hb hts uwX7 hown hK hP 5 rfl rfl 6 (by decide) (hts _ kfX0_105) (fun _ h9 => h9) rfl dX0_valueOf_95 ?_
          refine lv_iadd hx hb dX0_valueOf_98 ?_
          refine lv_iconst (v := 1) hx hb dX0_valueOf_99 (by decide) ?_
          refine lv_isub hx hb dX0_valueOf_100 ?_
          refine lv_istore (lv' := [(5, .int (((p1_power - p1_behindPoint) + p1_counting) - (1 : Int32))), (4, .int (p1_power - p1_behindPoint)), (0, .ref a_p0), (1, .ref a_p1), (2, .int p2), (3, .int p3)]) hx hb dX0_valueOf_101 hl (by decide) rfl (fun ls hl => ?_)
          refine lv_iload hx hb dX0_valueOf_103 (lv_at hl 0 rfl) ?_
          refine lv_sipush (v := 400) hx hb dX0_valueOf_105 (by decide) ?_
          refine lv_icmp_gt (tgt := 119) hx hb dX0_valueOf_108 (by decide) (fun hc24 => ?_) (fun hc24 => ?_)
          · have hf := ifT hc24 hf
            exact keyB119 p2 p3 (((p1_power - p1_behindPoint) + p1_counting) - (1 : Int32)) u1.1 u1.2 p0_right_size p0_right_limbs H locs ls hf hP hD hS (lv_sub hl [2, 3, 4, 5, 0] rfl)
          · have hf := ifF hc24 hf
            refine lv_iload hx hb dX0_valueOf_111 (lv_at hl 0 rfl) ?_
            refine lv_sipush (v := -400) hx hb dX0_valueOf_113 (by decide) ?_
            refine lv_icmp_ge (tgt := 156) hx hb dX0_valueOf_116 (by decide) (fun hc23 => ?_) (fun hc23 => ?_)
            · have hf := ifT hc23 hf
              refine lv_iload hx hb dX0_valueOf_156 (lv_at hl 1 rfl) ?_
              refine lv_if_lt (tgt := 187) hx hb dX0_valueOf_158 (by decide) (fun hc22 => ?_) (fun hc22 => ?_)
              · have hf := ifT hc22 hf
                refine lv_aload_n hx hb dX0_valueOf_187 rfl (lv_at hl 2 rfl) ?_
                refine va_get (D := D) (ci := 2) (v := .ref a_p0_right) (C := RX0) (T := TX0) (N := 2) hx hb hts uwX0 hown hK hP 0 rfl rfl 1 (by decide) (hts _ kfX0_15) (fun _ h9 => h9) rfl dX0_valueOf_188 ?_
                refine lv_lconst (v := 1) hx hb dX0_valueOf_191 (by decide) ?_
                obtain ⟨u12, hu13, hf⟩ := bdE hf
                refine cV_V (ws' := [(a_p0, .inr (2, [.ref a_p0_left, .ref a_p0_right])), (a_p0_left, .inr (5, [.ref a_p0_left_limbs, .int u1.1])), (a_p0_left_limbs, .inl (cJ, 160, .inr (.inl u1.2))), (a_p0_right, .inr (5, [.ref a_p0_right_limbs, .int u12.1])), (a_p0_right_limbs, .inl (cJ, 160, .inr (.inl u12.2))), (a_p1, .inr (8, [.ref a_p1_bytes, .int p1_length, .int p1_minus, .int p1_kind, .int p1_sixteens, .int p1_behindPoint, .int p1_counting, .int p1_power, .int p1_begin, .int p1_end])), (a_p1_bytes, .inl (cI, 1200, .inl p1_bytes))]) (rest := []) S hK hN hA hP hD hS (c_X4_take l D cI cJ a_p0_right a_p0_right_limbs (1 : Int64) p0_right_size p0_right_limbs u12 hu13) mwX4_take miX4_take kmX0_42 [3, 4] rfl (by decide) rfl rfl rfl 0 rfl rfl ⟨Nat.le_of_ble_eq_true rfl, Nat.le_of_ble_eq_true rfl⟩ ⟨Nat.zero_le _, Nat.zero_le _⟩ hl.1 rfl rfl (Nat.le_of_ble_eq_true rfl) dX0_valueOf_192 (fun H locs hP hD hS => ?_)
                refine lv_aload_n hx hb dX0_valueOf_195 rfl (lv_at hl 2 rfl) ?_
                refine va_get (D := D) (ci := 2) (v := .ref a_p0_right) (C := RX0) (T := TX0) (N := 2) hx hb hts uwX0 hown hK hP 0 rfl rfl 1 (by decide) (hts _ kfX0_15) (fun _ h9 => h9) rfl dX0_valueOf_196 ?_
                refine lv_iload hx hb dX0_valueOf_199 (lv_at hl 1 rfl) ?_
                refine lv_ineg hx hb dX0_valueOf_201 ?_
                obtain ⟨u14, hu15, hf⟩ := bdE hf
                refine cV_V (ws' := [(a_p0, .inr (2, [.ref a_p0_left, .ref a_p0_right])), (a_p0_left, .inr (5, [.ref a_p0_left_limbs, .int u1.1])), (a_p0_left_limbs, .inl (cJ, 160, .inr (.inl u1.2))), (a_p0_right, .inr (5, [.ref a_p0_right_limbs, .int u14.1])), (a_p0_right_limbs, .inl (cJ, 160, .inr (.inl u14.2))), (a_p1, .inr (8, [.ref a_p1_bytes, .int p1_length, .int p1_minus, .int p1_kind, .int p1_sixteens, .int p1_behindPoint, .int p1_counting, .int p1_power, .int p1_begin, .int p1_end])), (a_p1_bytes, .inl (cI, 1200, .inl p1_bytes))]) (rest := []) S hK hN hA hP hD hS (c_X4_scaleByFives l D cI cJ a_p0_right a_p0_right_limbs (-(p1_power - p1_behindPoint)) u12.1 u12.2 u14 hu15) mwX4_scaleByFives miX4_scaleByFives kmX0_108 [3, 4] rfl (by decide) rfl rfl rfl 0 rfl rfl ⟨Nat.le_of_ble_eq_true rfl, Nat.le_of_ble_eq_true rfl⟩ ⟨Nat.zero_le _, Nat.zero_le _⟩ hl.1 rfl rfl (Nat.le_of_ble_eq_true rfl) dX0_valueOf_202 (fun H locs hP hD hS => ?_)
                refine lv_aload_n hx hb dX0_valueOf_205 rfl (lv_at hl 2 rfl) ?_
                refine lv_aload_n hx hb dX0_valueOf_206 rfl (lv_at hl 3 rfl) ?_
                refine va_get (D := D) (ci := 8) (v := .int p1_minus) (C := RX7) (T := TX7) (N := 10) hx hb hts uwX7 hown hK hP 5 rfl rfl 2 (by decide) (hts _ kfX0_87) (fun _ h9 => h9) rfl dX0_valueOf_207 ?_
                refine lv_iload hx hb dX0_valueOf_210 (lv_at hl 1 rfl) ?_
                refine lv_iload_n hx hb dX0_valueOf_212 rfl (lv_at hl 4 rfl) ?_
                refine lv_iload_n hx hb dX0_valueOf_213 rfl (lv_at hl 5 rfl) ?_
                obtain ⟨u16, hu17, hf⟩ := bdE hf
                refine cV_L (ws' := [(a_p0, .inr (2, [.ref a_p0_left, .ref a_p0_right])), (a_p0_left, .inr (5, [.ref a_p0_left_limbs, .int u16.2.1])), (a_p0_left_limbs, .inl (cJ, 160, .inr (.inl u16.2.2.1))), (a_p0_right, .inr (5, [.ref a_p0_right_limbs, .int u16.2.2.2.1])), (a_p0_right_limbs, .inl (cJ, 160, .inr (.inl u16.2.2.2.2))), (a_p1, .inr (8, [.ref a_p1_bytes, .int p1_length, .int p1_minus, .int p1_kind, .int p1_sixteens, .int p1_behindPoint, .int p1_counting, .int p1_power, .int p1_begin, .int p1_end])), (a_p1_bytes, .inl (cI, 1200, .inl p1_bytes))]) (rest := []) S hK hN hA hP hD hS (c_X0_divided l D cI cJ a_p0 a_p0_left a_p0_right a_p0_left_limbs a_p0_right_limbs p1_minus (p1_power - p1_behindPoint) p2 p3 u1.1 u1.2 u14.1 u14.2 u16 hu17) mwX0_divided miX0_divided kmX0_70 [0, 1, 2, 3, 4] rfl (by decide) rfl rfl rfl 0 rfl rfl ⟨Nat.le_of_ble_eq_true rfl, Nat.le_of_ble_eq_true rfl⟩ ⟨Nat.zero_le _, Nat.zero_le _⟩ hl.1 rfl rfl (Nat.le_of_ble_eq_true rfl) dX0_valueOf_214 (fun H locs hP hD hS => ?_)
                exact hret _ (opE hf) H locs ls 217 dX0_valueOf_217 hP hD hS
              · have hf := ifF hc22 hf
                refine lv_aload_n hx hb dX0_valueOf_161 rfl (lv_at hl 2 rfl) ?_
                refine va_get (D := D) (ci := 2) (v := .ref a_p0_left) (C := RX0) (T := TX0) (N := 2) hx hb hts uwX0 hown hK hP 0 rfl rfl 0 (by decide) (hts _ kfX0_9) (fun _ h9 => h9) rfl dX0_valueOf_162 ?_
                refine lv_iload hx hb dX0_valueOf_165 (lv_at hl 1 rfl) ?_
                obtain ⟨u18, hu19, hf⟩ := bdE hf
                refine cV_V (ws' := [(a_p0, .inr (2, [.ref a_p0_left, .ref a_p0_right])), (a_p0_left, .inr (5, [.ref a_p0_left_limbs, .int u18.1])), (a_p0_left_limbs, .inl (cJ, 160, .inr (.inl u18.2))), (a_p0_right, .inr (5, [.ref a_p0_right_limbs, .int p0_right_size])), (a_p0_right_limbs, .inl (cJ, 160, .inr (.inl p0_right_limbs))), (a_p1, .inr (8, [.ref a_p1_bytes, .int p1_length, .int p1_minus, .int p1_kind, .int p1_sixteens, .int p1_behindPoint, .int p1_counting, .int p1_power, .int p1_begin, .int p1_end])), (a_p1_bytes, .inl (cI, 1200, .inl p1_bytes))]) (rest := []) S hK hN hA hP hD hS (c_X4_scaleByFives l D cI cJ a_p0_left a_p0_left_limbs (p1_power - p1_behindPoint) u1.1 u1.2 u18 hu19) mwX4_scaleByFives miX4_scaleByFives kmX0_108 [1, 2] rfl (by decide) rfl rfl rfl 0 rfl rfl ⟨Nat.le_of_ble_eq_true rfl, Nat.le_of_ble_eq_true rfl⟩ ⟨Nat.zero_le _, Nat.zero_le _⟩ hl.1 rfl rfl (Nat.le_of_ble_eq_true rfl) dX0_valueOf_167 (fun H locs hP hD hS => ?_)
                refine lv_aload_n hx hb dX0_valueOf_170 rfl (lv_at hl 3 rfl) ?_
                refine va_get (D := D) (ci := 8) (v := .int p1_minus) (C := RX7) (T := TX7) (N := 10) hx hb hts uwX7 hown hK hP 5 rfl rfl 2 (by decide) (hts _ kfX0_87) (fun _ h9 => h9) rfl dX0_valueOf_171 ?_
                refine lv_aload_n hx hb dX0_valueOf_174 rfl (lv_at hl 2 rfl) ?_
                refine va_get (D := D) (ci := 2) (v := .ref a_p0_left) (C := RX0) (T := TX0) (N := 2) hx hb hts uwX0 hown hK hP 0 rfl rfl 0 (by decide) (hts _ kfX0_9) (fun _ h9 => h9) rfl dX0_valueOf_175 ?_
                refine lv_iload hx hb dX0_valueOf_178 (lv_at hl 1 rfl) ?_
                refine lv_iconst (v := 0) hx hb dX0_valueOf_180 (by decide) ?_
                refine lv_iload_n hx hb dX0_valueOf_181 rfl (lv_at hl 4 rfl) ?_
                refine lv_iload_n hx hb dX0_valueOf_182 rfl (lv_at hl 5 rfl) ?_
                obtain ⟨u20, hu21, hf⟩ := bdE hf
                refine cS_L (ws' := [(a_p0, .inr (2, [.ref a_p0_left, .ref a_p0_right])), (a_p0_left, .inr (5, [.ref a_p0_left_limbs, .int u18.1])), (a_p0_left_limbs, .inl (cJ, 160, .inr (.inl u18.2))), (a_p0_right, .inr (5, [.ref a_p0_right_limbs, .int p0_right_size])), (a_p0_right_limbs, .inl (cJ, 160, .inr (.inl p0_right_limbs))), (a_p1, .inr (8, [.ref a_p1_bytes, .int p1_length, .int p1_minus, .int p1_kind, .int p1_sixteens, .int p1_behindPoint, .int p1_counting, .int p1_power, .int p1_begin, .int p1_end])), (a_p1_bytes, .inl (cI, 1200, .inl p1_bytes))]) (rest := []) S hK hN hA hP hD hS (c_X0_rounded l D cI cJ a_p0_left a_p0_left_limbs p1_minus (p1_power - p1_behindPoint) (0 : Int32) p2 p3 u18.1 u18.2 u20 hu21) mwX0_rounded msX0_rounded kmX0_51 [1, 2] rfl (by decide) rfl rfl rfl ⟨Nat.le_of_ble_eq_true rfl, Nat.le_of_ble_eq_true rfl⟩ ⟨Nat.zero_le _, Nat.zero_le _⟩ hl.1 rfl rfl (Nat.le_of_ble_eq_true rfl) dX0_valueOf_183 (fun H locs hP hD hS => ?_)
                exact hret _ (opE hf) H locs ls 186 dX0_valueOf_186 hP hD hS
            · have hf := ifF hc23 hf
              exact keyB119 p2 p3 (((p1_power - p1_behindPoint) + p1_counting) - (1 : Int32)) u1.1 u1.2 p0_right_size p0_right_limbs H locs ls hf hP hD hS (lv_sub hl [2, 3, 4, 5, 0] rfl)
        · have hf := ifF hc25 hf
          exact keyB55 p2 p3 u1.1 u1.2 p0_right_size p0_right_limbs H locs ls hf hP hD hS (lv_sub hl [0, 1, 2, 3] rfl)
    · have hf := ifT hc29 hf
      refine lv_iload_n hx hb dX0_valueOf_21 rfl (lv_at hl 2 rfl) ?_
      refine lv_aload_n hx hb dX0_valueOf_22 rfl (lv_at hl 1 rfl) ?_
      refine va_get (D := D) (ci := 8) (v := .int p1_minus) (C := RX7) (T := TX7) (N := 10) hx hb hts uwX7 hown hK hP 5 rfl rfl 2 (by decide) (hts _ kfX0_87) (fun _ h9 => h9) rfl dX0_valueOf_23 ?_
      obtain ⟨u27, hu28, hf⟩ := bdE hf
      refine cS_L (ws' := [(a_p0, .inr (2, [.ref a_p0_left, .ref a_p0_right])), (a_p0_left, .inr (5, [.ref a_p0_left_limbs, .int p0_left_size])), (a_p0_left_limbs, .inl (cJ, 160, .inr (.inl p0_left_limbs))), (a_p0_right, .inr (5, [.ref a_p0_right_limbs, .int p0_right_size])), (a_p0_right_limbs, .inl (cJ, 160, .inr (.inl p0_right_limbs))), (a_p1, .inr (8, [.ref a_p1_bytes, .int p1_length, .int p1_minus, .int p1_kind, .int p1_sixteens, .int p1_behindPoint, .int p1_counting, .int p1_power, .int p1_begin, .int p1_end])), (a_p1_bytes, .inl (cI, 1200, .inl p1_bytes))]) (rest := []) S hK hN hA hP hD hS (c_X2_endless l D cI cJ  p2 p1_minus  u27 hu28) mwX2_endless msX2_endless kmX0_34 [] rfl (by decide) rfl rfl rfl ⟨Nat.le_of_ble_eq_true rfl, Nat.le_of_ble_eq_true rfl⟩ ⟨Nat.zero_le _, Nat.zero_le _⟩ hl.1 rfl rfl (Nat.le_of_ble_eq_true rfl) dX0_valueOf_26 (fun H locs hP hD hS => ?_)
      exact hret _ (opE hf) H locs ls 29 dX0_valueOf_29 hP hD hS
  · have hf := ifT hc32 hf
    refine lv_iload_n hx hb dX0_valueOf_8 rfl (lv_at hl 2 rfl) ?_
    obtain ⟨u30, hu31, hf⟩ := bdE hf
    refine cS_L (ws' := [(a_p0, .inr (2, [.ref a_p0_left, .ref a_p0_right])), (a_p0_left, .inr (5, [.ref a_p0_left_limbs, .int p0_left_size])), (a_p0_left_limbs, .inl (cJ, 160, .inr (.inl p0_left_limbs))), (a_p0_right, .inr (5, [.ref a_p0_right_limbs, .int p0_right_size])), (a_p0_right_limbs, .inl (cJ, 160, .inr (.inl p0_right_limbs))), (a_p1, .inr (8, [.ref a_p1_bytes, .int p1_length, .int p1_minus, .int p1_kind, .int p1_sixteens, .int p1_behindPoint, .int p1_counting, .int p1_power, .int p1_begin, .int p1_end])), (a_p1_bytes, .inl (cI, 1200, .inl p1_bytes))]) (rest := []) S hK hN hA hP hD hS (c_X2_none l D cI cJ  p2  u30 hu31) mwX2_none msX2_none kmX0_24 [] rfl (by decide) rfl rfl rfl ⟨Nat.le_of_ble_eq_true rfl, Nat.le_of_ble_eq_true rfl⟩ ⟨Nat.zero_le _, Nat.zero_le _⟩ hl.1 rfl rfl (Nat.le_of_ble_eq_true rfl) dX0_valueOf_9 (fun H locs hP hD hS => ?_)
    exact hret _ (opE hf) H locs ls 12 dX0_valueOf_12 hP hD hS
