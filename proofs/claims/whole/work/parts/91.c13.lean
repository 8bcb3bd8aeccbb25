set_option maxRecDepth 100000 in
set_option maxHeartbeats 4000000 in
theorem c_X10_shift (l : Launch) (D : va_G) (cI cJ : ClassId) (a_p0 a_p0_d : Nat) (p1 : Int32) (p0_len : Int32) (p0_d : (Nat → Int32)) (u : Int32 × (Nat → Int32)) (hf : f_X10_shift p1 p0_len p0_d = some u) : CtV l yX10_shift cX10_shift 9 1 21 [.ref a_p0, .int p1] D cI cJ [(a_p0, .inr (11, [.ref a_p0_d, .int p0_len])), (a_p0_d, .inl (cI, 520, .inl p0_d))] [(a_p0, .inr (11, [.ref a_p0_d, .int u.1])), (a_p0_d, .inl (cI, 520, .inl u.2))] := by
  refine mkV (own := RX10) rfl (by decide +kernel) (Nat.le_of_ble_eq_true rfl) (lv := [(0, .ref a_p0), (1, .int p1)]) rfl ?_
  intro p e s m below meth c Q A ls ar S hA hK hN hret H locs hP hD hS hl
  obtain ⟨hx, hb, hml, hown, hts⟩ := id S
  have hret : ∀ (w : Int32 × (Nat → Int32)), w = u → ∀ (H : Heap) (locs : List Loc) (ls : Array Slot) (pc : Nat), decode cX10_shift pc = .ok (.return_, 1) → va_P D vwCl [(a_p0, .inr (11, [.ref a_p0_d, .int w.1])), (a_p0_d, .inl (cI, 520, .inl w.2))] H → va_D A [(a_p0, .inr (11, [.ref a_p0_d, .int w.1])), (a_p0_d, .inl (cI, 520, .inl w.2))] → va_S A s.heap H locs → W p l e (rmz 1 21) s m ar below meth c H locs 0 0 Q (F0 m pc ls []) := fun w hw => hw ▸ hret
  have keyB125 : ∀ (v2 : Int32) (p0_len : Int32) (p0_d : (Nat → Int32)) (H : Heap) (locs : List Loc) (ls : Array Slot), f_X10_shift_B125 v2 p0_len p0_d = some u → va_P D vwCl [(a_p0, .inr (11, [.ref a_p0_d, .int p0_len])), (a_p0_d, .inl (cI, 520, .inl p0_d))] H → va_D A [(a_p0, .inr (11, [.ref a_p0_d, .int p0_len])), (a_p0_d, .inl (cI, 520, .inl p0_d))] → va_S A s.heap H locs → lv_has ls 9 [(0, .ref a_p0), (2, .int v2)] → W p l e (rmz 1 21) s m ar below meth c H locs 0 0 Q (F0 m 125 ls []) := by
    intro v2 p0_len p0_d H locs ls hf hP hD hS hl
    unfold f_X10_shift_B125 at hf
    refine lv_aload_n hx hb dX10_shift_125 rfl (lv_at hl 0 rfl) ?_
    refine lv_aload_n hx hb dX10_shift_126 rfl (lv_at hl 0 rfl) ?_
    refine va_get (D := D) (ci := 11) (v := .int p0_len) (C := RX10) (T := TX10) (N := 2) hx hb hts uwX10 hown hK hP 0 rfl rfl 1 (by decide) (hts _ kfX10_15) (fun _ h9 => h9) rfl dX10_shift_127 ?_
    refine lv_iload_n hx hb dX10_shift_130 rfl (lv_at hl 1 rfl) ?_
    refine lv_iadd hx hb dX10_shift_131 ?_
    refine lv_iconst (v := 1) hx hb dX10_shift_132 (by decide) ?_
    refine lv_iadd hx hb dX10_shift_133 ?_
    obtain ⟨u2, hu3, hf⟩ := bdE hf
    refine cV_V (ws' := [(a_p0, .inr (11, [.ref a_p0_d, .int u2])), (a_p0_d, .inl (cI, 520, .inl p0_d))]) (rest := []) S hK hN hA hP hD hS (c_X10_trim l D cI cJ a_p0 a_p0_d ((p0_len + v2) + (1 : Int32)) p0_len p0_d u2 hu3) mwX10_trim miX10_trim kmX10_33 [0, 1] rfl (by decide) rfl rfl rfl 0 rfl rfl ⟨Nat.le_of_ble_eq_true rfl, Nat.le_of_ble_eq_true rfl⟩ ⟨Nat.zero_le _, Nat.zero_le _⟩ hl.1 rfl rfl (Nat.le_of_ble_eq_true rfl) dX10_shift_134 (fun H locs hP hD hS => ?_)
    exact hret _ (opE hf) H locs ls 137 dX10_shift_137 hP hD hS
  have keyL105 : ∀ (n : Nat) (v2 : Int32) (v4 : Int32) (p0_len : Int32) (p0_d : (Nat → Int32)) (H : Heap) (locs : List Loc) (ls : Array Slot), f_X10_shift_L105 n v2 v4 p0_len p0_d = some u → va_P D vwCl [(a_p0, .inr (11, [.ref a_p0_d, .int p0_len])), (a_p0_d, .inl (cI, 520, .inl p0_d))] H → va_D A [(a_p0, .inr (11, [.ref a_p0_d, .int p0_len])), (a_p0_d, .inl (cI, 520, .inl p0_d))] → va_S A s.heap H locs → lv_has ls 9 [(0, .ref a_p0), (2, .int v2), (4, .int v4)] → W p l e (rmz 1 21) s m ar below meth c H locs 0 0 Q (F0 m 105 ls []) := by
    intro n
    induction n with
      | zero =>
        intro v2 v4 p0_len p0_d H locs ls hf
        cases hf
      | succ n ih =>
        intro v2 v4 p0_len p0_d H locs ls hf hP hD hS hl
        rw [f_X10_shift_L105] at hf
        refine lv_iload hx hb dX10_shift_105 (lv_at hl 2 rfl) ?_
        refine lv_iload_n hx hb dX10_shift_107 rfl (lv_at hl 1 rfl) ?_
        refine lv_icmp_ge (tgt := 125) hx hb dX10_shift_108 (by decide) (fun hc5 => ?_) (fun hc5 => ?_)
        · have hf := ifT hc5 hf
          exact keyB125 v2 p0_len p0_d H locs ls hf hP hD hS (lv_sub hl [0, 1] rfl)
        · have hf := ifF hc5 hf
          refine lv_aload_n hx hb dX10_shift_111 rfl (lv_at hl 0 rfl) ?_
          refine va_get (D := D) (ci := 11) (v := .ref a_p0_d) (C := RX10) (T := TX10) (N := 2) hx hb hts uwX10 hown hK hP 0 rfl rfl 0 (by decide) (hts _ kfX10_9) (fun _ h9 => h9) rfl dX10_shift_112 ?_
          refine lv_iload hx hb dX10_shift_115 (lv_at hl 2 rfl) ?_
          refine lv_iconst (v := 0) hx hb dX10_shift_117 (by decide) ?_
          obtain ⟨hi4, hf⟩ := gdE hf
          refine va_iast hx hb hK hP hD hS 1 0 rfl rfl hi4 dX10_shift_118 (fun H locs hP hD hS => ?_)
          have hP : va_P D vwCl [(a_p0, .inr (11, [.ref a_p0_d, .int p0_len])), (a_p0_d, .inl (cI, 520, .inl (upd p0_d v4.toNatClampNeg (0 : Int32))))] H := hP
          have hD : va_D A [(a_p0, .inr (11, [.ref a_p0_d, .int p0_len])), (a_p0_d, .inl (cI, 520, .inl (upd p0_d v4.toNatClampNeg (0 : Int32))))] := hD
          refine lv_iinc (v := v4 + (1 : Int32)) (lv' := [(4, .int (v4 + (1 : Int32))), (0, .ref a_p0), (2, .int v2)]) hx hb dX10_shift_119 hl (k := 2) rfl (by rfl) (by decide) rfl (fun ls hl => ?_)
          refine lv_goto (tgt := 105) hx hb dX10_shift_122 (by decide) ?_
          exact ih v2 (v4 + (1 : Int32)) p0_len (upd p0_d v4.toNatClampNeg (0 : Int32)) H locs ls hf hP hD hS (lv_sub hl [1, 2, 0] rfl)
  have keyB58 : ∀ (kL34 : Int32 → Int32 → Int32 → Int32 → (Nat → Int32) → Option (Int32 × (Nat → Int32))) (hL34 : ∀ (v2 : Int32) (v3 : Int32) (v4 : Int32) (p0_len : Int32) (p0_d : (Nat → Int32)) (H : Heap) (locs : List Loc) (ls : Array Slot), kL34 v2 v3 v4 p0_len p0_d = some u → va_P D vwCl [(a_p0, .inr (11, [.ref a_p0_d, .int p0_len])), (a_p0_d, .inl (cI, 520, .inl p0_d))] H → va_D A [(a_p0, .inr (11, [.ref a_p0_d, .int p0_len])), (a_p0_d, .inl (cI, 520, .inl p0_d))] → va_S A s.heap H locs → lv_has ls 9 [(0, .ref a_p0), (2, .int v2), (3, .int v3), (4, .int v4)] → W p l e (rmz 1 21) s m ar below meth c H locs 0 0 Q (F0 m 34 ls [])) (v2 : Int32) (v3 : Int32) (v4 : Int32) (s0 : Int64) (p0_len : Int32) (p0_d : (Nat → Int32)) (H : Heap) (locs : List Loc) (ls : Array Slot), f_X10_shift_B58 kL34 v2 v3 v4 s0 p0_len p0_d = some u → va_P D vwCl [(a_p0, .inr (11, [.ref a_p0_d, .int p0_len])), (a_p0_d, .inl (cI, 520, .inl p0_d))] H → va_D A [(a_p0, .inr (11, [.ref a_p0_d, .int p0_len])), (a_p0_d, .inl (cI, 520, .inl p0_d))] → va_S A s.heap H locs → lv_has ls 9 [(0, .ref a_p0), (2, .int v2), (3, .int v3), (4, .int v4)] → W p l e (rmz 1 21) s m ar below meth c H locs 0 0 Q (F0 m 58 ls [.long s0]) := by
    intro kL34 hL34 v2 v3 v4 s0 p0_len p0_d H locs ls hf hP hD hS hl
    unfold f_X10_shift_B58 at hf
    refine lv_lstore (lv' := [(5, .long s0), (0, .ref a_p0), (2, .int v2), (3, .int v3), (4, .int v4)]) hx hb dX10_shift_58 hl (by decide) rfl (fun ls hl => ?_)
    refine lv_aload_n hx hb dX10_shift_60 rfl (lv_at hl 1 rfl) ?_
    refine va_get (D := D) (ci := 11) (v := .ref a_p0_d) (C := RX10) (T := TX10) (N := 2) hx hb hts uwX10 hown hK hP 0 rfl rfl 0 (by decide) (hts _ kfX10_9) (fun _ h9 => h9) rfl dX10_shift_61 ?_
    refine lv_iload hx hb dX10_shift_64 (lv_at hl 4 rfl) ?_
    obtain ⟨hi6, hf⟩ := gdE hf
    refine va_iald hx hb hK hP 1 0 rfl rfl hi6 dX10_shift_66 ?_
    refine lv_i2l (v := (p0_d v4.toNatClampNeg).toInt64) hx hb dX10_shift_67 rfl ?_
    refine lv_iload_n hx hb dX10_shift_68 rfl (lv_at hl 3 rfl) ?_
    refine lv_lshl (v := lsh ((p0_d v4.toNatClampNeg).toInt64) v3) hx hb dX10_shift_69 rfl ?_
    refine lv_lload hx hb dX10_shift_70 (lv_at hl 0 rfl) ?_
    refine lv_iload_n hx hb dX10_shift_72 rfl (lv_at hl 3 rfl) ?_
    refine lv_lshl (v := lsh s0 v3) hx hb dX10_shift_73 rfl ?_
    refine lv_bipush (v := 30) hx hb dX10_shift_74 (by decide) ?_
    refine lv_lushr (v := lus (lsh s0 v3) (30 : Int32)) hx hb dX10_shift_76 rfl ?_
    refine lv_lor hx hb dX10_shift_77 ?_
    refine lv_lstore (lv' := [(7, .long ((lsh ((p0_d v4.toNatClampNeg).toInt64) v3) ||| (lus (lsh s0 v3) (30 : Int32)))), (5, .long s0), (0, .ref a_p0), (2, .int v2), (3, .int v3), (4, .int v4)]) hx hb dX10_shift_78 hl (by decide) rfl (fun ls hl => ?_)
    refine lv_aload_n hx hb dX10_shift_80 rfl (lv_at hl 2 rfl) ?_
    refine va_get (D := D) (ci := 11) (v := .ref a_p0_d) (C := RX10) (T := TX10) (N := 2) hx hb hts uwX10 hown hK hP 0 rfl rfl 0 (by decide) (hts _ kfX10_9) (fun _ h9 => h9) rfl dX10_shift_81 ?_
    refine lv_iload hx hb dX10_shift_84 (lv_at hl 5 rfl) ?_
    refine lv_iload_n hx hb dX10_shift_86 rfl (lv_at hl 3 rfl) ?_
    refine lv_iadd hx hb dX10_shift_87 ?_
    refine lv_lload hx hb dX10_shift_88 (lv_at hl 0 rfl) ?_
    refine lv_ldc2 hx hb hown (hts _ kcX10_19) dX10_shift_90 ?_
    refine lv_land hx hb dX10_shift_93 ?_
    refine lv_l2i (v := (((lsh ((p0_d v4.toNatClampNeg).toInt64) v3) ||| (lus (lsh s0 v3) (30 : Int32))) &&& (1073741823 : Int64)).toInt32) hx hb dX10_shift_94 rfl ?_
    obtain ⟨hi7, hf⟩ := gdE hf
    refine va_iast hx hb hK hP hD hS 1 0 rfl rfl hi7 dX10_shift_95 (fun H locs hP hD hS => ?_)
    have hP : va_P D vwCl [(a_p0, .inr (11, [.ref a_p0_d, .int p0_len])), (a_p0_d, .inl (cI, 520, .inl (upd p0_d (v4 + v2).toNatClampNeg ((((lsh ((p0_d v4.toNatClampNeg).toInt64) v3) ||| (lus (lsh s0 v3) (30 : Int32))) &&& (1073741823 : Int64)).toInt32))))] H := hP
    have hD : va_D A [(a_p0, .inr (11, [.ref a_p0_d, .int p0_len])), (a_p0_d, .inl (cI, 520, .inl (upd p0_d (v4 + v2).toNatClampNeg ((((lsh ((p0_d v4.toNatClampNeg).toInt64) v3) ||| (lus (lsh s0 v3) (30 : Int32))) &&& (1073741823 : Int64)).toInt32))))] := hD
    refine lv_iinc (v := v4 + (-1 : Int32)) (lv' := [(4, .int (v4 + (-1 : Int32))), (7, .long ((lsh ((p0_d v4.toNatClampNeg).toInt64) v3) ||| (lus (lsh s0 v3) (30 : Int32)))), (5, .long s0), (0, .ref a_p0), (2, .int v2), (3, .int v3)]) hx hb dX10_shift_96 hl (k := 5) rfl (by rfl) (by decide) rfl (fun ls hl => ?_)
    refine lv_goto (tgt := 34) hx hb dX10_shift_99 (by decide) ?_
    exact hL34 v2 v3 (v4 + (-1 : Int32)) p0_len (upd p0_d (v4 + v2).toNatClampNeg ((((lsh ((p0_d v4.toNatClampNeg).toInt64) v3) ||| (lus (lsh s0 v3) (30 : Int32))) &&& (1073741823 : Int64)).toInt32)) H locs ls hf hP hD hS (lv_sub hl [3, 4, 5, 0] rfl)
  have keyL34 : ∀ (n : Nat) (v2 : Int32) (v3 : Int32) (v4 : Int32) (p0_len : Int32) (p0_d : (Nat → Int32)) (H : Heap) (locs : List Loc) (ls : Array Slot), f_X10_shift_L34 n v2 v3 v4 p0_len p0_d = some u → va_P D vwCl [(a_p0, .inr (11, [.ref a_p0_d, .int p0_len])), (a_p0_d, .inl (cI, 520, .inl p0_d))] H → va_D A [(a_p0, .inr (11, [.ref a_p0_d, .int p0_len])), (a_p0_d, .inl (cI, 520, .inl p0_d))] → va_S A s.heap H locs → lv_has ls 9 [(0, .ref a_p0), (2, .int v2), (3, .int v3), (4, .int v4)] → W p l e (rmz 1 21) s m ar below meth c H locs 0 0 Q (F0 m 34 ls []) := by
    intro n
    induction n with
      | zero =>
        intro v2 v3 v4 p0_len p0_d H locs ls hf
        cases hf
      | succ n ih =>
        intro v2 v3 v4 p0_len p0_d H locs ls hf hP hD hS hl
        rw [f_X10_shift_L34] at hf
        refine lv_iload hx hb dX10_shift_34 (lv_at hl 3 rfl) ?_
        refine lv_if_lt (tgt := 102) hx hb dX10_shift_36 (by decide) (fun hc10 => ?_) (fun hc10 => ?_)
        · have hf := ifT hc10 hf
          refine lv_iconst (v := 0) hx hb dX10_shift_102 (by decide) ?_
          refine lv_istore (lv' := [(4, .int (0 : Int32)), (0, .ref a_p0), (2, .int v2), (3, .int v3)]) hx hb dX10_shift_103 hl (by decide) rfl (fun ls hl => ?_)
          exact keyL105 FU v2 (0 : Int32) p0_len p0_d H locs ls hf hP hD hS (lv_sub hl [1, 2, 0] rfl)
        · have hf := ifF hc10 hf
          refine lv_iload hx hb dX10_shift_39 (lv_at hl 3 rfl) ?_
          refine lv_if_le (tgt := 57) hx hb dX10_shift_41 (by decide) (fun hc9 => ?_) (fun hc9 => ?_)
          · have hf := ifT hc9 hf
            refine lv_lconst (v := 0) hx hb dX10_shift_57 (by decide) ?_
            exact keyB58 (f_X10_shift_L34 n) ih v2 v3 v4 (0 : Int64) p0_len p0_d H locs ls hf hP hD hS (lv_sub hl [0, 1, 2, 3] rfl)
          · have hf := ifF hc9 hf
            refine lv_aload_n hx hb dX10_shift_44 rfl (lv_at hl 0 rfl) ?_
            refine va_get (D := D) (ci := 11) (v := .ref a_p0_d) (C := RX10) (T := TX10) (N := 2) hx hb hts uwX10 hown hK hP 0 rfl rfl 0 (by decide) (hts _ kfX10_9) (fun _ h9 => h9) rfl dX10_shift_45 ?_
            refine lv_iload hx hb dX10_shift_48 (lv_at hl 3 rfl) ?_
            refine lv_iconst (v := 1) hx hb dX10_shift_50 (by decide) ?_
            refine lv_isub hx hb dX10_shift_51 ?_
            obtain ⟨hi8, hf⟩ := gdE hf
            refine va_iald hx hb hK hP 1 0 rfl rfl hi8 dX10_shift_52 ?_
            refine lv_i2l (v := (p0_d (v4 - (1 : Int32)).toNatClampNeg).toInt64) hx hb dX10_shift_53 rfl ?_
            refine lv_goto (tgt := 58) hx hb dX10_shift_54 (by decide) ?_
            exact keyB58 (f_X10_shift_L34 n) ih v2 v3 v4 ((p0_d (v4 - (1 : Int32)).toNatClampNeg).toInt64) p0_len p0_d H locs ls hf hP hD hS (lv_sub hl [0, 1, 2, 3] rfl)
  unfold f_X10_shift at hf
  refine lv_aload_n hx hb dX10_shift_0 rfl (lv_at hl 0 rfl) ?_
  refine va_get (D := D) (ci := 11) (v := .int p0_len) (C := RX10) (T := TX10) (N := 2) hx hb hts uwX10 hown hK hP 0 rfl rfl 1 (by decide) (hts _ kfX10_15) (fun _ h9 => h9) rfl dX10_shift_1 ?_
  refine lv_if_ne (tgt := 8) hx hb dX10_shift_4 (by decide) (fun hc11 => ?_) (fun hc11 => ?_)
  · have hf := ifF hc11 hf
    refine lv_iload_n hx hb dX10_shift_8 rfl (lv_at hl 1 rfl) ?_
    refine lv_bipush (v := 30) hx hb dX10_shift_9 (by decide) ?_
    refine lv_idiv hx hb dX10_shift_11 (by decide) ?_
    refine lv_istore_n (lv' := [(2, .int (p1 / (30 : Int32))), (0, .ref a_p0), (1, .int p1)]) hx hb dX10_shift_12 rfl hl (by decide) rfl (fun ls hl => ?_)
    refine lv_iload_n hx hb dX10_shift_13 rfl (lv_at hl 2 rfl) ?_
    refine lv_bipush (v := 30) hx hb dX10_shift_14 (by decide) ?_
    refine lv_irem hx hb dX10_shift_16 (by decide) ?_
    refine lv_istore_n (lv' := [(3, .int (irm p1 (30 : Int32))), (2, .int (p1 / (30 : Int32))), (0, .ref a_p0), (1, .int p1)]) hx hb dX10_shift_17 rfl hl (by decide) rfl (fun ls hl => ?_)
    refine lv_aload_n hx hb dX10_shift_18 rfl (lv_at hl 2 rfl) ?_
    refine va_get (D := D) (ci := 11) (v := .ref a_p0_d) (C := RX10) (T := TX10) (N := 2) hx hb hts uwX10 hown hK hP 0 rfl rfl 0 (by decide) (hts _ kfX10_9) (fun _ h9 => h9) rfl dX10_shift_19 ?_
    refine lv_aload_n hx hb dX10_shift_22 rfl (lv_at hl 2 rfl) ?_
    refine va_get (D := D) (ci := 11) (v := .int p0_len) (C := RX10) (T := TX10) (N := 2) hx hb hts uwX10 hown hK hP 0 rfl rfl 1 (by decide) (hts _ kfX10_15) (fun _ h9 => h9) rfl dX10_shift_23 ?_
    refine lv_iconst (v := 0) hx hb dX10_shift_26 (by decide) ?_
    obtain ⟨hi1, hf⟩ := gdE hf
    refine va_iast hx hb hK hP hD hS 1 0 rfl rfl hi1 dX10_shift_27 (fun H locs hP hD hS => ?_)
    have hP : va_P D vwCl [(a_p0, .inr (11, [.ref a_p0_d, .int p0_len])), (a_p0_d, .inl (cI, 520, .inl (upd p0_d p0_len.toNatClampNeg (0 : Int32))))] H := hP
    have hD : va_D A [(a_p0, .inr (11, [.ref a_p0_d, .int p0_len])), (a_p0_d, .inl (cI, 520, .inl (upd p0_d p0_len.toNatClampNeg (0 : Int32))))] := hD
    refine lv_aload_n hx hb dX10_shift_28 rfl (lv_at hl 2 rfl) ?_
    refine va_get (D := D) (ci := 11) (v := .int p0_len) (C := RX10) (T := TX10) (N := 2) hx hb hts uwX10 hown hK hP 0 rfl rfl 1 (by decide) (hts _ kfX10_15) (fun _ h9 => h9) rfl dX10_shift_29 ?_
    refine lv_istore (lv' := [(4, .int p0_len), (3, .int (irm p1 (30 : Int32))), (2, .int (p1 / (30 : Int32))), (0, .ref a_p0), (1, .int p1)]) hx hb dX10_shift_32 hl (by decide) rfl (fun ls hl => ?_)
    exact keyL34 FU (p1 / (30 : Int32)) (irm p1 (30 : Int32)) p0_len p0_len (upd p0_d p0_len.toNatClampNeg (0 : Int32)) H locs ls hf hP hD hS (lv_sub hl [3, 2, 1, 0] rfl)
  · have hf := ifT hc11 hf
    exact hret _ (opE hf) H locs ls 7 dX10_shift_7 hP hD hS
set_option maxRecDepth 100000 in
set_option maxHeartbeats 4000000 in
theorem c_X10_times_ (l : Launch) (D : va_G) (cI cJ : ClassId) (a_p0 a_p0_d a_p1 a_p1_d a_p2 a_p2_d : Nat) (p0_len : Int32) (p0_d : (Nat → Int32)) (p1_len : Int32) (p1_d : (Nat → Int32)) (p2_len : Int32) (p2_d : (Nat → Int32)) (u : Int32 × (Nat → Int32) × Int32 × (Nat → Int32)) (hf : f_X10_times_ p1_len p1_d p0_len p0_d p2_len p2_d = some u) : CtV l yX10_times_ cX10_times_ 5 2 49 [.ref a_p0, .ref a_p1, .ref a_p2] D cI cJ [(a_p0, .inr (11, [.ref a_p0_d, .int p0_len])), (a_p0_d, .inl (cI, 520, .inl p0_d)), (a_p1, .inr (11, [.ref a_p1_d, .int p1_len])), (a_p1_d, .inl (cI, 520, .inl p1_d)), (a_p2, .inr (11, [.ref a_p2_d, .int p2_len])), (a_p2_d, .inl (cI, 520, .inl p2_d))] [(a_p0, .inr (11, [.ref a_p0_d, .int u.1])), (a_p0_d, .inl (cI, 520, .inl u.2.1)), (a_p1, .inr (11, [.ref a_p1_d, .int p1_len])), (a_p1_d, .inl (cI, 520, .inl p1_d)), (a_p2, .inr (11, [.ref a_p2_d, .int u.2.2.1])), (a_p2_d, .inl (cI, 520, .inl u.2.2.2))] := by
  refine mkV (own := RX10) rfl (by decide +kernel) (Nat.le_of_ble_eq_true rfl) (lv := [(0, .ref a_p0), (1, .ref a_p1), (2, .ref a_p2)]) rfl ?_
  intro p e s m below meth c Q A ls ar S hA hK hN hret H locs hP hD hS hl
  obtain ⟨hx, hb, hml, hown, hts⟩ := id S
  have hret : ∀ (w : Int32 × (Nat → Int32) × Int32 × (Nat → Int32)), w = u → ∀ (H : Heap) (locs : List Loc) (ls : Array Slot) (pc : Nat), decode cX10_times_ pc = .ok (.return_, 1) → va_P D vwCl [(a_p0, .inr (11, [.ref a_p0_d, .int w.1])), (a_p0_d, .inl (cI, 520, .inl w.2.1)), (a_p1, .inr (11, [.ref a_p1_d, .int p1_len])), (a_p1_d, .inl (cI, 520, .inl p1_d)), (a_p2, .inr (11, [.ref a_p2_d, .int w.2.2.1])), (a_p2_d, .inl (cI, 520, .inl w.2.2.2))] H → va_D A [(a_p0, .inr (11, [.ref a_p0_d, .int w.1])), (a_p0_d, .inl (cI, 520, .inl w.2.1)), (a_p1, .inr (11, [.ref a_p1_d, .int p1_len])), (a_p1_d, .inl (cI, 520, .inl p1_d)), (a_p2, .inr (11, [.ref a_p2_d, .int w.2.2.1])), (a_p2_d, .inl (cI, 520, .inl w.2.2.2))] → va_S A s.heap H locs → W p l e (rmz 2 49) s m ar below meth c H locs 0 0 Q (F0 m pc ls []) := fun w hw => hw ▸ hret
  have keyL17 : ∀ (n : Nat) (v3 : Int32) (p0_len : Int32) (p0_d : (Nat → Int32)) (p2_len : Int32) (p2_d : (Nat → Int32)) (H : Heap) (locs : List Loc) (ls : Array Slot), f_X10_times__L17 p1_len p1_d n v3 p0_len p0_d p2_len p2_d = some u → va_P D vwCl [(a_p0, .inr (11, [.ref a_p0_d, .int p0_len])), (a_p0_d, .inl (cI, 520, .inl p0_d)), (a_p1, .inr (11, [.ref a_p1_d, .int p1_len])), (a_p1_d, .inl (cI, 520, .inl p1_d)), (a_p2, .inr (11, [.ref a_p2_d, .int p2_len])), (a_p2_d, .inl (cI, 520, .inl p2_d))] H → va_D A [(a_p0, .inr (11, [.ref a_p0_d, .int p0_len])), (a_p0_d, .inl (cI, 520, .inl p0_d)), (a_p1, .inr (11, [.ref a_p1_d, .int p1_len])), (a_p1_d, .inl (cI, 520, .inl p1_d)), (a_p2, .inr (11, [.ref a_p2_d, .int p2_len])), (a_p2_d, .inl (cI, 520, .inl p2_d))] → va_S A s.heap H locs → lv_has ls 5 [(0, .ref a_p0), (1, .ref a_p1), (2, .ref a_p2), (3, .int v3)] → W p l e (rmz 2 49) s m ar below meth c H locs 0 0 Q (F0 m 17 ls []) := by
    intro n
    induction n with
      | zero =>
        intro v3 p0_len p0_d p2_len p2_d H locs ls hf
        cases hf
      | succ n ih =>
        intro v3 p0_len p0_d p2_len p2_d H locs ls hf hP hD hS hl
        rw [f_X10_times__L17] at hf
        refine lv_iload_n hx hb dX10_times__17 rfl (lv_at hl 3 rfl) ?_
        refine lv_if_lt (tgt := 49) hx hb dX10_times__18 (by decide) (fun hc8 => ?_) (fun hc8 => ?_)
        · have hf := ifT hc8 hf
          exact hret _ (opE hf) H locs ls 49 dX10_times__49 hP hD hS
        · have hf := ifF hc8 hf
          refine lv_aload_n hx hb dX10_times__21 rfl (lv_at hl 0 rfl) ?_
          refine lv_bipush (v := 30) hx hb dX10_times__22 (by decide) ?_
          obtain ⟨u3, hu4, hf⟩ := bdE hf
          refine cV_V (ws' := [(a_p0, .inr (11, [.ref a_p0_d, .int u3.1])), (a_p0_d, .inl (cI, 520, .inl u3.2)), (a_p1, .inr (11, [.ref a_p1_d, .int p1_len])), (a_p1_d, .inl (cI, 520, .inl p1_d)), (a_p2, .inr (11, [.ref a_p2_d, .int p2_len])), (a_p2_d, .inl (cI, 520, .inl p2_d))]) (rest := []) S hK hN hA hP hD hS (c_X10_shift l D cI cJ a_p0 a_p0_d (30 : Int32) p0_len p0_d u3 hu4) mwX10_shift miX10_shift kmX10_42 [0, 1] rfl (by decide) rfl rfl rfl 0 rfl rfl ⟨Nat.le_of_ble_eq_true rfl, Nat.le_of_ble_eq_true rfl⟩ ⟨Nat.zero_le _, Nat.zero_le _⟩ hl.1 rfl rfl (Nat.le_of_ble_eq_true rfl) dX10_times__24 (fun H locs hP hD hS => ?_)
          refine lv_aload_n hx hb dX10_times__27 rfl (lv_at hl 1 rfl) ?_
          refine lv_astore (lv' := [(4, .ref a_p1), (0, .ref a_p0), (1, .ref a_p1), (2, .ref a_p2), (3, .int v3)]) hx hb dX10_times__28 hl (by decide) rfl (fun ls hl => ?_)
          refine lv_aload_n hx hb dX10_times__30 rfl (lv_at hl 1 rfl) ?_
          refine lv_aload_n hx hb dX10_times__31 rfl (lv_at hl 3 rfl) ?_
          refine lv_aload hx hb dX10_times__32 (lv_at hl 0 rfl) ?_
          refine va_get (D := D) (ci := 11) (v := .ref a_p1_d) (C := RX10) (T := TX10) (N := 2) hx hb hts uwX10 hown hK hP 2 rfl rfl 0 (by decide) (hts _ kfX10_9) (fun _ h9 => h9) rfl dX10_times__34 ?_
          refine lv_iload_n hx hb dX10_times__37 rfl (lv_at hl 4 rfl) ?_
          obtain ⟨hi5, hf⟩ := gdE hf
          refine va_iald hx hb hK hP 3 0 rfl rfl hi5 dX10_times__38 ?_
          refine lv_i2l (v := (p1_d v3.toNatClampNeg).toInt64) hx hb dX10_times__39 rfl ?_
          obtain ⟨u6, hu7, hf⟩ := bdE hf
          refine cV_V (ws' := [(a_p0, .inr (11, [.ref a_p0_d, .int u6.1])), (a_p0_d, .inl (cI, 520, .inl u6.2)), (a_p1, .inr (11, [.ref a_p1_d, .int p1_len])), (a_p1_d, .inl (cI, 520, .inl p1_d)), (a_p2, .inr (11, [.ref a_p2_d, .int p2_len])), (a_p2_d, .inl (cI, 520, .inl p2_d))]) (rest := []) S hK hN hA hP hD hS (c_X10_addTimes l D cI cJ a_p0 a_p0_d a_p2 a_p2_d ((p1_d v3.toNatClampNeg).toInt64) u3.1 u3.2 p2_len p2_d u6 hu7) mwX10_addTimes miX10_addTimes kmX10_45 [0, 1, 4, 5] rfl (by decide) rfl rfl rfl 0 rfl rfl ⟨Nat.le_of_ble_eq_true rfl, Nat.le_of_ble_eq_true rfl⟩ ⟨Nat.zero_le _, Nat.zero_le _⟩ hl.1 rfl rfl (Nat.le_of_ble_eq_true rfl) dX10_times__40 (fun H locs hP hD hS => ?_)
          refine lv_iinc (v := v3 + (-1 : Int32)) (lv' := [(3, .int (v3 + (-1 : Int32))), (4, .ref a_p1), (0, .ref a_p0), (1, .ref a_p1), (2, .ref a_p2)]) hx hb dX10_times__43 hl (k := 4) rfl (by rfl) (by decide) rfl (fun ls hl => ?_)
          refine lv_goto (tgt := 17) hx hb dX10_times__46 (by decide) ?_
          exact ih (v3 + (-1 : Int32)) u6.1 u6.2 p2_len p2_d H locs ls hf hP hD hS (lv_sub hl [2, 3, 4, 0] rfl)
  unfold f_X10_times_ at hf
  refine lv_aload_n hx hb dX10_times__0 rfl (lv_at hl 2 rfl) ?_
  refine lv_aload_n hx hb dX10_times__1 rfl (lv_at hl 0 rfl) ?_
  obtain ⟨u1, hu2, hf⟩ := bdE hf
  refine cV_V (ws' := [(a_p0, .inr (11, [.ref a_p0_d, .int p0_len])), (a_p0_d, .inl (cI, 520, .inl p0_d)), (a_p1, .inr (11, [.ref a_p1_d, .int p1_len])), (a_p1_d, .inl (cI, 520, .inl p1_d)), (a_p2, .inr (11, [.ref a_p2_d, .int u1.1])), (a_p2_d, .inl (cI, 520, .inl u1.2))]) (rest := []) S hK hN hA hP hD hS (c_X10_copy l D cI cJ a_p2 a_p2_d a_p0 a_p0_d  p2_len p2_d p0_len p0_d u1 hu2) mwX10_copy miX10_copy kmX10_38 [4, 5, 0, 1] rfl (by decide) rfl rfl rfl 0 rfl rfl ⟨Nat.le_of_ble_eq_true rfl, Nat.le_of_ble_eq_true rfl⟩ ⟨Nat.zero_le _, Nat.zero_le _⟩ hl.1 rfl rfl (Nat.le_of_ble_eq_true rfl) dX10_times__2 (fun H locs hP hD hS => ?_)
  refine lv_aload_n hx hb dX10_times__5 rfl (lv_at hl 0 rfl) ?_
  refine lv_iconst (v := 0) hx hb dX10_times__6 (by decide) ?_
  refine va_put (D := D) (ci := 11) (v := .int (0 : Int32)) (ty := tyX10 1) (C := RX10) (T := TX10) (N := 2) hx hb hts uwX10 tyX10 tyX10_ok nmX10 hown hK hP hD hS 0 rfl rfl 1 (by decide) (hts _ kfX10_15) (fun _ h9 => h9) rfl (tyX10_ok 1 (by decide)) rfl rfl (Nat.le_of_ble_eq_true rfl) dX10_times__7 (fun H locs hP hD hS => ?_)
  have hP : va_P D vwCl [(a_p0, .inr (11, [.ref a_p0_d, .int (0 : Int32)])), (a_p0_d, .inl (cI, 520, .inl p0_d)), (a_p1, .inr (11, [.ref a_p1_d, .int p1_len])), (a_p1_d, .inl (cI, 520, .inl p1_d)), (a_p2, .inr (11, [.ref a_p2_d, .int u1.1])), (a_p2_d, .inl (cI, 520, .inl u1.2))] H := hP
  have hD : va_D A [(a_p0, .inr (11, [.ref a_p0_d, .int (0 : Int32)])), (a_p0_d, .inl (cI, 520, .inl p0_d)), (a_p1, .inr (11, [.ref a_p1_d, .int p1_len])), (a_p1_d, .inl (cI, 520, .inl p1_d)), (a_p2, .inr (11, [.ref a_p2_d, .int u1.1])), (a_p2_d, .inl (cI, 520, .inl u1.2))] := hD
  refine lv_aload_n hx hb dX10_times__10 rfl (lv_at hl 1 rfl) ?_
  refine va_get (D := D) (ci := 11) (v := .int p1_len) (C := RX10) (T := TX10) (N := 2) hx hb hts uwX10 hown hK hP 2 rfl rfl 1 (by decide) (hts _ kfX10_15) (fun _ h9 => h9) rfl dX10_times__11 ?_
  refine lv_iconst (v := 1) hx hb dX10_times__14 (by decide) ?_
  refine lv_isub hx hb dX10_times__15 ?_
  refine lv_istore_n (lv' := [(3, .int (p1_len - (1 : Int32))), (0, .ref a_p0), (1, .ref a_p1), (2, .ref a_p2)]) hx hb dX10_times__16 rfl hl (by decide) rfl (fun ls hl => ?_)
  exact keyL17 FU (p1_len - (1 : Int32)) (0 : Int32) p0_d u1.1 u1.2 H locs ls hf hP hD hS (lv_sub hl [1, 2, 3, 0] rfl)
set_option maxRecDepth 100000 in
set_option maxHeartbeats 4000000 in
theorem c_X10_divide (l : Launch) (D : va_G) (cI cJ : ClassId) (a_p0 a_p0_d : Nat) (p1 : Int32) (p0_len : Int32) (p0_d : (Nat → Int32)) (u : Int32 × Int32 × (Nat → Int32)) (hf : f_X10_divide p1 p0_len p0_d = some u) : CtI l yX10_divide cX10_divide 5 1 21 .int [.ref a_p0, .int p1] D cI cJ [(a_p0, .inr (11, [.ref a_p0_d, .int p0_len])), (a_p0_d, .inl (cI, 520, .inl p0_d))] [(a_p0, .inr (11, [.ref a_p0_d, .int u.2.1])), (a_p0_d, .inl (cI, 520, .inl u.2.2))] u.1 := by
  refine mkI (own := RX10) rfl (by decide +kernel) (Nat.le_of_ble_eq_true rfl) (lv := [(0, .ref a_p0), (1, .int p1)]) rfl ?_
  intro p e s m below meth c Q A ls ar S hA hK hN hret H locs hP hD hS hl
  obtain ⟨hx, hb, hml, hown, hts⟩ := id S
  have hret : ∀ (w : Int32 × Int32 × (Nat → Int32)), w = u → ∀ (H : Heap) (locs : List Loc) (ls : Array Slot) (pc : Nat), decode cX10_divide pc = .ok (.ireturn, 1) → va_P D vwCl [(a_p0, .inr (11, [.ref a_p0_d, .int w.2.1])), (a_p0_d, .inl (cI, 520, .inl w.2.2))] H → va_D A [(a_p0, .inr (11, [.ref a_p0_d, .int w.2.1])), (a_p0_d, .inl (cI, 520, .inl w.2.2))] → va_S A s.heap H locs → W p l e (rmz 1 21) s m ar below meth c H locs 0 0 Q (F0 m pc ls [.int w.1]) := fun w hw => hw ▸ hret
  have keyB52 : ∀ (v2 : Int64) (p0_len : Int32) (p0_d : (Nat → Int32)) (H : Heap) (locs : List Loc) (ls : Array Slot), f_X10_divide_B52 v2 p0_len p0_d = some u → va_P D vwCl [(a_p0, .inr (11, [.ref a_p0_d, .int p0_len])), (a_p0_d, .inl (cI, 520, .inl p0_d))] H → va_D A [(a_p0, .inr (11, [.ref a_p0_d, .int p0_len])), (a_p0_d, .inl (cI, 520, .inl p0_d))] → va_S A s.heap H locs → lv_has ls 5 [(0, .ref a_p0), (2, .long v2)] → W p l e (rmz 1 21) s m ar below meth c H locs 0 0 Q (F0 m 52 ls []) := by
    intro v2 p0_len p0_d H locs ls hf hP hD hS hl
    unfold f_X10_divide_B52 at hf
    refine lv_aload_n hx hb dX10_divide_52 rfl (lv_at hl 0 rfl) ?_
    refine lv_aload_n hx hb dX10_divide_53 rfl (lv_at hl 0 rfl) ?_
    refine va_get (D := D) (ci := 11) (v := .int p0_len) (C := RX10) (T := TX10) (N := 2) hx hb hts uwX10 hown hK hP 0 rfl rfl 1 (by decide) (hts _ kfX10_15) (fun _ h9 => h9) rfl dX10_divide_54 ?_
    obtain ⟨u1, hu2, hf⟩ := bdE hf
    refine cV_V (ws' := [(a_p0, .inr (11, [.ref a_p0_d, .int u1])), (a_p0_d, .inl (cI, 520, .inl p0_d))]) (rest := []) S hK hN hA hP hD hS (c_X10_trim l D cI cJ a_p0 a_p0_d p0_len p0_len p0_d u1 hu2) mwX10_trim miX10_trim kmX10_33 [0, 1] rfl (by decide) rfl rfl rfl 0 rfl rfl ⟨Nat.le_of_ble_eq_true rfl, Nat.le_of_ble_eq_true rfl⟩ ⟨Nat.zero_le _, Nat.zero_le _⟩ hl.1 rfl rfl (Nat.le_of_ble_eq_true rfl) dX10_divide_57 (fun H locs hP hD hS => ?_)
    refine lv_lload_n hx hb dX10_divide_60 rfl (lv_at hl 1 rfl) ?_
    refine lv_l2i (v := v2.toInt32) hx hb dX10_divide_61 rfl ?_
    exact hret _ (opE hf) H locs ls 62 dX10_divide_62 hP hD hS
  have keyL10 : ∀ (n : Nat) (v1 : Int32) (v2 : Int64) (v4 : Int32) (p0_len : Int32) (p0_d : (Nat → Int32)) (H : Heap) (locs : List Loc) (ls : Array Slot), f_X10_divide_L10 n v1 v2 v4 p0_len p0_d = some u → va_P D vwCl [(a_p0, .inr (11, [.ref a_p0_d, .int p0_len])), (a_p0_d, .inl (cI, 520, .inl p0_d))] H → va_D A [(a_p0, .inr (11, [.ref a_p0_d, .int p0_len])), (a_p0_d, .inl (cI, 520, .inl p0_d))] → va_S A s.heap H locs → lv_has ls 5 [(0, .ref a_p0), (1, .int v1), (2, .long v2), (4, .int v4)] → W p l e (rmz 1 21) s m ar below meth c H locs 0 0 Q (F0 m 10 ls []) := by
    intro n
    induction n with
      | zero =>
        intro v1 v2 v4 p0_len p0_d H locs ls hf
        cases hf
      | succ n ih =>
        intro v1 v2 v4 p0_len p0_d H locs ls hf hP hD hS hl
        rw [f_X10_divide_L10] at hf
        refine lv_iload hx hb dX10_divide_10 (lv_at hl 3 rfl) ?_
        refine lv_if_lt (tgt := 52) hx hb dX10_divide_12 (by decide) (fun hc5 => ?_) (fun hc5 => ?_)
        · have hf := ifT hc5 hf
          exact keyB52 v2 p0_len p0_d H locs ls hf hP hD hS (lv_sub hl [0, 2] rfl)
        · have hf := ifF hc5 hf
          refine lv_lload_n hx hb dX10_divide_15 rfl (lv_at hl 2 rfl) ?_
          refine lv_bipush (v := 30) hx hb dX10_divide_16 (by decide) ?_
          refine lv_lshl (v := lsh v2 (30 : Int32)) hx hb dX10_divide_18 rfl ?_
          refine lv_aload_n hx hb dX10_divide_19 rfl (lv_at hl 0 rfl) ?_
          refine va_get (D := D) (ci := 11) (v := .ref a_p0_d) (C := RX10) (T := TX10) (N := 2) hx hb hts uwX10 hown hK hP 0 rfl rfl 0 (by decide) (hts _ kfX10_9) (fun _ h9 => h9) rfl dX10_divide_20 ?_
          refine lv_iload hx hb dX10_divide_23 (lv_at hl 3 rfl) ?_
          obtain ⟨hi3, hf⟩ := gdE hf
          refine va_iald hx hb hK hP 1 0 rfl rfl hi3 dX10_divide_25 ?_
          refine lv_i2l (v := (p0_d v4.toNatClampNeg).toInt64) hx hb dX10_divide_26 rfl ?_
          refine lv_lor hx hb dX10_divide_27 ?_
          refine lv_lstore_n (lv' := [(2, .long ((lsh v2 (30 : Int32)) ||| ((p0_d v4.toNatClampNeg).toInt64))), (0, .ref a_p0), (1, .int v1), (4, .int v4)]) hx hb dX10_divide_28 rfl hl (by decide) rfl (fun ls hl => ?_)
          refine lv_aload_n hx hb dX10_divide_29 rfl (lv_at hl 1 rfl) ?_
          refine va_get (D := D) (ci := 11) (v := .ref a_p0_d) (C := RX10) (T := TX10) (N := 2) hx hb hts uwX10 hown hK hP 0 rfl rfl 0 (by decide) (hts _ kfX10_9) (fun _ h9 => h9) rfl dX10_divide_30 ?_
          refine lv_iload hx hb dX10_divide_33 (lv_at hl 3 rfl) ?_
          refine lv_lload_n hx hb dX10_divide_35 rfl (lv_at hl 0 rfl) ?_
          refine lv_iload_n hx hb dX10_divide_36 rfl (lv_at hl 2 rfl) ?_
          refine lv_i2l (v := v1.toInt64) hx hb dX10_divide_37 rfl ?_
          obtain ⟨hz4, hf⟩ := nzE hf
          refine lv_ldiv hx hb dX10_divide_38 hz4 ?_
          refine lv_l2i (v := (((lsh v2 (30 : Int32)) ||| ((p0_d v4.toNatClampNeg).toInt64)) / v1.toInt64).toInt32) hx hb dX10_divide_39 rfl ?_
          refine va_iast hx hb hK hP hD hS 1 0 rfl rfl hi3 dX10_divide_40 (fun H locs hP hD hS => ?_)
          have hP : va_P D vwCl [(a_p0, .inr (11, [.ref a_p0_d, .int p0_len])), (a_p0_d, .inl (cI, 520, .inl (upd p0_d v4.toNatClampNeg ((((lsh v2 (30 : Int32)) ||| ((p0_d v4.toNatClampNeg).toInt64)) / v1.toInt64).toInt32))))] H := hP
          have hD : va_D A [(a_p0, .inr (11, [.ref a_p0_d, .int p0_len])), (a_p0_d, .inl (cI, 520, .inl (upd p0_d v4.toNatClampNeg ((((lsh v2 (30 : Int32)) ||| ((p0_d v4.toNatClampNeg).toInt64)) / v1.toInt64).toInt32))))] := hD
          refine lv_lload_n hx hb dX10_divide_41 rfl (lv_at hl 0 rfl) ?_
          refine lv_iload_n hx hb dX10_divide_42 rfl (lv_at hl 2 rfl) ?_
          refine lv_i2l (v := v1.toInt64) hx hb dX10_divide_43 rfl ?_
          refine lv_lrem hx hb dX10_divide_44 hz4 ?_
          refine lv_lstore_n (lv' := [(2, .long (lrm ((lsh v2 (30 : Int32)) ||| ((p0_d v4.toNatClampNeg).toInt64)) v1.toInt64)), (0, .ref a_p0), (1, .int v1), (4, .int v4)]) hx hb dX10_divide_45 rfl hl (by decide) rfl (fun ls hl => ?_)
          refine lv_iinc (v := v4 + (-1 : Int32)) (lv' := [(4, .int (v4 + (-1 : Int32))), (2, .long (lrm ((lsh v2 (30 : Int32)) ||| ((p0_d v4.toNatClampNeg).toInt64)) v1.toInt64)), (0, .ref a_p0), (1, .int v1)]) hx hb dX10_divide_46 hl (k := 3) rfl (by rfl) (by decide) rfl (fun ls hl => ?_)
          refine lv_goto (tgt := 10) hx hb dX10_divide_49 (by decide) ?_
          exact ih v1 (lrm ((lsh v2 (30 : Int32)) ||| ((p0_d v4.toNatClampNeg).toInt64)) v1.toInt64) (v4 + (-1 : Int32)) p0_len (upd p0_d v4.toNatClampNeg ((((lsh v2 (30 : Int32)) ||| ((p0_d v4.toNatClampNeg).toInt64)) / v1.toInt64).toInt32)) H locs ls hf hP hD hS (lv_sub hl [2, 3, 1, 0] rfl)
  unfold f_X10_divide at hf
  refine lv_lconst (v := 0) hx hb dX10_divide_0 (by decide) ?_
  refine lv_lstore_n (lv' := [(2, .long (0 : Int64)), (0, .ref a_p0), (1, .int p1)]) hx hb dX10_divide_1 rfl hl (by decide) rfl (fun ls hl => ?_)
  refine lv_aload_n hx hb dX10_divide_2 rfl (lv_at hl 1 rfl) ?_
  refine va_get (D := D) (ci := 11) (v := .int p0_len) (C := RX10) (T := TX10) (N := 2) hx hb hts uwX10 hown hK hP 0 rfl rfl 1 (by decide) (hts _ kfX10_15) (fun _ h9 => h9) rfl dX10_divide_3 ?_
  refine lv_iconst (v := 1) hx hb dX10_divide_6 (by decide) ?_
  refine lv_isub hx hb dX10_divide_7 ?_
  refine lv_istore (lv' := [(4, .int (p0_len - (1 : Int32))), (2, .long (0 : Int64)), (0, .ref a_p0), (1, .int p1)]) hx hb dX10_divide_8 hl (by decide) rfl (fun ls hl => ?_)
  exact keyL10 FU p1 (0 : Int64) (p0_len - (1 : Int32)) p0_len p0_d H locs ls hf hP hD hS (lv_sub hl [2, 3, 1, 0] rfl)
set_option maxRecDepth 100000 in
set_option maxHeartbeats 4000000 in
theorem c_X10_bit (l : Launch) (D : va_G) (cI cJ : ClassId) (a_p0 a_p0_d : Nat) (p1 : Int32) (p0_len : Int32) (p0_d : (Nat → Int32)) (u : Int32) (hf : f_X10_bit p0_len p0_d p1 = some u) : CtI l yX10_bit cX10_bit 2 0 0 .int [.ref a_p0, .int p1] D cI cJ [(a_p0, .inr (11, [.ref a_p0_d, .int p0_len])), (a_p0_d, .inl (cI, 520, .inl p0_d))] [(a_p0, .inr (11, [.ref a_p0_d, .int p0_len])), (a_p0_d, .inl (cI, 520, .inl p0_d))] u := by
  refine mkI (own := RX10) rfl (by decide +kernel) (Nat.le_of_ble_eq_true rfl) (lv := [(0, .ref a_p0), (1, .int p1)]) rfl ?_
  intro p e s m below meth c Q A ls ar S hA hK hN hret H locs hP hD hS hl
  obtain ⟨hx, hb, hml, hown, hts⟩ := id S
  have hret : ∀ (w : Int32), w = u → ∀ (H : Heap) (locs : List Loc) (ls : Array Slot) (pc : Nat), decode cX10_bit pc = .ok (.ireturn, 1) → va_P D vwCl [(a_p0, .inr (11, [.ref a_p0_d, .int p0_len])), (a_p0_d, .inl (cI, 520, .inl p0_d))] H → va_D A [(a_p0, .inr (11, [.ref a_p0_d, .int p0_len])), (a_p0_d, .inl (cI, 520, .inl p0_d))] → va_S A s.heap H locs → W p l e (rmz 0 0) s m ar below meth c H locs 0 0 Q (F0 m pc ls [.int w]) := fun w hw => hw ▸ hret
  unfold f_X10_bit at hf
  refine lv_iload_n hx hb dX10_bit_0 rfl (lv_at hl 1 rfl) ?_
  refine lv_bipush (v := 30) hx hb dX10_bit_1 (by decide) ?_
  refine lv_idiv hx hb dX10_bit_3 (by decide) ?_
  refine lv_aload_n hx hb dX10_bit_4 rfl (lv_at hl 0 rfl) ?_
  refine va_get (D := D) (ci := 11) (v := .int p0_len) (C := RX10) (T := TX10) (N := 2) hx hb hts uwX10 hown hK hP 0 rfl rfl 1 (by decide) (hts _ kfX10_15) (fun _ h9 => h9) rfl dX10_bit_5 ?_
  refine lv_icmp_ge (tgt := 30) hx hb dX10_bit_8 (by decide) (fun hc2 => ?_) (fun hc2 => ?_)
  · have hf := ifT hc2 hf
    refine lv_iconst (v := 0) hx hb dX10_bit_30 (by decide) ?_
    exact hret _ (opE hf) H locs ls 31 dX10_bit_31 hP hD hS
  · have hf := ifF hc2 hf
    refine lv_aload_n hx hb dX10_bit_11 rfl (lv_at hl 0 rfl) ?_
    refine va_get (D := D) (ci := 11) (v := .ref a_p0_d) (C := RX10) (T := TX10) (N := 2) hx hb hts uwX10 hown hK hP 0 rfl rfl 0 (by decide) (hts _ kfX10_9) (fun _ h9 => h9) rfl dX10_bit_12 ?_
    refine lv_iload_n hx hb dX10_bit_15 rfl (lv_at hl 1 rfl) ?_
    refine lv_bipush (v := 30) hx hb dX10_bit_16 (by decide) ?_
    refine lv_idiv hx hb dX10_bit_18 (by decide) ?_
    obtain ⟨hi1, hf⟩ := gdE hf
    refine va_iald hx hb hK hP 1 0 rfl rfl hi1 dX10_bit_19 ?_
    refine lv_iload_n hx hb dX10_bit_20 rfl (lv_at hl 1 rfl) ?_
    refine lv_bipush (v := 30) hx hb dX10_bit_21 (by decide) ?_
    refine lv_irem hx hb dX10_bit_23 (by decide) ?_
    refine lv_ishr hx hb dX10_bit_24 ?_
    refine lv_iconst (v := 1) hx hb dX10_bit_25 (by decide) ?_
    refine lv_iand hx hb dX10_bit_26 ?_
    refine lv_goto (tgt := 31) hx hb dX10_bit_27 (by decide) ?_
    exact hret _ (opE hf) H locs ls 31 dX10_bit_31 hP hD hS
set_option maxRecDepth 100000 in
set_option maxHeartbeats 4000000 in
theorem c_X10_drop (l : Launch) (D : va_G) (cI cJ : ClassId) (a_p0 a_p0_d : Nat) (p1 : Int32) (p0_len : Int32) (p0_d : (Nat → Int32)) (u : Int32 × Int32 × (Nat → Int32)) (hf : f_X10_drop p1 p0_len p0_d = some u) : CtI l yX10_drop cX10_drop 9 1 21 .int [.ref a_p0, .int p1] D cI cJ [(a_p0, .inr (11, [.ref a_p0_d, .int p0_len])), (a_p0_d, .inl (cI, 520, .inl p0_d))] [(a_p0, .inr (11, [.ref a_p0_d, .int u.2.1])), (a_p0_d, .inl (cI, 520, .inl u.2.2))] u.1 := by
  refine mkI (own := RX10) rfl (by decide +kernel) (Nat.le_of_ble_eq_true rfl) (lv := [(0, .ref a_p0), (1, .int p1)]) rfl ?_
  intro p e s m below meth c Q A ls ar S hA hK hN hret H locs hP hD hS hl
  obtain ⟨hx, hb, hml, hown, hts⟩ := id S
  have hret : ∀ (w : Int32 × Int32 × (Nat → Int32)), w = u → ∀ (H : Heap) (locs : List Loc) (ls : Array Slot) (pc : Nat), decode cX10_drop pc = .ok (.ireturn, 1) → va_P D vwCl [(a_p0, .inr (11, [.ref a_p0_d, .int w.2.1])), (a_p0_d, .inl (cI, 520, .inl w.2.2))] H → va_D A [(a_p0, .inr (11, [.ref a_p0_d, .int w.2.1])), (a_p0_d, .inl (cI, 520, .inl w.2.2))] → va_S A s.heap H locs → W p l e (rmz 1 21) s m ar below meth c H locs 0 0 Q (F0 m pc ls [.int w.1]) := fun w hw => hw ▸ hret
  have keyB152 : ∀ (v3 : Int32) (v4 : Int32) (p0_len : Int32) (p0_d : (Nat → Int32)) (H : Heap) (locs : List Loc) (ls : Array Slot), f_X10_drop_B152 v3 v4 p0_len p0_d = some u → va_P D vwCl [(a_p0, .inr (11, [.ref a_p0_d, .int p0_len])), (a_p0_d, .inl (cI, 520, .inl p0_d))] H → va_D A [(a_p0, .inr (11, [.ref a_p0_d, .int p0_len])), (a_p0_d, .inl (cI, 520, .inl p0_d))] → va_S A s.heap H locs → lv_has ls 9 [(0, .ref a_p0), (3, .int v3), (4, .int v4)] → W p l e (rmz 1 21) s m ar below meth c H locs 0 0 Q (F0 m 152 ls []) := by
    intro v3 v4 p0_len p0_d H locs ls hf hP hD hS hl
    unfold f_X10_drop_B152 at hf
    refine lv_aload_n hx hb dX10_drop_152 rfl (lv_at hl 0 rfl) ?_
    refine lv_aload_n hx hb dX10_drop_153 rfl (lv_at hl 0 rfl) ?_
    refine va_get (D := D) (ci := 11) (v := .int p0_len) (C := RX10) (T := TX10) (N := 2) hx hb hts uwX10 hown hK hP 0 rfl rfl 1 (by decide) (hts _ kfX10_15) (fun _ h9 => h9) rfl dX10_drop_154 ?_
    refine lv_iload hx hb dX10_drop_157 (lv_at hl 2 rfl) ?_
    refine lv_isub hx hb dX10_drop_159 ?_
    refine lv_iconst (v := 0) hx hb dX10_drop_160 (by decide) ?_
    obtain ⟨u3, hu4, hf⟩ := bdE hf
    refine cS_I (ws' := [(a_p0, .inr (11, [.ref a_p0_d, .int p0_len])), (a_p0_d, .inl (cI, 520, .inl p0_d))]) (rest := [.ref a_p0]) S hK hN hA hP hD hS (c_J9_max_7cf53 l D cI cJ  (p0_len - v4) (0 : Int32)  u3 hu4) mwJ9_max_7cf53 msJ9_max_7cf53 kmX10_27 [] rfl (by decide) rfl rfl rfl ⟨Nat.le_of_ble_eq_true rfl, Nat.le_of_ble_eq_true rfl⟩ ⟨Nat.zero_le _, Nat.zero_le _⟩ hl.1 rfl rfl (Nat.le_of_ble_eq_true rfl) dX10_drop_161 (fun H locs hP hD hS => ?_)
    obtain ⟨u5, hu6, hf⟩ := bdE hf
    refine cV_V (ws' := [(a_p0, .inr (11, [.ref a_p0_d, .int u5])), (a_p0_d, .inl (cI, 520, .inl p0_d))]) (rest := []) S hK hN hA hP hD hS (c_X10_trim l D cI cJ a_p0 a_p0_d u3 p0_len p0_d u5 hu6) mwX10_trim miX10_trim kmX10_33 [0, 1] rfl (by decide) rfl rfl rfl 0 rfl rfl ⟨Nat.le_of_ble_eq_true rfl, Nat.le_of_ble_eq_true rfl⟩ ⟨Nat.zero_le _, Nat.zero_le _⟩ hl.1 rfl rfl (Nat.le_of_ble_eq_true rfl) dX10_drop_164 (fun H locs hP hD hS => ?_)
    refine lv_iload_n hx hb dX10_drop_167 rfl (lv_at hl 1 rfl) ?_
    exact hret _ (opE hf) H locs ls 168 dX10_drop_168 hP hD hS
  have keyB123 : ∀ (kL78 : Int32 → Int32 → Int32 → Int32 → Int32 → (Nat → Int32) → Option (Int32 × Int32 × (Nat → Int32))) (hL78 : ∀ (v3 : Int32) (v4 : Int32) (v5 : Int32) (v6 : Int32) (p0_len : Int32) (p0_d : (Nat → Int32)) (H : Heap) (locs : List Loc) (ls : Array Slot), kL78 v3 v4 v5 v6 p0_len p0_d = some u → va_P D vwCl [(a_p0, .inr (11, [.ref a_p0_d, .int p0_len])), (a_p0_d, .inl (cI, 520, .inl p0_d))] H → va_D A [(a_p0, .inr (11, [.ref a_p0_d, .int p0_len])), (a_p0_d, .inl (cI, 520, .inl p0_d))] → va_S A s.heap H locs → lv_has ls 9 [(0, .ref a_p0), (3, .int v3), (4, .int v4), (5, .int v5), (6, .int v6)] → W p l e (rmz 1 21) s m ar below meth c H locs 0 0 Q (F0 m 78 ls [])) (v3 : Int32) (v4 : Int32) (v5 : Int32) (v6 : Int32) (s0 : Int64) (s1 : Int64) (p0_len : Int32) (p0_d : (Nat → Int32)) (H : Heap) (locs : List Loc) (ls : Array Slot), f_X10_drop_B123 kL78 v3 v4 v5 v6 s0 s1 p0_len p0_d = some u → va_P D vwCl [(a_p0, .inr (11, [.ref a_p0_d, .int p0_len])), (a_p0_d, .inl (cI, 520, .inl p0_d))] H → va_D A [(a_p0, .inr (11, [.ref a_p0_d, .int p0_len])), (a_p0_d, .inl (cI, 520, .inl p0_d))] → va_S A s.heap H locs → lv_has ls 9 [(0, .ref a_p0), (3, .int v3), (4, .int v4), (5, .int v5), (6, .int v6)] → W p l e (rmz 1 21) s m ar below meth c H locs 0 0 Q (F0 m 123 ls [.long s1, .long s0]) := by
    intro kL78 hL78 v3 v4 v5 v6 s0 s1 p0_len p0_d H locs ls hf hP hD hS hl
    unfold f_X10_drop_B123 at hf
    refine lv_lor hx hb dX10_drop_123 ?_
    refine lv_lstore (lv' := [(7, .long (s0 ||| s1)), (0, .ref a_p0), (3, .int v3), (4, .int v4), (5, .int v5), (6, .int v6)]) hx hb dX10_drop_124 hl (by decide) rfl (fun ls hl => ?_)
    refine lv_aload_n hx hb dX10_drop_126 rfl (lv_at hl 1 rfl) ?_
    refine va_get (D := D) (ci := 11) (v := .ref a_p0_d) (C := RX10) (T := TX10) (N := 2) hx hb hts uwX10 hown hK hP 0 rfl rfl 0 (by decide) (hts _ kfX10_9) (fun _ h9 => h9) rfl dX10_drop_127 ?_
    refine lv_iload hx hb dX10_drop_130 (lv_at hl 5 rfl) ?_
    refine lv_iload hx hb dX10_drop_132 (lv_at hl 3 rfl) ?_
    refine lv_isub hx hb dX10_drop_134 ?_
    refine lv_lload hx hb dX10_drop_135 (lv_at hl 0 rfl) ?_
    refine lv_iload hx hb dX10_drop_137 (lv_at hl 4 rfl) ?_
    refine lv_lshr (v := lsr (s0 ||| s1) v5) hx hb dX10_drop_139 rfl ?_
    refine lv_ldc2 hx hb hown (hts _ kcX10_19) dX10_drop_140 ?_
    refine lv_land hx hb dX10_drop_143 ?_
    refine lv_l2i (v := ((lsr (s0 ||| s1) v5) &&& (1073741823 : Int64)).toInt32) hx hb dX10_drop_144 rfl ?_
    obtain ⟨hi8, hf⟩ := gdE hf
    refine va_iast hx hb hK hP hD hS 1 0 rfl rfl hi8 dX10_drop_145 (fun H locs hP hD hS => ?_)
    have hP : va_P D vwCl [(a_p0, .inr (11, [.ref a_p0_d, .int p0_len])), (a_p0_d, .inl (cI, 520, .inl (upd p0_d (v6 - v4).toNatClampNeg (((lsr (s0 ||| s1) v5) &&& (1073741823 : Int64)).toInt32))))] H := hP
    have hD : va_D A [(a_p0, .inr (11, [.ref a_p0_d, .int p0_len])), (a_p0_d, .inl (cI, 520, .inl (upd p0_d (v6 - v4).toNatClampNeg (((lsr (s0 ||| s1) v5) &&& (1073741823 : Int64)).toInt32))))] := hD
    refine lv_iinc (v := v6 + (1 : Int32)) (lv' := [(6, .int (v6 + (1 : Int32))), (7, .long (s0 ||| s1)), (0, .ref a_p0), (3, .int v3), (4, .int v4), (5, .int v5)]) hx hb dX10_drop_146 hl (k := 5) rfl (by rfl) (by decide) rfl (fun ls hl => ?_)
    refine lv_goto (tgt := 78) hx hb dX10_drop_149 (by decide) ?_
    exact hL78 v3 v4 v5 (v6 + (1 : Int32)) p0_len (upd p0_d (v6 - v4).toNatClampNeg (((lsr (s0 ||| s1) v5) &&& (1073741823 : Int64)).toInt32)) H locs ls hf hP hD hS (lv_sub hl [2, 3, 4, 5, 0] rfl)
  have keyL78 : ∀ (n : Nat) (v3 : Int32) (v4 : Int32) (v5 : Int32) (v6 : Int32) (p0_len : Int32) (p0_d : (Nat → Int32)) (H : Heap) (locs : List Loc) (ls : Array Slot), f_X10_drop_L78 n v3 v4 v5 v6 p0_len p0_d = some u → va_P D vwCl [(a_p0, .inr (11, [.ref a_p0_d, .int p0_len])), (a_p0_d, .inl (cI, 520, .inl p0_d))] H → va_D A [(a_p0, .inr (11, [.ref a_p0_d, .int p0_len])), (a_p0_d, .inl (cI, 520, .inl p0_d))] → va_S A s.heap H locs → lv_has ls 9 [(0, .ref a_p0), (3, .int v3), (4, .int v4), (5, .int v5), (6, .int v6)] → W p l e (rmz 1 21) s m ar below meth c H locs 0 0 Q (F0 m 78 ls []) := by
    intro n
    induction n with
      | zero =>
        intro v3 v4 v5 v6 p0_len p0_d H locs ls hf
        cases hf
      | succ n ih =>
        intro v3 v4 v5 v6 p0_len p0_d H locs ls hf hP hD hS hl
        rw [f_X10_drop_L78] at hf
        refine lv_iload hx hb dX10_drop_78 (lv_at hl 4 rfl) ?_
        refine lv_aload_n hx hb dX10_drop_80 rfl (lv_at hl 0 rfl) ?_
        refine va_get (D := D) (ci := 11) (v := .int p0_len) (C := RX10) (T := TX10) (N := 2) hx hb hts uwX10 hown hK hP 0 rfl rfl 1 (by decide) (hts _ kfX10_15) (fun _ h9 => h9) rfl dX10_drop_81 ?_
        refine lv_icmp_ge (tgt := 152) hx hb dX10_drop_84 (by decide) (fun hc11 => ?_) (fun hc11 => ?_)
        · have hf := ifT hc11 hf
          exact keyB152 v3 v4 p0_len p0_d H locs ls hf hP hD hS (lv_sub hl [0, 1, 2] rfl)
        · have hf := ifF hc11 hf
          refine lv_aload_n hx hb dX10_drop_87 rfl (lv_at hl 0 rfl) ?_
          refine va_get (D := D) (ci := 11) (v := .ref a_p0_d) (C := RX10) (T := TX10) (N := 2) hx hb hts uwX10 hown hK hP 0 rfl rfl 0 (by decide) (hts _ kfX10_9) (fun _ h9 => h9) rfl dX10_drop_88 ?_
          refine lv_iload hx hb dX10_drop_91 (lv_at hl 4 rfl) ?_
          obtain ⟨hi7, hf⟩ := gdE hf
          refine va_iald hx hb hK hP 1 0 rfl rfl hi7 dX10_drop_93 ?_
          refine lv_i2l (v := (p0_d v6.toNatClampNeg).toInt64) hx hb dX10_drop_94 rfl ?_
          refine lv_iload hx hb dX10_drop_95 (lv_at hl 4 rfl) ?_
          refine lv_iconst (v := 1) hx hb dX10_drop_97 (by decide) ?_
          refine lv_iadd hx hb dX10_drop_98 ?_
          refine lv_aload_n hx hb dX10_drop_99 rfl (lv_at hl 0 rfl) ?_
          refine va_get (D := D) (ci := 11) (v := .int p0_len) (C := RX10) (T := TX10) (N := 2) hx hb hts uwX10 hown hK hP 0 rfl rfl 1 (by decide) (hts _ kfX10_15) (fun _ h9 => h9) rfl dX10_drop_100 ?_
          refine lv_icmp_ge (tgt := 122) hx hb dX10_drop_103 (by decide) (fun hc10 => ?_) (fun hc10 => ?_)
          · have hf := ifT hc10 hf
            refine lv_lconst (v := 0) hx hb dX10_drop_122 (by decide) ?_
            exact keyB123 (f_X10_drop_L78 n) ih v3 v4 v5 v6 ((p0_d v6.toNatClampNeg).toInt64) (0 : Int64) p0_len p0_d H locs ls hf hP hD hS (lv_sub hl [0, 1, 2, 3, 4] rfl)
          · have hf := ifF hc10 hf
            refine lv_aload_n hx hb dX10_drop_106 rfl (lv_at hl 0 rfl) ?_
            refine va_get (D := D) (ci := 11) (v := .ref a_p0_d) (C := RX10) (T := TX10) (N := 2) hx hb hts uwX10 hown hK hP 0 rfl rfl 0 (by decide) (hts _ kfX10_9) (fun _ h9 => h9) rfl dX10_drop_107 ?_
            refine lv_iload hx hb dX10_drop_110 (lv_at hl 4 rfl) ?_
            refine lv_iconst (v := 1) hx hb dX10_drop_112 (by decide) ?_
            refine lv_iadd hx hb dX10_drop_113 ?_
            obtain ⟨hi9, hf⟩ := gdE hf
            refine va_iald hx hb hK hP 1 0 rfl rfl hi9 dX10_drop_114 ?_
            refine lv_i2l (v := (p0_d (v6 + (1 : Int32)).toNatClampNeg).toInt64) hx hb dX10_drop_115 rfl ?_
            refine lv_bipush (v := 30) hx hb dX10_drop_116 (by decide) ?_
            refine lv_lshl (v := lsh ((p0_d (v6 + (1 : Int32)).toNatClampNeg).toInt64) (30 : Int32)) hx hb dX10_drop_118 rfl ?_
            refine lv_goto (tgt := 123) hx hb dX10_drop_119 (by decide) ?_
            exact keyB123 (f_X10_drop_L78 n) ih v3 v4 v5 v6 ((p0_d v6.toNatClampNeg).toInt64) (lsh ((p0_d (v6 + (1 : Int32)).toNatClampNeg).toInt64) (30 : Int32)) p0_len p0_d H locs ls hf hP hD hS (lv_sub hl [0, 1, 2, 3, 4] rfl)
  have keyB60 : ∀ (v1 : Int32) (s0 : Int32) (s1 : Int32) (p0_len : Int32) (p0_d : (Nat → Int32)) (H : Heap) (locs : List Loc) (ls : Array Slot), f_X10_drop_B60 v1 s0 s1 p0_len p0_d = some u → va_P D vwCl [(a_p0, .inr (11, [.ref a_p0_d, .int p0_len])), (a_p0_d, .inl (cI, 520, .inl p0_d))] H → va_D A [(a_p0, .inr (11, [.ref a_p0_d, .int p0_len])), (a_p0_d, .inl (cI, 520, .inl p0_d))] → va_S A s.heap H locs → lv_has ls 9 [(0, .ref a_p0), (1, .int v1)] → W p l e (rmz 1 21) s m ar below meth c H locs 0 0 Q (F0 m 60 ls [.int s1, .int s0]) := by
    intro v1 s0 s1 p0_len p0_d H locs ls hf hP hD hS hl
    unfold f_X10_drop_B60 at hf
    refine lv_iadd hx hb dX10_drop_60 ?_
    refine lv_istore_n (lv' := [(3, .int (s0 + s1)), (0, .ref a_p0), (1, .int v1)]) hx hb dX10_drop_61 rfl hl (by decide) rfl (fun ls hl => ?_)
    refine lv_iload_n hx hb dX10_drop_62 rfl (lv_at hl 2 rfl) ?_
    refine lv_bipush (v := 30) hx hb dX10_drop_63 (by decide) ?_
    refine lv_idiv hx hb dX10_drop_65 (by decide) ?_
    refine lv_istore (lv' := [(4, .int (v1 / (30 : Int32))), (3, .int (s0 + s1)), (0, .ref a_p0), (1, .int v1)]) hx hb dX10_drop_66 hl (by decide) rfl (fun ls hl => ?_)
    refine lv_iload_n hx hb dX10_drop_68 rfl (lv_at hl 3 rfl) ?_
    refine lv_bipush (v := 30) hx hb dX10_drop_69 (by decide) ?_
    refine lv_irem hx hb dX10_drop_71 (by decide) ?_
    refine lv_istore (lv' := [(5, .int (irm v1 (30 : Int32))), (4, .int (v1 / (30 : Int32))), (3, .int (s0 + s1)), (0, .ref a_p0), (1, .int v1)]) hx hb dX10_drop_72 hl (by decide) rfl (fun ls hl => ?_)
    refine lv_iload hx hb dX10_drop_74 (lv_at hl 1 rfl) ?_
    refine lv_istore (lv' := [(6, .int (v1 / (30 : Int32))), (5, .int (irm v1 (30 : Int32))), (4, .int (v1 / (30 : Int32))), (3, .int (s0 + s1)), (0, .ref a_p0), (1, .int v1)]) hx hb dX10_drop_76 hl (by decide) rfl (fun ls hl => ?_)
    exact keyL78 FU (s0 + s1) (v1 / (30 : Int32)) (irm v1 (30 : Int32)) (v1 / (30 : Int32)) p0_len p0_d H locs ls hf hP hD hS (lv_sub hl [4, 3, 2, 1, 0] rfl)
  have keyB42 : ∀ (v1 : Int32) (v2 : Int32) (p0_len : Int32) (p0_d : (Nat → Int32)) (H : Heap) (locs : List Loc) (ls : Array Slot), f_X10_drop_B42 v1 v2 p0_len p0_d = some u → va_P D vwCl [(a_p0, .inr (11, [.ref a_p0_d, .int p0_len])), (a_p0_d, .inl (cI, 520, .inl p0_d))] H → va_D A [(a_p0, .inr (11, [.ref a_p0_d, .int p0_len])), (a_p0_d, .inl (cI, 520, .inl p0_d))] → va_S A s.heap H locs → lv_has ls 9 [(0, .ref a_p0), (1, .int v1), (2, .int v2)] → W p l e (rmz 1 21) s m ar below meth c H locs 0 0 Q (F0 m 42 ls []) := by
    intro v1 v2 p0_len p0_d H locs ls hf hP hD hS hl
    unfold f_X10_drop_B42 at hf
    refine lv_iconst (v := 2) hx hb dX10_drop_42 (by decide) ?_
    refine lv_aload_n hx hb dX10_drop_43 rfl (lv_at hl 0 rfl) ?_
    refine lv_iload_n hx hb dX10_drop_44 rfl (lv_at hl 1 rfl) ?_
    refine lv_iconst (v := 1) hx hb dX10_drop_45 (by decide) ?_
    refine lv_isub hx hb dX10_drop_46 ?_
    obtain ⟨u1, hu2, hf⟩ := bdE hf
    refine cV_I (ws' := [(a_p0, .inr (11, [.ref a_p0_d, .int p0_len])), (a_p0_d, .inl (cI, 520, .inl p0_d))]) (rest := [.int (2 : Int32)]) S hK hN hA hP hD hS (c_X10_bit l D cI cJ a_p0 a_p0_d (v1 - (1 : Int32)) p0_len p0_d u1 hu2) mwX10_bit miX10_bit kmX10_49 [0, 1] rfl (by decide) rfl rfl rfl 0 rfl rfl ⟨Nat.le_of_ble_eq_true rfl, Nat.le_of_ble_eq_true rfl⟩ ⟨Nat.zero_le _, Nat.zero_le _⟩ hl.1 rfl rfl (Nat.le_of_ble_eq_true rfl) dX10_drop_47 (fun H locs hP hD hS => ?_)
    refine lv_imul hx hb dX10_drop_50 ?_
    refine lv_iload_n hx hb dX10_drop_51 rfl (lv_at hl 2 rfl) ?_
    refine lv_if_eq (tgt := 59) hx hb dX10_drop_52 (by decide) (fun hc12 => ?_) (fun hc12 => ?_)
    · have hf := ifT hc12 hf
      refine lv_iconst (v := 0) hx hb dX10_drop_59 (by decide) ?_
      exact keyB60 v1 ((2 : Int32) * u1) (0 : Int32) p0_len p0_d H locs ls hf hP hD hS (lv_sub hl [0, 1] rfl)
    · have hf := ifF hc12 hf
      refine lv_iconst (v := 1) hx hb dX10_drop_55 (by decide) ?_
      refine lv_goto (tgt := 60) hx hb dX10_drop_56 (by decide) ?_
      exact keyB60 v1 ((2 : Int32) * u1) (1 : Int32) p0_len p0_d H locs ls hf hP hD hS (lv_sub hl [0, 1] rfl)
  have keyL10 : ∀ (n : Nat) (v1 : Int32) (v2 : Int32) (v3 : Int32) (p0_len : Int32) (p0_d : (Nat → Int32)) (H : Heap) (locs : List Loc) (ls : Array Slot), f_X10_drop_L10 n v1 v2 v3 p0_len p0_d = some u → va_P D vwCl [(a_p0, .inr (11, [.ref a_p0_d, .int p0_len])), (a_p0_d, .inl (cI, 520, .inl p0_d))] H → va_D A [(a_p0, .inr (11, [.ref a_p0_d, .int p0_len])), (a_p0_d, .inl (cI, 520, .inl p0_d))] → va_S A s.heap H locs → lv_has ls 9 [(0, .ref a_p0), (1, .int v1), (2, .int v2), (3, .int v3)] → W p l e (rmz 1 21) s m ar below meth c H locs 0 0 Q (F0 m 10 ls []) := by
    intro n
    induction n with
      | zero =>
        intro v1 v2 v3 p0_len p0_d H locs ls hf
        cases hf
      | succ n ih =>
        intro v1 v2 v3 p0_len p0_d H locs ls hf hP hD hS hl
        rw [f_X10_drop_L10] at hf
        refine lv_iload_n hx hb dX10_drop_10 rfl (lv_at hl 3 rfl) ?_
        refine lv_iload_n hx hb dX10_drop_11 rfl (lv_at hl 1 rfl) ?_
        refine lv_iconst (v := 1) hx hb dX10_drop_12 (by decide) ?_
        refine lv_isub hx hb dX10_drop_13 ?_
        refine lv_icmp_ge (tgt := 42) hx hb dX10_drop_14 (by decide) (fun hc17 => ?_) (fun hc17 => ?_)
        · have hf := ifT hc17 hf
          exact keyB42 v1 v2 p0_len p0_d H locs ls hf hP hD hS (lv_sub hl [0, 1, 2] rfl)
        · have hf := ifF hc17 hf
          refine lv_iload_n hx hb dX10_drop_17 rfl (lv_at hl 2 rfl) ?_
          refine lv_if_ne (tgt := 42) hx hb dX10_drop_18 (by decide) (fun hc16 => ?_) (fun hc16 => ?_)
          · have hf := ifF hc16 hf
            exact keyB42 v1 v2 p0_len p0_d H locs ls hf hP hD hS (lv_sub hl [0, 1, 2] rfl)
          · have hf := ifT hc16 hf
            refine lv_aload_n hx hb dX10_drop_21 rfl (lv_at hl 0 rfl) ?_
            refine lv_iload_n hx hb dX10_drop_22 rfl (lv_at hl 3 rfl) ?_
            obtain ⟨u13, hu14, hf⟩ := bdE hf
            refine cV_I (ws' := [(a_p0, .inr (11, [.ref a_p0_d, .int p0_len])), (a_p0_d, .inl (cI, 520, .inl p0_d))]) (rest := []) S hK hN hA hP hD hS (c_X10_bit l D cI cJ a_p0 a_p0_d v3 p0_len p0_d u13 hu14) mwX10_bit miX10_bit kmX10_49 [0, 1] rfl (by decide) rfl rfl rfl 0 rfl rfl ⟨Nat.le_of_ble_eq_true rfl, Nat.le_of_ble_eq_true rfl⟩ ⟨Nat.zero_le _, Nat.zero_le _⟩ hl.1 rfl rfl (Nat.le_of_ble_eq_true rfl) dX10_drop_23 (fun H locs hP hD hS => ?_)
            refine lv_iconst (v := 1) hx hb dX10_drop_26 (by decide) ?_
            refine lv_icmp_ne (tgt := 34) hx hb dX10_drop_27 (by decide) (fun hc15 => ?_) (fun hc15 => ?_)
            · have hf := ifF hc15 hf
              refine lv_iconst (v := 0) hx hb dX10_drop_34 (by decide) ?_
              refine lv_istore_n (lv' := [(2, .int (0 : Int32)), (0, .ref a_p0), (1, .int v1), (3, .int v3)]) hx hb dX10_drop_35 rfl hl (by decide) rfl (fun ls hl => ?_)
              refine lv_iinc (v := v3 + (1 : Int32)) (lv' := [(3, .int (v3 + (1 : Int32))), (2, .int (0 : Int32)), (0, .ref a_p0), (1, .int v1)]) hx hb dX10_drop_36 hl (k := 3) rfl (by rfl) (by decide) rfl (fun ls hl => ?_)
              refine lv_goto (tgt := 10) hx hb dX10_drop_39 (by decide) ?_
              exact ih v1 (0 : Int32) (v3 + (1 : Int32)) p0_len p0_d H locs ls hf hP hD hS (lv_sub hl [2, 3, 1, 0] rfl)
            · have hf := ifT hc15 hf
              refine lv_iconst (v := 1) hx hb dX10_drop_30 (by decide) ?_
              refine lv_goto (tgt := 35) hx hb dX10_drop_31 (by decide) ?_
              refine lv_istore_n (lv' := [(2, .int (1 : Int32)), (0, .ref a_p0), (1, .int v1), (3, .int v3)]) hx hb dX10_drop_35 rfl hl (by decide) rfl (fun ls hl => ?_)
              refine lv_iinc (v := v3 + (1 : Int32)) (lv' := [(3, .int (v3 + (1 : Int32))), (2, .int (1 : Int32)), (0, .ref a_p0), (1, .int v1)]) hx hb dX10_drop_36 hl (k := 3) rfl (by rfl) (by decide) rfl (fun ls hl => ?_)
              refine lv_goto (tgt := 10) hx hb dX10_drop_39 (by decide) ?_
              exact ih v1 (1 : Int32) (v3 + (1 : Int32)) p0_len p0_d H locs ls hf hP hD hS (lv_sub hl [2, 3, 1, 0] rfl)
  unfold f_X10_drop at hf
  refine lv_iload_n hx hb dX10_drop_0 rfl (lv_at hl 1 rfl) ?_
  refine lv_if_ne (tgt := 6) hx hb dX10_drop_1 (by decide) (fun hc18 => ?_) (fun hc18 => ?_)
  · have hf := ifF hc18 hf
    refine lv_iconst (v := 0) hx hb dX10_drop_6 (by decide) ?_
    refine lv_istore_n (lv' := [(2, .int (0 : Int32)), (0, .ref a_p0), (1, .int p1)]) hx hb dX10_drop_7 rfl hl (by decide) rfl (fun ls hl => ?_)
    refine lv_iconst (v := 0) hx hb dX10_drop_8 (by decide) ?_
    refine lv_istore_n (lv' := [(3, .int (0 : Int32)), (2, .int (0 : Int32)), (0, .ref a_p0), (1, .int p1)]) hx hb dX10_drop_9 rfl hl (by decide) rfl (fun ls hl => ?_)
    exact keyL10 FU p1 (0 : Int32) (0 : Int32) p0_len p0_d H locs ls hf hP hD hS (lv_sub hl [2, 3, 1, 0] rfl)
  · have hf := ifT hc18 hf
    refine lv_iconst (v := 0) hx hb dX10_drop_4 (by decide) ?_
    exact hret _ (opE hf) H locs ls 5 dX10_drop_5 hP hD hS
set_option maxRecDepth 100000 in
set_option maxHeartbeats 4000000 in
theorem c_X11_precision (l : Launch) (D : va_G) (cI cJ : ClassId) (p0 : Int32)  (u : Int32) (hf : f_X11_precision p0 = some u) : CtI l yX11_precision cX11_precision 1 0 0 .int [.int p0] D cI cJ [] [] u := by
  refine mkI (own := RX11) rfl (by decide +kernel) (Nat.le_of_ble_eq_true rfl) (lv := [(0, .int p0)]) rfl ?_
  intro p e s m below meth c Q A ls ar S hA hK hN hret H locs hP hD hS hl
  obtain ⟨hx, hb, hml, hown, hts⟩ := id S
  have hret : ∀ (w : Int32), w = u → ∀ (H : Heap) (locs : List Loc) (ls : Array Slot) (pc : Nat), decode cX11_precision pc = .ok (.ireturn, 1) → va_P D vwCl [] H → va_D A [] → va_S A s.heap H locs → W p l e (rmz 0 0) s m ar below meth c H locs 0 0 Q (F0 m pc ls [.int w]) := fun w hw => hw ▸ hret
  unfold f_X11_precision at hf
  refine lv_iload_n hx hb dX11_precision_0 rfl (lv_at hl 0 rfl) ?_
  refine lv_if_ne (tgt := 9) hx hb dX11_precision_1 (by decide) (fun hc1 => ?_) (fun hc1 => ?_)
  · have hf := ifF hc1 hf
    refine lv_bipush (v := 53) hx hb dX11_precision_9 (by decide) ?_
    exact hret _ (opE hf) H locs ls 11 dX11_precision_11 hP hD hS
  · have hf := ifT hc1 hf
    refine lv_bipush (v := 24) hx hb dX11_precision_4 (by decide) ?_
    refine lv_goto (tgt := 11) hx hb dX11_precision_6 (by decide) ?_
    exact hret _ (opE hf) H locs ls 11 dX11_precision_11 hP hD hS
set_option maxRecDepth 100000 in
set_option maxHeartbeats 4000000 in
theorem c_X11_least (l : Launch) (D : va_G) (cI cJ : ClassId) (p0 : Int32)  (u : Int32) (hf : f_X11_least p0 = some u) : CtI l yX11_least cX11_least 1 0 0 .int [.int p0] D cI cJ [] [] u := by
  refine mkI (own := RX11) rfl (by decide +kernel) (Nat.le_of_ble_eq_true rfl) (lv := [(0, .int p0)]) rfl ?_
  intro p e s m below meth c Q A ls ar S hA hK hN hret H locs hP hD hS hl
  obtain ⟨hx, hb, hml, hown, hts⟩ := id S
  have hret : ∀ (w : Int32), w = u → ∀ (H : Heap) (locs : List Loc) (ls : Array Slot) (pc : Nat), decode cX11_least pc = .ok (.ireturn, 1) → va_P D vwCl [] H → va_D A [] → va_S A s.heap H locs → W p l e (rmz 0 0) s m ar below meth c H locs 0 0 Q (F0 m pc ls [.int w]) := fun w hw => hw ▸ hret
  unfold f_X11_least at hf
  refine lv_iload_n hx hb dX11_least_0 rfl (lv_at hl 0 rfl) ?_
  refine lv_if_ne (tgt := 10) hx hb dX11_least_1 (by decide) (fun hc1 => ?_) (fun hc1 => ?_)
  · have hf := ifF hc1 hf
    refine lv_sipush (v := -1074) hx hb dX11_least_10 (by decide) ?_
    exact hret _ (opE hf) H locs ls 13 dX11_least_13 hP hD hS
  · have hf := ifT hc1 hf
    refine lv_sipush (v := -149) hx hb dX11_least_4 (by decide) ?_
    refine lv_goto (tgt := 13) hx hb dX11_least_7 (by decide) ?_
    exact hret _ (opE hf) H locs ls 13 dX11_least_13 hP hD hS
set_option maxRecDepth 100000 in
set_option maxHeartbeats 4000000 in
theorem c_X11_signBit (l : Launch) (D : va_G) (cI cJ : ClassId) (p0 : Int32)  (u : Int64) (hf : f_X11_signBit p0 = some u) : CtL l yX11_signBit cX11_signBit 1 0 0 [.int p0] D cI cJ [] [] u := by
  refine mkL (own := RX11) rfl (by decide +kernel) (Nat.le_of_ble_eq_true rfl) (lv := [(0, .int p0)]) rfl ?_
  intro p e s m below meth c Q A ls ar S hA hK hN hret H locs hP hD hS hl
  obtain ⟨hx, hb, hml, hown, hts⟩ := id S
  have hret : ∀ (w : Int64), w = u → ∀ (H : Heap) (locs : List Loc) (ls : Array Slot) (pc : Nat), decode cX11_signBit pc = .ok (.lreturn, 1) → va_P D vwCl [] H → va_D A [] → va_S A s.heap H locs → W p l e (rmz 0 0) s m ar below meth c H locs 0 0 Q (F0 m pc ls [.long w]) := fun w hw => hw ▸ hret
  unfold f_X11_signBit at hf
  refine lv_lconst (v := 1) hx hb dX11_signBit_0 (by decide) ?_
  refine lv_iload_n hx hb dX11_signBit_1 rfl (lv_at hl 0 rfl) ?_
  refine lv_if_ne (tgt := 10) hx hb dX11_signBit_2 (by decide) (fun hc1 => ?_) (fun hc1 => ?_)
  · have hf := ifF hc1 hf
    refine lv_bipush (v := 63) hx hb dX11_signBit_10 (by decide) ?_
    refine lv_lshl (v := lsh (1 : Int64) (63 : Int32)) hx hb dX11_signBit_12 rfl ?_
    exact hret _ (opE hf) H locs ls 13 dX11_signBit_13 hP hD hS
  · have hf := ifT hc1 hf
    refine lv_bipush (v := 31) hx hb dX11_signBit_5 (by decide) ?_
    refine lv_goto (tgt := 12) hx hb dX11_signBit_7 (by decide) ?_
    refine lv_lshl (v := lsh (1 : Int64) (31 : Int32)) hx hb dX11_signBit_12 rfl ?_
    exact hret _ (opE hf) H locs ls 13 dX11_signBit_13 hP hD hS
set_option maxRecDepth 100000 in
set_option maxHeartbeats 4000000 in
theorem c_X11_look (l : Launch) (D : va_G) (cI cJ : ClassId) (a_p0 a_p0_formats a_p0_patterns a_p0_a a_p0_b a_p0_left a_p0_right a_p0_longs a_p0_third a_p0_other a_p0_tape a_p0_text a_p0_figures a_p0_num a_p0_den a_p0_low a_p0_high : Nat) (p1 : Int32) (p0_kind : Int32) (p0_minus : Int32) (p0_m : Int64) (p0_e : Int32) (p0_sign : Int32) (p0_power : Int32) (p0_root : Int32) (p0_thrown : Int32) (p0_otherSign : Int32) (p0_otherPower : Int32) (p0_taped : Int32) (p0_at : Int32) (p0_end : Int32) (p0_many : Int32) (p0_behind : Int32) (p0_told : Int32) (p0_written : Int32) (p0_figureMany : Int32) (p0_last : Int32) (p0_ten : Int32) (p0_formats : (Nat → Int32)) (p0_patterns : (Nat → Int64)) (u : Int32 × Int32 × Int64 × Int32) (hf : f_X11_look p0_formats p0_patterns p1 p0_kind p0_minus p0_m p0_e = some u) : CtV l yX11_look cX11_look 10 1 20 [.ref a_p0, .int p1] D cI cJ [(a_p0, .inr (12, [.ref a_p0_formats, .ref a_p0_patterns, .int p0_kind, .int p0_minus, .long p0_m, .int p0_e, .int p0_sign, .ref a_p0_a, .ref a_p0_b, .int p0_power, .int p0_root, .ref a_p0_left, .ref a_p0_right, .ref a_p0_longs, .ref a_p0_third, .int p0_thrown, .ref a_p0_other, .int p0_otherSign, .int p0_otherPower, .ref a_p0_tape, .int p0_taped, .int p0_at, .int p0_end, .int p0_many, .int p0_behind, .int p0_told, .ref a_p0_text, .int p0_written, .ref a_p0_figures, .int p0_figureMany, .int p0_last, .ref a_p0_num, .ref a_p0_den, .ref a_p0_low, .ref a_p0_high, .int p0_ten])), (a_p0_formats, .inl (cI, 16, .inl p0_formats)), (a_p0_patterns, .inl (cJ, 16, .inr (.inl p0_patterns)))] [(a_p0, .inr (12, [.ref a_p0_formats, .ref a_p0_patterns, .int u.1, .int u.2.1, .long u.2.2.1, .int u.2.2.2, .int p0_sign, .ref a_p0_a, .ref a_p0_b, .int p0_power, .int p0_root, .ref a_p0_left, .ref a_p0_right, .ref a_p0_longs, .ref a_p0_third, .int p0_thrown, .ref a_p0_other, .int p0_otherSign, .int p0_otherPower, .ref a_p0_tape, .int p0_taped, .int p0_at, .int p0_end, .int p0_many, .int p0_behind, .int p0_told, .ref a_p0_text, .int p0_written, .ref a_p0_figures, .int p0_figureMany, .int p0_last, .ref a_p0_num, .ref a_p0_den, .ref a_p0_low, .ref a_p0_high, .int p0_ten])), (a_p0_formats, .inl (cI, 16, .inl p0_formats)), (a_p0_patterns, .inl (cJ, 16, .inr (.inl p0_patterns)))] := by
  refine mkV (own := RX11) rfl (by decide +kernel) (Nat.le_of_ble_eq_true rfl) (lv := [(0, .ref a_p0), (1, .int p1)]) rfl ?_
  intro p e s m below meth c Q A ls ar S hA hK hN hret H locs hP hD hS hl
  obtain ⟨hx, hb, hml, hown, hts⟩ := id S
  have hret : ∀ (w : Int32 × Int32 × Int64 × Int32), w = u → ∀ (H : Heap) (locs : List Loc) (ls : Array Slot) (pc : Nat), decode cX11_look pc = .ok (.return_, 1) → va_P D vwCl [(a_p0, .inr (12, [.ref a_p0_formats, .ref a_p0_patterns, .int w.1, .int w.2.1, .long w.2.2.1, .int w.2.2.2, .int p0_sign, .ref a_p0_a, .ref a_p0_b, .int p0_power, .int p0_root, .ref a_p0_left, .ref a_p0_right, .ref a_p0_longs, .ref a_p0_third, .int p0_thrown, .ref a_p0_other, .int p0_otherSign, .int p0_otherPower, .ref a_p0_tape, .int p0_taped, .int p0_at, .int p0_end, .int p0_many, .int p0_behind, .int p0_told, .ref a_p0_text, .int p0_written, .ref a_p0_figures, .int p0_figureMany, .int p0_last, .ref a_p0_num, .ref a_p0_den, .ref a_p0_low, .ref a_p0_high, .int p0_ten])), (a_p0_formats, .inl (cI, 16, .inl p0_formats)), (a_p0_patterns, .inl (cJ, 16, .inr (.inl p0_patterns)))] H → va_D A [(a_p0, .inr (12, [.ref a_p0_formats, .ref a_p0_patterns, .int w.1, .int w.2.1, .long w.2.2.1, .int w.2.2.2, .int p0_sign, .ref a_p0_a, .ref a_p0_b, .int p0_power, .int p0_root, .ref a_p0_left, .ref a_p0_right, .ref a_p0_longs, .ref a_p0_third, .int p0_thrown, .ref a_p0_other, .int p0_otherSign, .int p0_otherPower, .ref a_p0_tape, .int p0_taped, .int p0_at, .int p0_end, .int p0_many, .int p0_behind, .int p0_told, .ref a_p0_text, .int p0_written, .ref a_p0_figures, .int p0_figureMany, .int p0_last, .ref a_p0_num, .ref a_p0_den, .ref a_p0_low, .ref a_p0_high, .int p0_ten])), (a_p0_formats, .inl (cI, 16, .inl p0_formats)), (a_p0_patterns, .inl (cJ, 16, .inr (.inl p0_patterns)))] → va_S A s.heap H locs → W p l e (rmz 1 20) s m ar below meth c H locs 0 0 Q (F0 m pc ls []) := fun w hw => hw ▸ hret
  have keyB164 : ∀ (v2 : Int32) (v6 : Int32) (s1 : Int64) (p0_kind : Int32) (p0_minus : Int32) (p0_m : Int64) (p0_e : Int32) (H : Heap) (locs : List Loc) (ls : Array Slot), f_X11_look_B164 p0_formats p0_patterns v2 v6 s1 p0_kind p0_minus p0_m p0_e = some u → va_P D vwCl [(a_p0, .inr (12, [.ref a_p0_formats, .ref a_p0_patterns, .int p0_kind, .int p0_minus, .long p0_m, .int p0_e, .int p0_sign, .ref a_p0_a, .ref a_p0_b, .int p0_power, .int p0_root, .ref a_p0_left, .ref a_p0_right, .ref a_p0_longs, .ref a_p0_third, .int p0_thrown, .ref a_p0_other, .int p0_otherSign, .int p0_otherPower, .ref a_p0_tape, .int p0_taped, .int p0_at, .int p0_end, .int p0_many, .int p0_behind, .int p0_told, .ref a_p0_text, .int p0_written, .ref a_p0_figures, .int p0_figureMany, .int p0_last, .ref a_p0_num, .ref a_p0_den, .ref a_p0_low, .ref a_p0_high, .int p0_ten])), (a_p0_formats, .inl (cI, 16, .inl p0_formats)), (a_p0_patterns, .inl (cJ, 16, .inr (.inl p0_patterns)))] H → va_D A [(a_p0, .inr (12, [.ref a_p0_formats, .ref a_p0_patterns, .int p0_kind, .int p0_minus, .long p0_m, .int p0_e, .int p0_sign, .ref a_p0_a, .ref a_p0_b, .int p0_power, .int p0_root, .ref a_p0_left, .ref a_p0_right, .ref a_p0_longs, .ref a_p0_third, .int p0_thrown, .ref a_p0_other, .int p0_otherSign, .int p0_otherPower, .ref a_p0_tape, .int p0_taped, .int p0_at, .int p0_end, .int p0_many, .int p0_behind, .int p0_told, .ref a_p0_text, .int p0_written, .ref a_p0_figures, .int p0_figureMany, .int p0_last, .ref a_p0_num, .ref a_p0_den, .ref a_p0_low, .ref a_p0_high, .int p0_ten])), (a_p0_formats, .inl (cI, 16, .inl p0_formats)), (a_p0_patterns, .inl (cJ, 16, .inr (.inl p0_patterns)))] → va_S A s.heap H locs → lv_has ls 10 [(0, .ref a_p0), (2, .int v2), (6, .int v6)] → W p l e (rmz 1 20) s m ar below meth c H locs 0 0 Q (F0 m 164 ls [.long s1, .ref a_p0]) := by
    intro v2 v6 s1 p0_kind p0_minus p0_m p0_e H locs ls hf hP hD hS hl
    unfold f_X11_look_B164 at hf
    refine va_put (D := D) (ci := 12) (v := .long s1) (ty := tyX11 4) (C := RX11) (T := TX11) (N := 36) hx hb hts uwX11 tyX11 tyX11_ok nmX11 hown hK hP hD hS 0 rfl rfl 4 (by decide) (hts _ kfX11_28) (fun _ h9 => h9) rfl (tyX11_ok 4 (by decide)) rfl rfl (Nat.le_of_ble_eq_true rfl) dX11_look_164 (fun H locs hP hD hS => ?_)
    have hP : va_P D vwCl [(a_p0, .inr (12, [.ref a_p0_formats, .ref a_p0_patterns, .int p0_kind, .int p0_minus, .long s1, .int p0_e, .int p0_sign, .ref a_p0_a, .ref a_p0_b, .int p0_power, .int p0_root, .ref a_p0_left, .ref a_p0_right, .ref a_p0_longs, .ref a_p0_third, .int p0_thrown, .ref a_p0_other, .int p0_otherSign, .int p0_otherPower, .ref a_p0_tape, .int p0_taped, .int p0_at, .int p0_end, .int p0_many, .int p0_behind, .int p0_told, .ref a_p0_text, .int p0_written, .ref a_p0_figures, .int p0_figureMany, .int p0_last, .ref a_p0_num, .ref a_p0_den, .ref a_p0_low, .ref a_p0_high, .int p0_ten])), (a_p0_formats, .inl (cI, 16, .inl p0_formats)), (a_p0_patterns, .inl (cJ, 16, .inr (.inl p0_patterns)))] H := hP
    have hD : va_D A [(a_p0, .inr (12, [.ref a_p0_formats, .ref a_p0_patterns, .int p0_kind, .int p0_minus, .long s1, .int p0_e, .int p0_sign, .ref a_p0_a, .ref a_p0_b, .int p0_power, .int p0_root, .ref a_p0_left, .ref a_p0_right, .ref a_p0_longs, .ref a_p0_third, .int p0_thrown, .ref a_p0_other, .int p0_otherSign, .int p0_otherPower, .ref a_p0_tape, .int p0_taped, .int p0_at, .int p0_end, .int p0_many, .int p0_behind, .int p0_told, .ref a_p0_text, .int p0_written, .ref a_p0_figures, .int p0_figureMany, .int p0_last, .ref a_p0_num, .ref a_p0_den, .ref a_p0_low, .ref a_p0_high, .int p0_ten])), (a_p0_formats, .inl (cI, 16, .inl p0_formats)), (a_p0_patterns, .inl (cJ, 16, .inr (.inl p0_patterns)))] := hD
    refine lv_aload_n hx hb dX11_look_167 rfl (lv_at hl 0 rfl) ?_
    refine lv_aload_n hx hb dX11_look_168 rfl (lv_at hl 0 rfl) ?_
    refine va_get (D := D) (ci := 12) (v := .int p0_kind) (C := RX11) (T := TX11) (N := 36) hx hb hts uwX11 hown hK hP 0 rfl rfl 2 (by decide) (hts _ kfX11_25) (fun _ h9 => h9) rfl dX11_look_169 ?_
    refine lv_iconst (v := 2) hx hb dX11_look_172 (by decide) ?_
    refine lv_icmp_le (tgt := 180) hx hb dX11_look_173 (by decide) (fun hc14 => ?_) (fun hc14 => ?_)
    · have hf := ifT hc14 hf
      refine lv_iload hx hb dX11_look_180 (lv_at hl 2 rfl) ?_
      refine lv_if_le (tgt := 197) hx hb dX11_look_182 (by decide) (fun hc13 => ?_) (fun hc13 => ?_)
      · have hf := ifT hc13 hf
        refine lv_iload_n hx hb dX11_look_197 rfl (lv_at hl 1 rfl) ?_
        obtain ⟨u9, hu10, hf⟩ := bdE hf
        refine cS_I (ws' := [(a_p0, .inr (12, [.ref a_p0_formats, .ref a_p0_patterns, .int p0_kind, .int p0_minus, .long s1, .int p0_e, .int p0_sign, .ref a_p0_a, .ref a_p0_b, .int p0_power, .int p0_root, .ref a_p0_left, .ref a_p0_right, .ref a_p0_longs, .ref a_p0_third, .int p0_thrown, .ref a_p0_other, .int p0_otherSign, .int p0_otherPower, .ref a_p0_tape, .int p0_taped, .int p0_at, .int p0_end, .int p0_many, .int p0_behind, .int p0_told, .ref a_p0_text, .int p0_written, .ref a_p0_figures, .int p0_figureMany, .int p0_last, .ref a_p0_num, .ref a_p0_den, .ref a_p0_low, .ref a_p0_high, .int p0_ten])), (a_p0_formats, .inl (cI, 16, .inl p0_formats)), (a_p0_patterns, .inl (cJ, 16, .inr (.inl p0_patterns)))]) (rest := [.ref a_p0]) S hK hN hA hP hD hS (c_X11_least l D cI cJ  v2  u9 hu10) mwX11_least msX11_least kmX11_32 [] rfl (by decide) rfl rfl rfl ⟨Nat.le_of_ble_eq_true rfl, Nat.le_of_ble_eq_true rfl⟩ ⟨Nat.zero_le _, Nat.zero_le _⟩ hl.1 rfl rfl (Nat.le_of_ble_eq_true rfl) dX11_look_198 (fun H locs hP hD hS => ?_)
        refine va_put (D := D) (ci := 12) (v := .int u9) (ty := tyX11 5) (C := RX11) (T := TX11) (N := 36) hx hb hts uwX11 tyX11 tyX11_ok nmX11 hown hK hP hD hS 0 rfl rfl 5 (by decide) (hts _ kfX11_35) (fun _ h9 => h9) rfl (tyX11_ok 5 (by decide)) rfl rfl (Nat.le_of_ble_eq_true rfl) dX11_look_201 (fun H locs hP hD hS => ?_)
        have hP : va_P D vwCl [(a_p0, .inr (12, [.ref a_p0_formats, .ref a_p0_patterns, .int p0_kind, .int p0_minus, .long s1, .int u9, .int p0_sign, .ref a_p0_a, .ref a_p0_b, .int p0_power, .int p0_root, .ref a_p0_left, .ref a_p0_right, .ref a_p0_longs, .ref a_p0_third, .int p0_thrown, .ref a_p0_other, .int p0_otherSign, .int p0_otherPower, .ref a_p0_tape, .int p0_taped, .int p0_at, .int p0_end, .int p0_many, .int p0_behind, .int p0_told, .ref a_p0_text, .int p0_written, .ref a_p0_figures, .int p0_figureMany, .int p0_last, .ref a_p0_num, .ref a_p0_den, .ref a_p0_low, .ref a_p0_high, .int p0_ten])), (a_p0_formats, .inl (cI, 16, .inl p0_formats)), (a_p0_patterns, .inl (cJ, 16, .inr (.inl p0_patterns)))] H := hP
        have hD : va_D A [(a_p0, .inr (12, [.ref a_p0_formats, .ref a_p0_patterns, .int p0_kind, .int p0_minus, .long s1, .int u9, .int p0_sign, .ref a_p0_a, .ref a_p0_b, .int p0_power, .int p0_root, .ref a_p0_left, .ref a_p0_right, .ref a_p0_longs, .ref a_p0_third, .int p0_thrown, .ref a_p0_other, .int p0_otherSign, .int p0_otherPower, .ref a_p0_tape, .int p0_taped, .int p0_at, .int p0_end, .int p0_many, .int p0_behind, .int p0_told, .ref a_p0_text, .int p0_written, .ref a_p0_figures, .int p0_figureMany, .int p0_last, .ref a_p0_num, .ref a_p0_den, .ref a_p0_low, .ref a_p0_high, .int p0_ten])), (a_p0_formats, .inl (cI, 16, .inl p0_formats)), (a_p0_patterns, .inl (cJ, 16, .inr (.inl p0_patterns)))] := hD
        exact hret _ (opE hf) H locs ls 204 dX11_look_204 hP hD hS
      · have hf := ifF hc13 hf
        refine lv_iload_n hx hb dX11_look_185 rfl (lv_at hl 1 rfl) ?_
        obtain ⟨u11, hu12, hf⟩ := bdE hf
        refine cS_I (ws' := [(a_p0, .inr (12, [.ref a_p0_formats, .ref a_p0_patterns, .int p0_kind, .int p0_minus, .long s1, .int p0_e, .int p0_sign, .ref a_p0_a, .ref a_p0_b, .int p0_power, .int p0_root, .ref a_p0_left, .ref a_p0_right, .ref a_p0_longs, .ref a_p0_third, .int p0_thrown, .ref a_p0_other, .int p0_otherSign, .int p0_otherPower, .ref a_p0_tape, .int p0_taped, .int p0_at, .int p0_end, .int p0_many, .int p0_behind, .int p0_told, .ref a_p0_text, .int p0_written, .ref a_p0_figures, .int p0_figureMany, .int p0_last, .ref a_p0_num, .ref a_p0_den, .ref a_p0_low, .ref a_p0_high, .int p0_ten])), (a_p0_formats, .inl (cI, 16, .inl p0_formats)), (a_p0_patterns, .inl (cJ, 16, .inr (.inl p0_patterns)))]) (rest := [.ref a_p0]) S hK hN hA hP hD hS (c_X11_least l D cI cJ  v2  u11 hu12) mwX11_least msX11_least kmX11_32 [] rfl (by decide) rfl rfl rfl ⟨Nat.le_of_ble_eq_true rfl, Nat.le_of_ble_eq_true rfl⟩ ⟨Nat.zero_le _, Nat.zero_le _⟩ hl.1 rfl rfl (Nat.le_of_ble_eq_true rfl) dX11_look_186 (fun H locs hP hD hS => ?_)
        refine lv_iconst (v := 1) hx hb dX11_look_189 (by decide) ?_
        refine lv_isub hx hb dX11_look_190 ?_
        refine lv_iload hx hb dX11_look_191 (lv_at hl 2 rfl) ?_
        refine lv_iadd hx hb dX11_look_193 ?_
        refine lv_goto (tgt := 201) hx hb dX11_look_194 (by decide) ?_
        refine va_put (D := D) (ci := 12) (v := .int ((u11 - (1 : Int32)) + v6)) (ty := tyX11 5) (C := RX11) (T := TX11) (N := 36) hx hb hts uwX11 tyX11 tyX11_ok nmX11 hown hK hP hD hS 0 rfl rfl 5 (by decide) (hts _ kfX11_35) (fun _ h9 => h9) rfl (tyX11_ok 5 (by decide)) rfl rfl (Nat.le_of_ble_eq_true rfl) dX11_look_201 (fun H locs hP hD hS => ?_)
        have hP : va_P D vwCl [(a_p0, .inr (12, [.ref a_p0_formats, .ref a_p0_patterns, .int p0_kind, .int p0_minus, .long s1, .int ((u11 - (1 : Int32)) + v6), .int p0_sign, .ref a_p0_a, .ref a_p0_b, .int p0_power, .int p0_root, .ref a_p0_left, .ref a_p0_right, .ref a_p0_longs, .ref a_p0_third, .int p0_thrown, .ref a_p0_other, .int p0_otherSign, .int p0_otherPower, .ref a_p0_tape, .int p0_taped, .int p0_at, .int p0_end, .int p0_many, .int p0_behind, .int p0_told, .ref a_p0_text, .int p0_written, .ref a_p0_figures, .int p0_figureMany, .int p0_last, .ref a_p0_num, .ref a_p0_den, .ref a_p0_low, .ref a_p0_high, .int p0_ten])), (a_p0_formats, .inl (cI, 16, .inl p0_formats)), (a_p0_patterns, .inl (cJ, 16, .inr (.inl p0_patterns)))] H := hP
        have hD : va_D A [(a_p0, .inr (12, [.ref a_p0_formats, .ref a_p0_patterns, .int p0_kind, .int p0_minus, .long s1, .int ((u11 - (1 : Int32)) + v6), .int p0_sign, .ref a_p0_a, .ref a_p0_b, .int p0_power, .int p0_root, .ref a_p0_left, .ref a_p0_right, .ref a_p0_longs, .ref a_p0_third, .int p0_thrown, .ref a_p0_other, .int p0_otherSign, .int p0_otherPower, .ref a_p0_tape, .int p0_taped, .int p0_at, .int p0_end, .int p0_many, .int p0_behind, .int p0_told, .ref a_p0_text, .int p0_written, .ref a_p0_figures, .int p0_figureMany, .int p0_last, .ref a_p0_num, .ref a_p0_den, .ref a_p0_low, .ref a_p0_high, .int p0_ten])), (a_p0_formats, .inl (cI, 16, .inl p0_formats)), (a_p0_patterns, .inl (cJ, 16, .inr (.inl p0_patterns)))] := hD
        exact hret _ (opE hf) H locs ls 204 dX11_look_204 hP hD hS
    · have hf := ifF hc14 hf
      refine lv_iconst (v := 0) hx hb dX11_look_176 (by decide) ?_
      refine lv_goto (tgt := 201) hx hb dX11_look_177 (by decide) ?_
      refine va_put (D := D) (ci := 12) (v := .int (0 : Int32)) (ty := tyX11 5) (C := RX11) (T := TX11) (N := 36) hx hb hts uwX11 tyX11 tyX11_ok nmX11 hown hK hP hD hS 0 rfl rfl 5 (by decide) (hts _ kfX11_35) (fun _ h9 => h9) rfl (tyX11_ok 5 (by decide)) rfl rfl (Nat.le_of_ble_eq_true rfl) dX11_look_201 (fun H locs hP hD hS => ?_)
      have hP : va_P D vwCl [(a_p0, .inr (12, [.ref a_p0_formats, .ref a_p0_patterns, .int p0_kind, .int p0_minus, .long s1, .int (0 : Int32), .int p0_sign, .ref a_p0_a, .ref a_p0_b, .int p0_power, .int p0_root, .ref a_p0_left, .ref a_p0_right, .ref a_p0_longs, .ref a_p0_third, .int p0_thrown, .ref a_p0_other, .int p0_otherSign, .int p0_otherPower, .ref a_p0_tape, .int p0_taped, .int p0_at, .int p0_end, .int p0_many, .int p0_behind, .int p0_told, .ref a_p0_text, .int p0_written, .ref a_p0_figures, .int p0_figureMany, .int p0_last, .ref a_p0_num, .ref a_p0_den, .ref a_p0_low, .ref a_p0_high, .int p0_ten])), (a_p0_formats, .inl (cI, 16, .inl p0_formats)), (a_p0_patterns, .inl (cJ, 16, .inr (.inl p0_patterns)))] H := hP
      have hD : va_D A [(a_p0, .inr (12, [.ref a_p0_formats, .ref a_p0_patterns, .int p0_kind, .int p0_minus, .long s1, .int (0 : Int32), .int p0_sign, .ref a_p0_a, .ref a_p0_b, .int p0_power, .int p0_root, .ref a_p0_left, .ref a_p0_right, .ref a_p0_longs, .ref a_p0_third, .int p0_thrown, .ref a_p0_other, .int p0_otherSign, .int p0_otherPower, .ref a_p0_tape, .int p0_taped, .int p0_at, .int p0_end, .int p0_many, .int p0_behind, .int p0_told, .ref a_p0_text, .int p0_written, .ref a_p0_figures, .int p0_figureMany, .int p0_last, .ref a_p0_num, .ref a_p0_den, .ref a_p0_low, .ref a_p0_high, .int p0_ten])), (a_p0_formats, .inl (cI, 16, .inl p0_formats)), (a_p0_patterns, .inl (cJ, 16, .inr (.inl p0_patterns)))] := hD
      exact hret _ (opE hf) H locs ls 204 dX11_look_204 hP hD hS
  have keyB132 : ∀ (v2 : Int32) (v3 : Int32) (v6 : Int32) (v7 : Int64) (s1 : Int32) (p0_kind : Int32) (p0_minus : Int32) (p0_m : Int64) (p0_e : Int32) (H : Heap) (locs : List Loc) (ls : Array Slot), f_X11_look_B132 p0_formats p0_patterns v2 v3 v6 v7 s1 p0_kind p0_minus p0_m p0_e = some u → va_P D vwCl [(a_p0, .inr (12, [.ref a_p0_formats, .ref a_p0_patterns, .int p0_kind, .int p0_minus, .long p0_m, .int p0_e, .int p0_sign, .ref a_p0_a, .ref a_p0_b, .int p0_power, .int p0_root, .ref a_p0_left, .ref a_p0_right, .ref a_p0_longs, .ref a_p0_third, .int p0_thrown, .ref a_p0_other, .int p0_otherSign, .int p0_otherPower, .ref a_p0_tape, .int p0_taped, .int p0_at, .int p0_end, .int p0_many, .int p0_behind, .int p0_told, .ref a_p0_text, .int p0_written, .ref a_p0_figures, .int p0_figureMany, .int p0_last, .ref a_p0_num, .ref a_p0_den, .ref a_p0_low, .ref a_p0_high, .int p0_ten])), (a_p0_formats, .inl (cI, 16, .inl p0_formats)), (a_p0_patterns, .inl (cJ, 16, .inr (.inl p0_patterns)))] H → va_D A [(a_p0, .inr (12, [.ref a_p0_formats, .ref a_p0_patterns, .int p0_kind, .int p0_minus, .long p0_m, .int p0_e, .int p0_sign, .ref a_p0_a, .ref a_p0_b, .int p0_power, .int p0_root, .ref a_p0_left, .ref a_p0_right, .ref a_p0_longs, .ref a_p0_third, .int p0_thrown, .ref a_p0_other, .int p0_otherSign, .int p0_otherPower, .ref a_p0_tape, .int p0_taped, .int p0_at, .int p0_end, .int p0_many, .int p0_behind, .int p0_told, .ref a_p0_text, .int p0_written, .ref a_p0_figures, .int p0_figureMany, .int p0_last, .ref a_p0_num, .ref a_p0_den, .ref a_p0_low, .ref a_p0_high, .int p0_ten])), (a_p0_formats, .inl (cI, 16, .inl p0_formats)), (a_p0_patterns, .inl (cJ, 16, .inr (.inl p0_patterns)))] → va_S A s.heap H locs → lv_has ls 10 [(0, .ref a_p0), (2, .int v2), (3, .int v3), (6, .int v6), (7, .long v7)] → W p l e (rmz 1 20) s m ar below meth c H locs 0 0 Q (F0 m 132 ls [.int s1, .ref a_p0]) := by
    intro v2 v3 v6 v7 s1 p0_kind p0_minus p0_m p0_e H locs ls hf hP hD hS hl
    unfold f_X11_look_B132 at hf
    refine va_put (D := D) (ci := 12) (v := .int s1) (ty := tyX11 2) (C := RX11) (T := TX11) (N := 36) hx hb hts uwX11 tyX11 tyX11_ok nmX11 hown hK hP hD hS 0 rfl rfl 2 (by decide) (hts _ kfX11_25) (fun _ h9 => h9) rfl (tyX11_ok 2 (by decide)) rfl rfl (Nat.le_of_ble_eq_true rfl) dX11_look_132 (fun H locs hP hD hS => ?_)
    have hP : va_P D vwCl [(a_p0, .inr (12, [.ref a_p0_formats, .ref a_p0_patterns, .int s1, .int p0_minus, .long p0_m, .int p0_e, .int p0_sign, .ref a_p0_a, .ref a_p0_b, .int p0_power, .int p0_root, .ref a_p0_left, .ref a_p0_right, .ref a_p0_longs, .ref a_p0_third, .int p0_thrown, .ref a_p0_other, .int p0_otherSign, .int p0_otherPower, .ref a_p0_tape, .int p0_taped, .int p0_at, .int p0_end, .int p0_many, .int p0_behind, .int p0_told, .ref a_p0_text, .int p0_written, .ref a_p0_figures, .int p0_figureMany, .int p0_last, .ref a_p0_num, .ref a_p0_den, .ref a_p0_low, .ref a_p0_high, .int p0_ten])), (a_p0_formats, .inl (cI, 16, .inl p0_formats)), (a_p0_patterns, .inl (cJ, 16, .inr (.inl p0_patterns)))] H := hP
    have hD : va_D A [(a_p0, .inr (12, [.ref a_p0_formats, .ref a_p0_patterns, .int s1, .int p0_minus, .long p0_m, .int p0_e, .int p0_sign, .ref a_p0_a, .ref a_p0_b, .int p0_power, .int p0_root, .ref a_p0_left, .ref a_p0_right, .ref a_p0_longs, .ref a_p0_third, .int p0_thrown, .ref a_p0_other, .int p0_otherSign, .int p0_otherPower, .ref a_p0_tape, .int p0_taped, .int p0_at, .int p0_end, .int p0_many, .int p0_behind, .int p0_told, .ref a_p0_text, .int p0_written, .ref a_p0_figures, .int p0_figureMany, .int p0_last, .ref a_p0_num, .ref a_p0_den, .ref a_p0_low, .ref a_p0_high, .int p0_ten])), (a_p0_formats, .inl (cI, 16, .inl p0_formats)), (a_p0_patterns, .inl (cJ, 16, .inr (.inl p0_patterns)))] := hD
    refine lv_aload_n hx hb dX11_look_135 rfl (lv_at hl 0 rfl) ?_
    refine lv_aload_n hx hb dX11_look_136 rfl (lv_at hl 0 rfl) ?_
    refine va_get (D := D) (ci := 12) (v := .int s1) (C := RX11) (T := TX11) (N := 36) hx hb hts uwX11 hown hK hP 0 rfl rfl 2 (by decide) (hts _ kfX11_25) (fun _ h9 => h9) rfl dX11_look_137 ?_
    refine lv_iconst (v := 2) hx hb dX11_look_140 (by decide) ?_
    refine lv_icmp_le (tgt := 148) hx hb dX11_look_141 (by decide) (fun hc16 => ?_) (fun hc16 => ?_)
    · have hf := ifT hc16 hf
      refine lv_iload hx hb dX11_look_148 (lv_at hl 3 rfl) ?_
      refine lv_if_le (tgt := 162) hx hb dX11_look_150 (by decide) (fun hc15 => ?_) (fun hc15 => ?_)
      · have hf := ifT hc15 hf
        refine lv_lload hx hb dX11_look_162 (lv_at hl 4 rfl) ?_
        exact keyB164 v2 v6 v7 s1 p0_minus p0_m p0_e H locs ls hf hP hD hS (lv_sub hl [0, 1, 3] rfl)
      · have hf := ifF hc15 hf
        refine lv_lload hx hb dX11_look_153 (lv_at hl 4 rfl) ?_
        refine lv_lconst (v := 1) hx hb dX11_look_155 (by decide) ?_
        refine lv_iload_n hx hb dX11_look_156 rfl (lv_at hl 2 rfl) ?_
        refine lv_lshl (v := lsh (1 : Int64) v3) hx hb dX11_look_157 rfl ?_
        refine lv_lor hx hb dX11_look_158 ?_
        refine lv_goto (tgt := 164) hx hb dX11_look_159 (by decide) ?_
        exact keyB164 v2 v6 (v7 ||| (lsh (1 : Int64) v3)) s1 p0_minus p0_m p0_e H locs ls hf hP hD hS (lv_sub hl [0, 1, 3] rfl)
    · have hf := ifF hc16 hf
      refine lv_lconst (v := 0) hx hb dX11_look_144 (by decide) ?_
      refine lv_goto (tgt := 164) hx hb dX11_look_145 (by decide) ?_
      exact keyB164 v2 v6 (0 : Int64) s1 p0_minus p0_m p0_e H locs ls hf hP hD hS (lv_sub hl [0, 1, 3] rfl)
  have keyB86 : ∀ (v2 : Int32) (v3 : Int32) (v6 : Int32) (v7 : Int64) (s0 : Int32) (p0_kind : Int32) (p0_minus : Int32) (p0_m : Int64) (p0_e : Int32) (H : Heap) (locs : List Loc) (ls : Array Slot), f_X11_look_B86 p0_formats p0_patterns v2 v3 v6 v7 s0 p0_kind p0_minus p0_m p0_e = some u → va_P D vwCl [(a_p0, .inr (12, [.ref a_p0_formats, .ref a_p0_patterns, .int p0_kind, .int p0_minus, .long p0_m, .int p0_e, .int p0_sign, .ref a_p0_a, .ref a_p0_b, .int p0_power, .int p0_root, .ref a_p0_left, .ref a_p0_right, .ref a_p0_longs, .ref a_p0_third, .int p0_thrown, .ref a_p0_other, .int p0_otherSign, .int p0_otherPower, .ref a_p0_tape, .int p0_taped, .int p0_at, .int p0_end, .int p0_many, .int p0_behind, .int p0_told, .ref a_p0_text, .int p0_written, .ref a_p0_figures, .int p0_figureMany, .int p0_last, .ref a_p0_num, .ref a_p0_den, .ref a_p0_low, .ref a_p0_high, .int p0_ten])), (a_p0_formats, .inl (cI, 16, .inl p0_formats)), (a_p0_patterns, .inl (cJ, 16, .inr (.inl p0_patterns)))] H → va_D A [(a_p0, .inr (12, [.ref a_p0_formats, .ref a_p0_patterns, .int p0_kind, .int p0_minus, .long p0_m, .int p0_e, .int p0_sign, .ref a_p0_a, .ref a_p0_b, .int p0_power, .int p0_root, .ref a_p0_left, .ref a_p0_right, .ref a_p0_longs, .ref a_p0_third, .int p0_thrown, .ref a_p0_other, .int p0_otherSign, .int p0_otherPower, .ref a_p0_tape, .int p0_taped, .int p0_at, .int p0_end, .int p0_many, .int p0_behind, .int p0_told, .ref a_p0_text, .int p0_written, .ref a_p0_figures, .int p0_figureMany, .int p0_last, .ref a_p0_num, .ref a_p0_den, .ref a_p0_low, .ref a_p0_high, .int p0_ten])), (a_p0_formats, .inl (cI, 16, .inl p0_formats)), (a_p0_patterns, .inl (cJ, 16, .inr (.inl p0_patterns)))] → va_S A s.heap H locs → lv_has ls 10 [(0, .ref a_p0), (2, .int v2), (3, .int v3), (6, .int v6), (7, .long v7)] → W p l e (rmz 1 20) s m ar below meth c H locs 0 0 Q (F0 m 86 ls [.int s0]) := by
    intro v2 v3 v6 v7 s0 p0_kind p0_minus p0_m p0_e H locs ls hf hP hD hS hl
    unfold f_X11_look_B86 at hf
    refine lv_istore (lv' := [(9, .int s0), (0, .ref a_p0), (2, .int v2), (3, .int v3), (6, .int v6), (7, .long v7)]) hx hb dX11_look_86 hl (by decide) rfl (fun ls hl => ?_)
    refine lv_aload_n hx hb dX11_look_88 rfl (lv_at hl 1 rfl) ?_
    refine lv_iload hx hb dX11_look_89 (lv_at hl 4 rfl) ?_
    refine lv_iload hx hb dX11_look_91 (lv_at hl 0 rfl) ?_
    refine lv_icmp_ne (tgt := 111) hx hb dX11_look_93 (by decide) (fun hc20 => ?_) (fun hc20 => ?_)
    · have hf := ifF hc20 hf
      refine lv_iload hx hb dX11_look_111 (lv_at hl 4 rfl) ?_
      refine lv_if_le (tgt := 120) hx hb dX11_look_113 (by decide) (fun hc18 => ?_) (fun hc18 => ?_)
      · have hf := ifT hc18 hf
        refine lv_lload hx hb dX11_look_120 (lv_at hl 5 rfl) ?_
        refine lv_lconst (v := 0) hx hb dX11_look_122 (by decide) ?_
        refine W.lcmp hx hb dX11_look_123 ?_
        refine lv_if_le (tgt := 131) hx hb dX11_look_124 (by decide) (fun hc17 => ?_) (fun hc17 => ?_)
        · have hf := ifT hc17 hf
          refine lv_iconst (v := 0) hx hb dX11_look_131 (by decide) ?_
          exact keyB132 v2 v3 v6 v7 (0 : Int32) p0_kind p0_minus p0_m p0_e H locs ls hf hP hD hS (lv_sub hl [1, 2, 3, 4, 5] rfl)
        · have hf := ifF hc17 hf
          refine lv_iconst (v := 1) hx hb dX11_look_127 (by decide) ?_
          refine lv_goto (tgt := 132) hx hb dX11_look_128 (by decide) ?_
          exact keyB132 v2 v3 v6 v7 (1 : Int32) p0_kind p0_minus p0_m p0_e H locs ls hf hP hD hS (lv_sub hl [1, 2, 3, 4, 5] rfl)
      · have hf := ifF hc18 hf
        refine lv_iconst (v := 2) hx hb dX11_look_116 (by decide) ?_
        refine lv_goto (tgt := 132) hx hb dX11_look_117 (by decide) ?_
        exact keyB132 v2 v3 v6 v7 (2 : Int32) p0_kind p0_minus p0_m p0_e H locs ls hf hP hD hS (lv_sub hl [1, 2, 3, 4, 5] rfl)
    · have hf := ifT hc20 hf
      refine lv_lload hx hb dX11_look_96 (lv_at hl 5 rfl) ?_
      refine lv_lconst (v := 0) hx hb dX11_look_98 (by decide) ?_
      refine W.lcmp hx hb dX11_look_99 ?_
      refine lv_if_ne (tgt := 107) hx hb dX11_look_100 (by decide) (fun hc19 => ?_) (fun hc19 => ?_)
      · have hf := ifF hc19 hf
        refine lv_iconst (v := 4) hx hb dX11_look_107 (by decide) ?_
        refine lv_goto (tgt := 132) hx hb dX11_look_108 (by decide) ?_
        exact keyB132 v2 v3 v6 v7 (4 : Int32) p0_kind p0_minus p0_m p0_e H locs ls hf hP hD hS (lv_sub hl [1, 2, 3, 4, 5] rfl)
      · have hf := ifT hc19 hf
        refine lv_iconst (v := 3) hx hb dX11_look_103 (by decide) ?_
        refine lv_goto (tgt := 132) hx hb dX11_look_104 (by decide) ?_
        exact keyB132 v2 v3 v6 v7 (3 : Int32) p0_kind p0_minus p0_m p0_e H locs ls hf hP hD hS (lv_sub hl [1, 2, 3, 4, 5] rfl)
  have keyB36 : ∀ (v1 : Int32) (v2 : Int32) (v3 : Int32) (s1 : Int32) (p0_kind : Int32) (p0_minus : Int32) (p0_m : Int64) (p0_e : Int32) (H : Heap) (locs : List Loc) (ls : Array Slot), f_X11_look_B36 p0_formats p0_patterns v1 v2 v3 s1 p0_kind p0_minus p0_m p0_e = some u → va_P D vwCl [(a_p0, .inr (12, [.ref a_p0_formats, .ref a_p0_patterns, .int p0_kind, .int p0_minus, .long p0_m, .int p0_e, .int p0_sign, .ref a_p0_a, .ref a_p0_b, .int p0_power, .int p0_root, .ref a_p0_left, .ref a_p0_right, .ref a_p0_longs, .ref a_p0_third, .int p0_thrown, .ref a_p0_other, .int p0_otherSign, .int p0_otherPower, .ref a_p0_tape, .int p0_taped, .int p0_at, .int p0_end, .int p0_many, .int p0_behind, .int p0_told, .ref a_p0_text, .int p0_written, .ref a_p0_figures, .int p0_figureMany, .int p0_last, .ref a_p0_num, .ref a_p0_den, .ref a_p0_low, .ref a_p0_high, .int p0_ten])), (a_p0_formats, .inl (cI, 16, .inl p0_formats)), (a_p0_patterns, .inl (cJ, 16, .inr (.inl p0_patterns)))] H → va_D A [(a_p0, .inr (12, [.ref a_p0_formats, .ref a_p0_patterns, .int p0_kind, .int p0_minus, .long p0_m, .int p0_e, .int p0_sign, .ref a_p0_a, .ref a_p0_b, .int p0_power, .int p0_root, .ref a_p0_left, .ref a_p0_right, .ref a_p0_longs, .ref a_p0_third, .int p0_thrown, .ref a_p0_other, .int p0_otherSign, .int p0_otherPower, .ref a_p0_tape, .int p0_taped, .int p0_at, .int p0_end, .int p0_many, .int p0_behind, .int p0_told, .ref a_p0_text, .int p0_written, .ref a_p0_figures, .int p0_figureMany, .int p0_last, .ref a_p0_num, .ref a_p0_den, .ref a_p0_low, .ref a_p0_high, .int p0_ten])), (a_p0_formats, .inl (cI, 16, .inl p0_formats)), (a_p0_patterns, .inl (cJ, 16, .inr (.inl p0_patterns)))] → va_S A s.heap H locs → lv_has ls 10 [(0, .ref a_p0), (1, .int v1), (2, .int v2), (3, .int v3)] → W p l e (rmz 1 20) s m ar below meth c H locs 0 0 Q (F0 m 36 ls [.int s1, .ref a_p0]) := by
    intro v1 v2 v3 s1 p0_kind p0_minus p0_m p0_e H locs ls hf hP hD hS hl
    unfold f_X11_look_B36 at hf
    refine va_put (D := D) (ci := 12) (v := .int s1) (ty := tyX11 3) (C := RX11) (T := TX11) (N := 36) hx hb hts uwX11 tyX11 tyX11_ok nmX11 hown hK hP hD hS 0 rfl rfl 3 (by decide) (hts _ kfX11_19) (fun _ h9 => h9) rfl (tyX11_ok 3 (by decide)) rfl rfl (Nat.le_of_ble_eq_true rfl) dX11_look_36 (fun H locs hP hD hS => ?_)
    have hP : va_P D vwCl [(a_p0, .inr (12, [.ref a_p0_formats, .ref a_p0_patterns, .int p0_kind, .int s1, .long p0_m, .int p0_e, .int p0_sign, .ref a_p0_a, .ref a_p0_b, .int p0_power, .int p0_root, .ref a_p0_left, .ref a_p0_right, .ref a_p0_longs, .ref a_p0_third, .int p0_thrown, .ref a_p0_other, .int p0_otherSign, .int p0_otherPower, .ref a_p0_tape, .int p0_taped, .int p0_at, .int p0_end, .int p0_many, .int p0_behind, .int p0_told, .ref a_p0_text, .int p0_written, .ref a_p0_figures, .int p0_figureMany, .int p0_last, .ref a_p0_num, .ref a_p0_den, .ref a_p0_low, .ref a_p0_high, .int p0_ten])), (a_p0_formats, .inl (cI, 16, .inl p0_formats)), (a_p0_patterns, .inl (cJ, 16, .inr (.inl p0_patterns)))] H := hP
    have hD : va_D A [(a_p0, .inr (12, [.ref a_p0_formats, .ref a_p0_patterns, .int p0_kind, .int s1, .long p0_m, .int p0_e, .int p0_sign, .ref a_p0_a, .ref a_p0_b, .int p0_power, .int p0_root, .ref a_p0_left, .ref a_p0_right, .ref a_p0_longs, .ref a_p0_third, .int p0_thrown, .ref a_p0_other, .int p0_otherSign, .int p0_otherPower, .ref a_p0_tape, .int p0_taped, .int p0_at, .int p0_end, .int p0_many, .int p0_behind, .int p0_told, .ref a_p0_text, .int p0_written, .ref a_p0_figures, .int p0_figureMany, .int p0_last, .ref a_p0_num, .ref a_p0_den, .ref a_p0_low, .ref a_p0_high, .int p0_ten])), (a_p0_formats, .inl (cI, 16, .inl p0_formats)), (a_p0_patterns, .inl (cJ, 16, .inr (.inl p0_patterns)))] := hD
    refine lv_aload_n hx hb dX11_look_39 rfl (lv_at hl 0 rfl) ?_
    refine va_get (D := D) (ci := 12) (v := .ref a_p0_patterns) (C := RX11) (T := TX11) (N := 36) hx hb hts uwX11 hown hK hP 0 rfl rfl 1 (by decide) (hts _ kfX11_11) (fun _ h9 => h9) rfl dX11_look_40 ?_
    refine lv_iload_n hx hb dX11_look_43 rfl (lv_at hl 1 rfl) ?_
    obtain ⟨hi6, hf⟩ := gdE hf
    refine va_lald hx hb hK hP 2 1 rfl rfl hi6 dX11_look_44 ?_
    refine lv_iload_n hx hb dX11_look_45 rfl (lv_at hl 2 rfl) ?_
    obtain ⟨u7, hu8, hf⟩ := bdE hf
    refine cS_L (ws' := [(a_p0, .inr (12, [.ref a_p0_formats, .ref a_p0_patterns, .int p0_kind, .int s1, .long p0_m, .int p0_e, .int p0_sign, .ref a_p0_a, .ref a_p0_b, .int p0_power, .int p0_root, .ref a_p0_left, .ref a_p0_right, .ref a_p0_longs, .ref a_p0_third, .int p0_thrown, .ref a_p0_other, .int p0_otherSign, .int p0_otherPower, .ref a_p0_tape, .int p0_taped, .int p0_at, .int p0_end, .int p0_many, .int p0_behind, .int p0_told, .ref a_p0_text, .int p0_written, .ref a_p0_figures, .int p0_figureMany, .int p0_last, .ref a_p0_num, .ref a_p0_den, .ref a_p0_low, .ref a_p0_high, .int p0_ten])), (a_p0_formats, .inl (cI, 16, .inl p0_formats)), (a_p0_patterns, .inl (cJ, 16, .inr (.inl p0_patterns)))]) (rest := [.long (p0_patterns v1.toNatClampNeg)]) S hK hN hA hP hD hS (c_X11_signBit l D cI cJ  v2  u7 hu8) mwX11_signBit msX11_signBit kmX11_15 [] rfl (by decide) rfl rfl rfl ⟨Nat.le_of_ble_eq_true rfl, Nat.le_of_ble_eq_true rfl⟩ ⟨Nat.zero_le _, Nat.zero_le _⟩ hl.1 rfl rfl (Nat.le_of_ble_eq_true rfl) dX11_look_46 (fun H locs hP hD hS => ?_)
    refine lv_ldc2 hx hb hown (hts _ kcX11_23) dX11_look_49 ?_
    refine lv_lxor hx hb dX11_look_52 ?_
    refine lv_land hx hb dX11_look_53 ?_
    refine lv_lstore (lv' := [(4, .long ((p0_patterns v1.toNatClampNeg) &&& (u7 ^^^ (-1 : Int64)))), (0, .ref a_p0), (1, .int v1), (2, .int v2), (3, .int v3)]) hx hb dX11_look_54 hl (by decide) rfl (fun ls hl => ?_)
    refine lv_lload hx hb dX11_look_56 (lv_at hl 0 rfl) ?_
    refine lv_iload_n hx hb dX11_look_58 rfl (lv_at hl 4 rfl) ?_
    refine lv_lushr (v := lus ((p0_patterns v1.toNatClampNeg) &&& (u7 ^^^ (-1 : Int64))) v3) hx hb dX11_look_59 rfl ?_
    refine lv_l2i (v := (lus ((p0_patterns v1.toNatClampNeg) &&& (u7 ^^^ (-1 : Int64))) v3).toInt32) hx hb dX11_look_60 rfl ?_
    refine lv_istore (lv' := [(6, .int ((lus ((p0_patterns v1.toNatClampNeg) &&& (u7 ^^^ (-1 : Int64))) v3).toInt32)), (4, .long ((p0_patterns v1.toNatClampNeg) &&& (u7 ^^^ (-1 : Int64)))), (0, .ref a_p0), (1, .int v1), (2, .int v2), (3, .int v3)]) hx hb dX11_look_61 hl (by decide) rfl (fun ls hl => ?_)
    refine lv_lload hx hb dX11_look_63 (lv_at hl 1 rfl) ?_
    refine lv_lconst (v := 1) hx hb dX11_look_65 (by decide) ?_
    refine lv_iload_n hx hb dX11_look_66 rfl (lv_at hl 5 rfl) ?_
    refine lv_lshl (v := lsh (1 : Int64) v3) hx hb dX11_look_67 rfl ?_
    refine lv_lconst (v := 1) hx hb dX11_look_68 (by decide) ?_
    refine lv_lsub hx hb dX11_look_69 ?_
    refine lv_land hx hb dX11_look_70 ?_
    refine lv_lstore (lv' := [(7, .long (((p0_patterns v1.toNatClampNeg) &&& (u7 ^^^ (-1 : Int64))) &&& ((lsh (1 : Int64) v3) - (1 : Int64)))), (6, .int ((lus ((p0_patterns v1.toNatClampNeg) &&& (u7 ^^^ (-1 : Int64))) v3).toInt32)), (4, .long ((p0_patterns v1.toNatClampNeg) &&& (u7 ^^^ (-1 : Int64)))), (0, .ref a_p0), (1, .int v1), (2, .int v2), (3, .int v3)]) hx hb dX11_look_71 hl (by decide) rfl (fun ls hl => ?_)
    refine lv_iload_n hx hb dX11_look_73 rfl (lv_at hl 5 rfl) ?_
    refine lv_if_ne (tgt := 83) hx hb dX11_look_74 (by decide) (fun hc21 => ?_) (fun hc21 => ?_)
    · have hf := ifF hc21 hf
      refine lv_sipush (v := 2047) hx hb dX11_look_83 (by decide) ?_
      exact keyB86 v2 v3 ((lus ((p0_patterns v1.toNatClampNeg) &&& (u7 ^^^ (-1 : Int64))) v3).toInt32) (((p0_patterns v1.toNatClampNeg) &&& (u7 ^^^ (-1 : Int64))) &&& ((lsh (1 : Int64) v3) - (1 : Int64))) (2047 : Int32) p0_kind s1 p0_m p0_e H locs ls hf hP hD hS (lv_sub hl [3, 5, 6, 1, 0] rfl)
    · have hf := ifT hc21 hf
      refine lv_sipush (v := 255) hx hb dX11_look_77 (by decide) ?_
      refine lv_goto (tgt := 86) hx hb dX11_look_80 (by decide) ?_
      exact keyB86 v2 v3 ((lus ((p0_patterns v1.toNatClampNeg) &&& (u7 ^^^ (-1 : Int64))) v3).toInt32) (((p0_patterns v1.toNatClampNeg) &&& (u7 ^^^ (-1 : Int64))) &&& ((lsh (1 : Int64) v3) - (1 : Int64))) (255 : Int32) p0_kind s1 p0_m p0_e H locs ls hf hP hD hS (lv_sub hl [3, 5, 6, 1, 0] rfl)
  unfold f_X11_look at hf
  refine lv_aload_n hx hb dX11_look_0 rfl (lv_at hl 0 rfl) ?_
  refine va_get (D := D) (ci := 12) (v := .ref a_p0_formats) (C := RX11) (T := TX11) (N := 36) hx hb hts uwX11 hown hK hP 0 rfl rfl 0 (by decide) (hts _ kfX11_1) (fun _ h9 => h9) rfl dX11_look_1 ?_
  refine lv_iload_n hx hb dX11_look_4 rfl (lv_at hl 1 rfl) ?_
  obtain ⟨hi1, hf⟩ := gdE hf
  refine va_iald hx hb hK hP 1 0 rfl rfl hi1 dX11_look_5 ?_
  refine lv_istore_n (lv' := [(2, .int (p0_formats p1.toNatClampNeg)), (0, .ref a_p0), (1, .int p1)]) hx hb dX11_look_6 rfl hl (by decide) rfl (fun ls hl => ?_)
  refine lv_iload_n hx hb dX11_look_7 rfl (lv_at hl 0 rfl) ?_
  obtain ⟨u2, hu3, hf⟩ := bdE hf
  refine cS_I (ws' := [(a_p0, .inr (12, [.ref a_p0_formats, .ref a_p0_patterns, .int p0_kind, .int p0_minus, .long p0_m, .int p0_e, .int p0_sign, .ref a_p0_a, .ref a_p0_b, .int p0_power, .int p0_root, .ref a_p0_left, .ref a_p0_right, .ref a_p0_longs, .ref a_p0_third, .int p0_thrown, .ref a_p0_other, .int p0_otherSign, .int p0_otherPower, .ref a_p0_tape, .int p0_taped, .int p0_at, .int p0_end, .int p0_many, .int p0_behind, .int p0_told, .ref a_p0_text, .int p0_written, .ref a_p0_figures, .int p0_figureMany, .int p0_last, .ref a_p0_num, .ref a_p0_den, .ref a_p0_low, .ref a_p0_high, .int p0_ten])), (a_p0_formats, .inl (cI, 16, .inl p0_formats)), (a_p0_patterns, .inl (cJ, 16, .inr (.inl p0_patterns)))]) (rest := []) S hK hN hA hP hD hS (c_X11_precision l D cI cJ  (p0_formats p1.toNatClampNeg)  u2 hu3) mwX11_precision msX11_precision kmX11_7 [] rfl (by decide) rfl rfl rfl ⟨Nat.le_of_ble_eq_true rfl, Nat.le_of_ble_eq_true rfl⟩ ⟨Nat.zero_le _, Nat.zero_le _⟩ hl.1 rfl rfl (Nat.le_of_ble_eq_true rfl) dX11_look_8 (fun H locs hP hD hS => ?_)
  refine lv_iconst (v := 1) hx hb dX11_look_11 (by decide) ?_
  refine lv_isub hx hb dX11_look_12 ?_
  refine lv_istore_n (lv' := [(3, .int (u2 - (1 : Int32))), (2, .int (p0_formats p1.toNatClampNeg)), (0, .ref a_p0), (1, .int p1)]) hx hb dX11_look_13 rfl hl (by decide) rfl (fun ls hl => ?_)
  refine lv_aload_n hx hb dX11_look_14 rfl (lv_at hl 2 rfl) ?_
  refine lv_aload_n hx hb dX11_look_15 rfl (lv_at hl 2 rfl) ?_
  refine va_get (D := D) (ci := 12) (v := .ref a_p0_patterns) (C := RX11) (T := TX11) (N := 36) hx hb hts uwX11 hown hK hP 0 rfl rfl 1 (by decide) (hts _ kfX11_11) (fun _ h9 => h9) rfl dX11_look_16 ?_
  refine lv_iload_n hx hb dX11_look_19 rfl (lv_at hl 3 rfl) ?_
  refine va_lald hx hb hK hP 2 1 rfl rfl hi1 dX11_look_20 ?_
  refine lv_iload_n hx hb dX11_look_21 rfl (lv_at hl 1 rfl) ?_
  obtain ⟨u4, hu5, hf⟩ := bdE hf
  refine cS_L (ws' := [(a_p0, .inr (12, [.ref a_p0_formats, .ref a_p0_patterns, .int p0_kind, .int p0_minus, .long p0_m, .int p0_e, .int p0_sign, .ref a_p0_a, .ref a_p0_b, .int p0_power, .int p0_root, .ref a_p0_left, .ref a_p0_right, .ref a_p0_longs, .ref a_p0_third, .int p0_thrown, .ref a_p0_other, .int p0_otherSign, .int p0_otherPower, .ref a_p0_tape, .int p0_taped, .int p0_at, .int p0_end, .int p0_many, .int p0_behind, .int p0_told, .ref a_p0_text, .int p0_written, .ref a_p0_figures, .int p0_figureMany, .int p0_last, .ref a_p0_num, .ref a_p0_den, .ref a_p0_low, .ref a_p0_high, .int p0_ten])), (a_p0_formats, .inl (cI, 16, .inl p0_formats)), (a_p0_patterns, .inl (cJ, 16, .inr (.inl p0_patterns)))]) (rest := [.long (p0_patterns p1.toNatClampNeg), .ref a_p0]) S hK hN hA hP hD hS (c_X11_signBit l D cI cJ  (p0_formats p1.toNatClampNeg)  u4 hu5) mwX11_signBit msX11_signBit kmX11_15 [] rfl (by decide) rfl rfl rfl ⟨Nat.le_of_ble_eq_true rfl, Nat.le_of_ble_eq_true rfl⟩ ⟨Nat.zero_le _, Nat.zero_le _⟩ hl.1 rfl rfl (Nat.le_of_ble_eq_true rfl) dX11_look_22 (fun H locs hP hD hS => ?_)
  refine lv_land hx hb dX11_look_25 ?_
  refine lv_lconst (v := 0) hx hb dX11_look_26 (by decide) ?_
  refine W.lcmp hx hb dX11_look_27 ?_
  refine lv_if_eq (tgt := 35) hx hb dX11_look_28 (by decide) (fun hc22 => ?_) (fun hc22 => ?_)
  · have hf := ifT hc22 hf
    refine lv_iconst (v := 0) hx hb dX11_look_35 (by decide) ?_
    exact keyB36 p1 (p0_formats p1.toNatClampNeg) (u2 - (1 : Int32)) (0 : Int32) p0_kind p0_minus p0_m p0_e H locs ls hf hP hD hS (lv_sub hl [2, 3, 1, 0] rfl)
  · have hf := ifF hc22 hf
    refine lv_iconst (v := 1) hx hb dX11_look_31 (by decide) ?_
    refine lv_goto (tgt := 36) hx hb dX11_look_32 (by decide) ?_
    exact keyB36 p1 (p0_formats p1.toNatClampNeg) (u2 - (1 : Int32)) (1 : Int32) p0_kind p0_minus p0_m p0_e H locs ls hf hP hD hS (lv_sub hl [2, 3, 1, 0] rfl)
