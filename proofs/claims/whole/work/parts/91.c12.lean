set_option maxRecDepth 100000 in
set_option maxHeartbeats 4000000 in
theorem c_X9_letter (l : Launch) (D : va_G) (cI cJ : ClassId) (a_p0 a_p0_formats a_p0_patterns a_p0_first a_p0_second a_p0_third a_p0_tape a_p0_acts a_p0_forms a_p0_forms_sheet a_p0_forms_shortest a_p0_acts_left a_p0_forms_figures a_p0_forms_sheet_bytes : Nat) (p1 : Int32) (p0_forms_sheet_length : Int32) (p0_forms_sheet_bytes : (Nat → Int32)) (u : Int32) (hf : f_X9_letter p0_forms_sheet_length p0_forms_sheet_bytes p1 = some u) : CtI l yX9_letter cX9_letter 2 1 21 .int [.ref a_p0, .int p1] D cI cJ [(a_p0, .inr (10, [.ref a_p0_formats, .ref a_p0_patterns, .ref a_p0_first, .ref a_p0_second, .ref a_p0_third, .ref a_p0_tape, .ref a_p0_acts, .ref a_p0_forms])), (a_p0_forms, .inr (4, [.ref a_p0_forms_sheet, .ref a_p0_forms_shortest, .ref a_p0_acts_left, .ref a_p0_forms_figures])), (a_p0_forms_sheet, .inr (6, [.ref a_p0_forms_sheet_bytes, .int p0_forms_sheet_length])), (a_p0_forms_sheet_bytes, .inl (cI, 1077, .inl p0_forms_sheet_bytes))] [(a_p0, .inr (10, [.ref a_p0_formats, .ref a_p0_patterns, .ref a_p0_first, .ref a_p0_second, .ref a_p0_third, .ref a_p0_tape, .ref a_p0_acts, .ref a_p0_forms])), (a_p0_forms, .inr (4, [.ref a_p0_forms_sheet, .ref a_p0_forms_shortest, .ref a_p0_acts_left, .ref a_p0_forms_figures])), (a_p0_forms_sheet, .inr (6, [.ref a_p0_forms_sheet_bytes, .int p0_forms_sheet_length])), (a_p0_forms_sheet_bytes, .inl (cI, 1077, .inl p0_forms_sheet_bytes))] u := by
  refine mkI (own := RX9) rfl (by decide +kernel) (Nat.le_of_ble_eq_true rfl) (lv := [(0, .ref a_p0), (1, .int p1)]) rfl ?_
  intro p e s m below meth c Q A ls ar S hA hK hN hret H locs hP hD hS hl
  obtain ⟨hx, hb, hml, hown, hts⟩ := id S
  have hret : ∀ (w : Int32), w = u → ∀ (H : Heap) (locs : List Loc) (ls : Array Slot) (pc : Nat), decode cX9_letter pc = .ok (.ireturn, 1) → va_P D vwCl [(a_p0, .inr (10, [.ref a_p0_formats, .ref a_p0_patterns, .ref a_p0_first, .ref a_p0_second, .ref a_p0_third, .ref a_p0_tape, .ref a_p0_acts, .ref a_p0_forms])), (a_p0_forms, .inr (4, [.ref a_p0_forms_sheet, .ref a_p0_forms_shortest, .ref a_p0_acts_left, .ref a_p0_forms_figures])), (a_p0_forms_sheet, .inr (6, [.ref a_p0_forms_sheet_bytes, .int p0_forms_sheet_length])), (a_p0_forms_sheet_bytes, .inl (cI, 1077, .inl p0_forms_sheet_bytes))] H → va_D A [(a_p0, .inr (10, [.ref a_p0_formats, .ref a_p0_patterns, .ref a_p0_first, .ref a_p0_second, .ref a_p0_third, .ref a_p0_tape, .ref a_p0_acts, .ref a_p0_forms])), (a_p0_forms, .inr (4, [.ref a_p0_forms_sheet, .ref a_p0_forms_shortest, .ref a_p0_acts_left, .ref a_p0_forms_figures])), (a_p0_forms_sheet, .inr (6, [.ref a_p0_forms_sheet_bytes, .int p0_forms_sheet_length])), (a_p0_forms_sheet_bytes, .inl (cI, 1077, .inl p0_forms_sheet_bytes))] → va_S A s.heap H locs → W p l e (rmz 1 21) s m ar below meth c H locs 0 0 Q (F0 m pc ls [.int w]) := fun w hw => hw ▸ hret
  unfold f_X9_letter at hf
  refine lv_aload_n hx hb dX9_letter_0 rfl (lv_at hl 0 rfl) ?_
  refine va_get (D := D) (ci := 10) (v := .ref a_p0_forms) (C := RX9) (T := TX9) (N := 8) hx hb hts uwX9 hown hK hP 0 rfl rfl 7 (by decide) (hts _ kfX9_57) (fun _ h9 => h9) rfl dX9_letter_1 ?_
  refine va_get (D := D) (ci := 4) (v := .ref a_p0_forms_sheet) (C := RX3) (T := TX3) (N := 4) hx hb hts uwX3 hown hK hP 1 rfl rfl 0 (by decide) (hts _ kfX9_186) (fun _ h9 => h9) rfl dX9_letter_4 ?_
  refine lv_iload_n hx hb dX9_letter_7 rfl (lv_at hl 1 rfl) ?_
  obtain ⟨u1, hu2, hf⟩ := bdE hf
  refine cV_I (ws' := [(a_p0, .inr (10, [.ref a_p0_formats, .ref a_p0_patterns, .ref a_p0_first, .ref a_p0_second, .ref a_p0_third, .ref a_p0_tape, .ref a_p0_acts, .ref a_p0_forms])), (a_p0_forms, .inr (4, [.ref a_p0_forms_sheet, .ref a_p0_forms_shortest, .ref a_p0_acts_left, .ref a_p0_forms_figures])), (a_p0_forms_sheet, .inr (6, [.ref a_p0_forms_sheet_bytes, .int p0_forms_sheet_length])), (a_p0_forms_sheet_bytes, .inl (cI, 1077, .inl p0_forms_sheet_bytes))]) (rest := []) S hK hN hA hP hD hS (c_X5_at l D cI cJ a_p0_forms_sheet a_p0_forms_sheet_bytes p1 p0_forms_sheet_length p0_forms_sheet_bytes u1 hu2) mwX5_at miX5_at kmX9_193 [2, 3] rfl (by decide) rfl rfl rfl 0 rfl rfl ⟨Nat.le_of_ble_eq_true rfl, Nat.le_of_ble_eq_true rfl⟩ ⟨Nat.zero_le _, Nat.zero_le _⟩ hl.1 rfl rfl (Nat.le_of_ble_eq_true rfl) dX9_letter_8 (fun H locs hP hD hS => ?_)
  exact hret _ (opE hf) H locs ls 11 dX9_letter_11 hP hD hS
set_option maxRecDepth 100000 in
set_option maxHeartbeats 4000000 in
theorem c_X10_set (l : Launch) (D : va_G) (cI cJ : ClassId) (a_p0 a_p0_d : Nat) (p1 : Int64) (p0_len : Int32) (p0_d : (Nat → Int32)) (u : Int32 × (Nat → Int32)) (hf : f_X10_set p1 p0_len p0_d = some u) : CtV l yX10_set cX10_set 5 0 0 [.ref a_p0, .long p1] D cI cJ [(a_p0, .inr (11, [.ref a_p0_d, .int p0_len])), (a_p0_d, .inl (cI, 520, .inl p0_d))] [(a_p0, .inr (11, [.ref a_p0_d, .int u.1])), (a_p0_d, .inl (cI, 520, .inl u.2))] := by
  refine mkV (own := RX10) rfl (by decide +kernel) (Nat.le_of_ble_eq_true rfl) (lv := [(0, .ref a_p0), (1, .long p1)]) rfl ?_
  intro p e s m below meth c Q A ls ar S hA hK hN hret H locs hP hD hS hl
  obtain ⟨hx, hb, hml, hown, hts⟩ := id S
  have hret : ∀ (w : Int32 × (Nat → Int32)), w = u → ∀ (H : Heap) (locs : List Loc) (ls : Array Slot) (pc : Nat), decode cX10_set pc = .ok (.return_, 1) → va_P D vwCl [(a_p0, .inr (11, [.ref a_p0_d, .int w.1])), (a_p0_d, .inl (cI, 520, .inl w.2))] H → va_D A [(a_p0, .inr (11, [.ref a_p0_d, .int w.1])), (a_p0_d, .inl (cI, 520, .inl w.2))] → va_S A s.heap H locs → W p l e (rmz 0 0) s m ar below meth c H locs 0 0 Q (F0 m pc ls []) := fun w hw => hw ▸ hret
  have keyL7 : ∀ (n : Nat) (v3 : Int64) (p0_len : Int32) (p0_d : (Nat → Int32)) (H : Heap) (locs : List Loc) (ls : Array Slot), f_X10_set_L7 n v3 p0_len p0_d = some u → va_P D vwCl [(a_p0, .inr (11, [.ref a_p0_d, .int p0_len])), (a_p0_d, .inl (cI, 520, .inl p0_d))] H → va_D A [(a_p0, .inr (11, [.ref a_p0_d, .int p0_len])), (a_p0_d, .inl (cI, 520, .inl p0_d))] → va_S A s.heap H locs → lv_has ls 5 [(0, .ref a_p0), (3, .long v3)] → W p l e (rmz 0 0) s m ar below meth c H locs 0 0 Q (F0 m 7 ls []) := by
    intro n
    induction n with
      | zero =>
        intro v3 p0_len p0_d H locs ls hf
        cases hf
      | succ n ih =>
        intro v3 p0_len p0_d H locs ls hf hP hD hS hl
        rw [f_X10_set_L7] at hf
        refine lv_lload_n hx hb dX10_set_7 rfl (lv_at hl 1 rfl) ?_
        refine lv_lconst (v := 0) hx hb dX10_set_8 (by decide) ?_
        refine W.lcmp hx hb dX10_set_9 ?_
        refine lv_if_eq (tgt := 46) hx hb dX10_set_10 (by decide) (fun hc2 => ?_) (fun hc2 => ?_)
        · have hf := ifT hc2 hf
          exact hret _ (opE hf) H locs ls 46 dX10_set_46 hP hD hS
        · have hf := ifF hc2 hf
          refine lv_aload_n hx hb dX10_set_13 rfl (lv_at hl 0 rfl) ?_
          refine va_get (D := D) (ci := 11) (v := .ref a_p0_d) (C := RX10) (T := TX10) (N := 2) hx hb hts uwX10 hown hK hP 0 rfl rfl 0 (by decide) (hts _ kfX10_9) (fun _ h9 => h9) rfl dX10_set_14 ?_
          refine lv_aload_n hx hb dX10_set_17 rfl (lv_at hl 0 rfl) ?_
          refine va_get (D := D) (ci := 11) (v := .int p0_len) (C := RX10) (T := TX10) (N := 2) hx hb hts uwX10 hown hK hP 0 rfl rfl 1 (by decide) (hts _ kfX10_15) (fun _ h9 => h9) rfl dX10_set_18 ?_
          refine lv_lload_n hx hb dX10_set_21 rfl (lv_at hl 1 rfl) ?_
          refine lv_ldc2 hx hb hown (hts _ kcX10_19) dX10_set_22 ?_
          refine lv_land hx hb dX10_set_25 ?_
          refine lv_l2i (v := (v3 &&& (1073741823 : Int64)).toInt32) hx hb dX10_set_26 rfl ?_
          obtain ⟨hi1, hf⟩ := gdE hf
          refine va_iast hx hb hK hP hD hS 1 0 rfl rfl hi1 dX10_set_27 (fun H locs hP hD hS => ?_)
          have hP : va_P D vwCl [(a_p0, .inr (11, [.ref a_p0_d, .int p0_len])), (a_p0_d, .inl (cI, 520, .inl (upd p0_d p0_len.toNatClampNeg ((v3 &&& (1073741823 : Int64)).toInt32))))] H := hP
          have hD : va_D A [(a_p0, .inr (11, [.ref a_p0_d, .int p0_len])), (a_p0_d, .inl (cI, 520, .inl (upd p0_d p0_len.toNatClampNeg ((v3 &&& (1073741823 : Int64)).toInt32))))] := hD
          refine lv_aload_n hx hb dX10_set_28 rfl (lv_at hl 0 rfl) ?_
          refine lv_dup hx hb dX10_set_29 rfl ?_
          refine va_get (D := D) (ci := 11) (v := .int p0_len) (C := RX10) (T := TX10) (N := 2) hx hb hts uwX10 hown hK hP 0 rfl rfl 1 (by decide) (hts _ kfX10_15) (fun _ h9 => h9) rfl dX10_set_30 ?_
          refine lv_iconst (v := 1) hx hb dX10_set_33 (by decide) ?_
          refine lv_iadd hx hb dX10_set_34 ?_
          refine va_put (D := D) (ci := 11) (v := .int (p0_len + (1 : Int32))) (ty := tyX10 1) (C := RX10) (T := TX10) (N := 2) hx hb hts uwX10 tyX10 tyX10_ok nmX10 hown hK hP hD hS 0 rfl rfl 1 (by decide) (hts _ kfX10_15) (fun _ h9 => h9) rfl (tyX10_ok 1 (by decide)) rfl rfl (Nat.le_of_ble_eq_true rfl) dX10_set_35 (fun H locs hP hD hS => ?_)
          have hP : va_P D vwCl [(a_p0, .inr (11, [.ref a_p0_d, .int (p0_len + (1 : Int32))])), (a_p0_d, .inl (cI, 520, .inl (upd p0_d p0_len.toNatClampNeg ((v3 &&& (1073741823 : Int64)).toInt32))))] H := hP
          have hD : va_D A [(a_p0, .inr (11, [.ref a_p0_d, .int (p0_len + (1 : Int32))])), (a_p0_d, .inl (cI, 520, .inl (upd p0_d p0_len.toNatClampNeg ((v3 &&& (1073741823 : Int64)).toInt32))))] := hD
          refine lv_lload_n hx hb dX10_set_38 rfl (lv_at hl 1 rfl) ?_
          refine lv_bipush (v := 30) hx hb dX10_set_39 (by decide) ?_
          refine lv_lushr (v := lus v3 (30 : Int32)) hx hb dX10_set_41 rfl ?_
          refine lv_lstore_n (lv' := [(3, .long (lus v3 (30 : Int32))), (0, .ref a_p0)]) hx hb dX10_set_42 rfl hl (by decide) rfl (fun ls hl => ?_)
          refine lv_goto (tgt := 7) hx hb dX10_set_43 (by decide) ?_
          exact ih (lus v3 (30 : Int32)) (p0_len + (1 : Int32)) (upd p0_d p0_len.toNatClampNeg ((v3 &&& (1073741823 : Int64)).toInt32)) H locs ls hf hP hD hS (lv_sub hl [1, 0] rfl)
  unfold f_X10_set at hf
  refine lv_aload_n hx hb dX10_set_0 rfl (lv_at hl 0 rfl) ?_
  refine lv_iconst (v := 0) hx hb dX10_set_1 (by decide) ?_
  refine va_put (D := D) (ci := 11) (v := .int (0 : Int32)) (ty := tyX10 1) (C := RX10) (T := TX10) (N := 2) hx hb hts uwX10 tyX10 tyX10_ok nmX10 hown hK hP hD hS 0 rfl rfl 1 (by decide) (hts _ kfX10_15) (fun _ h9 => h9) rfl (tyX10_ok 1 (by decide)) rfl rfl (Nat.le_of_ble_eq_true rfl) dX10_set_2 (fun H locs hP hD hS => ?_)
  have hP : va_P D vwCl [(a_p0, .inr (11, [.ref a_p0_d, .int (0 : Int32)])), (a_p0_d, .inl (cI, 520, .inl p0_d))] H := hP
  have hD : va_D A [(a_p0, .inr (11, [.ref a_p0_d, .int (0 : Int32)])), (a_p0_d, .inl (cI, 520, .inl p0_d))] := hD
  refine lv_lload_n hx hb dX10_set_5 rfl (lv_at hl 1 rfl) ?_
  refine lv_lstore_n (lv' := [(3, .long p1), (0, .ref a_p0), (1, .long p1)]) hx hb dX10_set_6 rfl hl (by decide) rfl (fun ls hl => ?_)
  exact keyL7 FU p1 (0 : Int32) p0_d H locs ls hf hP hD hS (lv_sub hl [1, 0] rfl)
set_option maxRecDepth 100000 in
set_option maxHeartbeats 4000000 in
theorem c_X10_copy (l : Launch) (D : va_G) (cI cJ : ClassId) (a_p0 a_p0_d a_p1 a_p1_d : Nat) (p0_len : Int32) (p0_d : (Nat → Int32)) (p1_len : Int32) (p1_d : (Nat → Int32)) (u : Int32 × (Nat → Int32)) (hf : f_X10_copy p1_len p1_d p0_len p0_d = some u) : CtV l yX10_copy cX10_copy 3 0 0 [.ref a_p0, .ref a_p1] D cI cJ [(a_p0, .inr (11, [.ref a_p0_d, .int p0_len])), (a_p0_d, .inl (cI, 520, .inl p0_d)), (a_p1, .inr (11, [.ref a_p1_d, .int p1_len])), (a_p1_d, .inl (cI, 520, .inl p1_d))] [(a_p0, .inr (11, [.ref a_p0_d, .int u.1])), (a_p0_d, .inl (cI, 520, .inl u.2)), (a_p1, .inr (11, [.ref a_p1_d, .int p1_len])), (a_p1_d, .inl (cI, 520, .inl p1_d))] := by
  refine mkV (own := RX10) rfl (by decide +kernel) (Nat.le_of_ble_eq_true rfl) (lv := [(0, .ref a_p0), (1, .ref a_p1)]) rfl ?_
  intro p e s m below meth c Q A ls ar S hA hK hN hret H locs hP hD hS hl
  obtain ⟨hx, hb, hml, hown, hts⟩ := id S
  have hret : ∀ (w : Int32 × (Nat → Int32)), w = u → ∀ (H : Heap) (locs : List Loc) (ls : Array Slot) (pc : Nat), decode cX10_copy pc = .ok (.return_, 1) → va_P D vwCl [(a_p0, .inr (11, [.ref a_p0_d, .int w.1])), (a_p0_d, .inl (cI, 520, .inl w.2)), (a_p1, .inr (11, [.ref a_p1_d, .int p1_len])), (a_p1_d, .inl (cI, 520, .inl p1_d))] H → va_D A [(a_p0, .inr (11, [.ref a_p0_d, .int w.1])), (a_p0_d, .inl (cI, 520, .inl w.2)), (a_p1, .inr (11, [.ref a_p1_d, .int p1_len])), (a_p1_d, .inl (cI, 520, .inl p1_d))] → va_S A s.heap H locs → W p l e (rmz 0 0) s m ar below meth c H locs 0 0 Q (F0 m pc ls []) := fun w hw => hw ▸ hret
  have keyL10 : ∀ (n : Nat) (v2 : Int32) (p0_len : Int32) (p0_d : (Nat → Int32)) (H : Heap) (locs : List Loc) (ls : Array Slot), f_X10_copy_L10 p1_len p1_d n v2 p0_len p0_d = some u → va_P D vwCl [(a_p0, .inr (11, [.ref a_p0_d, .int p0_len])), (a_p0_d, .inl (cI, 520, .inl p0_d)), (a_p1, .inr (11, [.ref a_p1_d, .int p1_len])), (a_p1_d, .inl (cI, 520, .inl p1_d))] H → va_D A [(a_p0, .inr (11, [.ref a_p0_d, .int p0_len])), (a_p0_d, .inl (cI, 520, .inl p0_d)), (a_p1, .inr (11, [.ref a_p1_d, .int p1_len])), (a_p1_d, .inl (cI, 520, .inl p1_d))] → va_S A s.heap H locs → lv_has ls 3 [(0, .ref a_p0), (1, .ref a_p1), (2, .int v2)] → W p l e (rmz 0 0) s m ar below meth c H locs 0 0 Q (F0 m 10 ls []) := by
    intro n
    induction n with
      | zero =>
        intro v2 p0_len p0_d H locs ls hf
        cases hf
      | succ n ih =>
        intro v2 p0_len p0_d H locs ls hf hP hD hS hl
        rw [f_X10_copy_L10] at hf
        refine lv_iload_n hx hb dX10_copy_10 rfl (lv_at hl 2 rfl) ?_
        refine lv_aload_n hx hb dX10_copy_11 rfl (lv_at hl 0 rfl) ?_
        refine va_get (D := D) (ci := 11) (v := .int p0_len) (C := RX10) (T := TX10) (N := 2) hx hb hts uwX10 hown hK hP 0 rfl rfl 1 (by decide) (hts _ kfX10_15) (fun _ h9 => h9) rfl dX10_copy_12 ?_
        refine lv_icmp_ge (tgt := 36) hx hb dX10_copy_15 (by decide) (fun hc2 => ?_) (fun hc2 => ?_)
        · have hf := ifT hc2 hf
          exact hret _ (opE hf) H locs ls 36 dX10_copy_36 hP hD hS
        · have hf := ifF hc2 hf
          refine lv_aload_n hx hb dX10_copy_18 rfl (lv_at hl 0 rfl) ?_
          refine va_get (D := D) (ci := 11) (v := .ref a_p0_d) (C := RX10) (T := TX10) (N := 2) hx hb hts uwX10 hown hK hP 0 rfl rfl 0 (by decide) (hts _ kfX10_9) (fun _ h9 => h9) rfl dX10_copy_19 ?_
          refine lv_iload_n hx hb dX10_copy_22 rfl (lv_at hl 2 rfl) ?_
          refine lv_aload_n hx hb dX10_copy_23 rfl (lv_at hl 1 rfl) ?_
          refine va_get (D := D) (ci := 11) (v := .ref a_p1_d) (C := RX10) (T := TX10) (N := 2) hx hb hts uwX10 hown hK hP 2 rfl rfl 0 (by decide) (hts _ kfX10_9) (fun _ h9 => h9) rfl dX10_copy_24 ?_
          refine lv_iload_n hx hb dX10_copy_27 rfl (lv_at hl 2 rfl) ?_
          obtain ⟨hi1, hf⟩ := gdE hf
          refine va_iald hx hb hK hP 3 0 rfl rfl hi1 dX10_copy_28 ?_
          refine va_iast hx hb hK hP hD hS 1 0 rfl rfl hi1 dX10_copy_29 (fun H locs hP hD hS => ?_)
          have hP : va_P D vwCl [(a_p0, .inr (11, [.ref a_p0_d, .int p0_len])), (a_p0_d, .inl (cI, 520, .inl (upd p0_d v2.toNatClampNeg (p1_d v2.toNatClampNeg)))), (a_p1, .inr (11, [.ref a_p1_d, .int p1_len])), (a_p1_d, .inl (cI, 520, .inl p1_d))] H := hP
          have hD : va_D A [(a_p0, .inr (11, [.ref a_p0_d, .int p0_len])), (a_p0_d, .inl (cI, 520, .inl (upd p0_d v2.toNatClampNeg (p1_d v2.toNatClampNeg)))), (a_p1, .inr (11, [.ref a_p1_d, .int p1_len])), (a_p1_d, .inl (cI, 520, .inl p1_d))] := hD
          refine lv_iinc (v := v2 + (1 : Int32)) (lv' := [(2, .int (v2 + (1 : Int32))), (0, .ref a_p0), (1, .ref a_p1)]) hx hb dX10_copy_30 hl (k := 2) rfl (by rfl) (by decide) rfl (fun ls hl => ?_)
          refine lv_goto (tgt := 10) hx hb dX10_copy_33 (by decide) ?_
          exact ih (v2 + (1 : Int32)) p0_len (upd p0_d v2.toNatClampNeg (p1_d v2.toNatClampNeg)) H locs ls hf hP hD hS (lv_sub hl [1, 2, 0] rfl)
  unfold f_X10_copy at hf
  refine lv_aload_n hx hb dX10_copy_0 rfl (lv_at hl 0 rfl) ?_
  refine lv_aload_n hx hb dX10_copy_1 rfl (lv_at hl 1 rfl) ?_
  refine va_get (D := D) (ci := 11) (v := .int p1_len) (C := RX10) (T := TX10) (N := 2) hx hb hts uwX10 hown hK hP 2 rfl rfl 1 (by decide) (hts _ kfX10_15) (fun _ h9 => h9) rfl dX10_copy_2 ?_
  refine va_put (D := D) (ci := 11) (v := .int p1_len) (ty := tyX10 1) (C := RX10) (T := TX10) (N := 2) hx hb hts uwX10 tyX10 tyX10_ok nmX10 hown hK hP hD hS 0 rfl rfl 1 (by decide) (hts _ kfX10_15) (fun _ h9 => h9) rfl (tyX10_ok 1 (by decide)) rfl rfl (Nat.le_of_ble_eq_true rfl) dX10_copy_5 (fun H locs hP hD hS => ?_)
  have hP : va_P D vwCl [(a_p0, .inr (11, [.ref a_p0_d, .int p1_len])), (a_p0_d, .inl (cI, 520, .inl p0_d)), (a_p1, .inr (11, [.ref a_p1_d, .int p1_len])), (a_p1_d, .inl (cI, 520, .inl p1_d))] H := hP
  have hD : va_D A [(a_p0, .inr (11, [.ref a_p0_d, .int p1_len])), (a_p0_d, .inl (cI, 520, .inl p0_d)), (a_p1, .inr (11, [.ref a_p1_d, .int p1_len])), (a_p1_d, .inl (cI, 520, .inl p1_d))] := hD
  refine lv_iconst (v := 0) hx hb dX10_copy_8 (by decide) ?_
  refine lv_istore_n (lv' := [(2, .int (0 : Int32)), (0, .ref a_p0), (1, .ref a_p1)]) hx hb dX10_copy_9 rfl hl (by decide) rfl (fun ls hl => ?_)
  exact keyL10 FU (0 : Int32) p1_len p0_d H locs ls hf hP hD hS (lv_sub hl [1, 2, 0] rfl)
set_option maxRecDepth 100000 in
set_option maxHeartbeats 4000000 in
theorem c_X10_bits (l : Launch) (D : va_G) (cI cJ : ClassId) (a_p0 a_p0_d : Nat) (p0_len : Int32) (p0_d : (Nat → Int32)) (u : Int32) (hf : f_X10_bits p0_len p0_d = some u) : CtI l yX10_bits cX10_bits 1 1 21 .int [.ref a_p0] D cI cJ [(a_p0, .inr (11, [.ref a_p0_d, .int p0_len])), (a_p0_d, .inl (cI, 520, .inl p0_d))] [(a_p0, .inr (11, [.ref a_p0_d, .int p0_len])), (a_p0_d, .inl (cI, 520, .inl p0_d))] u := by
  refine mkI (own := RX10) rfl (by decide +kernel) (Nat.le_of_ble_eq_true rfl) (lv := [(0, .ref a_p0)]) rfl ?_
  intro p e s m below meth c Q A ls ar S hA hK hN hret H locs hP hD hS hl
  obtain ⟨hx, hb, hml, hown, hts⟩ := id S
  have hret : ∀ (w : Int32), w = u → ∀ (H : Heap) (locs : List Loc) (ls : Array Slot) (pc : Nat), decode cX10_bits pc = .ok (.ireturn, 1) → va_P D vwCl [(a_p0, .inr (11, [.ref a_p0_d, .int p0_len])), (a_p0_d, .inl (cI, 520, .inl p0_d))] H → va_D A [(a_p0, .inr (11, [.ref a_p0_d, .int p0_len])), (a_p0_d, .inl (cI, 520, .inl p0_d))] → va_S A s.heap H locs → W p l e (rmz 1 21) s m ar below meth c H locs 0 0 Q (F0 m pc ls [.int w]) := fun w hw => hw ▸ hret
  unfold f_X10_bits at hf
  refine lv_aload_n hx hb dX10_bits_0 rfl (lv_at hl 0 rfl) ?_
  refine va_get (D := D) (ci := 11) (v := .int p0_len) (C := RX10) (T := TX10) (N := 2) hx hb hts uwX10 hown hK hP 0 rfl rfl 1 (by decide) (hts _ kfX10_15) (fun _ h9 => h9) rfl dX10_bits_1 ?_
  refine lv_if_ne (tgt := 11) hx hb dX10_bits_4 (by decide) (fun hc4 => ?_) (fun hc4 => ?_)
  · have hf := ifF hc4 hf
    refine lv_bipush (v := 30) hx hb dX10_bits_11 (by decide) ?_
    refine lv_aload_n hx hb dX10_bits_13 rfl (lv_at hl 0 rfl) ?_
    refine va_get (D := D) (ci := 11) (v := .int p0_len) (C := RX10) (T := TX10) (N := 2) hx hb hts uwX10 hown hK hP 0 rfl rfl 1 (by decide) (hts _ kfX10_15) (fun _ h9 => h9) rfl dX10_bits_14 ?_
    refine lv_imul hx hb dX10_bits_17 ?_
    refine lv_iconst (v := 2) hx hb dX10_bits_18 (by decide) ?_
    refine lv_iadd hx hb dX10_bits_19 ?_
    refine lv_aload_n hx hb dX10_bits_20 rfl (lv_at hl 0 rfl) ?_
    refine va_get (D := D) (ci := 11) (v := .ref a_p0_d) (C := RX10) (T := TX10) (N := 2) hx hb hts uwX10 hown hK hP 0 rfl rfl 0 (by decide) (hts _ kfX10_9) (fun _ h9 => h9) rfl dX10_bits_21 ?_
    refine lv_aload_n hx hb dX10_bits_24 rfl (lv_at hl 0 rfl) ?_
    refine va_get (D := D) (ci := 11) (v := .int p0_len) (C := RX10) (T := TX10) (N := 2) hx hb hts uwX10 hown hK hP 0 rfl rfl 1 (by decide) (hts _ kfX10_15) (fun _ h9 => h9) rfl dX10_bits_25 ?_
    refine lv_iconst (v := 1) hx hb dX10_bits_28 (by decide) ?_
    refine lv_isub hx hb dX10_bits_29 ?_
    obtain ⟨hi1, hf⟩ := gdE hf
    refine va_iald hx hb hK hP 1 0 rfl rfl hi1 dX10_bits_30 ?_
    obtain ⟨u2, hu3, hf⟩ := bdE hf
    refine cS_I (ws' := [(a_p0, .inr (11, [.ref a_p0_d, .int p0_len])), (a_p0_d, .inl (cI, 520, .inl p0_d))]) (rest := [.int (((30 : Int32) * p0_len) + (2 : Int32))]) S hK hN hA hP hD hS (c_J6_numberOfLeadingZeros_0f7a4 l D cI cJ  (p0_d (p0_len - (1 : Int32)).toNatClampNeg)  u2 hu3) mwJ6_numberOfLeadingZeros_0f7a4 msJ6_numberOfLeadingZeros_0f7a4 kmX10_21 [] rfl (by decide) rfl rfl rfl ⟨Nat.le_of_ble_eq_true rfl, Nat.le_of_ble_eq_true rfl⟩ ⟨Nat.zero_le _, Nat.zero_le _⟩ hl.1 rfl rfl (Nat.le_of_ble_eq_true rfl) dX10_bits_31 (fun H locs hP hD hS => ?_)
    refine lv_isub hx hb dX10_bits_34 ?_
    exact hret _ (opE hf) H locs ls 35 dX10_bits_35 hP hD hS
  · have hf := ifT hc4 hf
    refine lv_iconst (v := 0) hx hb dX10_bits_7 (by decide) ?_
    refine lv_goto (tgt := 35) hx hb dX10_bits_8 (by decide) ?_
    exact hret _ (opE hf) H locs ls 35 dX10_bits_35 hP hD hS
set_option maxRecDepth 100000 in
set_option maxHeartbeats 4000000 in
theorem c_X10_compare (l : Launch) (D : va_G) (cI cJ : ClassId) (a_p0 a_p0_d a_p1 a_p1_d : Nat) (p0_len : Int32) (p0_d : (Nat → Int32)) (p1_len : Int32) (p1_d : (Nat → Int32)) (u : Int32) (hf : f_X10_compare p0_len p0_d p1_len p1_d = some u) : CtI l yX10_compare cX10_compare 3 0 0 .int [.ref a_p0, .ref a_p1] D cI cJ [(a_p0, .inr (11, [.ref a_p0_d, .int p0_len])), (a_p0_d, .inl (cI, 520, .inl p0_d)), (a_p1, .inr (11, [.ref a_p1_d, .int p1_len])), (a_p1_d, .inl (cI, 520, .inl p1_d))] [(a_p0, .inr (11, [.ref a_p0_d, .int p0_len])), (a_p0_d, .inl (cI, 520, .inl p0_d)), (a_p1, .inr (11, [.ref a_p1_d, .int p1_len])), (a_p1_d, .inl (cI, 520, .inl p1_d))] u := by
  refine mkI (own := RX10) rfl (by decide +kernel) (Nat.le_of_ble_eq_true rfl) (lv := [(0, .ref a_p0), (1, .ref a_p1)]) rfl ?_
  intro p e s m below meth c Q A ls ar S hA hK hN hret H locs hP hD hS hl
  obtain ⟨hx, hb, hml, hown, hts⟩ := id S
  have hret : ∀ (w : Int32), w = u → ∀ (H : Heap) (locs : List Loc) (ls : Array Slot) (pc : Nat), decode cX10_compare pc = .ok (.ireturn, 1) → va_P D vwCl [(a_p0, .inr (11, [.ref a_p0_d, .int p0_len])), (a_p0_d, .inl (cI, 520, .inl p0_d)), (a_p1, .inr (11, [.ref a_p1_d, .int p1_len])), (a_p1_d, .inl (cI, 520, .inl p1_d))] H → va_D A [(a_p0, .inr (11, [.ref a_p0_d, .int p0_len])), (a_p0_d, .inl (cI, 520, .inl p0_d)), (a_p1, .inr (11, [.ref a_p1_d, .int p1_len])), (a_p1_d, .inl (cI, 520, .inl p1_d))] → va_S A s.heap H locs → W p l e (rmz 0 0) s m ar below meth c H locs 0 0 Q (F0 m pc ls [.int w]) := fun w hw => hw ▸ hret
  have keyB54 : ∀ (v2 : Int32) (H : Heap) (locs : List Loc) (ls : Array Slot), f_X10_compare_B54 p0_len p0_d p1_len p1_d v2 = some u → va_P D vwCl [(a_p0, .inr (11, [.ref a_p0_d, .int p0_len])), (a_p0_d, .inl (cI, 520, .inl p0_d)), (a_p1, .inr (11, [.ref a_p1_d, .int p1_len])), (a_p1_d, .inl (cI, 520, .inl p1_d))] H → va_D A [(a_p0, .inr (11, [.ref a_p0_d, .int p0_len])), (a_p0_d, .inl (cI, 520, .inl p0_d)), (a_p1, .inr (11, [.ref a_p1_d, .int p1_len])), (a_p1_d, .inl (cI, 520, .inl p1_d))] → va_S A s.heap H locs → lv_has ls 3 [(0, .ref a_p0), (1, .ref a_p1), (2, .int v2)] → W p l e (rmz 0 0) s m ar below meth c H locs 0 0 Q (F0 m 54 ls []) := by
    intro v2 H locs ls hf hP hD hS hl
    unfold f_X10_compare_B54 at hf
    refine lv_aload_n hx hb dX10_compare_54 rfl (lv_at hl 0 rfl) ?_
    refine va_get (D := D) (ci := 11) (v := .ref a_p0_d) (C := RX10) (T := TX10) (N := 2) hx hb hts uwX10 hown hK hP 0 rfl rfl 0 (by decide) (hts _ kfX10_9) (fun _ h9 => h9) rfl dX10_compare_55 ?_
    refine lv_iload_n hx hb dX10_compare_58 rfl (lv_at hl 2 rfl) ?_
    obtain ⟨hi2, hf⟩ := gdE hf
    refine va_iald hx hb hK hP 1 0 rfl rfl hi2 dX10_compare_59 ?_
    refine lv_aload_n hx hb dX10_compare_60 rfl (lv_at hl 1 rfl) ?_
    refine va_get (D := D) (ci := 11) (v := .ref a_p1_d) (C := RX10) (T := TX10) (N := 2) hx hb hts uwX10 hown hK hP 2 rfl rfl 0 (by decide) (hts _ kfX10_9) (fun _ h9 => h9) rfl dX10_compare_61 ?_
    refine lv_iload_n hx hb dX10_compare_64 rfl (lv_at hl 2 rfl) ?_
    refine va_iald hx hb hK hP 3 0 rfl rfl hi2 dX10_compare_65 ?_
    refine lv_icmp_ge (tgt := 73) hx hb dX10_compare_66 (by decide) (fun hc3 => ?_) (fun hc3 => ?_)
    · have hf := ifT hc3 hf
      refine lv_iconst (v := 1) hx hb dX10_compare_73 (by decide) ?_
      exact hret _ (opE hf) H locs ls 74 dX10_compare_74 hP hD hS
    · have hf := ifF hc3 hf
      refine lv_iconst (v := -1) hx hb dX10_compare_69 (by decide) ?_
      refine lv_goto (tgt := 74) hx hb dX10_compare_70 (by decide) ?_
      exact hret _ (opE hf) H locs ls 74 dX10_compare_74 hP hD hS
  have keyL35 : ∀ (n : Nat) (v2 : Int32) (H : Heap) (locs : List Loc) (ls : Array Slot), f_X10_compare_L35 p0_len p0_d p1_len p1_d n v2 = some u → va_P D vwCl [(a_p0, .inr (11, [.ref a_p0_d, .int p0_len])), (a_p0_d, .inl (cI, 520, .inl p0_d)), (a_p1, .inr (11, [.ref a_p1_d, .int p1_len])), (a_p1_d, .inl (cI, 520, .inl p1_d))] H → va_D A [(a_p0, .inr (11, [.ref a_p0_d, .int p0_len])), (a_p0_d, .inl (cI, 520, .inl p0_d)), (a_p1, .inr (11, [.ref a_p1_d, .int p1_len])), (a_p1_d, .inl (cI, 520, .inl p1_d))] → va_S A s.heap H locs → lv_has ls 3 [(0, .ref a_p0), (1, .ref a_p1), (2, .int v2)] → W p l e (rmz 0 0) s m ar below meth c H locs 0 0 Q (F0 m 35 ls []) := by
    intro n
    induction n with
      | zero =>
        intro v2 H locs ls hf
        cases hf
      | succ n ih =>
        intro v2 H locs ls hf hP hD hS hl
        rw [f_X10_compare_L35] at hf
        refine lv_iload_n hx hb dX10_compare_35 rfl (lv_at hl 2 rfl) ?_
        refine lv_if_lt (tgt := 81) hx hb dX10_compare_36 (by decide) (fun hc5 => ?_) (fun hc5 => ?_)
        · have hf := ifT hc5 hf
          refine lv_iconst (v := 0) hx hb dX10_compare_81 (by decide) ?_
          exact hret _ (opE hf) H locs ls 82 dX10_compare_82 hP hD hS
        · have hf := ifF hc5 hf
          refine lv_aload_n hx hb dX10_compare_39 rfl (lv_at hl 0 rfl) ?_
          refine va_get (D := D) (ci := 11) (v := .ref a_p0_d) (C := RX10) (T := TX10) (N := 2) hx hb hts uwX10 hown hK hP 0 rfl rfl 0 (by decide) (hts _ kfX10_9) (fun _ h9 => h9) rfl dX10_compare_40 ?_
          refine lv_iload_n hx hb dX10_compare_43 rfl (lv_at hl 2 rfl) ?_
          obtain ⟨hi1, hf⟩ := gdE hf
          refine va_iald hx hb hK hP 1 0 rfl rfl hi1 dX10_compare_44 ?_
          refine lv_aload_n hx hb dX10_compare_45 rfl (lv_at hl 1 rfl) ?_
          refine va_get (D := D) (ci := 11) (v := .ref a_p1_d) (C := RX10) (T := TX10) (N := 2) hx hb hts uwX10 hown hK hP 2 rfl rfl 0 (by decide) (hts _ kfX10_9) (fun _ h9 => h9) rfl dX10_compare_46 ?_
          refine lv_iload_n hx hb dX10_compare_49 rfl (lv_at hl 2 rfl) ?_
          refine va_iald hx hb hK hP 3 0 rfl rfl hi1 dX10_compare_50 ?_
          refine lv_icmp_eq (tgt := 75) hx hb dX10_compare_51 (by decide) (fun hc4 => ?_) (fun hc4 => ?_)
          · have hf := ifT hc4 hf
            refine lv_iinc (v := v2 + (-1 : Int32)) (lv' := [(2, .int (v2 + (-1 : Int32))), (0, .ref a_p0), (1, .ref a_p1)]) hx hb dX10_compare_75 hl (k := 2) rfl (by rfl) (by decide) rfl (fun ls hl => ?_)
            refine lv_goto (tgt := 35) hx hb dX10_compare_78 (by decide) ?_
            exact ih (v2 + (-1 : Int32)) H locs ls hf hP hD hS (lv_sub hl [1, 2, 0] rfl)
          · have hf := ifF hc4 hf
            exact keyB54 v2 H locs ls hf hP hD hS (lv_sub hl [0, 1, 2] rfl)
  unfold f_X10_compare at hf
  refine lv_aload_n hx hb dX10_compare_0 rfl (lv_at hl 0 rfl) ?_
  refine va_get (D := D) (ci := 11) (v := .int p0_len) (C := RX10) (T := TX10) (N := 2) hx hb hts uwX10 hown hK hP 0 rfl rfl 1 (by decide) (hts _ kfX10_15) (fun _ h9 => h9) rfl dX10_compare_1 ?_
  refine lv_aload_n hx hb dX10_compare_4 rfl (lv_at hl 1 rfl) ?_
  refine va_get (D := D) (ci := 11) (v := .int p1_len) (C := RX10) (T := TX10) (N := 2) hx hb hts uwX10 hown hK hP 2 rfl rfl 1 (by decide) (hts _ kfX10_15) (fun _ h9 => h9) rfl dX10_compare_5 ?_
  refine lv_icmp_eq (tgt := 28) hx hb dX10_compare_8 (by decide) (fun hc7 => ?_) (fun hc7 => ?_)
  · have hf := ifT hc7 hf
    refine lv_aload_n hx hb dX10_compare_28 rfl (lv_at hl 0 rfl) ?_
    refine va_get (D := D) (ci := 11) (v := .int p0_len) (C := RX10) (T := TX10) (N := 2) hx hb hts uwX10 hown hK hP 0 rfl rfl 1 (by decide) (hts _ kfX10_15) (fun _ h9 => h9) rfl dX10_compare_29 ?_
    refine lv_iconst (v := 1) hx hb dX10_compare_32 (by decide) ?_
    refine lv_isub hx hb dX10_compare_33 ?_
    refine lv_istore_n (lv' := [(2, .int (p0_len - (1 : Int32))), (0, .ref a_p0), (1, .ref a_p1)]) hx hb dX10_compare_34 rfl hl (by decide) rfl (fun ls hl => ?_)
    exact keyL35 FU (p0_len - (1 : Int32)) H locs ls hf hP hD hS (lv_sub hl [1, 2, 0] rfl)
  · have hf := ifF hc7 hf
    refine lv_aload_n hx hb dX10_compare_11 rfl (lv_at hl 0 rfl) ?_
    refine va_get (D := D) (ci := 11) (v := .int p0_len) (C := RX10) (T := TX10) (N := 2) hx hb hts uwX10 hown hK hP 0 rfl rfl 1 (by decide) (hts _ kfX10_15) (fun _ h9 => h9) rfl dX10_compare_12 ?_
    refine lv_aload_n hx hb dX10_compare_15 rfl (lv_at hl 1 rfl) ?_
    refine va_get (D := D) (ci := 11) (v := .int p1_len) (C := RX10) (T := TX10) (N := 2) hx hb hts uwX10 hown hK hP 2 rfl rfl 1 (by decide) (hts _ kfX10_15) (fun _ h9 => h9) rfl dX10_compare_16 ?_
    refine lv_icmp_ge (tgt := 26) hx hb dX10_compare_19 (by decide) (fun hc6 => ?_) (fun hc6 => ?_)
    · have hf := ifT hc6 hf
      refine lv_iconst (v := 1) hx hb dX10_compare_26 (by decide) ?_
      exact hret _ (opE hf) H locs ls 27 dX10_compare_27 hP hD hS
    · have hf := ifF hc6 hf
      refine lv_iconst (v := -1) hx hb dX10_compare_22 (by decide) ?_
      refine lv_goto (tgt := 27) hx hb dX10_compare_23 (by decide) ?_
      exact hret _ (opE hf) H locs ls 27 dX10_compare_27 hP hD hS
set_option maxRecDepth 100000 in
set_option maxHeartbeats 4000000 in
theorem c_X10_trim (l : Launch) (D : va_G) (cI cJ : ClassId) (a_p0 a_p0_d : Nat) (p1 : Int32) (p0_len : Int32) (p0_d : (Nat → Int32)) (u : Int32) (hf : f_X10_trim p0_d p1 p0_len = some u) : CtV l yX10_trim cX10_trim 2 0 0 [.ref a_p0, .int p1] D cI cJ [(a_p0, .inr (11, [.ref a_p0_d, .int p0_len])), (a_p0_d, .inl (cI, 520, .inl p0_d))] [(a_p0, .inr (11, [.ref a_p0_d, .int u])), (a_p0_d, .inl (cI, 520, .inl p0_d))] := by
  refine mkV (own := RX10) rfl (by decide +kernel) (Nat.le_of_ble_eq_true rfl) (lv := [(0, .ref a_p0), (1, .int p1)]) rfl ?_
  intro p e s m below meth c Q A ls ar S hA hK hN hret H locs hP hD hS hl
  obtain ⟨hx, hb, hml, hown, hts⟩ := id S
  have hret : ∀ (w : Int32), w = u → ∀ (H : Heap) (locs : List Loc) (ls : Array Slot) (pc : Nat), decode cX10_trim pc = .ok (.return_, 1) → va_P D vwCl [(a_p0, .inr (11, [.ref a_p0_d, .int w])), (a_p0_d, .inl (cI, 520, .inl p0_d))] H → va_D A [(a_p0, .inr (11, [.ref a_p0_d, .int w])), (a_p0_d, .inl (cI, 520, .inl p0_d))] → va_S A s.heap H locs → W p l e (rmz 0 0) s m ar below meth c H locs 0 0 Q (F0 m pc ls []) := fun w hw => hw ▸ hret
  have keyL5 : ∀ (n : Nat) (p0_len : Int32) (H : Heap) (locs : List Loc) (ls : Array Slot), f_X10_trim_L5 p0_d n p0_len = some u → va_P D vwCl [(a_p0, .inr (11, [.ref a_p0_d, .int p0_len])), (a_p0_d, .inl (cI, 520, .inl p0_d))] H → va_D A [(a_p0, .inr (11, [.ref a_p0_d, .int p0_len])), (a_p0_d, .inl (cI, 520, .inl p0_d))] → va_S A s.heap H locs → lv_has ls 2 [(0, .ref a_p0)] → W p l e (rmz 0 0) s m ar below meth c H locs 0 0 Q (F0 m 5 ls []) := by
    intro n
    induction n with
      | zero =>
        intro p0_len H locs ls hf
        cases hf
      | succ n ih =>
        intro p0_len H locs ls hf hP hD hS hl
        rw [f_X10_trim_L5] at hf
        refine lv_aload_n hx hb dX10_trim_5 rfl (lv_at hl 0 rfl) ?_
        refine va_get (D := D) (ci := 11) (v := .int p0_len) (C := RX10) (T := TX10) (N := 2) hx hb hts uwX10 hown hK hP 0 rfl rfl 1 (by decide) (hts _ kfX10_15) (fun _ h9 => h9) rfl dX10_trim_6 ?_
        refine lv_if_le (tgt := 39) hx hb dX10_trim_9 (by decide) (fun hc3 => ?_) (fun hc3 => ?_)
        · have hf := ifT hc3 hf
          exact hret _ (opE hf) H locs ls 39 dX10_trim_39 hP hD hS
        · have hf := ifF hc3 hf
          refine lv_aload_n hx hb dX10_trim_12 rfl (lv_at hl 0 rfl) ?_
          refine va_get (D := D) (ci := 11) (v := .ref a_p0_d) (C := RX10) (T := TX10) (N := 2) hx hb hts uwX10 hown hK hP 0 rfl rfl 0 (by decide) (hts _ kfX10_9) (fun _ h9 => h9) rfl dX10_trim_13 ?_
          refine lv_aload_n hx hb dX10_trim_16 rfl (lv_at hl 0 rfl) ?_
          refine va_get (D := D) (ci := 11) (v := .int p0_len) (C := RX10) (T := TX10) (N := 2) hx hb hts uwX10 hown hK hP 0 rfl rfl 1 (by decide) (hts _ kfX10_15) (fun _ h9 => h9) rfl dX10_trim_17 ?_
          refine lv_iconst (v := 1) hx hb dX10_trim_20 (by decide) ?_
          refine lv_isub hx hb dX10_trim_21 ?_
          obtain ⟨hi1, hf⟩ := gdE hf
          refine va_iald hx hb hK hP 1 0 rfl rfl hi1 dX10_trim_22 ?_
          refine lv_if_ne (tgt := 39) hx hb dX10_trim_23 (by decide) (fun hc2 => ?_) (fun hc2 => ?_)
          · have hf := ifF hc2 hf
            exact hret _ (opE hf) H locs ls 39 dX10_trim_39 hP hD hS
          · have hf := ifT hc2 hf
            refine lv_aload_n hx hb dX10_trim_26 rfl (lv_at hl 0 rfl) ?_
            refine lv_dup hx hb dX10_trim_27 rfl ?_
            refine va_get (D := D) (ci := 11) (v := .int p0_len) (C := RX10) (T := TX10) (N := 2) hx hb hts uwX10 hown hK hP 0 rfl rfl 1 (by decide) (hts _ kfX10_15) (fun _ h9 => h9) rfl dX10_trim_28 ?_
            refine lv_iconst (v := 1) hx hb dX10_trim_31 (by decide) ?_
            refine lv_isub hx hb dX10_trim_32 ?_
            refine va_put (D := D) (ci := 11) (v := .int (p0_len - (1 : Int32))) (ty := tyX10 1) (C := RX10) (T := TX10) (N := 2) hx hb hts uwX10 tyX10 tyX10_ok nmX10 hown hK hP hD hS 0 rfl rfl 1 (by decide) (hts _ kfX10_15) (fun _ h9 => h9) rfl (tyX10_ok 1 (by decide)) rfl rfl (Nat.le_of_ble_eq_true rfl) dX10_trim_33 (fun H locs hP hD hS => ?_)
            have hP : va_P D vwCl [(a_p0, .inr (11, [.ref a_p0_d, .int (p0_len - (1 : Int32))])), (a_p0_d, .inl (cI, 520, .inl p0_d))] H := hP
            have hD : va_D A [(a_p0, .inr (11, [.ref a_p0_d, .int (p0_len - (1 : Int32))])), (a_p0_d, .inl (cI, 520, .inl p0_d))] := hD
            refine lv_goto (tgt := 5) hx hb dX10_trim_36 (by decide) ?_
            exact ih (p0_len - (1 : Int32)) H locs ls hf hP hD hS (lv_sub hl [0] rfl)
  unfold f_X10_trim at hf
  refine lv_aload_n hx hb dX10_trim_0 rfl (lv_at hl 0 rfl) ?_
  refine lv_iload_n hx hb dX10_trim_1 rfl (lv_at hl 1 rfl) ?_
  refine va_put (D := D) (ci := 11) (v := .int p1) (ty := tyX10 1) (C := RX10) (T := TX10) (N := 2) hx hb hts uwX10 tyX10 tyX10_ok nmX10 hown hK hP hD hS 0 rfl rfl 1 (by decide) (hts _ kfX10_15) (fun _ h9 => h9) rfl (tyX10_ok 1 (by decide)) rfl rfl (Nat.le_of_ble_eq_true rfl) dX10_trim_2 (fun H locs hP hD hS => ?_)
  have hP : va_P D vwCl [(a_p0, .inr (11, [.ref a_p0_d, .int p1])), (a_p0_d, .inl (cI, 520, .inl p0_d))] H := hP
  have hD : va_D A [(a_p0, .inr (11, [.ref a_p0_d, .int p1])), (a_p0_d, .inl (cI, 520, .inl p0_d))] := hD
  exact keyL5 FU p1 H locs ls hf hP hD hS (lv_sub hl [0] rfl)
set_option maxRecDepth 100000 in
set_option maxHeartbeats 4000000 in
theorem c_X10_add (l : Launch) (D : va_G) (cI cJ : ClassId) (a_p0 a_p0_d a_p1 a_p1_d : Nat) (p0_len : Int32) (p0_d : (Nat → Int32)) (p1_len : Int32) (p1_d : (Nat → Int32)) (u : Int32 × (Nat → Int32)) (hf : f_X10_add p1_len p1_d p0_len p0_d = some u) : CtV l yX10_add cX10_add 7 1 21 [.ref a_p0, .ref a_p1] D cI cJ [(a_p0, .inr (11, [.ref a_p0_d, .int p0_len])), (a_p0_d, .inl (cI, 520, .inl p0_d)), (a_p1, .inr (11, [.ref a_p1_d, .int p1_len])), (a_p1_d, .inl (cI, 520, .inl p1_d))] [(a_p0, .inr (11, [.ref a_p0_d, .int u.1])), (a_p0_d, .inl (cI, 520, .inl u.2)), (a_p1, .inr (11, [.ref a_p1_d, .int p1_len])), (a_p1_d, .inl (cI, 520, .inl p1_d))] := by
  refine mkV (own := RX10) rfl (by decide +kernel) (Nat.le_of_ble_eq_true rfl) (lv := [(0, .ref a_p0), (1, .ref a_p1)]) rfl ?_
  intro p e s m below meth c Q A ls ar S hA hK hN hret H locs hP hD hS hl
  obtain ⟨hx, hb, hml, hown, hts⟩ := id S
  have hret : ∀ (w : Int32 × (Nat → Int32)), w = u → ∀ (H : Heap) (locs : List Loc) (ls : Array Slot) (pc : Nat), decode cX10_add pc = .ok (.return_, 1) → va_P D vwCl [(a_p0, .inr (11, [.ref a_p0_d, .int w.1])), (a_p0_d, .inl (cI, 520, .inl w.2)), (a_p1, .inr (11, [.ref a_p1_d, .int p1_len])), (a_p1_d, .inl (cI, 520, .inl p1_d))] H → va_D A [(a_p0, .inr (11, [.ref a_p0_d, .int w.1])), (a_p0_d, .inl (cI, 520, .inl w.2)), (a_p1, .inr (11, [.ref a_p1_d, .int p1_len])), (a_p1_d, .inl (cI, 520, .inl p1_d))] → va_S A s.heap H locs → W p l e (rmz 1 21) s m ar below meth c H locs 0 0 Q (F0 m pc ls []) := fun w hw => hw ▸ hret
  have keyB98 : ∀ (v2 : Int32) (v3 : Int32) (p0_len : Int32) (p0_d : (Nat → Int32)) (H : Heap) (locs : List Loc) (ls : Array Slot), f_X10_add_B98 p1_len p1_d v2 v3 p0_len p0_d = some u → va_P D vwCl [(a_p0, .inr (11, [.ref a_p0_d, .int p0_len])), (a_p0_d, .inl (cI, 520, .inl p0_d)), (a_p1, .inr (11, [.ref a_p1_d, .int p1_len])), (a_p1_d, .inl (cI, 520, .inl p1_d))] H → va_D A [(a_p0, .inr (11, [.ref a_p0_d, .int p0_len])), (a_p0_d, .inl (cI, 520, .inl p0_d)), (a_p1, .inr (11, [.ref a_p1_d, .int p1_len])), (a_p1_d, .inl (cI, 520, .inl p1_d))] → va_S A s.heap H locs → lv_has ls 7 [(0, .ref a_p0), (2, .int v2), (3, .int v3)] → W p l e (rmz 1 21) s m ar below meth c H locs 0 0 Q (F0 m 98 ls []) := by
    intro v2 v3 p0_len p0_d H locs ls hf hP hD hS hl
    unfold f_X10_add_B98 at hf
    refine lv_aload_n hx hb dX10_add_98 rfl (lv_at hl 0 rfl) ?_
    refine va_get (D := D) (ci := 11) (v := .ref a_p0_d) (C := RX10) (T := TX10) (N := 2) hx hb hts uwX10 hown hK hP 0 rfl rfl 0 (by decide) (hts _ kfX10_9) (fun _ h9 => h9) rfl dX10_add_99 ?_
    refine lv_iload_n hx hb dX10_add_102 rfl (lv_at hl 1 rfl) ?_
    refine lv_iload_n hx hb dX10_add_103 rfl (lv_at hl 2 rfl) ?_
    obtain ⟨hi3, hf⟩ := gdE hf
    refine va_iast hx hb hK hP hD hS 1 0 rfl rfl hi3 dX10_add_104 (fun H locs hP hD hS => ?_)
    have hP : va_P D vwCl [(a_p0, .inr (11, [.ref a_p0_d, .int p0_len])), (a_p0_d, .inl (cI, 520, .inl (upd p0_d v2.toNatClampNeg v3))), (a_p1, .inr (11, [.ref a_p1_d, .int p1_len])), (a_p1_d, .inl (cI, 520, .inl p1_d))] H := hP
    have hD : va_D A [(a_p0, .inr (11, [.ref a_p0_d, .int p0_len])), (a_p0_d, .inl (cI, 520, .inl (upd p0_d v2.toNatClampNeg v3))), (a_p1, .inr (11, [.ref a_p1_d, .int p1_len])), (a_p1_d, .inl (cI, 520, .inl p1_d))] := hD
    refine lv_aload_n hx hb dX10_add_105 rfl (lv_at hl 0 rfl) ?_
    refine lv_iload_n hx hb dX10_add_106 rfl (lv_at hl 1 rfl) ?_
    refine lv_iconst (v := 1) hx hb dX10_add_107 (by decide) ?_
    refine lv_iadd hx hb dX10_add_108 ?_
    obtain ⟨u4, hu5, hf⟩ := bdE hf
    refine cV_V (ws' := [(a_p0, .inr (11, [.ref a_p0_d, .int u4])), (a_p0_d, .inl (cI, 520, .inl (upd p0_d v2.toNatClampNeg v3))), (a_p1, .inr (11, [.ref a_p1_d, .int p1_len])), (a_p1_d, .inl (cI, 520, .inl p1_d))]) (rest := []) S hK hN hA hP hD hS (c_X10_trim l D cI cJ a_p0 a_p0_d (v2 + (1 : Int32)) p0_len (upd p0_d v2.toNatClampNeg v3) u4 hu5) mwX10_trim miX10_trim kmX10_33 [0, 1] rfl (by decide) rfl rfl rfl 0 rfl rfl ⟨Nat.le_of_ble_eq_true rfl, Nat.le_of_ble_eq_true rfl⟩ ⟨Nat.zero_le _, Nat.zero_le _⟩ hl.1 rfl rfl (Nat.le_of_ble_eq_true rfl) dX10_add_109 (fun H locs hP hD hS => ?_)
    exact hret _ (opE hf) H locs ls 112 dX10_add_112 hP hD hS
  have keyB67 : ∀ (kL17 : Int32 → Int32 → Int32 → Int32 → (Nat → Int32) → Option (Int32 × (Nat → Int32))) (hL17 : ∀ (v2 : Int32) (v3 : Int32) (v4 : Int32) (p0_len : Int32) (p0_d : (Nat → Int32)) (H : Heap) (locs : List Loc) (ls : Array Slot), kL17 v2 v3 v4 p0_len p0_d = some u → va_P D vwCl [(a_p0, .inr (11, [.ref a_p0_d, .int p0_len])), (a_p0_d, .inl (cI, 520, .inl p0_d)), (a_p1, .inr (11, [.ref a_p1_d, .int p1_len])), (a_p1_d, .inl (cI, 520, .inl p1_d))] H → va_D A [(a_p0, .inr (11, [.ref a_p0_d, .int p0_len])), (a_p0_d, .inl (cI, 520, .inl p0_d)), (a_p1, .inr (11, [.ref a_p1_d, .int p1_len])), (a_p1_d, .inl (cI, 520, .inl p1_d))] → va_S A s.heap H locs → lv_has ls 7 [(0, .ref a_p0), (1, .ref a_p1), (2, .int v2), (3, .int v3), (4, .int v4)] → W p l e (rmz 1 21) s m ar below meth c H locs 0 0 Q (F0 m 17 ls [])) (v2 : Int32) (v4 : Int32) (s0 : Int64) (s1 : Int32) (p0_len : Int32) (p0_d : (Nat → Int32)) (H : Heap) (locs : List Loc) (ls : Array Slot), f_X10_add_B67 p1_len p1_d kL17 v2 v4 s0 s1 p0_len p0_d = some u → va_P D vwCl [(a_p0, .inr (11, [.ref a_p0_d, .int p0_len])), (a_p0_d, .inl (cI, 520, .inl p0_d)), (a_p1, .inr (11, [.ref a_p1_d, .int p1_len])), (a_p1_d, .inl (cI, 520, .inl p1_d))] H → va_D A [(a_p0, .inr (11, [.ref a_p0_d, .int p0_len])), (a_p0_d, .inl (cI, 520, .inl p0_d)), (a_p1, .inr (11, [.ref a_p1_d, .int p1_len])), (a_p1_d, .inl (cI, 520, .inl p1_d))] → va_S A s.heap H locs → lv_has ls 7 [(0, .ref a_p0), (1, .ref a_p1), (2, .int v2), (4, .int v4)] → W p l e (rmz 1 21) s m ar below meth c H locs 0 0 Q (F0 m 67 ls [.int s1, .long s0]) := by
    intro kL17 hL17 v2 v4 s0 s1 p0_len p0_d H locs ls hf hP hD hS hl
    unfold f_X10_add_B67 at hf
    refine lv_i2l (v := s1.toInt64) hx hb dX10_add_67 rfl ?_
    refine lv_ladd hx hb dX10_add_68 ?_
    refine lv_lstore (lv' := [(5, .long (s0 + s1.toInt64)), (0, .ref a_p0), (1, .ref a_p1), (2, .int v2), (4, .int v4)]) hx hb dX10_add_69 hl (by decide) rfl (fun ls hl => ?_)
    refine lv_aload_n hx hb dX10_add_71 rfl (lv_at hl 1 rfl) ?_
    refine va_get (D := D) (ci := 11) (v := .ref a_p0_d) (C := RX10) (T := TX10) (N := 2) hx hb hts uwX10 hown hK hP 0 rfl rfl 0 (by decide) (hts _ kfX10_9) (fun _ h9 => h9) rfl dX10_add_72 ?_
    refine lv_iload hx hb dX10_add_75 (lv_at hl 4 rfl) ?_
    refine lv_lload hx hb dX10_add_77 (lv_at hl 0 rfl) ?_
    refine lv_ldc2 hx hb hown (hts _ kcX10_19) dX10_add_79 ?_
    refine lv_land hx hb dX10_add_82 ?_
    refine lv_l2i (v := ((s0 + s1.toInt64) &&& (1073741823 : Int64)).toInt32) hx hb dX10_add_83 rfl ?_
    obtain ⟨hi6, hf⟩ := gdE hf
    refine va_iast hx hb hK hP hD hS 1 0 rfl rfl hi6 dX10_add_84 (fun H locs hP hD hS => ?_)
    have hP : va_P D vwCl [(a_p0, .inr (11, [.ref a_p0_d, .int p0_len])), (a_p0_d, .inl (cI, 520, .inl (upd p0_d v4.toNatClampNeg (((s0 + s1.toInt64) &&& (1073741823 : Int64)).toInt32)))), (a_p1, .inr (11, [.ref a_p1_d, .int p1_len])), (a_p1_d, .inl (cI, 520, .inl p1_d))] H := hP
    have hD : va_D A [(a_p0, .inr (11, [.ref a_p0_d, .int p0_len])), (a_p0_d, .inl (cI, 520, .inl (upd p0_d v4.toNatClampNeg (((s0 + s1.toInt64) &&& (1073741823 : Int64)).toInt32)))), (a_p1, .inr (11, [.ref a_p1_d, .int p1_len])), (a_p1_d, .inl (cI, 520, .inl p1_d))] := hD
    refine lv_lload hx hb dX10_add_85 (lv_at hl 0 rfl) ?_
    refine lv_bipush (v := 30) hx hb dX10_add_87 (by decide) ?_
    refine lv_lshr (v := lsr (s0 + s1.toInt64) (30 : Int32)) hx hb dX10_add_89 rfl ?_
    refine lv_l2i (v := (lsr (s0 + s1.toInt64) (30 : Int32)).toInt32) hx hb dX10_add_90 rfl ?_
    refine lv_istore_n (lv' := [(3, .int ((lsr (s0 + s1.toInt64) (30 : Int32)).toInt32)), (5, .long (s0 + s1.toInt64)), (0, .ref a_p0), (1, .ref a_p1), (2, .int v2), (4, .int v4)]) hx hb dX10_add_91 rfl hl (by decide) rfl (fun ls hl => ?_)
    refine lv_iinc (v := v4 + (1 : Int32)) (lv' := [(4, .int (v4 + (1 : Int32))), (3, .int ((lsr (s0 + s1.toInt64) (30 : Int32)).toInt32)), (5, .long (s0 + s1.toInt64)), (0, .ref a_p0), (1, .ref a_p1), (2, .int v2)]) hx hb dX10_add_92 hl (k := 5) rfl (by rfl) (by decide) rfl (fun ls hl => ?_)
    refine lv_goto (tgt := 17) hx hb dX10_add_95 (by decide) ?_
    exact hL17 v2 ((lsr (s0 + s1.toInt64) (30 : Int32)).toInt32) (v4 + (1 : Int32)) p0_len (upd p0_d v4.toNatClampNeg (((s0 + s1.toInt64) &&& (1073741823 : Int64)).toInt32)) H locs ls hf hP hD hS (lv_sub hl [3, 4, 5, 1, 0] rfl)
  have keyB45 : ∀ (kL17 : Int32 → Int32 → Int32 → Int32 → (Nat → Int32) → Option (Int32 × (Nat → Int32))) (hL17 : ∀ (v2 : Int32) (v3 : Int32) (v4 : Int32) (p0_len : Int32) (p0_d : (Nat → Int32)) (H : Heap) (locs : List Loc) (ls : Array Slot), kL17 v2 v3 v4 p0_len p0_d = some u → va_P D vwCl [(a_p0, .inr (11, [.ref a_p0_d, .int p0_len])), (a_p0_d, .inl (cI, 520, .inl p0_d)), (a_p1, .inr (11, [.ref a_p1_d, .int p1_len])), (a_p1_d, .inl (cI, 520, .inl p1_d))] H → va_D A [(a_p0, .inr (11, [.ref a_p0_d, .int p0_len])), (a_p0_d, .inl (cI, 520, .inl p0_d)), (a_p1, .inr (11, [.ref a_p1_d, .int p1_len])), (a_p1_d, .inl (cI, 520, .inl p1_d))] → va_S A s.heap H locs → lv_has ls 7 [(0, .ref a_p0), (1, .ref a_p1), (2, .int v2), (3, .int v3), (4, .int v4)] → W p l e (rmz 1 21) s m ar below meth c H locs 0 0 Q (F0 m 17 ls [])) (v2 : Int32) (v4 : Int32) (s0 : Int64) (s1 : Int32) (p0_len : Int32) (p0_d : (Nat → Int32)) (H : Heap) (locs : List Loc) (ls : Array Slot), f_X10_add_B45 p1_len p1_d kL17 v2 v4 s0 s1 p0_len p0_d = some u → va_P D vwCl [(a_p0, .inr (11, [.ref a_p0_d, .int p0_len])), (a_p0_d, .inl (cI, 520, .inl p0_d)), (a_p1, .inr (11, [.ref a_p1_d, .int p1_len])), (a_p1_d, .inl (cI, 520, .inl p1_d))] H → va_D A [(a_p0, .inr (11, [.ref a_p0_d, .int p0_len])), (a_p0_d, .inl (cI, 520, .inl p0_d)), (a_p1, .inr (11, [.ref a_p1_d, .int p1_len])), (a_p1_d, .inl (cI, 520, .inl p1_d))] → va_S A s.heap H locs → lv_has ls 7 [(0, .ref a_p0), (1, .ref a_p1), (2, .int v2), (4, .int v4)] → W p l e (rmz 1 21) s m ar below meth c H locs 0 0 Q (F0 m 45 ls [.int s1, .long s0]) := by
    intro kL17 hL17 v2 v4 s0 s1 p0_len p0_d H locs ls hf hP hD hS hl
    unfold f_X10_add_B45 at hf
    refine lv_i2l (v := s1.toInt64) hx hb dX10_add_45 rfl ?_
    refine lv_ladd hx hb dX10_add_46 ?_
    refine lv_iload hx hb dX10_add_47 (lv_at hl 3 rfl) ?_
    refine lv_aload_n hx hb dX10_add_49 rfl (lv_at hl 1 rfl) ?_
    refine va_get (D := D) (ci := 11) (v := .int p1_len) (C := RX10) (T := TX10) (N := 2) hx hb hts uwX10 hown hK hP 2 rfl rfl 1 (by decide) (hts _ kfX10_15) (fun _ h9 => h9) rfl dX10_add_50 ?_
    refine lv_icmp_ge (tgt := 66) hx hb dX10_add_53 (by decide) (fun hc8 => ?_) (fun hc8 => ?_)
    · have hf := ifT hc8 hf
      refine lv_iconst (v := 0) hx hb dX10_add_66 (by decide) ?_
      exact keyB67 kL17 hL17 v2 v4 (s0 + s1.toInt64) (0 : Int32) p0_len p0_d H locs ls hf hP hD hS (lv_sub hl [0, 1, 2, 3] rfl)
    · have hf := ifF hc8 hf
      refine lv_aload_n hx hb dX10_add_56 rfl (lv_at hl 1 rfl) ?_
      refine va_get (D := D) (ci := 11) (v := .ref a_p1_d) (C := RX10) (T := TX10) (N := 2) hx hb hts uwX10 hown hK hP 2 rfl rfl 0 (by decide) (hts _ kfX10_9) (fun _ h9 => h9) rfl dX10_add_57 ?_
      refine lv_iload hx hb dX10_add_60 (lv_at hl 3 rfl) ?_
      obtain ⟨hi7, hf⟩ := gdE hf
      refine va_iald hx hb hK hP 3 0 rfl rfl hi7 dX10_add_62 ?_
      refine lv_goto (tgt := 67) hx hb dX10_add_63 (by decide) ?_
      exact keyB67 kL17 hL17 v2 v4 (s0 + s1.toInt64) (p1_d v4.toNatClampNeg) p0_len p0_d H locs ls hf hP hD hS (lv_sub hl [0, 1, 2, 3] rfl)
  have keyL17 : ∀ (n : Nat) (v2 : Int32) (v3 : Int32) (v4 : Int32) (p0_len : Int32) (p0_d : (Nat → Int32)) (H : Heap) (locs : List Loc) (ls : Array Slot), f_X10_add_L17 p1_len p1_d n v2 v3 v4 p0_len p0_d = some u → va_P D vwCl [(a_p0, .inr (11, [.ref a_p0_d, .int p0_len])), (a_p0_d, .inl (cI, 520, .inl p0_d)), (a_p1, .inr (11, [.ref a_p1_d, .int p1_len])), (a_p1_d, .inl (cI, 520, .inl p1_d))] H → va_D A [(a_p0, .inr (11, [.ref a_p0_d, .int p0_len])), (a_p0_d, .inl (cI, 520, .inl p0_d)), (a_p1, .inr (11, [.ref a_p1_d, .int p1_len])), (a_p1_d, .inl (cI, 520, .inl p1_d))] → va_S A s.heap H locs → lv_has ls 7 [(0, .ref a_p0), (1, .ref a_p1), (2, .int v2), (3, .int v3), (4, .int v4)] → W p l e (rmz 1 21) s m ar below meth c H locs 0 0 Q (F0 m 17 ls []) := by
    intro n
    induction n with
      | zero =>
        intro v2 v3 v4 p0_len p0_d H locs ls hf
        cases hf
      | succ n ih =>
        intro v2 v3 v4 p0_len p0_d H locs ls hf hP hD hS hl
        rw [f_X10_add_L17] at hf
        refine lv_iload hx hb dX10_add_17 (lv_at hl 4 rfl) ?_
        refine lv_iload_n hx hb dX10_add_19 rfl (lv_at hl 2 rfl) ?_
        refine lv_icmp_ge (tgt := 98) hx hb dX10_add_20 (by decide) (fun hc11 => ?_) (fun hc11 => ?_)
        · have hf := ifT hc11 hf
          exact keyB98 v2 v3 p0_len p0_d H locs ls hf hP hD hS (lv_sub hl [0, 2, 3] rfl)
        · have hf := ifF hc11 hf
          refine lv_iload_n hx hb dX10_add_23 rfl (lv_at hl 3 rfl) ?_
          refine lv_i2l (v := v3.toInt64) hx hb dX10_add_24 rfl ?_
          refine lv_iload hx hb dX10_add_25 (lv_at hl 4 rfl) ?_
          refine lv_aload_n hx hb dX10_add_27 rfl (lv_at hl 0 rfl) ?_
          refine va_get (D := D) (ci := 11) (v := .int p0_len) (C := RX10) (T := TX10) (N := 2) hx hb hts uwX10 hown hK hP 0 rfl rfl 1 (by decide) (hts _ kfX10_15) (fun _ h9 => h9) rfl dX10_add_28 ?_
          refine lv_icmp_ge (tgt := 44) hx hb dX10_add_31 (by decide) (fun hc10 => ?_) (fun hc10 => ?_)
          · have hf := ifT hc10 hf
            refine lv_iconst (v := 0) hx hb dX10_add_44 (by decide) ?_
            exact keyB45 (f_X10_add_L17 p1_len p1_d n) ih v2 v4 v3.toInt64 (0 : Int32) p0_len p0_d H locs ls hf hP hD hS (lv_sub hl [0, 1, 2, 4] rfl)
          · have hf := ifF hc10 hf
            refine lv_aload_n hx hb dX10_add_34 rfl (lv_at hl 0 rfl) ?_
            refine va_get (D := D) (ci := 11) (v := .ref a_p0_d) (C := RX10) (T := TX10) (N := 2) hx hb hts uwX10 hown hK hP 0 rfl rfl 0 (by decide) (hts _ kfX10_9) (fun _ h9 => h9) rfl dX10_add_35 ?_
            refine lv_iload hx hb dX10_add_38 (lv_at hl 4 rfl) ?_
            obtain ⟨hi9, hf⟩ := gdE hf
            refine va_iald hx hb hK hP 1 0 rfl rfl hi9 dX10_add_40 ?_
            refine lv_goto (tgt := 45) hx hb dX10_add_41 (by decide) ?_
            exact keyB45 (f_X10_add_L17 p1_len p1_d n) ih v2 v4 v3.toInt64 (p0_d v4.toNatClampNeg) p0_len p0_d H locs ls hf hP hD hS (lv_sub hl [0, 1, 2, 4] rfl)
  unfold f_X10_add at hf
  refine lv_aload_n hx hb dX10_add_0 rfl (lv_at hl 0 rfl) ?_
  refine va_get (D := D) (ci := 11) (v := .int p0_len) (C := RX10) (T := TX10) (N := 2) hx hb hts uwX10 hown hK hP 0 rfl rfl 1 (by decide) (hts _ kfX10_15) (fun _ h9 => h9) rfl dX10_add_1 ?_
  refine lv_aload_n hx hb dX10_add_4 rfl (lv_at hl 1 rfl) ?_
  refine va_get (D := D) (ci := 11) (v := .int p1_len) (C := RX10) (T := TX10) (N := 2) hx hb hts uwX10 hown hK hP 2 rfl rfl 1 (by decide) (hts _ kfX10_15) (fun _ h9 => h9) rfl dX10_add_5 ?_
  obtain ⟨u1, hu2, hf⟩ := bdE hf
  refine cS_I (ws' := [(a_p0, .inr (11, [.ref a_p0_d, .int p0_len])), (a_p0_d, .inl (cI, 520, .inl p0_d)), (a_p1, .inr (11, [.ref a_p1_d, .int p1_len])), (a_p1_d, .inl (cI, 520, .inl p1_d))]) (rest := []) S hK hN hA hP hD hS (c_J9_max_7cf53 l D cI cJ  p0_len p1_len  u1 hu2) mwJ9_max_7cf53 msJ9_max_7cf53 kmX10_27 [] rfl (by decide) rfl rfl rfl ⟨Nat.le_of_ble_eq_true rfl, Nat.le_of_ble_eq_true rfl⟩ ⟨Nat.zero_le _, Nat.zero_le _⟩ hl.1 rfl rfl (Nat.le_of_ble_eq_true rfl) dX10_add_8 (fun H locs hP hD hS => ?_)
  refine lv_istore_n (lv' := [(2, .int u1), (0, .ref a_p0), (1, .ref a_p1)]) hx hb dX10_add_11 rfl hl (by decide) rfl (fun ls hl => ?_)
  refine lv_iconst (v := 0) hx hb dX10_add_12 (by decide) ?_
  refine lv_istore_n (lv' := [(3, .int (0 : Int32)), (2, .int u1), (0, .ref a_p0), (1, .ref a_p1)]) hx hb dX10_add_13 rfl hl (by decide) rfl (fun ls hl => ?_)
  refine lv_iconst (v := 0) hx hb dX10_add_14 (by decide) ?_
  refine lv_istore (lv' := [(4, .int (0 : Int32)), (3, .int (0 : Int32)), (2, .int u1), (0, .ref a_p0), (1, .ref a_p1)]) hx hb dX10_add_15 hl (by decide) rfl (fun ls hl => ?_)
  exact keyL17 FU u1 (0 : Int32) (0 : Int32) p0_len p0_d H locs ls hf hP hD hS (lv_sub hl [3, 4, 2, 1, 0] rfl)
set_option maxRecDepth 100000 in
set_option maxHeartbeats 4000000 in
theorem c_X10_addSmall (l : Launch) (D : va_G) (cI cJ : ClassId) (a_p0 a_p0_d : Nat) (p1 : Int32) (p0_len : Int32) (p0_d : (Nat → Int32)) (u : Int32 × (Nat → Int32)) (hf : f_X10_addSmall p1 p0_len p0_d = some u) : CtV l yX10_addSmall cX10_addSmall 5 0 0 [.ref a_p0, .int p1] D cI cJ [(a_p0, .inr (11, [.ref a_p0_d, .int p0_len])), (a_p0_d, .inl (cI, 520, .inl p0_d))] [(a_p0, .inr (11, [.ref a_p0_d, .int u.1])), (a_p0_d, .inl (cI, 520, .inl u.2))] := by
  refine mkV (own := RX10) rfl (by decide +kernel) (Nat.le_of_ble_eq_true rfl) (lv := [(0, .ref a_p0), (1, .int p1)]) rfl ?_
  intro p e s m below meth c Q A ls ar S hA hK hN hret H locs hP hD hS hl
  obtain ⟨hx, hb, hml, hown, hts⟩ := id S
  have hret : ∀ (w : Int32 × (Nat → Int32)), w = u → ∀ (H : Heap) (locs : List Loc) (ls : Array Slot) (pc : Nat), decode cX10_addSmall pc = .ok (.return_, 1) → va_P D vwCl [(a_p0, .inr (11, [.ref a_p0_d, .int w.1])), (a_p0_d, .inl (cI, 520, .inl w.2))] H → va_D A [(a_p0, .inr (11, [.ref a_p0_d, .int w.1])), (a_p0_d, .inl (cI, 520, .inl w.2))] → va_S A s.heap H locs → W p l e (rmz 0 0) s m ar below meth c H locs 0 0 Q (F0 m pc ls []) := fun w hw => hw ▸ hret
  have keyB39 : ∀ (kL6 : Int64 → Int32 → Int32 → (Nat → Int32) → Option (Int32 × (Nat → Int32))) (hL6 : ∀ (v2 : Int64) (v4 : Int32) (p0_len : Int32) (p0_d : (Nat → Int32)) (H : Heap) (locs : List Loc) (ls : Array Slot), kL6 v2 v4 p0_len p0_d = some u → va_P D vwCl [(a_p0, .inr (11, [.ref a_p0_d, .int p0_len])), (a_p0_d, .inl (cI, 520, .inl p0_d))] H → va_D A [(a_p0, .inr (11, [.ref a_p0_d, .int p0_len])), (a_p0_d, .inl (cI, 520, .inl p0_d))] → va_S A s.heap H locs → lv_has ls 5 [(0, .ref a_p0), (2, .long v2), (4, .int v4)] → W p l e (rmz 0 0) s m ar below meth c H locs 0 0 Q (F0 m 6 ls [])) (v2 : Int64) (v4 : Int32) (p0_len : Int32) (p0_d : (Nat → Int32)) (H : Heap) (locs : List Loc) (ls : Array Slot), f_X10_addSmall_B39 kL6 v2 v4 p0_len p0_d = some u → va_P D vwCl [(a_p0, .inr (11, [.ref a_p0_d, .int p0_len])), (a_p0_d, .inl (cI, 520, .inl p0_d))] H → va_D A [(a_p0, .inr (11, [.ref a_p0_d, .int p0_len])), (a_p0_d, .inl (cI, 520, .inl p0_d))] → va_S A s.heap H locs → lv_has ls 5 [(0, .ref a_p0), (2, .long v2), (4, .int v4)] → W p l e (rmz 0 0) s m ar below meth c H locs 0 0 Q (F0 m 39 ls []) := by
    intro kL6 hL6 v2 v4 p0_len p0_d H locs ls hf hP hD hS hl
    unfold f_X10_addSmall_B39 at hf
    refine lv_lload_n hx hb dX10_addSmall_39 rfl (lv_at hl 1 rfl) ?_
    refine lv_aload_n hx hb dX10_addSmall_40 rfl (lv_at hl 0 rfl) ?_
    refine va_get (D := D) (ci := 11) (v := .ref a_p0_d) (C := RX10) (T := TX10) (N := 2) hx hb hts uwX10 hown hK hP 0 rfl rfl 0 (by decide) (hts _ kfX10_9) (fun _ h9 => h9) rfl dX10_addSmall_41 ?_
    refine lv_iload hx hb dX10_addSmall_44 (lv_at hl 2 rfl) ?_
    obtain ⟨hi1, hf⟩ := gdE hf
    refine va_iald hx hb hK hP 1 0 rfl rfl hi1 dX10_addSmall_46 ?_
    refine lv_i2l (v := (p0_d v4.toNatClampNeg).toInt64) hx hb dX10_addSmall_47 rfl ?_
    refine lv_ladd hx hb dX10_addSmall_48 ?_
    refine lv_lstore_n (lv' := [(2, .long (v2 + ((p0_d v4.toNatClampNeg).toInt64))), (0, .ref a_p0), (4, .int v4)]) hx hb dX10_addSmall_49 rfl hl (by decide) rfl (fun ls hl => ?_)
    refine lv_aload_n hx hb dX10_addSmall_50 rfl (lv_at hl 1 rfl) ?_
    refine va_get (D := D) (ci := 11) (v := .ref a_p0_d) (C := RX10) (T := TX10) (N := 2) hx hb hts uwX10 hown hK hP 0 rfl rfl 0 (by decide) (hts _ kfX10_9) (fun _ h9 => h9) rfl dX10_addSmall_51 ?_
    refine lv_iload hx hb dX10_addSmall_54 (lv_at hl 2 rfl) ?_
    refine lv_lload_n hx hb dX10_addSmall_56 rfl (lv_at hl 0 rfl) ?_
    refine lv_ldc2 hx hb hown (hts _ kcX10_19) dX10_addSmall_57 ?_
    refine lv_land hx hb dX10_addSmall_60 ?_
    refine lv_l2i (v := ((v2 + ((p0_d v4.toNatClampNeg).toInt64)) &&& (1073741823 : Int64)).toInt32) hx hb dX10_addSmall_61 rfl ?_
    refine va_iast hx hb hK hP hD hS 1 0 rfl rfl hi1 dX10_addSmall_62 (fun H locs hP hD hS => ?_)
    have hP : va_P D vwCl [(a_p0, .inr (11, [.ref a_p0_d, .int p0_len])), (a_p0_d, .inl (cI, 520, .inl (upd p0_d v4.toNatClampNeg (((v2 + ((p0_d v4.toNatClampNeg).toInt64)) &&& (1073741823 : Int64)).toInt32))))] H := hP
    have hD : va_D A [(a_p0, .inr (11, [.ref a_p0_d, .int p0_len])), (a_p0_d, .inl (cI, 520, .inl (upd p0_d v4.toNatClampNeg (((v2 + ((p0_d v4.toNatClampNeg).toInt64)) &&& (1073741823 : Int64)).toInt32))))] := hD
    refine lv_lload_n hx hb dX10_addSmall_63 rfl (lv_at hl 0 rfl) ?_
    refine lv_bipush (v := 30) hx hb dX10_addSmall_64 (by decide) ?_
    refine lv_lshr (v := lsr (v2 + ((p0_d v4.toNatClampNeg).toInt64)) (30 : Int32)) hx hb dX10_addSmall_66 rfl ?_
    refine lv_lstore_n (lv' := [(2, .long (lsr (v2 + ((p0_d v4.toNatClampNeg).toInt64)) (30 : Int32))), (0, .ref a_p0), (4, .int v4)]) hx hb dX10_addSmall_67 rfl hl (by decide) rfl (fun ls hl => ?_)
    refine lv_iinc (v := v4 + (1 : Int32)) (lv' := [(4, .int (v4 + (1 : Int32))), (2, .long (lsr (v2 + ((p0_d v4.toNatClampNeg).toInt64)) (30 : Int32))), (0, .ref a_p0)]) hx hb dX10_addSmall_68 hl (k := 2) rfl (by rfl) (by decide) rfl (fun ls hl => ?_)
    refine lv_goto (tgt := 6) hx hb dX10_addSmall_71 (by decide) ?_
    exact hL6 (lsr (v2 + ((p0_d v4.toNatClampNeg).toInt64)) (30 : Int32)) (v4 + (1 : Int32)) p0_len (upd p0_d v4.toNatClampNeg (((v2 + ((p0_d v4.toNatClampNeg).toInt64)) &&& (1073741823 : Int64)).toInt32)) H locs ls hf hP hD hS (lv_sub hl [2, 1, 0] rfl)
  have keyL6 : ∀ (n : Nat) (v2 : Int64) (v4 : Int32) (p0_len : Int32) (p0_d : (Nat → Int32)) (H : Heap) (locs : List Loc) (ls : Array Slot), f_X10_addSmall_L6 n v2 v4 p0_len p0_d = some u → va_P D vwCl [(a_p0, .inr (11, [.ref a_p0_d, .int p0_len])), (a_p0_d, .inl (cI, 520, .inl p0_d))] H → va_D A [(a_p0, .inr (11, [.ref a_p0_d, .int p0_len])), (a_p0_d, .inl (cI, 520, .inl p0_d))] → va_S A s.heap H locs → lv_has ls 5 [(0, .ref a_p0), (2, .long v2), (4, .int v4)] → W p l e (rmz 0 0) s m ar below meth c H locs 0 0 Q (F0 m 6 ls []) := by
    intro n
    induction n with
      | zero =>
        intro v2 v4 p0_len p0_d H locs ls hf
        cases hf
      | succ n ih =>
        intro v2 v4 p0_len p0_d H locs ls hf hP hD hS hl
        rw [f_X10_addSmall_L6] at hf
        refine lv_lload_n hx hb dX10_addSmall_6 rfl (lv_at hl 1 rfl) ?_
        refine lv_lconst (v := 0) hx hb dX10_addSmall_7 (by decide) ?_
        refine W.lcmp hx hb dX10_addSmall_8 ?_
        refine lv_if_eq (tgt := 74) hx hb dX10_addSmall_9 (by decide) (fun hc4 => ?_) (fun hc4 => ?_)
        · have hf := ifT hc4 hf
          exact hret _ (opE hf) H locs ls 74 dX10_addSmall_74 hP hD hS
        · have hf := ifF hc4 hf
          refine lv_iload hx hb dX10_addSmall_12 (lv_at hl 2 rfl) ?_
          refine lv_aload_n hx hb dX10_addSmall_14 rfl (lv_at hl 0 rfl) ?_
          refine va_get (D := D) (ci := 11) (v := .int p0_len) (C := RX10) (T := TX10) (N := 2) hx hb hts uwX10 hown hK hP 0 rfl rfl 1 (by decide) (hts _ kfX10_15) (fun _ h9 => h9) rfl dX10_addSmall_15 ?_
          refine lv_icmp_ne (tgt := 39) hx hb dX10_addSmall_18 (by decide) (fun hc3 => ?_) (fun hc3 => ?_)
          · have hf := ifF hc3 hf
            exact keyB39 (f_X10_addSmall_L6 n) ih v2 v4 p0_len p0_d H locs ls hf hP hD hS (lv_sub hl [0, 1, 2] rfl)
          · have hf := ifT hc3 hf
            refine lv_aload_n hx hb dX10_addSmall_21 rfl (lv_at hl 0 rfl) ?_
            refine va_get (D := D) (ci := 11) (v := .ref a_p0_d) (C := RX10) (T := TX10) (N := 2) hx hb hts uwX10 hown hK hP 0 rfl rfl 0 (by decide) (hts _ kfX10_9) (fun _ h9 => h9) rfl dX10_addSmall_22 ?_
            refine lv_iload hx hb dX10_addSmall_25 (lv_at hl 2 rfl) ?_
            refine lv_iconst (v := 0) hx hb dX10_addSmall_27 (by decide) ?_
            obtain ⟨hi2, hf⟩ := gdE hf
            refine va_iast hx hb hK hP hD hS 1 0 rfl rfl hi2 dX10_addSmall_28 (fun H locs hP hD hS => ?_)
            have hP : va_P D vwCl [(a_p0, .inr (11, [.ref a_p0_d, .int p0_len])), (a_p0_d, .inl (cI, 520, .inl (upd p0_d v4.toNatClampNeg (0 : Int32))))] H := hP
            have hD : va_D A [(a_p0, .inr (11, [.ref a_p0_d, .int p0_len])), (a_p0_d, .inl (cI, 520, .inl (upd p0_d v4.toNatClampNeg (0 : Int32))))] := hD
            refine lv_aload_n hx hb dX10_addSmall_29 rfl (lv_at hl 0 rfl) ?_
            refine lv_dup hx hb dX10_addSmall_30 rfl ?_
            refine va_get (D := D) (ci := 11) (v := .int p0_len) (C := RX10) (T := TX10) (N := 2) hx hb hts uwX10 hown hK hP 0 rfl rfl 1 (by decide) (hts _ kfX10_15) (fun _ h9 => h9) rfl dX10_addSmall_31 ?_
            refine lv_iconst (v := 1) hx hb dX10_addSmall_34 (by decide) ?_
            refine lv_iadd hx hb dX10_addSmall_35 ?_
            refine va_put (D := D) (ci := 11) (v := .int (p0_len + (1 : Int32))) (ty := tyX10 1) (C := RX10) (T := TX10) (N := 2) hx hb hts uwX10 tyX10 tyX10_ok nmX10 hown hK hP hD hS 0 rfl rfl 1 (by decide) (hts _ kfX10_15) (fun _ h9 => h9) rfl (tyX10_ok 1 (by decide)) rfl rfl (Nat.le_of_ble_eq_true rfl) dX10_addSmall_36 (fun H locs hP hD hS => ?_)
            have hP : va_P D vwCl [(a_p0, .inr (11, [.ref a_p0_d, .int (p0_len + (1 : Int32))])), (a_p0_d, .inl (cI, 520, .inl (upd p0_d v4.toNatClampNeg (0 : Int32))))] H := hP
            have hD : va_D A [(a_p0, .inr (11, [.ref a_p0_d, .int (p0_len + (1 : Int32))])), (a_p0_d, .inl (cI, 520, .inl (upd p0_d v4.toNatClampNeg (0 : Int32))))] := hD
            exact keyB39 (f_X10_addSmall_L6 n) ih v2 v4 (p0_len + (1 : Int32)) (upd p0_d v4.toNatClampNeg (0 : Int32)) H locs ls hf hP hD hS (lv_sub hl [0, 1, 2] rfl)
  unfold f_X10_addSmall at hf
  refine lv_iload_n hx hb dX10_addSmall_0 rfl (lv_at hl 1 rfl) ?_
  refine lv_i2l (v := p1.toInt64) hx hb dX10_addSmall_1 rfl ?_
  refine lv_lstore_n (lv' := [(2, .long p1.toInt64), (0, .ref a_p0), (1, .int p1)]) hx hb dX10_addSmall_2 rfl hl (by decide) rfl (fun ls hl => ?_)
  refine lv_iconst (v := 0) hx hb dX10_addSmall_3 (by decide) ?_
  refine lv_istore (lv' := [(4, .int (0 : Int32)), (2, .long p1.toInt64), (0, .ref a_p0), (1, .int p1)]) hx hb dX10_addSmall_4 hl (by decide) rfl (fun ls hl => ?_)
  exact keyL6 FU p1.toInt64 (0 : Int32) p0_len p0_d H locs ls hf hP hD hS (lv_sub hl [2, 1, 0] rfl)
set_option maxRecDepth 100000 in
set_option maxHeartbeats 4000000 in
theorem c_X10_less (l : Launch) (D : va_G) (cI cJ : ClassId) (a_p0 a_p0_d a_p1 a_p1_d : Nat) (p0_len : Int32) (p0_d : (Nat → Int32)) (p1_len : Int32) (p1_d : (Nat → Int32)) (u : Int32 × (Nat → Int32)) (hf : f_X10_less p1_len p1_d p0_len p0_d = some u) : CtV l yX10_less cX10_less 5 1 21 [.ref a_p0, .ref a_p1] D cI cJ [(a_p0, .inr (11, [.ref a_p0_d, .int p0_len])), (a_p0_d, .inl (cI, 520, .inl p0_d)), (a_p1, .inr (11, [.ref a_p1_d, .int p1_len])), (a_p1_d, .inl (cI, 520, .inl p1_d))] [(a_p0, .inr (11, [.ref a_p0_d, .int u.1])), (a_p0_d, .inl (cI, 520, .inl u.2)), (a_p1, .inr (11, [.ref a_p1_d, .int p1_len])), (a_p1_d, .inl (cI, 520, .inl p1_d))] := by
  refine mkV (own := RX10) rfl (by decide +kernel) (Nat.le_of_ble_eq_true rfl) (lv := [(0, .ref a_p0), (1, .ref a_p1)]) rfl ?_
  intro p e s m below meth c Q A ls ar S hA hK hN hret H locs hP hD hS hl
  obtain ⟨hx, hb, hml, hown, hts⟩ := id S
  have hret : ∀ (w : Int32 × (Nat → Int32)), w = u → ∀ (H : Heap) (locs : List Loc) (ls : Array Slot) (pc : Nat), decode cX10_less pc = .ok (.return_, 1) → va_P D vwCl [(a_p0, .inr (11, [.ref a_p0_d, .int w.1])), (a_p0_d, .inl (cI, 520, .inl w.2)), (a_p1, .inr (11, [.ref a_p1_d, .int p1_len])), (a_p1_d, .inl (cI, 520, .inl p1_d))] H → va_D A [(a_p0, .inr (11, [.ref a_p0_d, .int w.1])), (a_p0_d, .inl (cI, 520, .inl w.2)), (a_p1, .inr (11, [.ref a_p1_d, .int p1_len])), (a_p1_d, .inl (cI, 520, .inl p1_d))] → va_S A s.heap H locs → W p l e (rmz 1 21) s m ar below meth c H locs 0 0 Q (F0 m pc ls []) := fun w hw => hw ▸ hret
  have keyB69 : ∀ (p0_len : Int32) (p0_d : (Nat → Int32)) (H : Heap) (locs : List Loc) (ls : Array Slot), f_X10_less_B69 p1_len p1_d p0_len p0_d = some u → va_P D vwCl [(a_p0, .inr (11, [.ref a_p0_d, .int p0_len])), (a_p0_d, .inl (cI, 520, .inl p0_d)), (a_p1, .inr (11, [.ref a_p1_d, .int p1_len])), (a_p1_d, .inl (cI, 520, .inl p1_d))] H → va_D A [(a_p0, .inr (11, [.ref a_p0_d, .int p0_len])), (a_p0_d, .inl (cI, 520, .inl p0_d)), (a_p1, .inr (11, [.ref a_p1_d, .int p1_len])), (a_p1_d, .inl (cI, 520, .inl p1_d))] → va_S A s.heap H locs → lv_has ls 5 [(0, .ref a_p0)] → W p l e (rmz 1 21) s m ar below meth c H locs 0 0 Q (F0 m 69 ls []) := by
    intro p0_len p0_d H locs ls hf hP hD hS hl
    unfold f_X10_less_B69 at hf
    refine lv_aload_n hx hb dX10_less_69 rfl (lv_at hl 0 rfl) ?_
    refine lv_aload_n hx hb dX10_less_70 rfl (lv_at hl 0 rfl) ?_
    refine va_get (D := D) (ci := 11) (v := .int p0_len) (C := RX10) (T := TX10) (N := 2) hx hb hts uwX10 hown hK hP 0 rfl rfl 1 (by decide) (hts _ kfX10_15) (fun _ h9 => h9) rfl dX10_less_71 ?_
    obtain ⟨u1, hu2, hf⟩ := bdE hf
    refine cV_V (ws' := [(a_p0, .inr (11, [.ref a_p0_d, .int u1])), (a_p0_d, .inl (cI, 520, .inl p0_d)), (a_p1, .inr (11, [.ref a_p1_d, .int p1_len])), (a_p1_d, .inl (cI, 520, .inl p1_d))]) (rest := []) S hK hN hA hP hD hS (c_X10_trim l D cI cJ a_p0 a_p0_d p0_len p0_len p0_d u1 hu2) mwX10_trim miX10_trim kmX10_33 [0, 1] rfl (by decide) rfl rfl rfl 0 rfl rfl ⟨Nat.le_of_ble_eq_true rfl, Nat.le_of_ble_eq_true rfl⟩ ⟨Nat.zero_le _, Nat.zero_le _⟩ hl.1 rfl rfl (Nat.le_of_ble_eq_true rfl) dX10_less_74 (fun H locs hP hD hS => ?_)
    exact hret _ (opE hf) H locs ls 77 dX10_less_77 hP hD hS
  have keyB51 : ∀ (kL4 : Int32 → Int32 → Int32 → (Nat → Int32) → Option (Int32 × (Nat → Int32))) (hL4 : ∀ (v2 : Int32) (v3 : Int32) (p0_len : Int32) (p0_d : (Nat → Int32)) (H : Heap) (locs : List Loc) (ls : Array Slot), kL4 v2 v3 p0_len p0_d = some u → va_P D vwCl [(a_p0, .inr (11, [.ref a_p0_d, .int p0_len])), (a_p0_d, .inl (cI, 520, .inl p0_d)), (a_p1, .inr (11, [.ref a_p1_d, .int p1_len])), (a_p1_d, .inl (cI, 520, .inl p1_d))] H → va_D A [(a_p0, .inr (11, [.ref a_p0_d, .int p0_len])), (a_p0_d, .inl (cI, 520, .inl p0_d)), (a_p1, .inr (11, [.ref a_p1_d, .int p1_len])), (a_p1_d, .inl (cI, 520, .inl p1_d))] → va_S A s.heap H locs → lv_has ls 5 [(0, .ref a_p0), (1, .ref a_p1), (2, .int v2), (3, .int v3)] → W p l e (rmz 1 21) s m ar below meth c H locs 0 0 Q (F0 m 4 ls [])) (v3 : Int32) (v4 : Int32) (s0 : Int32) (p0_len : Int32) (p0_d : (Nat → Int32)) (H : Heap) (locs : List Loc) (ls : Array Slot), f_X10_less_B51 p1_len p1_d kL4 v3 v4 s0 p0_len p0_d = some u → va_P D vwCl [(a_p0, .inr (11, [.ref a_p0_d, .int p0_len])), (a_p0_d, .inl (cI, 520, .inl p0_d)), (a_p1, .inr (11, [.ref a_p1_d, .int p1_len])), (a_p1_d, .inl (cI, 520, .inl p1_d))] H → va_D A [(a_p0, .inr (11, [.ref a_p0_d, .int p0_len])), (a_p0_d, .inl (cI, 520, .inl p0_d)), (a_p1, .inr (11, [.ref a_p1_d, .int p1_len])), (a_p1_d, .inl (cI, 520, .inl p1_d))] → va_S A s.heap H locs → lv_has ls 5 [(0, .ref a_p0), (1, .ref a_p1), (3, .int v3), (4, .int v4)] → W p l e (rmz 1 21) s m ar below meth c H locs 0 0 Q (F0 m 51 ls [.int s0]) := by
    intro kL4 hL4 v3 v4 s0 p0_len p0_d H locs ls hf hP hD hS hl
    unfold f_X10_less_B51 at hf
    refine lv_istore_n (lv' := [(2, .int s0), (0, .ref a_p0), (1, .ref a_p1), (3, .int v3), (4, .int v4)]) hx hb dX10_less_51 rfl hl (by decide) rfl (fun ls hl => ?_)
    refine lv_aload_n hx hb dX10_less_52 rfl (lv_at hl 1 rfl) ?_
    refine va_get (D := D) (ci := 11) (v := .ref a_p0_d) (C := RX10) (T := TX10) (N := 2) hx hb hts uwX10 hown hK hP 0 rfl rfl 0 (by decide) (hts _ kfX10_9) (fun _ h9 => h9) rfl dX10_less_53 ?_
    refine lv_iload_n hx hb dX10_less_56 rfl (lv_at hl 3 rfl) ?_
    refine lv_iload hx hb dX10_less_57 (lv_at hl 4 rfl) ?_
    refine lv_ldc hx hb hown (hts _ kcX10_37) dX10_less_59 ?_
    refine lv_iand hx hb dX10_less_61 ?_
    obtain ⟨hi4, hf⟩ := gdE hf
    refine va_iast hx hb hK hP hD hS 1 0 rfl rfl hi4 dX10_less_62 (fun H locs hP hD hS => ?_)
    have hP : va_P D vwCl [(a_p0, .inr (11, [.ref a_p0_d, .int p0_len])), (a_p0_d, .inl (cI, 520, .inl (upd p0_d v3.toNatClampNeg (v4 &&& (1073741823 : Int32))))), (a_p1, .inr (11, [.ref a_p1_d, .int p1_len])), (a_p1_d, .inl (cI, 520, .inl p1_d))] H := hP
    have hD : va_D A [(a_p0, .inr (11, [.ref a_p0_d, .int p0_len])), (a_p0_d, .inl (cI, 520, .inl (upd p0_d v3.toNatClampNeg (v4 &&& (1073741823 : Int32))))), (a_p1, .inr (11, [.ref a_p1_d, .int p1_len])), (a_p1_d, .inl (cI, 520, .inl p1_d))] := hD
    refine lv_iinc (v := v3 + (1 : Int32)) (lv' := [(3, .int (v3 + (1 : Int32))), (2, .int s0), (0, .ref a_p0), (1, .ref a_p1), (4, .int v4)]) hx hb dX10_less_63 hl (k := 3) rfl (by rfl) (by decide) rfl (fun ls hl => ?_)
    refine lv_goto (tgt := 4) hx hb dX10_less_66 (by decide) ?_
    exact hL4 s0 (v3 + (1 : Int32)) p0_len (upd p0_d v3.toNatClampNeg (v4 &&& (1073741823 : Int32))) H locs ls hf hP hD hS (lv_sub hl [2, 3, 1, 0] rfl)
  have keyB38 : ∀ (kL4 : Int32 → Int32 → Int32 → (Nat → Int32) → Option (Int32 × (Nat → Int32))) (hL4 : ∀ (v2 : Int32) (v3 : Int32) (p0_len : Int32) (p0_d : (Nat → Int32)) (H : Heap) (locs : List Loc) (ls : Array Slot), kL4 v2 v3 p0_len p0_d = some u → va_P D vwCl [(a_p0, .inr (11, [.ref a_p0_d, .int p0_len])), (a_p0_d, .inl (cI, 520, .inl p0_d)), (a_p1, .inr (11, [.ref a_p1_d, .int p1_len])), (a_p1_d, .inl (cI, 520, .inl p1_d))] H → va_D A [(a_p0, .inr (11, [.ref a_p0_d, .int p0_len])), (a_p0_d, .inl (cI, 520, .inl p0_d)), (a_p1, .inr (11, [.ref a_p1_d, .int p1_len])), (a_p1_d, .inl (cI, 520, .inl p1_d))] → va_S A s.heap H locs → lv_has ls 5 [(0, .ref a_p0), (1, .ref a_p1), (2, .int v2), (3, .int v3)] → W p l e (rmz 1 21) s m ar below meth c H locs 0 0 Q (F0 m 4 ls [])) (v3 : Int32) (s0 : Int32) (s1 : Int32) (p0_len : Int32) (p0_d : (Nat → Int32)) (H : Heap) (locs : List Loc) (ls : Array Slot), f_X10_less_B38 p1_len p1_d kL4 v3 s0 s1 p0_len p0_d = some u → va_P D vwCl [(a_p0, .inr (11, [.ref a_p0_d, .int p0_len])), (a_p0_d, .inl (cI, 520, .inl p0_d)), (a_p1, .inr (11, [.ref a_p1_d, .int p1_len])), (a_p1_d, .inl (cI, 520, .inl p1_d))] H → va_D A [(a_p0, .inr (11, [.ref a_p0_d, .int p0_len])), (a_p0_d, .inl (cI, 520, .inl p0_d)), (a_p1, .inr (11, [.ref a_p1_d, .int p1_len])), (a_p1_d, .inl (cI, 520, .inl p1_d))] → va_S A s.heap H locs → lv_has ls 5 [(0, .ref a_p0), (1, .ref a_p1), (3, .int v3)] → W p l e (rmz 1 21) s m ar below meth c H locs 0 0 Q (F0 m 38 ls [.int s1, .int s0]) := by
    intro kL4 hL4 v3 s0 s1 p0_len p0_d H locs ls hf hP hD hS hl
    unfold f_X10_less_B38 at hf
    refine lv_isub hx hb dX10_less_38 ?_
    refine lv_istore (lv' := [(4, .int (s0 - s1)), (0, .ref a_p0), (1, .ref a_p1), (3, .int v3)]) hx hb dX10_less_39 hl (by decide) rfl (fun ls hl => ?_)
    refine lv_iload hx hb dX10_less_41 (lv_at hl 0 rfl) ?_
    refine lv_if_ge (tgt := 50) hx hb dX10_less_43 (by decide) (fun hc5 => ?_) (fun hc5 => ?_)
    · have hf := ifT hc5 hf
      refine lv_iconst (v := 0) hx hb dX10_less_50 (by decide) ?_
      exact keyB51 kL4 hL4 v3 (s0 - s1) (0 : Int32) p0_len p0_d H locs ls hf hP hD hS (lv_sub hl [1, 2, 3, 0] rfl)
    · have hf := ifF hc5 hf
      refine lv_iconst (v := 1) hx hb dX10_less_46 (by decide) ?_
      refine lv_goto (tgt := 51) hx hb dX10_less_47 (by decide) ?_
      exact keyB51 kL4 hL4 v3 (s0 - s1) (1 : Int32) p0_len p0_d H locs ls hf hP hD hS (lv_sub hl [1, 2, 3, 0] rfl)
  have keyL4 : ∀ (n : Nat) (v2 : Int32) (v3 : Int32) (p0_len : Int32) (p0_d : (Nat → Int32)) (H : Heap) (locs : List Loc) (ls : Array Slot), f_X10_less_L4 p1_len p1_d n v2 v3 p0_len p0_d = some u → va_P D vwCl [(a_p0, .inr (11, [.ref a_p0_d, .int p0_len])), (a_p0_d, .inl (cI, 520, .inl p0_d)), (a_p1, .inr (11, [.ref a_p1_d, .int p1_len])), (a_p1_d, .inl (cI, 520, .inl p1_d))] H → va_D A [(a_p0, .inr (11, [.ref a_p0_d, .int p0_len])), (a_p0_d, .inl (cI, 520, .inl p0_d)), (a_p1, .inr (11, [.ref a_p1_d, .int p1_len])), (a_p1_d, .inl (cI, 520, .inl p1_d))] → va_S A s.heap H locs → lv_has ls 5 [(0, .ref a_p0), (1, .ref a_p1), (2, .int v2), (3, .int v3)] → W p l e (rmz 1 21) s m ar below meth c H locs 0 0 Q (F0 m 4 ls []) := by
    intro n
    induction n with
      | zero =>
        intro v2 v3 p0_len p0_d H locs ls hf
        cases hf
      | succ n ih =>
        intro v2 v3 p0_len p0_d H locs ls hf hP hD hS hl
        rw [f_X10_less_L4] at hf
        refine lv_iload_n hx hb dX10_less_4 rfl (lv_at hl 3 rfl) ?_
        refine lv_aload_n hx hb dX10_less_5 rfl (lv_at hl 0 rfl) ?_
        refine va_get (D := D) (ci := 11) (v := .int p0_len) (C := RX10) (T := TX10) (N := 2) hx hb hts uwX10 hown hK hP 0 rfl rfl 1 (by decide) (hts _ kfX10_15) (fun _ h9 => h9) rfl dX10_less_6 ?_
        refine lv_icmp_ge (tgt := 69) hx hb dX10_less_9 (by decide) (fun hc7 => ?_) (fun hc7 => ?_)
        · have hf := ifT hc7 hf
          exact keyB69 p0_len p0_d H locs ls hf hP hD hS (lv_sub hl [0] rfl)
        · have hf := ifF hc7 hf
          refine lv_aload_n hx hb dX10_less_12 rfl (lv_at hl 0 rfl) ?_
          refine va_get (D := D) (ci := 11) (v := .ref a_p0_d) (C := RX10) (T := TX10) (N := 2) hx hb hts uwX10 hown hK hP 0 rfl rfl 0 (by decide) (hts _ kfX10_9) (fun _ h9 => h9) rfl dX10_less_13 ?_
          refine lv_iload_n hx hb dX10_less_16 rfl (lv_at hl 3 rfl) ?_
          obtain ⟨hi3, hf⟩ := gdE hf
          refine va_iald hx hb hK hP 1 0 rfl rfl hi3 dX10_less_17 ?_
          refine lv_iload_n hx hb dX10_less_18 rfl (lv_at hl 2 rfl) ?_
          refine lv_isub hx hb dX10_less_19 ?_
          refine lv_iload_n hx hb dX10_less_20 rfl (lv_at hl 3 rfl) ?_
          refine lv_aload_n hx hb dX10_less_21 rfl (lv_at hl 1 rfl) ?_
          refine va_get (D := D) (ci := 11) (v := .int p1_len) (C := RX10) (T := TX10) (N := 2) hx hb hts uwX10 hown hK hP 2 rfl rfl 1 (by decide) (hts _ kfX10_15) (fun _ h9 => h9) rfl dX10_less_22 ?_
          refine lv_icmp_ge (tgt := 37) hx hb dX10_less_25 (by decide) (fun hc6 => ?_) (fun hc6 => ?_)
          · have hf := ifT hc6 hf
            refine lv_iconst (v := 0) hx hb dX10_less_37 (by decide) ?_
            exact keyB38 (f_X10_less_L4 p1_len p1_d n) ih v3 ((p0_d v3.toNatClampNeg) - v2) (0 : Int32) p0_len p0_d H locs ls hf hP hD hS (lv_sub hl [0, 1, 3] rfl)
          · have hf := ifF hc6 hf
            refine lv_aload_n hx hb dX10_less_28 rfl (lv_at hl 1 rfl) ?_
            refine va_get (D := D) (ci := 11) (v := .ref a_p1_d) (C := RX10) (T := TX10) (N := 2) hx hb hts uwX10 hown hK hP 2 rfl rfl 0 (by decide) (hts _ kfX10_9) (fun _ h9 => h9) rfl dX10_less_29 ?_
            refine lv_iload_n hx hb dX10_less_32 rfl (lv_at hl 3 rfl) ?_
            refine va_iald hx hb hK hP 3 0 rfl rfl hi3 dX10_less_33 ?_
            refine lv_goto (tgt := 38) hx hb dX10_less_34 (by decide) ?_
            exact keyB38 (f_X10_less_L4 p1_len p1_d n) ih v3 ((p0_d v3.toNatClampNeg) - v2) (p1_d v3.toNatClampNeg) p0_len p0_d H locs ls hf hP hD hS (lv_sub hl [0, 1, 3] rfl)
  unfold f_X10_less at hf
  refine lv_iconst (v := 0) hx hb dX10_less_0 (by decide) ?_
  refine lv_istore_n (lv' := [(2, .int (0 : Int32)), (0, .ref a_p0), (1, .ref a_p1)]) hx hb dX10_less_1 rfl hl (by decide) rfl (fun ls hl => ?_)
  refine lv_iconst (v := 0) hx hb dX10_less_2 (by decide) ?_
  refine lv_istore_n (lv' := [(3, .int (0 : Int32)), (2, .int (0 : Int32)), (0, .ref a_p0), (1, .ref a_p1)]) hx hb dX10_less_3 rfl hl (by decide) rfl (fun ls hl => ?_)
  exact keyL4 FU (0 : Int32) (0 : Int32) p0_len p0_d H locs ls hf hP hD hS (lv_sub hl [2, 3, 1, 0] rfl)
set_option maxRecDepth 100000 in
set_option maxHeartbeats 4000000 in
theorem c_X10_times (l : Launch) (D : va_G) (cI cJ : ClassId) (a_p0 a_p0_d : Nat) (p1 : Int64) (p2 : Int32) (p0_len : Int32) (p0_d : (Nat → Int32)) (u : Int32 × (Nat → Int32)) (hf : f_X10_times p1 p2 p0_len p0_d = some u) : CtV l yX10_times cX10_times 7 1 21 [.ref a_p0, .long p1, .int p2] D cI cJ [(a_p0, .inr (11, [.ref a_p0_d, .int p0_len])), (a_p0_d, .inl (cI, 520, .inl p0_d))] [(a_p0, .inr (11, [.ref a_p0_d, .int u.1])), (a_p0_d, .inl (cI, 520, .inl u.2))] := by
  refine mkV (own := RX10) rfl (by decide +kernel) (Nat.le_of_ble_eq_true rfl) (lv := [(0, .ref a_p0), (1, .long p1), (3, .int p2)]) rfl ?_
  intro p e s m below meth c Q A ls ar S hA hK hN hret H locs hP hD hS hl
  obtain ⟨hx, hb, hml, hown, hts⟩ := id S
  have hret : ∀ (w : Int32 × (Nat → Int32)), w = u → ∀ (H : Heap) (locs : List Loc) (ls : Array Slot) (pc : Nat), decode cX10_times pc = .ok (.return_, 1) → va_P D vwCl [(a_p0, .inr (11, [.ref a_p0_d, .int w.1])), (a_p0_d, .inl (cI, 520, .inl w.2))] H → va_D A [(a_p0, .inr (11, [.ref a_p0_d, .int w.1])), (a_p0_d, .inl (cI, 520, .inl w.2))] → va_S A s.heap H locs → W p l e (rmz 1 21) s m ar below meth c H locs 0 0 Q (F0 m pc ls []) := fun w hw => hw ▸ hret
  have keyB101 : ∀ (p0_len : Int32) (p0_d : (Nat → Int32)) (H : Heap) (locs : List Loc) (ls : Array Slot), f_X10_times_B101 p0_len p0_d = some u → va_P D vwCl [(a_p0, .inr (11, [.ref a_p0_d, .int p0_len])), (a_p0_d, .inl (cI, 520, .inl p0_d))] H → va_D A [(a_p0, .inr (11, [.ref a_p0_d, .int p0_len])), (a_p0_d, .inl (cI, 520, .inl p0_d))] → va_S A s.heap H locs → lv_has ls 7 [(0, .ref a_p0)] → W p l e (rmz 1 21) s m ar below meth c H locs 0 0 Q (F0 m 101 ls []) := by
    intro p0_len p0_d H locs ls hf hP hD hS hl
    unfold f_X10_times_B101 at hf
    refine lv_aload_n hx hb dX10_times_101 rfl (lv_at hl 0 rfl) ?_
    refine lv_aload_n hx hb dX10_times_102 rfl (lv_at hl 0 rfl) ?_
    refine va_get (D := D) (ci := 11) (v := .int p0_len) (C := RX10) (T := TX10) (N := 2) hx hb hts uwX10 hown hK hP 0 rfl rfl 1 (by decide) (hts _ kfX10_15) (fun _ h9 => h9) rfl dX10_times_103 ?_
    obtain ⟨u1, hu2, hf⟩ := bdE hf
    refine cV_V (ws' := [(a_p0, .inr (11, [.ref a_p0_d, .int u1])), (a_p0_d, .inl (cI, 520, .inl p0_d))]) (rest := []) S hK hN hA hP hD hS (c_X10_trim l D cI cJ a_p0 a_p0_d p0_len p0_len p0_d u1 hu2) mwX10_trim miX10_trim kmX10_33 [0, 1] rfl (by decide) rfl rfl rfl 0 rfl rfl ⟨Nat.le_of_ble_eq_true rfl, Nat.le_of_ble_eq_true rfl⟩ ⟨Nat.zero_le _, Nat.zero_le _⟩ hl.1 rfl rfl (Nat.le_of_ble_eq_true rfl) dX10_times_106 (fun H locs hP hD hS => ?_)
    exact hret _ (opE hf) H locs ls 109 dX10_times_109 hP hD hS
  have keyL58 : ∀ (n : Nat) (v4 : Int64) (p0_len : Int32) (p0_d : (Nat → Int32)) (H : Heap) (locs : List Loc) (ls : Array Slot), f_X10_times_L58 n v4 p0_len p0_d = some u → va_P D vwCl [(a_p0, .inr (11, [.ref a_p0_d, .int p0_len])), (a_p0_d, .inl (cI, 520, .inl p0_d))] H → va_D A [(a_p0, .inr (11, [.ref a_p0_d, .int p0_len])), (a_p0_d, .inl (cI, 520, .inl p0_d))] → va_S A s.heap H locs → lv_has ls 7 [(0, .ref a_p0), (4, .long v4)] → W p l e (rmz 1 21) s m ar below meth c H locs 0 0 Q (F0 m 58 ls []) := by
    intro n
    induction n with
      | zero =>
        intro v4 p0_len p0_d H locs ls hf
        cases hf
      | succ n ih =>
        intro v4 p0_len p0_d H locs ls hf hP hD hS hl
        rw [f_X10_times_L58] at hf
        refine lv_lload hx hb dX10_times_58 (lv_at hl 1 rfl) ?_
        refine lv_lconst (v := 0) hx hb dX10_times_60 (by decide) ?_
        refine W.lcmp hx hb dX10_times_61 ?_
        refine lv_if_eq (tgt := 101) hx hb dX10_times_62 (by decide) (fun hc4 => ?_) (fun hc4 => ?_)
        · have hf := ifT hc4 hf
          exact keyB101 p0_len p0_d H locs ls hf hP hD hS (lv_sub hl [0] rfl)
        · have hf := ifF hc4 hf
          refine lv_aload_n hx hb dX10_times_65 rfl (lv_at hl 0 rfl) ?_
          refine va_get (D := D) (ci := 11) (v := .ref a_p0_d) (C := RX10) (T := TX10) (N := 2) hx hb hts uwX10 hown hK hP 0 rfl rfl 0 (by decide) (hts _ kfX10_9) (fun _ h9 => h9) rfl dX10_times_66 ?_
          refine lv_aload_n hx hb dX10_times_69 rfl (lv_at hl 0 rfl) ?_
          refine va_get (D := D) (ci := 11) (v := .int p0_len) (C := RX10) (T := TX10) (N := 2) hx hb hts uwX10 hown hK hP 0 rfl rfl 1 (by decide) (hts _ kfX10_15) (fun _ h9 => h9) rfl dX10_times_70 ?_
          refine lv_lload hx hb dX10_times_73 (lv_at hl 1 rfl) ?_
          refine lv_ldc2 hx hb hown (hts _ kcX10_19) dX10_times_75 ?_
          refine lv_land hx hb dX10_times_78 ?_
          refine lv_l2i (v := (v4 &&& (1073741823 : Int64)).toInt32) hx hb dX10_times_79 rfl ?_
          obtain ⟨hi3, hf⟩ := gdE hf
          refine va_iast hx hb hK hP hD hS 1 0 rfl rfl hi3 dX10_times_80 (fun H locs hP hD hS => ?_)
          have hP : va_P D vwCl [(a_p0, .inr (11, [.ref a_p0_d, .int p0_len])), (a_p0_d, .inl (cI, 520, .inl (upd p0_d p0_len.toNatClampNeg ((v4 &&& (1073741823 : Int64)).toInt32))))] H := hP
          have hD : va_D A [(a_p0, .inr (11, [.ref a_p0_d, .int p0_len])), (a_p0_d, .inl (cI, 520, .inl (upd p0_d p0_len.toNatClampNeg ((v4 &&& (1073741823 : Int64)).toInt32))))] := hD
          refine lv_aload_n hx hb dX10_times_81 rfl (lv_at hl 0 rfl) ?_
          refine lv_dup hx hb dX10_times_82 rfl ?_
          refine va_get (D := D) (ci := 11) (v := .int p0_len) (C := RX10) (T := TX10) (N := 2) hx hb hts uwX10 hown hK hP 0 rfl rfl 1 (by decide) (hts _ kfX10_15) (fun _ h9 => h9) rfl dX10_times_83 ?_
          refine lv_iconst (v := 1) hx hb dX10_times_86 (by decide) ?_
          refine lv_iadd hx hb dX10_times_87 ?_
          refine va_put (D := D) (ci := 11) (v := .int (p0_len + (1 : Int32))) (ty := tyX10 1) (C := RX10) (T := TX10) (N := 2) hx hb hts uwX10 tyX10 tyX10_ok nmX10 hown hK hP hD hS 0 rfl rfl 1 (by decide) (hts _ kfX10_15) (fun _ h9 => h9) rfl (tyX10_ok 1 (by decide)) rfl rfl (Nat.le_of_ble_eq_true rfl) dX10_times_88 (fun H locs hP hD hS => ?_)
          have hP : va_P D vwCl [(a_p0, .inr (11, [.ref a_p0_d, .int (p0_len + (1 : Int32))])), (a_p0_d, .inl (cI, 520, .inl (upd p0_d p0_len.toNatClampNeg ((v4 &&& (1073741823 : Int64)).toInt32))))] H := hP
          have hD : va_D A [(a_p0, .inr (11, [.ref a_p0_d, .int (p0_len + (1 : Int32))])), (a_p0_d, .inl (cI, 520, .inl (upd p0_d p0_len.toNatClampNeg ((v4 &&& (1073741823 : Int64)).toInt32))))] := hD
          refine lv_lload hx hb dX10_times_91 (lv_at hl 1 rfl) ?_
          refine lv_bipush (v := 30) hx hb dX10_times_93 (by decide) ?_
          refine lv_lshr (v := lsr v4 (30 : Int32)) hx hb dX10_times_95 rfl ?_
          refine lv_lstore (lv' := [(4, .long (lsr v4 (30 : Int32))), (0, .ref a_p0)]) hx hb dX10_times_96 hl (by decide) rfl (fun ls hl => ?_)
          refine lv_goto (tgt := 58) hx hb dX10_times_98 (by decide) ?_
          exact ih (lsr v4 (30 : Int32)) (p0_len + (1 : Int32)) (upd p0_d p0_len.toNatClampNeg ((v4 &&& (1073741823 : Int64)).toInt32)) H locs ls hf hP hD hS (lv_sub hl [1, 0] rfl)
  have keyL7 : ∀ (n : Nat) (v1 : Int64) (v4 : Int64) (v6 : Int32) (p0_len : Int32) (p0_d : (Nat → Int32)) (H : Heap) (locs : List Loc) (ls : Array Slot), f_X10_times_L7 n v1 v4 v6 p0_len p0_d = some u → va_P D vwCl [(a_p0, .inr (11, [.ref a_p0_d, .int p0_len])), (a_p0_d, .inl (cI, 520, .inl p0_d))] H → va_D A [(a_p0, .inr (11, [.ref a_p0_d, .int p0_len])), (a_p0_d, .inl (cI, 520, .inl p0_d))] → va_S A s.heap H locs → lv_has ls 7 [(0, .ref a_p0), (1, .long v1), (4, .long v4), (6, .int v6)] → W p l e (rmz 1 21) s m ar below meth c H locs 0 0 Q (F0 m 7 ls []) := by
    intro n
    induction n with
      | zero =>
        intro v1 v4 v6 p0_len p0_d H locs ls hf
        cases hf
      | succ n ih =>
        intro v1 v4 v6 p0_len p0_d H locs ls hf hP hD hS hl
        rw [f_X10_times_L7] at hf
        refine lv_iload hx hb dX10_times_7 (lv_at hl 3 rfl) ?_
        refine lv_aload_n hx hb dX10_times_9 rfl (lv_at hl 0 rfl) ?_
        refine va_get (D := D) (ci := 11) (v := .int p0_len) (C := RX10) (T := TX10) (N := 2) hx hb hts uwX10 hown hK hP 0 rfl rfl 1 (by decide) (hts _ kfX10_15) (fun _ h9 => h9) rfl dX10_times_10 ?_
        refine lv_icmp_ge (tgt := 58) hx hb dX10_times_13 (by decide) (fun hc6 => ?_) (fun hc6 => ?_)
        · have hf := ifT hc6 hf
          exact keyL58 FU v4 p0_len p0_d H locs ls hf hP hD hS (lv_sub hl [0, 2] rfl)
        · have hf := ifF hc6 hf
          refine lv_lload hx hb dX10_times_16 (lv_at hl 2 rfl) ?_
          refine lv_aload_n hx hb dX10_times_18 rfl (lv_at hl 0 rfl) ?_
          refine va_get (D := D) (ci := 11) (v := .ref a_p0_d) (C := RX10) (T := TX10) (N := 2) hx hb hts uwX10 hown hK hP 0 rfl rfl 0 (by decide) (hts _ kfX10_9) (fun _ h9 => h9) rfl dX10_times_19 ?_
          refine lv_iload hx hb dX10_times_22 (lv_at hl 3 rfl) ?_
          obtain ⟨hi5, hf⟩ := gdE hf
          refine va_iald hx hb hK hP 1 0 rfl rfl hi5 dX10_times_24 ?_
          refine lv_i2l (v := (p0_d v6.toNatClampNeg).toInt64) hx hb dX10_times_25 rfl ?_
          refine lv_lload_n hx hb dX10_times_26 rfl (lv_at hl 1 rfl) ?_
          refine lv_lmul hx hb dX10_times_27 ?_
          refine lv_ladd hx hb dX10_times_28 ?_
          refine lv_lstore (lv' := [(4, .long (v4 + (((p0_d v6.toNatClampNeg).toInt64) * v1))), (0, .ref a_p0), (1, .long v1), (6, .int v6)]) hx hb dX10_times_29 hl (by decide) rfl (fun ls hl => ?_)
          refine lv_aload_n hx hb dX10_times_31 rfl (lv_at hl 1 rfl) ?_
          refine va_get (D := D) (ci := 11) (v := .ref a_p0_d) (C := RX10) (T := TX10) (N := 2) hx hb hts uwX10 hown hK hP 0 rfl rfl 0 (by decide) (hts _ kfX10_9) (fun _ h9 => h9) rfl dX10_times_32 ?_
          refine lv_iload hx hb dX10_times_35 (lv_at hl 3 rfl) ?_
          refine lv_lload hx hb dX10_times_37 (lv_at hl 0 rfl) ?_
          refine lv_ldc2 hx hb hown (hts _ kcX10_19) dX10_times_39 ?_
          refine lv_land hx hb dX10_times_42 ?_
          refine lv_l2i (v := ((v4 + (((p0_d v6.toNatClampNeg).toInt64) * v1)) &&& (1073741823 : Int64)).toInt32) hx hb dX10_times_43 rfl ?_
          refine va_iast hx hb hK hP hD hS 1 0 rfl rfl hi5 dX10_times_44 (fun H locs hP hD hS => ?_)
          have hP : va_P D vwCl [(a_p0, .inr (11, [.ref a_p0_d, .int p0_len])), (a_p0_d, .inl (cI, 520, .inl (upd p0_d v6.toNatClampNeg (((v4 + (((p0_d v6.toNatClampNeg).toInt64) * v1)) &&& (1073741823 : Int64)).toInt32))))] H := hP
          have hD : va_D A [(a_p0, .inr (11, [.ref a_p0_d, .int p0_len])), (a_p0_d, .inl (cI, 520, .inl (upd p0_d v6.toNatClampNeg (((v4 + (((p0_d v6.toNatClampNeg).toInt64) * v1)) &&& (1073741823 : Int64)).toInt32))))] := hD
          refine lv_lload hx hb dX10_times_45 (lv_at hl 0 rfl) ?_
          refine lv_bipush (v := 30) hx hb dX10_times_47 (by decide) ?_
          refine lv_lshr (v := lsr (v4 + (((p0_d v6.toNatClampNeg).toInt64) * v1)) (30 : Int32)) hx hb dX10_times_49 rfl ?_
          refine lv_lstore (lv' := [(4, .long (lsr (v4 + (((p0_d v6.toNatClampNeg).toInt64) * v1)) (30 : Int32))), (0, .ref a_p0), (1, .long v1), (6, .int v6)]) hx hb dX10_times_50 hl (by decide) rfl (fun ls hl => ?_)
          refine lv_iinc (v := v6 + (1 : Int32)) (lv' := [(6, .int (v6 + (1 : Int32))), (4, .long (lsr (v4 + (((p0_d v6.toNatClampNeg).toInt64) * v1)) (30 : Int32))), (0, .ref a_p0), (1, .long v1)]) hx hb dX10_times_52 hl (k := 3) rfl (by rfl) (by decide) rfl (fun ls hl => ?_)
          refine lv_goto (tgt := 7) hx hb dX10_times_55 (by decide) ?_
          exact ih v1 (lsr (v4 + (((p0_d v6.toNatClampNeg).toInt64) * v1)) (30 : Int32)) (v6 + (1 : Int32)) p0_len (upd p0_d v6.toNatClampNeg (((v4 + (((p0_d v6.toNatClampNeg).toInt64) * v1)) &&& (1073741823 : Int64)).toInt32)) H locs ls hf hP hD hS (lv_sub hl [2, 3, 1, 0] rfl)
  unfold f_X10_times at hf
  refine lv_iload_n hx hb dX10_times_0 rfl (lv_at hl 2 rfl) ?_
  refine lv_i2l (v := p2.toInt64) hx hb dX10_times_1 rfl ?_
  refine lv_lstore (lv' := [(4, .long p2.toInt64), (0, .ref a_p0), (1, .long p1), (3, .int p2)]) hx hb dX10_times_2 hl (by decide) rfl (fun ls hl => ?_)
  refine lv_iconst (v := 0) hx hb dX10_times_4 (by decide) ?_
  refine lv_istore (lv' := [(6, .int (0 : Int32)), (4, .long p2.toInt64), (0, .ref a_p0), (1, .long p1), (3, .int p2)]) hx hb dX10_times_5 hl (by decide) rfl (fun ls hl => ?_)
  exact keyL7 FU p1 p2.toInt64 (0 : Int32) p0_len p0_d H locs ls hf hP hD hS (lv_sub hl [2, 3, 1, 0] rfl)
set_option maxRecDepth 100000 in
set_option maxHeartbeats 4000000 in
theorem c_X10_addTimes (l : Launch) (D : va_G) (cI cJ : ClassId) (a_p0 a_p0_d a_p1 a_p1_d : Nat) (p2 : Int64) (p0_len : Int32) (p0_d : (Nat → Int32)) (p1_len : Int32) (p1_d : (Nat → Int32)) (u : Int32 × (Nat → Int32)) (hf : f_X10_addTimes p1_len p1_d p2 p0_len p0_d = some u) : CtV l yX10_addTimes cX10_addTimes 8 1 21 [.ref a_p0, .ref a_p1, .long p2] D cI cJ [(a_p0, .inr (11, [.ref a_p0_d, .int p0_len])), (a_p0_d, .inl (cI, 520, .inl p0_d)), (a_p1, .inr (11, [.ref a_p1_d, .int p1_len])), (a_p1_d, .inl (cI, 520, .inl p1_d))] [(a_p0, .inr (11, [.ref a_p0_d, .int u.1])), (a_p0_d, .inl (cI, 520, .inl u.2)), (a_p1, .inr (11, [.ref a_p1_d, .int p1_len])), (a_p1_d, .inl (cI, 520, .inl p1_d))] := by
  refine mkV (own := RX10) rfl (by decide +kernel) (Nat.le_of_ble_eq_true rfl) (lv := [(0, .ref a_p0), (1, .ref a_p1), (2, .long p2)]) rfl ?_
  intro p e s m below meth c Q A ls ar S hA hK hN hret H locs hP hD hS hl
  obtain ⟨hx, hb, hml, hown, hts⟩ := id S
  have hret : ∀ (w : Int32 × (Nat → Int32)), w = u → ∀ (H : Heap) (locs : List Loc) (ls : Array Slot) (pc : Nat), decode cX10_addTimes pc = .ok (.return_, 1) → va_P D vwCl [(a_p0, .inr (11, [.ref a_p0_d, .int w.1])), (a_p0_d, .inl (cI, 520, .inl w.2)), (a_p1, .inr (11, [.ref a_p1_d, .int p1_len])), (a_p1_d, .inl (cI, 520, .inl p1_d))] H → va_D A [(a_p0, .inr (11, [.ref a_p0_d, .int w.1])), (a_p0_d, .inl (cI, 520, .inl w.2)), (a_p1, .inr (11, [.ref a_p1_d, .int p1_len])), (a_p1_d, .inl (cI, 520, .inl p1_d))] → va_S A s.heap H locs → W p l e (rmz 1 21) s m ar below meth c H locs 0 0 Q (F0 m pc ls []) := fun w hw => hw ▸ hret
  have keyB79 : ∀ (kL19 : Int64 → Int64 → Int32 → Int32 → Int32 → (Nat → Int32) → Option (Int32 × (Nat → Int32))) (hL19 : ∀ (v2 : Int64) (v4 : Int64) (v6 : Int32) (v7 : Int32) (p0_len : Int32) (p0_d : (Nat → Int32)) (H : Heap) (locs : List Loc) (ls : Array Slot), kL19 v2 v4 v6 v7 p0_len p0_d = some u → va_P D vwCl [(a_p0, .inr (11, [.ref a_p0_d, .int p0_len])), (a_p0_d, .inl (cI, 520, .inl p0_d)), (a_p1, .inr (11, [.ref a_p1_d, .int p1_len])), (a_p1_d, .inl (cI, 520, .inl p1_d))] H → va_D A [(a_p0, .inr (11, [.ref a_p0_d, .int p0_len])), (a_p0_d, .inl (cI, 520, .inl p0_d)), (a_p1, .inr (11, [.ref a_p1_d, .int p1_len])), (a_p1_d, .inl (cI, 520, .inl p1_d))] → va_S A s.heap H locs → lv_has ls 8 [(0, .ref a_p0), (1, .ref a_p1), (2, .long v2), (4, .long v4), (6, .int v6), (7, .int v7)] → W p l e (rmz 1 21) s m ar below meth c H locs 0 0 Q (F0 m 19 ls [])) (v2 : Int64) (v6 : Int32) (v7 : Int32) (s0 : Int64) (s1 : Int64) (s2 : Int64) (p0_len : Int32) (p0_d : (Nat → Int32)) (H : Heap) (locs : List Loc) (ls : Array Slot), f_X10_addTimes_B79 p1_len p1_d kL19 v2 v6 v7 s0 s1 s2 p0_len p0_d = some u → va_P D vwCl [(a_p0, .inr (11, [.ref a_p0_d, .int p0_len])), (a_p0_d, .inl (cI, 520, .inl p0_d)), (a_p1, .inr (11, [.ref a_p1_d, .int p1_len])), (a_p1_d, .inl (cI, 520, .inl p1_d))] H → va_D A [(a_p0, .inr (11, [.ref a_p0_d, .int p0_len])), (a_p0_d, .inl (cI, 520, .inl p0_d)), (a_p1, .inr (11, [.ref a_p1_d, .int p1_len])), (a_p1_d, .inl (cI, 520, .inl p1_d))] → va_S A s.heap H locs → lv_has ls 8 [(0, .ref a_p0), (1, .ref a_p1), (2, .long v2), (6, .int v6), (7, .int v7)] → W p l e (rmz 1 21) s m ar below meth c H locs 0 0 Q (F0 m 79 ls [.long s2, .long s1, .long s0]) := by
    intro kL19 hL19 v2 v6 v7 s0 s1 s2 p0_len p0_d H locs ls hf hP hD hS hl
    unfold f_X10_addTimes_B79 at hf
    refine lv_ladd hx hb dX10_addTimes_79 ?_
    refine lv_ladd hx hb dX10_addTimes_80 ?_
    refine lv_lstore (lv' := [(4, .long (s0 + (s1 + s2))), (0, .ref a_p0), (1, .ref a_p1), (2, .long v2), (6, .int v6), (7, .int v7)]) hx hb dX10_addTimes_81 hl (by decide) rfl (fun ls hl => ?_)
    refine lv_aload_n hx hb dX10_addTimes_83 rfl (lv_at hl 1 rfl) ?_
    refine va_get (D := D) (ci := 11) (v := .ref a_p0_d) (C := RX10) (T := TX10) (N := 2) hx hb hts uwX10 hown hK hP 0 rfl rfl 0 (by decide) (hts _ kfX10_9) (fun _ h9 => h9) rfl dX10_addTimes_84 ?_
    refine lv_iload hx hb dX10_addTimes_87 (lv_at hl 5 rfl) ?_
    refine lv_lload hx hb dX10_addTimes_89 (lv_at hl 0 rfl) ?_
    refine lv_ldc2 hx hb hown (hts _ kcX10_19) dX10_addTimes_91 ?_
    refine lv_land hx hb dX10_addTimes_94 ?_
    refine lv_l2i (v := ((s0 + (s1 + s2)) &&& (1073741823 : Int64)).toInt32) hx hb dX10_addTimes_95 rfl ?_
    obtain ⟨hi3, hf⟩ := gdE hf
    refine va_iast hx hb hK hP hD hS 1 0 rfl rfl hi3 dX10_addTimes_96 (fun H locs hP hD hS => ?_)
    have hP : va_P D vwCl [(a_p0, .inr (11, [.ref a_p0_d, .int p0_len])), (a_p0_d, .inl (cI, 520, .inl (upd p0_d v7.toNatClampNeg (((s0 + (s1 + s2)) &&& (1073741823 : Int64)).toInt32)))), (a_p1, .inr (11, [.ref a_p1_d, .int p1_len])), (a_p1_d, .inl (cI, 520, .inl p1_d))] H := hP
    have hD : va_D A [(a_p0, .inr (11, [.ref a_p0_d, .int p0_len])), (a_p0_d, .inl (cI, 520, .inl (upd p0_d v7.toNatClampNeg (((s0 + (s1 + s2)) &&& (1073741823 : Int64)).toInt32)))), (a_p1, .inr (11, [.ref a_p1_d, .int p1_len])), (a_p1_d, .inl (cI, 520, .inl p1_d))] := hD
    refine lv_lload hx hb dX10_addTimes_97 (lv_at hl 0 rfl) ?_
    refine lv_bipush (v := 30) hx hb dX10_addTimes_99 (by decide) ?_
    refine lv_lshr (v := lsr (s0 + (s1 + s2)) (30 : Int32)) hx hb dX10_addTimes_101 rfl ?_
    refine lv_lstore (lv' := [(4, .long (lsr (s0 + (s1 + s2)) (30 : Int32))), (0, .ref a_p0), (1, .ref a_p1), (2, .long v2), (6, .int v6), (7, .int v7)]) hx hb dX10_addTimes_102 hl (by decide) rfl (fun ls hl => ?_)
    refine lv_iload hx hb dX10_addTimes_104 (lv_at hl 4 rfl) ?_
    refine lv_iload hx hb dX10_addTimes_106 (lv_at hl 5 rfl) ?_
    refine lv_iconst (v := 1) hx hb dX10_addTimes_108 (by decide) ?_
    refine lv_iadd hx hb dX10_addTimes_109 ?_
    obtain ⟨u4, hu5, hf⟩ := bdE hf
    refine cS_I (ws' := [(a_p0, .inr (11, [.ref a_p0_d, .int p0_len])), (a_p0_d, .inl (cI, 520, .inl (upd p0_d v7.toNatClampNeg (((s0 + (s1 + s2)) &&& (1073741823 : Int64)).toInt32)))), (a_p1, .inr (11, [.ref a_p1_d, .int p1_len])), (a_p1_d, .inl (cI, 520, .inl p1_d))]) (rest := []) S hK hN hA hP hD hS (c_J9_max_7cf53 l D cI cJ  v6 (v7 + (1 : Int32))  u4 hu5) mwJ9_max_7cf53 msJ9_max_7cf53 kmX10_27 [] rfl (by decide) rfl rfl rfl ⟨Nat.le_of_ble_eq_true rfl, Nat.le_of_ble_eq_true rfl⟩ ⟨Nat.zero_le _, Nat.zero_le _⟩ hl.1 rfl rfl (Nat.le_of_ble_eq_true rfl) dX10_addTimes_110 (fun H locs hP hD hS => ?_)
    refine lv_istore (lv' := [(6, .int u4), (4, .long (lsr (s0 + (s1 + s2)) (30 : Int32))), (0, .ref a_p0), (1, .ref a_p1), (2, .long v2), (7, .int v7)]) hx hb dX10_addTimes_113 hl (by decide) rfl (fun ls hl => ?_)
    refine lv_iinc (v := v7 + (1 : Int32)) (lv' := [(7, .int (v7 + (1 : Int32))), (6, .int u4), (4, .long (lsr (s0 + (s1 + s2)) (30 : Int32))), (0, .ref a_p0), (1, .ref a_p1), (2, .long v2)]) hx hb dX10_addTimes_115 hl (k := 5) rfl (by rfl) (by decide) rfl (fun ls hl => ?_)
    refine lv_goto (tgt := 19) hx hb dX10_addTimes_118 (by decide) ?_
    exact hL19 v2 (lsr (s0 + (s1 + s2)) (30 : Int32)) u4 (v7 + (1 : Int32)) p0_len (upd p0_d v7.toNatClampNeg (((s0 + (s1 + s2)) &&& (1073741823 : Int64)).toInt32)) H locs ls hf hP hD hS (lv_sub hl [3, 4, 5, 2, 1, 0] rfl)
  have keyB55 : ∀ (kL19 : Int64 → Int64 → Int32 → Int32 → Int32 → (Nat → Int32) → Option (Int32 × (Nat → Int32))) (hL19 : ∀ (v2 : Int64) (v4 : Int64) (v6 : Int32) (v7 : Int32) (p0_len : Int32) (p0_d : (Nat → Int32)) (H : Heap) (locs : List Loc) (ls : Array Slot), kL19 v2 v4 v6 v7 p0_len p0_d = some u → va_P D vwCl [(a_p0, .inr (11, [.ref a_p0_d, .int p0_len])), (a_p0_d, .inl (cI, 520, .inl p0_d)), (a_p1, .inr (11, [.ref a_p1_d, .int p1_len])), (a_p1_d, .inl (cI, 520, .inl p1_d))] H → va_D A [(a_p0, .inr (11, [.ref a_p0_d, .int p0_len])), (a_p0_d, .inl (cI, 520, .inl p0_d)), (a_p1, .inr (11, [.ref a_p1_d, .int p1_len])), (a_p1_d, .inl (cI, 520, .inl p1_d))] → va_S A s.heap H locs → lv_has ls 8 [(0, .ref a_p0), (1, .ref a_p1), (2, .long v2), (4, .long v4), (6, .int v6), (7, .int v7)] → W p l e (rmz 1 21) s m ar below meth c H locs 0 0 Q (F0 m 19 ls [])) (v2 : Int64) (v6 : Int32) (v7 : Int32) (s0 : Int64) (s1 : Int32) (p0_len : Int32) (p0_d : (Nat → Int32)) (H : Heap) (locs : List Loc) (ls : Array Slot), f_X10_addTimes_B55 p1_len p1_d kL19 v2 v6 v7 s0 s1 p0_len p0_d = some u → va_P D vwCl [(a_p0, .inr (11, [.ref a_p0_d, .int p0_len])), (a_p0_d, .inl (cI, 520, .inl p0_d)), (a_p1, .inr (11, [.ref a_p1_d, .int p1_len])), (a_p1_d, .inl (cI, 520, .inl p1_d))] H → va_D A [(a_p0, .inr (11, [.ref a_p0_d, .int p0_len])), (a_p0_d, .inl (cI, 520, .inl p0_d)), (a_p1, .inr (11, [.ref a_p1_d, .int p1_len])), (a_p1_d, .inl (cI, 520, .inl p1_d))] → va_S A s.heap H locs → lv_has ls 8 [(0, .ref a_p0), (1, .ref a_p1), (2, .long v2), (6, .int v6), (7, .int v7)] → W p l e (rmz 1 21) s m ar below meth c H locs 0 0 Q (F0 m 55 ls [.int s1, .long s0]) := by
    intro kL19 hL19 v2 v6 v7 s0 s1 p0_len p0_d H locs ls hf hP hD hS hl
    unfold f_X10_addTimes_B55 at hf
    refine lv_i2l (v := s1.toInt64) hx hb dX10_addTimes_55 rfl ?_
    refine lv_iload hx hb dX10_addTimes_56 (lv_at hl 4 rfl) ?_
    refine lv_aload_n hx hb dX10_addTimes_58 rfl (lv_at hl 1 rfl) ?_
    refine va_get (D := D) (ci := 11) (v := .int p1_len) (C := RX10) (T := TX10) (N := 2) hx hb hts uwX10 hown hK hP 2 rfl rfl 1 (by decide) (hts _ kfX10_15) (fun _ h9 => h9) rfl dX10_addTimes_59 ?_
    refine lv_icmp_ge (tgt := 78) hx hb dX10_addTimes_62 (by decide) (fun hc7 => ?_) (fun hc7 => ?_)
    · have hf := ifT hc7 hf
      refine lv_lconst (v := 0) hx hb dX10_addTimes_78 (by decide) ?_
      exact keyB79 kL19 hL19 v2 v6 v7 s0 s1.toInt64 (0 : Int64) p0_len p0_d H locs ls hf hP hD hS (lv_sub hl [0, 1, 2, 3, 4] rfl)
    · have hf := ifF hc7 hf
      refine lv_aload_n hx hb dX10_addTimes_65 rfl (lv_at hl 1 rfl) ?_
      refine va_get (D := D) (ci := 11) (v := .ref a_p1_d) (C := RX10) (T := TX10) (N := 2) hx hb hts uwX10 hown hK hP 2 rfl rfl 0 (by decide) (hts _ kfX10_9) (fun _ h9 => h9) rfl dX10_addTimes_66 ?_
      refine lv_iload hx hb dX10_addTimes_69 (lv_at hl 4 rfl) ?_
      obtain ⟨hi6, hf⟩ := gdE hf
      refine va_iald hx hb hK hP 3 0 rfl rfl hi6 dX10_addTimes_71 ?_
      refine lv_i2l (v := (p1_d v7.toNatClampNeg).toInt64) hx hb dX10_addTimes_72 rfl ?_
      refine lv_lload_n hx hb dX10_addTimes_73 rfl (lv_at hl 2 rfl) ?_
      refine lv_lmul hx hb dX10_addTimes_74 ?_
      refine lv_goto (tgt := 79) hx hb dX10_addTimes_75 (by decide) ?_
      exact keyB79 kL19 hL19 v2 v6 v7 s0 s1.toInt64 (((p1_d v7.toNatClampNeg).toInt64) * v2) p0_len p0_d H locs ls hf hP hD hS (lv_sub hl [0, 1, 2, 3, 4] rfl)
  have keyB33 : ∀ (kL19 : Int64 → Int64 → Int32 → Int32 → Int32 → (Nat → Int32) → Option (Int32 × (Nat → Int32))) (hL19 : ∀ (v2 : Int64) (v4 : Int64) (v6 : Int32) (v7 : Int32) (p0_len : Int32) (p0_d : (Nat → Int32)) (H : Heap) (locs : List Loc) (ls : Array Slot), kL19 v2 v4 v6 v7 p0_len p0_d = some u → va_P D vwCl [(a_p0, .inr (11, [.ref a_p0_d, .int p0_len])), (a_p0_d, .inl (cI, 520, .inl p0_d)), (a_p1, .inr (11, [.ref a_p1_d, .int p1_len])), (a_p1_d, .inl (cI, 520, .inl p1_d))] H → va_D A [(a_p0, .inr (11, [.ref a_p0_d, .int p0_len])), (a_p0_d, .inl (cI, 520, .inl p0_d)), (a_p1, .inr (11, [.ref a_p1_d, .int p1_len])), (a_p1_d, .inl (cI, 520, .inl p1_d))] → va_S A s.heap H locs → lv_has ls 8 [(0, .ref a_p0), (1, .ref a_p1), (2, .long v2), (4, .long v4), (6, .int v6), (7, .int v7)] → W p l e (rmz 1 21) s m ar below meth c H locs 0 0 Q (F0 m 19 ls [])) (v2 : Int64) (v4 : Int64) (v6 : Int32) (v7 : Int32) (p0_len : Int32) (p0_d : (Nat → Int32)) (H : Heap) (locs : List Loc) (ls : Array Slot), f_X10_addTimes_B33 p1_len p1_d kL19 v2 v4 v6 v7 p0_len p0_d = some u → va_P D vwCl [(a_p0, .inr (11, [.ref a_p0_d, .int p0_len])), (a_p0_d, .inl (cI, 520, .inl p0_d)), (a_p1, .inr (11, [.ref a_p1_d, .int p1_len])), (a_p1_d, .inl (cI, 520, .inl p1_d))] H → va_D A [(a_p0, .inr (11, [.ref a_p0_d, .int p0_len])), (a_p0_d, .inl (cI, 520, .inl p0_d)), (a_p1, .inr (11, [.ref a_p1_d, .int p1_len])), (a_p1_d, .inl (cI, 520, .inl p1_d))] → va_S A s.heap H locs → lv_has ls 8 [(0, .ref a_p0), (1, .ref a_p1), (2, .long v2), (4, .long v4), (6, .int v6), (7, .int v7)] → W p l e (rmz 1 21) s m ar below meth c H locs 0 0 Q (F0 m 33 ls []) := by
    intro kL19 hL19 v2 v4 v6 v7 p0_len p0_d H locs ls hf hP hD hS hl
    unfold f_X10_addTimes_B33 at hf
    refine lv_lload hx hb dX10_addTimes_33 (lv_at hl 3 rfl) ?_
    refine lv_iload hx hb dX10_addTimes_35 (lv_at hl 5 rfl) ?_
    refine lv_aload_n hx hb dX10_addTimes_37 rfl (lv_at hl 0 rfl) ?_
    refine va_get (D := D) (ci := 11) (v := .int p0_len) (C := RX10) (T := TX10) (N := 2) hx hb hts uwX10 hown hK hP 0 rfl rfl 1 (by decide) (hts _ kfX10_15) (fun _ h9 => h9) rfl dX10_addTimes_38 ?_
    refine lv_icmp_ge (tgt := 54) hx hb dX10_addTimes_41 (by decide) (fun hc9 => ?_) (fun hc9 => ?_)
    · have hf := ifT hc9 hf
      refine lv_iconst (v := 0) hx hb dX10_addTimes_54 (by decide) ?_
      exact keyB55 kL19 hL19 v2 v6 v7 v4 (0 : Int32) p0_len p0_d H locs ls hf hP hD hS (lv_sub hl [0, 1, 2, 4, 5] rfl)
    · have hf := ifF hc9 hf
      refine lv_aload_n hx hb dX10_addTimes_44 rfl (lv_at hl 0 rfl) ?_
      refine va_get (D := D) (ci := 11) (v := .ref a_p0_d) (C := RX10) (T := TX10) (N := 2) hx hb hts uwX10 hown hK hP 0 rfl rfl 0 (by decide) (hts _ kfX10_9) (fun _ h9 => h9) rfl dX10_addTimes_45 ?_
      refine lv_iload hx hb dX10_addTimes_48 (lv_at hl 5 rfl) ?_
      obtain ⟨hi8, hf⟩ := gdE hf
      refine va_iald hx hb hK hP 1 0 rfl rfl hi8 dX10_addTimes_50 ?_
      refine lv_goto (tgt := 55) hx hb dX10_addTimes_51 (by decide) ?_
      exact keyB55 kL19 hL19 v2 v6 v7 v4 (p0_d v7.toNatClampNeg) p0_len p0_d H locs ls hf hP hD hS (lv_sub hl [0, 1, 2, 4, 5] rfl)
  have keyB121 : ∀ (v6 : Int32) (p0_len : Int32) (p0_d : (Nat → Int32)) (H : Heap) (locs : List Loc) (ls : Array Slot), f_X10_addTimes_B121 p1_len p1_d v6 p0_len p0_d = some u → va_P D vwCl [(a_p0, .inr (11, [.ref a_p0_d, .int p0_len])), (a_p0_d, .inl (cI, 520, .inl p0_d)), (a_p1, .inr (11, [.ref a_p1_d, .int p1_len])), (a_p1_d, .inl (cI, 520, .inl p1_d))] H → va_D A [(a_p0, .inr (11, [.ref a_p0_d, .int p0_len])), (a_p0_d, .inl (cI, 520, .inl p0_d)), (a_p1, .inr (11, [.ref a_p1_d, .int p1_len])), (a_p1_d, .inl (cI, 520, .inl p1_d))] → va_S A s.heap H locs → lv_has ls 8 [(0, .ref a_p0), (6, .int v6)] → W p l e (rmz 1 21) s m ar below meth c H locs 0 0 Q (F0 m 121 ls []) := by
    intro v6 p0_len p0_d H locs ls hf hP hD hS hl
    unfold f_X10_addTimes_B121 at hf
    refine lv_aload_n hx hb dX10_addTimes_121 rfl (lv_at hl 0 rfl) ?_
    refine lv_iload hx hb dX10_addTimes_122 (lv_at hl 1 rfl) ?_
    obtain ⟨u10, hu11, hf⟩ := bdE hf
    refine cV_V (ws' := [(a_p0, .inr (11, [.ref a_p0_d, .int u10])), (a_p0_d, .inl (cI, 520, .inl p0_d)), (a_p1, .inr (11, [.ref a_p1_d, .int p1_len])), (a_p1_d, .inl (cI, 520, .inl p1_d))]) (rest := []) S hK hN hA hP hD hS (c_X10_trim l D cI cJ a_p0 a_p0_d v6 p0_len p0_d u10 hu11) mwX10_trim miX10_trim kmX10_33 [0, 1] rfl (by decide) rfl rfl rfl 0 rfl rfl ⟨Nat.le_of_ble_eq_true rfl, Nat.le_of_ble_eq_true rfl⟩ ⟨Nat.zero_le _, Nat.zero_le _⟩ hl.1 rfl rfl (Nat.le_of_ble_eq_true rfl) dX10_addTimes_124 (fun H locs hP hD hS => ?_)
    exact hret _ (opE hf) H locs ls 127 dX10_addTimes_127 hP hD hS
  have keyL19 : ∀ (n : Nat) (v2 : Int64) (v4 : Int64) (v6 : Int32) (v7 : Int32) (p0_len : Int32) (p0_d : (Nat → Int32)) (H : Heap) (locs : List Loc) (ls : Array Slot), f_X10_addTimes_L19 p1_len p1_d n v2 v4 v6 v7 p0_len p0_d = some u → va_P D vwCl [(a_p0, .inr (11, [.ref a_p0_d, .int p0_len])), (a_p0_d, .inl (cI, 520, .inl p0_d)), (a_p1, .inr (11, [.ref a_p1_d, .int p1_len])), (a_p1_d, .inl (cI, 520, .inl p1_d))] H → va_D A [(a_p0, .inr (11, [.ref a_p0_d, .int p0_len])), (a_p0_d, .inl (cI, 520, .inl p0_d)), (a_p1, .inr (11, [.ref a_p1_d, .int p1_len])), (a_p1_d, .inl (cI, 520, .inl p1_d))] → va_S A s.heap H locs → lv_has ls 8 [(0, .ref a_p0), (1, .ref a_p1), (2, .long v2), (4, .long v4), (6, .int v6), (7, .int v7)] → W p l e (rmz 1 21) s m ar below meth c H locs 0 0 Q (F0 m 19 ls []) := by
    intro n
    induction n with
      | zero =>
        intro v2 v4 v6 v7 p0_len p0_d H locs ls hf
        cases hf
      | succ n ih =>
        intro v2 v4 v6 v7 p0_len p0_d H locs ls hf hP hD hS hl
        rw [f_X10_addTimes_L19] at hf
        refine lv_iload hx hb dX10_addTimes_19 (lv_at hl 5 rfl) ?_
        refine lv_iload hx hb dX10_addTimes_21 (lv_at hl 4 rfl) ?_
        refine lv_icmp_lt (tgt := 33) hx hb dX10_addTimes_23 (by decide) (fun hc13 => ?_) (fun hc13 => ?_)
        · have hf := ifT hc13 hf
          exact keyB33 (f_X10_addTimes_L19 p1_len p1_d n) ih v2 v4 v6 v7 p0_len p0_d H locs ls hf hP hD hS (lv_sub hl [0, 1, 2, 3, 4, 5] rfl)
        · have hf := ifF hc13 hf
          refine lv_lload hx hb dX10_addTimes_26 (lv_at hl 3 rfl) ?_
          refine lv_lconst (v := 0) hx hb dX10_addTimes_28 (by decide) ?_
          refine W.lcmp hx hb dX10_addTimes_29 ?_
          refine lv_if_eq (tgt := 121) hx hb dX10_addTimes_30 (by decide) (fun hc12 => ?_) (fun hc12 => ?_)
          · have hf := ifT hc12 hf
            exact keyB121 v6 p0_len p0_d H locs ls hf hP hD hS (lv_sub hl [0, 4] rfl)
          · have hf := ifF hc12 hf
            exact keyB33 (f_X10_addTimes_L19 p1_len p1_d n) ih v2 v4 v6 v7 p0_len p0_d H locs ls hf hP hD hS (lv_sub hl [0, 1, 2, 3, 4, 5] rfl)
  unfold f_X10_addTimes at hf
  refine lv_lconst (v := 0) hx hb dX10_addTimes_0 (by decide) ?_
  refine lv_lstore (lv' := [(4, .long (0 : Int64)), (0, .ref a_p0), (1, .ref a_p1), (2, .long p2)]) hx hb dX10_addTimes_1 hl (by decide) rfl (fun ls hl => ?_)
  refine lv_aload_n hx hb dX10_addTimes_3 rfl (lv_at hl 1 rfl) ?_
  refine va_get (D := D) (ci := 11) (v := .int p0_len) (C := RX10) (T := TX10) (N := 2) hx hb hts uwX10 hown hK hP 0 rfl rfl 1 (by decide) (hts _ kfX10_15) (fun _ h9 => h9) rfl dX10_addTimes_4 ?_
  refine lv_aload_n hx hb dX10_addTimes_7 rfl (lv_at hl 2 rfl) ?_
  refine va_get (D := D) (ci := 11) (v := .int p1_len) (C := RX10) (T := TX10) (N := 2) hx hb hts uwX10 hown hK hP 2 rfl rfl 1 (by decide) (hts _ kfX10_15) (fun _ h9 => h9) rfl dX10_addTimes_8 ?_
  obtain ⟨u1, hu2, hf⟩ := bdE hf
  refine cS_I (ws' := [(a_p0, .inr (11, [.ref a_p0_d, .int p0_len])), (a_p0_d, .inl (cI, 520, .inl p0_d)), (a_p1, .inr (11, [.ref a_p1_d, .int p1_len])), (a_p1_d, .inl (cI, 520, .inl p1_d))]) (rest := []) S hK hN hA hP hD hS (c_J9_max_7cf53 l D cI cJ  p0_len p1_len  u1 hu2) mwJ9_max_7cf53 msJ9_max_7cf53 kmX10_27 [] rfl (by decide) rfl rfl rfl ⟨Nat.le_of_ble_eq_true rfl, Nat.le_of_ble_eq_true rfl⟩ ⟨Nat.zero_le _, Nat.zero_le _⟩ hl.1 rfl rfl (Nat.le_of_ble_eq_true rfl) dX10_addTimes_11 (fun H locs hP hD hS => ?_)
  refine lv_istore (lv' := [(6, .int u1), (4, .long (0 : Int64)), (0, .ref a_p0), (1, .ref a_p1), (2, .long p2)]) hx hb dX10_addTimes_14 hl (by decide) rfl (fun ls hl => ?_)
  refine lv_iconst (v := 0) hx hb dX10_addTimes_16 (by decide) ?_
  refine lv_istore (lv' := [(7, .int (0 : Int32)), (6, .int u1), (4, .long (0 : Int64)), (0, .ref a_p0), (1, .ref a_p1), (2, .long p2)]) hx hb dX10_addTimes_17 hl (by decide) rfl (fun ls hl => ?_)
  exact keyL19 FU p2 (0 : Int64) u1 (0 : Int32) p0_len p0_d H locs ls hf hP hD hS (lv_sub hl [3, 4, 5, 2, 1, 0] rfl)
