set_option maxRecDepth 100000 in
set_option maxHeartbeats 4000000 in
theorem c_X3_printPowered (l : Launch) (D : va_G) (cI cJ : ClassId) (a_p0 a_p0_sheet a_p0_shortest a_p0_shortest_left a_p0_figures a_p0_sheet_bytes a_p0_figures_row : Nat) (p1 : Int32) (p0_sheet_length : Int32) (p0_sheet_bytes : (Nat → Int32)) (p0_figures_count : Int32) (p0_figures_top : Int32) (p0_figures_row : (Nat → Int32)) (u : Int32 × (Nat → Int32)) (hf : f_X3_printPowered p0_figures_count p0_figures_top p0_figures_row p1 p0_sheet_length p0_sheet_bytes = some u) : CtV l yX3_printPowered cX3_printPowered 3 2 43 [.ref a_p0, .int p1] D cI cJ [(a_p0, .inr (4, [.ref a_p0_sheet, .ref a_p0_shortest, .ref a_p0_shortest_left, .ref a_p0_figures])), (a_p0_sheet, .inr (6, [.ref a_p0_sheet_bytes, .int p0_sheet_length])), (a_p0_sheet_bytes, .inl (cI, 1077, .inl p0_sheet_bytes)), (a_p0_figures, .inr (3, [.ref a_p0_figures_row, .int p0_figures_count, .int p0_figures_top])), (a_p0_figures_row, .inl (cI, 792, .inl p0_figures_row))] [(a_p0, .inr (4, [.ref a_p0_sheet, .ref a_p0_shortest, .ref a_p0_shortest_left, .ref a_p0_figures])), (a_p0_sheet, .inr (6, [.ref a_p0_sheet_bytes, .int u.1])), (a_p0_sheet_bytes, .inl (cI, 1077, .inl u.2)), (a_p0_figures, .inr (3, [.ref a_p0_figures_row, .int p0_figures_count, .int p0_figures_top])), (a_p0_figures_row, .inl (cI, 792, .inl p0_figures_row))] := by
  refine mkV (own := RX3) rfl (by decide +kernel) (Nat.le_of_ble_eq_true rfl) (lv := [(0, .ref a_p0), (1, .int p1)]) rfl ?_
  intro p e s m below meth c Q A ls ar S hA hK hN hret H locs hP hD hS hl
  obtain ⟨hx, hb, hml, hown, hts⟩ := id S
  have hret : ∀ (w : Int32 × (Nat → Int32)), w = u → ∀ (H : Heap) (locs : List Loc) (ls : Array Slot) (pc : Nat), decode cX3_printPowered pc = .ok (.return_, 1) → va_P D vwCl [(a_p0, .inr (4, [.ref a_p0_sheet, .ref a_p0_shortest, .ref a_p0_shortest_left, .ref a_p0_figures])), (a_p0_sheet, .inr (6, [.ref a_p0_sheet_bytes, .int w.1])), (a_p0_sheet_bytes, .inl (cI, 1077, .inl w.2)), (a_p0_figures, .inr (3, [.ref a_p0_figures_row, .int p0_figures_count, .int p0_figures_top])), (a_p0_figures_row, .inl (cI, 792, .inl p0_figures_row))] H → va_D A [(a_p0, .inr (4, [.ref a_p0_sheet, .ref a_p0_shortest, .ref a_p0_shortest_left, .ref a_p0_figures])), (a_p0_sheet, .inr (6, [.ref a_p0_sheet_bytes, .int w.1])), (a_p0_sheet_bytes, .inl (cI, 1077, .inl w.2)), (a_p0_figures, .inr (3, [.ref a_p0_figures_row, .int p0_figures_count, .int p0_figures_top])), (a_p0_figures_row, .inl (cI, 792, .inl p0_figures_row))] → va_S A s.heap H locs → W p l e (rmz 2 43) s m ar below meth c H locs 0 0 Q (F0 m pc ls []) := fun w hw => hw ▸ hret
  have keyB63 : ∀ (p0_sheet_length : Int32) (p0_sheet_bytes : (Nat → Int32)) (H : Heap) (locs : List Loc) (ls : Array Slot), f_X3_printPowered_B63 p0_figures_count p0_figures_top p0_figures_row p0_sheet_length p0_sheet_bytes = some u → va_P D vwCl [(a_p0, .inr (4, [.ref a_p0_sheet, .ref a_p0_shortest, .ref a_p0_shortest_left, .ref a_p0_figures])), (a_p0_sheet, .inr (6, [.ref a_p0_sheet_bytes, .int p0_sheet_length])), (a_p0_sheet_bytes, .inl (cI, 1077, .inl p0_sheet_bytes)), (a_p0_figures, .inr (3, [.ref a_p0_figures_row, .int p0_figures_count, .int p0_figures_top])), (a_p0_figures_row, .inl (cI, 792, .inl p0_figures_row))] H → va_D A [(a_p0, .inr (4, [.ref a_p0_sheet, .ref a_p0_shortest, .ref a_p0_shortest_left, .ref a_p0_figures])), (a_p0_sheet, .inr (6, [.ref a_p0_sheet_bytes, .int p0_sheet_length])), (a_p0_sheet_bytes, .inl (cI, 1077, .inl p0_sheet_bytes)), (a_p0_figures, .inr (3, [.ref a_p0_figures_row, .int p0_figures_count, .int p0_figures_top])), (a_p0_figures_row, .inl (cI, 792, .inl p0_figures_row))] → va_S A s.heap H locs → lv_has ls 3 [(0, .ref a_p0)] → W p l e (rmz 2 43) s m ar below meth c H locs 0 0 Q (F0 m 63 ls []) := by
    intro p0_sheet_length p0_sheet_bytes H locs ls hf hP hD hS hl
    unfold f_X3_printPowered_B63 at hf
    refine lv_aload_n hx hb dX3_printPowered_63 rfl (lv_at hl 0 rfl) ?_
    refine va_get (D := D) (ci := 4) (v := .ref a_p0_sheet) (C := RX3) (T := TX3) (N := 4) hx hb hts uwX3 hown hK hP 0 rfl rfl 0 (by decide) (hts _ kfX3_18) (fun _ h9 => h9) rfl dX3_printPowered_64 ?_
    refine lv_bipush (v := 101) hx hb dX3_printPowered_67 (by decide) ?_
    obtain ⟨u5, hu6, hf⟩ := bdE hf
    refine cV_V (ws' := [(a_p0, .inr (4, [.ref a_p0_sheet, .ref a_p0_shortest, .ref a_p0_shortest_left, .ref a_p0_figures])), (a_p0_sheet, .inr (6, [.ref a_p0_sheet_bytes, .int u5.1])), (a_p0_sheet_bytes, .inl (cI, 1077, .inl u5.2)), (a_p0_figures, .inr (3, [.ref a_p0_figures_row, .int p0_figures_count, .int p0_figures_top])), (a_p0_figures_row, .inl (cI, 792, .inl p0_figures_row))]) (rest := []) S hK hN hA hP hD hS (c_X5_put l D cI cJ a_p0_sheet a_p0_sheet_bytes (101 : Int32) p0_sheet_length p0_sheet_bytes u5 hu6) mwX5_put miX5_put kmX3_51 [1, 2] rfl (by decide) rfl rfl rfl 0 rfl rfl ⟨Nat.le_of_ble_eq_true rfl, Nat.le_of_ble_eq_true rfl⟩ ⟨Nat.zero_le _, Nat.zero_le _⟩ hl.1 rfl rfl (Nat.le_of_ble_eq_true rfl) dX3_printPowered_69 (fun H locs hP hD hS => ?_)
    refine lv_aload_n hx hb dX3_printPowered_72 rfl (lv_at hl 0 rfl) ?_
    refine va_get (D := D) (ci := 4) (v := .ref a_p0_sheet) (C := RX3) (T := TX3) (N := 4) hx hb hts uwX3 hown hK hP 0 rfl rfl 0 (by decide) (hts _ kfX3_18) (fun _ h9 => h9) rfl dX3_printPowered_73 ?_
    refine lv_aload_n hx hb dX3_printPowered_76 rfl (lv_at hl 0 rfl) ?_
    refine va_get (D := D) (ci := 4) (v := .ref a_p0_figures) (C := RX3) (T := TX3) (N := 4) hx hb hts uwX3 hown hK hP 0 rfl rfl 3 (by decide) (hts _ kfX3_12) (fun _ h9 => h9) rfl dX3_printPowered_77 ?_
    refine va_get (D := D) (ci := 3) (v := .int p0_figures_top) (C := RX1) (T := TX1) (N := 3) hx hb hts uwX1 hown hK hP 3 rfl rfl 2 (by decide) (hts _ kfX3_80) (fun _ h9 => h9) rfl dX3_printPowered_80 ?_
    obtain ⟨u7, hu8, hf⟩ := bdE hf
    refine cV_V (ws' := [(a_p0, .inr (4, [.ref a_p0_sheet, .ref a_p0_shortest, .ref a_p0_shortest_left, .ref a_p0_figures])), (a_p0_sheet, .inr (6, [.ref a_p0_sheet_bytes, .int u7.1])), (a_p0_sheet_bytes, .inl (cI, 1077, .inl u7.2)), (a_p0_figures, .inr (3, [.ref a_p0_figures_row, .int p0_figures_count, .int p0_figures_top])), (a_p0_figures_row, .inl (cI, 792, .inl p0_figures_row))]) (rest := []) S hK hN hA hP hD hS (c_X5_putNumber l D cI cJ a_p0_sheet a_p0_sheet_bytes p0_figures_top u5.1 u5.2 u7 hu8) mwX5_putNumber miX5_putNumber kmX3_106 [1, 2] rfl (by decide) rfl rfl rfl 0 rfl rfl ⟨Nat.le_of_ble_eq_true rfl, Nat.le_of_ble_eq_true rfl⟩ ⟨Nat.zero_le _, Nat.zero_le _⟩ hl.1 rfl rfl (Nat.le_of_ble_eq_true rfl) dX3_printPowered_83 (fun H locs hP hD hS => ?_)
    exact hret _ (opE hf) H locs ls 86 dX3_printPowered_86 hP hD hS
  have keyL34 : ∀ (n : Nat) (v1 : Int32) (v2 : Int32) (p0_sheet_length : Int32) (p0_sheet_bytes : (Nat → Int32)) (H : Heap) (locs : List Loc) (ls : Array Slot), f_X3_printPowered_L34 p0_figures_count p0_figures_top p0_figures_row n v1 v2 p0_sheet_length p0_sheet_bytes = some u → va_P D vwCl [(a_p0, .inr (4, [.ref a_p0_sheet, .ref a_p0_shortest, .ref a_p0_shortest_left, .ref a_p0_figures])), (a_p0_sheet, .inr (6, [.ref a_p0_sheet_bytes, .int p0_sheet_length])), (a_p0_sheet_bytes, .inl (cI, 1077, .inl p0_sheet_bytes)), (a_p0_figures, .inr (3, [.ref a_p0_figures_row, .int p0_figures_count, .int p0_figures_top])), (a_p0_figures_row, .inl (cI, 792, .inl p0_figures_row))] H → va_D A [(a_p0, .inr (4, [.ref a_p0_sheet, .ref a_p0_shortest, .ref a_p0_shortest_left, .ref a_p0_figures])), (a_p0_sheet, .inr (6, [.ref a_p0_sheet_bytes, .int p0_sheet_length])), (a_p0_sheet_bytes, .inl (cI, 1077, .inl p0_sheet_bytes)), (a_p0_figures, .inr (3, [.ref a_p0_figures_row, .int p0_figures_count, .int p0_figures_top])), (a_p0_figures_row, .inl (cI, 792, .inl p0_figures_row))] → va_S A s.heap H locs → lv_has ls 3 [(0, .ref a_p0), (1, .int v1), (2, .int v2)] → W p l e (rmz 2 43) s m ar below meth c H locs 0 0 Q (F0 m 34 ls []) := by
    intro n
    induction n with
      | zero =>
        intro v1 v2 p0_sheet_length p0_sheet_bytes H locs ls hf
        cases hf
      | succ n ih =>
        intro v1 v2 p0_sheet_length p0_sheet_bytes H locs ls hf hP hD hS hl
        rw [f_X3_printPowered_L34] at hf
        refine lv_iload_n hx hb dX3_printPowered_34 rfl (lv_at hl 2 rfl) ?_
        refine lv_iload_n hx hb dX3_printPowered_35 rfl (lv_at hl 1 rfl) ?_
        refine lv_icmp_ge (tgt := 63) hx hb dX3_printPowered_36 (by decide) (fun hc13 => ?_) (fun hc13 => ?_)
        · have hf := ifT hc13 hf
          exact keyB63 p0_sheet_length p0_sheet_bytes H locs ls hf hP hD hS (lv_sub hl [0] rfl)
        · have hf := ifF hc13 hf
          refine lv_aload_n hx hb dX3_printPowered_39 rfl (lv_at hl 0 rfl) ?_
          refine va_get (D := D) (ci := 4) (v := .ref a_p0_sheet) (C := RX3) (T := TX3) (N := 4) hx hb hts uwX3 hown hK hP 0 rfl rfl 0 (by decide) (hts _ kfX3_18) (fun _ h9 => h9) rfl dX3_printPowered_40 ?_
          refine lv_bipush (v := 48) hx hb dX3_printPowered_43 (by decide) ?_
          refine lv_aload_n hx hb dX3_printPowered_45 rfl (lv_at hl 0 rfl) ?_
          refine va_get (D := D) (ci := 4) (v := .ref a_p0_figures) (C := RX3) (T := TX3) (N := 4) hx hb hts uwX3 hown hK hP 0 rfl rfl 3 (by decide) (hts _ kfX3_12) (fun _ h9 => h9) rfl dX3_printPowered_46 ?_
          refine lv_iload_n hx hb dX3_printPowered_49 rfl (lv_at hl 2 rfl) ?_
          obtain ⟨u9, hu10, hf⟩ := bdE hf
          refine cV_I (ws' := [(a_p0, .inr (4, [.ref a_p0_sheet, .ref a_p0_shortest, .ref a_p0_shortest_left, .ref a_p0_figures])), (a_p0_sheet, .inr (6, [.ref a_p0_sheet_bytes, .int p0_sheet_length])), (a_p0_sheet_bytes, .inl (cI, 1077, .inl p0_sheet_bytes)), (a_p0_figures, .inr (3, [.ref a_p0_figures_row, .int p0_figures_count, .int p0_figures_top])), (a_p0_figures_row, .inl (cI, 792, .inl p0_figures_row))]) (rest := [.int (48 : Int32), .ref a_p0_sheet]) S hK hN hA hP hD hS (c_X1_at l D cI cJ a_p0_figures a_p0_figures_row v2 p0_figures_count p0_figures_top p0_figures_row u9 hu10) mwX1_at miX1_at kmX3_102 [3, 4] rfl (by decide) rfl rfl rfl 0 rfl rfl ⟨Nat.le_of_ble_eq_true rfl, Nat.le_of_ble_eq_true rfl⟩ ⟨Nat.zero_le _, Nat.zero_le _⟩ hl.1 rfl rfl (Nat.le_of_ble_eq_true rfl) dX3_printPowered_50 (fun H locs hP hD hS => ?_)
          refine lv_iadd hx hb dX3_printPowered_53 ?_
          obtain ⟨u11, hu12, hf⟩ := bdE hf
          refine cV_V (ws' := [(a_p0, .inr (4, [.ref a_p0_sheet, .ref a_p0_shortest, .ref a_p0_shortest_left, .ref a_p0_figures])), (a_p0_sheet, .inr (6, [.ref a_p0_sheet_bytes, .int u11.1])), (a_p0_sheet_bytes, .inl (cI, 1077, .inl u11.2)), (a_p0_figures, .inr (3, [.ref a_p0_figures_row, .int p0_figures_count, .int p0_figures_top])), (a_p0_figures_row, .inl (cI, 792, .inl p0_figures_row))]) (rest := []) S hK hN hA hP hD hS (c_X5_put l D cI cJ a_p0_sheet a_p0_sheet_bytes ((48 : Int32) + u9) p0_sheet_length p0_sheet_bytes u11 hu12) mwX5_put miX5_put kmX3_51 [1, 2] rfl (by decide) rfl rfl rfl 0 rfl rfl ⟨Nat.le_of_ble_eq_true rfl, Nat.le_of_ble_eq_true rfl⟩ ⟨Nat.zero_le _, Nat.zero_le _⟩ hl.1 rfl rfl (Nat.le_of_ble_eq_true rfl) dX3_printPowered_54 (fun H locs hP hD hS => ?_)
          refine lv_iinc (v := v2 + (1 : Int32)) (lv' := [(2, .int (v2 + (1 : Int32))), (0, .ref a_p0), (1, .int v1)]) hx hb dX3_printPowered_57 hl (k := 2) rfl (by rfl) (by decide) rfl (fun ls hl => ?_)
          refine lv_goto (tgt := 34) hx hb dX3_printPowered_60 (by decide) ?_
          exact ih v1 (v2 + (1 : Int32)) u11.1 u11.2 H locs ls hf hP hD hS (lv_sub hl [1, 2, 0] rfl)
  unfold f_X3_printPowered at hf
  refine lv_aload_n hx hb dX3_printPowered_0 rfl (lv_at hl 0 rfl) ?_
  refine va_get (D := D) (ci := 4) (v := .ref a_p0_sheet) (C := RX3) (T := TX3) (N := 4) hx hb hts uwX3 hown hK hP 0 rfl rfl 0 (by decide) (hts _ kfX3_18) (fun _ h9 => h9) rfl dX3_printPowered_1 ?_
  refine lv_bipush (v := 48) hx hb dX3_printPowered_4 (by decide) ?_
  refine lv_aload_n hx hb dX3_printPowered_6 rfl (lv_at hl 0 rfl) ?_
  refine va_get (D := D) (ci := 4) (v := .ref a_p0_figures) (C := RX3) (T := TX3) (N := 4) hx hb hts uwX3 hown hK hP 0 rfl rfl 3 (by decide) (hts _ kfX3_12) (fun _ h9 => h9) rfl dX3_printPowered_7 ?_
  refine lv_iconst (v := 0) hx hb dX3_printPowered_10 (by decide) ?_
  obtain ⟨u1, hu2, hf⟩ := bdE hf
  refine cV_I (ws' := [(a_p0, .inr (4, [.ref a_p0_sheet, .ref a_p0_shortest, .ref a_p0_shortest_left, .ref a_p0_figures])), (a_p0_sheet, .inr (6, [.ref a_p0_sheet_bytes, .int p0_sheet_length])), (a_p0_sheet_bytes, .inl (cI, 1077, .inl p0_sheet_bytes)), (a_p0_figures, .inr (3, [.ref a_p0_figures_row, .int p0_figures_count, .int p0_figures_top])), (a_p0_figures_row, .inl (cI, 792, .inl p0_figures_row))]) (rest := [.int (48 : Int32), .ref a_p0_sheet]) S hK hN hA hP hD hS (c_X1_at l D cI cJ a_p0_figures a_p0_figures_row (0 : Int32) p0_figures_count p0_figures_top p0_figures_row u1 hu2) mwX1_at miX1_at kmX3_102 [3, 4] rfl (by decide) rfl rfl rfl 0 rfl rfl ⟨Nat.le_of_ble_eq_true rfl, Nat.le_of_ble_eq_true rfl⟩ ⟨Nat.zero_le _, Nat.zero_le _⟩ hl.1 rfl rfl (Nat.le_of_ble_eq_true rfl) dX3_printPowered_11 (fun H locs hP hD hS => ?_)
  refine lv_iadd hx hb dX3_printPowered_14 ?_
  obtain ⟨u3, hu4, hf⟩ := bdE hf
  refine cV_V (ws' := [(a_p0, .inr (4, [.ref a_p0_sheet, .ref a_p0_shortest, .ref a_p0_shortest_left, .ref a_p0_figures])), (a_p0_sheet, .inr (6, [.ref a_p0_sheet_bytes, .int u3.1])), (a_p0_sheet_bytes, .inl (cI, 1077, .inl u3.2)), (a_p0_figures, .inr (3, [.ref a_p0_figures_row, .int p0_figures_count, .int p0_figures_top])), (a_p0_figures_row, .inl (cI, 792, .inl p0_figures_row))]) (rest := []) S hK hN hA hP hD hS (c_X5_put l D cI cJ a_p0_sheet a_p0_sheet_bytes ((48 : Int32) + u1) p0_sheet_length p0_sheet_bytes u3 hu4) mwX5_put miX5_put kmX3_51 [1, 2] rfl (by decide) rfl rfl rfl 0 rfl rfl ⟨Nat.le_of_ble_eq_true rfl, Nat.le_of_ble_eq_true rfl⟩ ⟨Nat.zero_le _, Nat.zero_le _⟩ hl.1 rfl rfl (Nat.le_of_ble_eq_true rfl) dX3_printPowered_15 (fun H locs hP hD hS => ?_)
  refine lv_iload_n hx hb dX3_printPowered_18 rfl (lv_at hl 1 rfl) ?_
  refine lv_iconst (v := 1) hx hb dX3_printPowered_19 (by decide) ?_
  refine lv_icmp_le (tgt := 32) hx hb dX3_printPowered_20 (by decide) (fun hc16 => ?_) (fun hc16 => ?_)
  · have hf := ifT hc16 hf
    refine lv_iconst (v := 1) hx hb dX3_printPowered_32 (by decide) ?_
    refine lv_istore_n (lv' := [(2, .int (1 : Int32)), (0, .ref a_p0), (1, .int p1)]) hx hb dX3_printPowered_33 rfl hl (by decide) rfl (fun ls hl => ?_)
    exact keyL34 FU p1 (1 : Int32) u3.1 u3.2 H locs ls hf hP hD hS (lv_sub hl [1, 2, 0] rfl)
  · have hf := ifF hc16 hf
    refine lv_aload_n hx hb dX3_printPowered_23 rfl (lv_at hl 0 rfl) ?_
    refine va_get (D := D) (ci := 4) (v := .ref a_p0_sheet) (C := RX3) (T := TX3) (N := 4) hx hb hts uwX3 hown hK hP 0 rfl rfl 0 (by decide) (hts _ kfX3_18) (fun _ h9 => h9) rfl dX3_printPowered_24 ?_
    refine lv_bipush (v := 46) hx hb dX3_printPowered_27 (by decide) ?_
    obtain ⟨u14, hu15, hf⟩ := bdE hf
    refine cV_V (ws' := [(a_p0, .inr (4, [.ref a_p0_sheet, .ref a_p0_shortest, .ref a_p0_shortest_left, .ref a_p0_figures])), (a_p0_sheet, .inr (6, [.ref a_p0_sheet_bytes, .int u14.1])), (a_p0_sheet_bytes, .inl (cI, 1077, .inl u14.2)), (a_p0_figures, .inr (3, [.ref a_p0_figures_row, .int p0_figures_count, .int p0_figures_top])), (a_p0_figures_row, .inl (cI, 792, .inl p0_figures_row))]) (rest := []) S hK hN hA hP hD hS (c_X5_put l D cI cJ a_p0_sheet a_p0_sheet_bytes (46 : Int32) u3.1 u3.2 u14 hu15) mwX5_put miX5_put kmX3_51 [1, 2] rfl (by decide) rfl rfl rfl 0 rfl rfl ⟨Nat.le_of_ble_eq_true rfl, Nat.le_of_ble_eq_true rfl⟩ ⟨Nat.zero_le _, Nat.zero_le _⟩ hl.1 rfl rfl (Nat.le_of_ble_eq_true rfl) dX3_printPowered_29 (fun H locs hP hD hS => ?_)
    refine lv_iconst (v := 1) hx hb dX3_printPowered_32 (by decide) ?_
    refine lv_istore_n (lv' := [(2, .int (1 : Int32)), (0, .ref a_p0), (1, .int p1)]) hx hb dX3_printPowered_33 rfl hl (by decide) rfl (fun ls hl => ?_)
    exact keyL34 FU p1 (1 : Int32) u14.1 u14.2 H locs ls hf hP hD hS (lv_sub hl [1, 2, 0] rfl)
set_option maxRecDepth 100000 in
set_option maxHeartbeats 4000000 in
theorem c_X3_printFigures (l : Launch) (D : va_G) (cI cJ : ClassId) (a_p0 a_p0_sheet a_p0_shortest a_p0_shortest_left a_p0_figures a_p0_sheet_bytes a_p0_figures_row : Nat) (p1 : Int32) (p2 : Int32) (p0_sheet_length : Int32) (p0_sheet_bytes : (Nat → Int32)) (p0_figures_count : Int32) (p0_figures_top : Int32) (p0_figures_row : (Nat → Int32)) (u : Int32 × (Nat → Int32)) (hf : f_X3_printFigures p0_figures_count p0_figures_top p0_figures_row p1 p2 p0_sheet_length p0_sheet_bytes = some u) : CtV l yX3_printFigures cX3_printFigures 3 3 65 [.ref a_p0, .int p1, .int p2] D cI cJ [(a_p0, .inr (4, [.ref a_p0_sheet, .ref a_p0_shortest, .ref a_p0_shortest_left, .ref a_p0_figures])), (a_p0_sheet, .inr (6, [.ref a_p0_sheet_bytes, .int p0_sheet_length])), (a_p0_sheet_bytes, .inl (cI, 1077, .inl p0_sheet_bytes)), (a_p0_figures, .inr (3, [.ref a_p0_figures_row, .int p0_figures_count, .int p0_figures_top])), (a_p0_figures_row, .inl (cI, 792, .inl p0_figures_row))] [(a_p0, .inr (4, [.ref a_p0_sheet, .ref a_p0_shortest, .ref a_p0_shortest_left, .ref a_p0_figures])), (a_p0_sheet, .inr (6, [.ref a_p0_sheet_bytes, .int u.1])), (a_p0_sheet_bytes, .inl (cI, 1077, .inl u.2)), (a_p0_figures, .inr (3, [.ref a_p0_figures_row, .int p0_figures_count, .int p0_figures_top])), (a_p0_figures_row, .inl (cI, 792, .inl p0_figures_row))] := by
  refine mkV (own := RX3) rfl (by decide +kernel) (Nat.le_of_ble_eq_true rfl) (lv := [(0, .ref a_p0), (1, .int p1), (2, .int p2)]) rfl ?_
  intro p e s m below meth c Q A ls ar S hA hK hN hret H locs hP hD hS hl
  obtain ⟨hx, hb, hml, hown, hts⟩ := id S
  have hret : ∀ (w : Int32 × (Nat → Int32)), w = u → ∀ (H : Heap) (locs : List Loc) (ls : Array Slot) (pc : Nat), decode cX3_printFigures pc = .ok (.return_, 1) → va_P D vwCl [(a_p0, .inr (4, [.ref a_p0_sheet, .ref a_p0_shortest, .ref a_p0_shortest_left, .ref a_p0_figures])), (a_p0_sheet, .inr (6, [.ref a_p0_sheet_bytes, .int w.1])), (a_p0_sheet_bytes, .inl (cI, 1077, .inl w.2)), (a_p0_figures, .inr (3, [.ref a_p0_figures_row, .int p0_figures_count, .int p0_figures_top])), (a_p0_figures_row, .inl (cI, 792, .inl p0_figures_row))] H → va_D A [(a_p0, .inr (4, [.ref a_p0_sheet, .ref a_p0_shortest, .ref a_p0_shortest_left, .ref a_p0_figures])), (a_p0_sheet, .inr (6, [.ref a_p0_sheet_bytes, .int w.1])), (a_p0_sheet_bytes, .inl (cI, 1077, .inl w.2)), (a_p0_figures, .inr (3, [.ref a_p0_figures_row, .int p0_figures_count, .int p0_figures_top])), (a_p0_figures_row, .inl (cI, 792, .inl p0_figures_row))] → va_S A s.heap H locs → W p l e (rmz 3 65) s m ar below meth c H locs 0 0 Q (F0 m pc ls []) := fun w hw => hw ▸ hret
  unfold f_X3_printFigures at hf
  refine lv_iload_n hx hb dX3_printFigures_0 rfl (lv_at hl 1 rfl) ?_
  by_cases hc13 : p1 = (1 : Int32)
  · have hf := ifT hc13 hf
    refine lv_tableIn (tgt := 28) hx hb dX3_printFigures_1 (by rw [hc13]; decide) (by rw [hc13]; decide) (by rw [hc13]; rfl) (by decide) ?_
    refine lv_aload_n hx hb dX3_printFigures_28 rfl (lv_at hl 0 rfl) ?_
    refine lv_aload_n hx hb dX3_printFigures_29 rfl (lv_at hl 0 rfl) ?_
    refine va_get (D := D) (ci := 4) (v := .ref a_p0_figures) (C := RX3) (T := TX3) (N := 4) hx hb hts uwX3 hown hK hP 0 rfl rfl 3 (by decide) (hts _ kfX3_12) (fun _ h9 => h9) rfl dX3_printFigures_30 ?_
    refine va_get (D := D) (ci := 3) (v := .int p0_figures_count) (C := RX1) (T := TX1) (N := 3) hx hb hts uwX1 hown hK hP 3 rfl rfl 1 (by decide) (hts _ kfX3_87) (fun _ h9 => h9) rfl dX3_printFigures_33 ?_
    refine lv_iconst (v := 1) hx hb dX3_printFigures_36 (by decide) ?_
    obtain ⟨u5, hu6, hf⟩ := bdE hf
    refine cS_I (ws' := [(a_p0, .inr (4, [.ref a_p0_sheet, .ref a_p0_shortest, .ref a_p0_shortest_left, .ref a_p0_figures])), (a_p0_sheet, .inr (6, [.ref a_p0_sheet_bytes, .int p0_sheet_length])), (a_p0_sheet_bytes, .inl (cI, 1077, .inl p0_sheet_bytes)), (a_p0_figures, .inr (3, [.ref a_p0_figures_row, .int p0_figures_count, .int p0_figures_top])), (a_p0_figures_row, .inl (cI, 792, .inl p0_figures_row))]) (rest := [.ref a_p0]) S hK hN hA hP hD hS (c_J9_max_7cf53 l D cI cJ  p0_figures_count (1 : Int32)  u5 hu6) mwJ9_max_7cf53 msJ9_max_7cf53 kmX3_90 [] rfl (by decide) rfl rfl rfl ⟨Nat.le_of_ble_eq_true rfl, Nat.le_of_ble_eq_true rfl⟩ ⟨Nat.zero_le _, Nat.zero_le _⟩ hl.1 rfl rfl (Nat.le_of_ble_eq_true rfl) dX3_printFigures_37 (fun H locs hP hD hS => ?_)
    obtain ⟨u7, hu8, hf⟩ := bdE hf
    refine cV_V (ws' := [(a_p0, .inr (4, [.ref a_p0_sheet, .ref a_p0_shortest, .ref a_p0_shortest_left, .ref a_p0_figures])), (a_p0_sheet, .inr (6, [.ref a_p0_sheet_bytes, .int u7.1])), (a_p0_sheet_bytes, .inl (cI, 1077, .inl u7.2)), (a_p0_figures, .inr (3, [.ref a_p0_figures_row, .int p0_figures_count, .int p0_figures_top])), (a_p0_figures_row, .inl (cI, 792, .inl p0_figures_row))]) (rest := []) S hK hN hA hP hD hS (c_X3_printPowered l D cI cJ a_p0 a_p0_sheet a_p0_shortest a_p0_shortest_left a_p0_figures a_p0_sheet_bytes a_p0_figures_row u5 p0_sheet_length p0_sheet_bytes p0_figures_count p0_figures_top p0_figures_row u7 hu8) mwX3_printPowered miX3_printPowered kmX3_96 [0, 1, 2, 3, 4] rfl (by decide) rfl rfl rfl 0 rfl rfl ⟨Nat.le_of_ble_eq_true rfl, Nat.le_of_ble_eq_true rfl⟩ ⟨Nat.zero_le _, Nat.zero_le _⟩ hl.1 rfl rfl (Nat.le_of_ble_eq_true rfl) dX3_printFigures_40 (fun H locs hP hD hS => ?_)
    refine lv_goto (tgt := 87) hx hb dX3_printFigures_43 (by decide) ?_
    exact hret _ (opE hf) H locs ls 87 dX3_printFigures_87 hP hD hS
  · have hf := ifF hc13 hf
    by_cases hc14 : p1 = (2 : Int32)
    · have hf := ifT hc14 hf
      refine lv_tableIn (tgt := 46) hx hb dX3_printFigures_1 (by rw [hc14]; decide) (by rw [hc14]; decide) (by rw [hc14]; rfl) (by decide) ?_
      refine lv_aload_n hx hb dX3_printFigures_46 rfl (lv_at hl 0 rfl) ?_
      refine lv_iload_n hx hb dX3_printFigures_47 rfl (lv_at hl 2 rfl) ?_
      obtain ⟨u9, hu10, hf⟩ := bdE hf
      refine cV_V (ws' := [(a_p0, .inr (4, [.ref a_p0_sheet, .ref a_p0_shortest, .ref a_p0_shortest_left, .ref a_p0_figures])), (a_p0_sheet, .inr (6, [.ref a_p0_sheet_bytes, .int u9.1])), (a_p0_sheet_bytes, .inl (cI, 1077, .inl u9.2)), (a_p0_figures, .inr (3, [.ref a_p0_figures_row, .int p0_figures_count, .int p0_figures_top])), (a_p0_figures_row, .inl (cI, 792, .inl p0_figures_row))]) (rest := []) S hK hN hA hP hD hS (c_X3_printInPlace l D cI cJ a_p0 a_p0_sheet a_p0_shortest a_p0_shortest_left a_p0_figures a_p0_sheet_bytes a_p0_figures_row p2 p0_sheet_length p0_sheet_bytes p0_figures_count p0_figures_top p0_figures_row u9 hu10) mwX3_printInPlace miX3_printInPlace kmX3_99 [0, 1, 2, 3, 4] rfl (by decide) rfl rfl rfl 0 rfl rfl ⟨Nat.le_of_ble_eq_true rfl, Nat.le_of_ble_eq_true rfl⟩ ⟨Nat.zero_le _, Nat.zero_le _⟩ hl.1 rfl rfl (Nat.le_of_ble_eq_true rfl) dX3_printFigures_48 (fun H locs hP hD hS => ?_)
      refine lv_goto (tgt := 87) hx hb dX3_printFigures_51 (by decide) ?_
      exact hret _ (opE hf) H locs ls 87 dX3_printFigures_87 hP hD hS
    · have hf := ifF hc14 hf
      by_cases hc15 : p1 = (3 : Int32)
      · have hf := ifT hc15 hf
        refine lv_tableIn (tgt := 54) hx hb dX3_printFigures_1 (by rw [hc15]; decide) (by rw [hc15]; decide) (by rw [hc15]; rfl) (by decide) ?_
        refine lv_aload_n hx hb dX3_printFigures_54 rfl (lv_at hl 0 rfl) ?_
        refine lv_iload_n hx hb dX3_printFigures_55 rfl (lv_at hl 2 rfl) ?_
        obtain ⟨u11, hu12, hf⟩ := bdE hf
        refine cV_V (ws' := [(a_p0, .inr (4, [.ref a_p0_sheet, .ref a_p0_shortest, .ref a_p0_shortest_left, .ref a_p0_figures])), (a_p0_sheet, .inr (6, [.ref a_p0_sheet_bytes, .int u11.1])), (a_p0_sheet_bytes, .inl (cI, 1077, .inl u11.2)), (a_p0_figures, .inr (3, [.ref a_p0_figures_row, .int p0_figures_count, .int p0_figures_top])), (a_p0_figures_row, .inl (cI, 792, .inl p0_figures_row))]) (rest := []) S hK hN hA hP hD hS (c_X3_printPowered l D cI cJ a_p0 a_p0_sheet a_p0_shortest a_p0_shortest_left a_p0_figures a_p0_sheet_bytes a_p0_figures_row p2 p0_sheet_length p0_sheet_bytes p0_figures_count p0_figures_top p0_figures_row u11 hu12) mwX3_printPowered miX3_printPowered kmX3_96 [0, 1, 2, 3, 4] rfl (by decide) rfl rfl rfl 0 rfl rfl ⟨Nat.le_of_ble_eq_true rfl, Nat.le_of_ble_eq_true rfl⟩ ⟨Nat.zero_le _, Nat.zero_le _⟩ hl.1 rfl rfl (Nat.le_of_ble_eq_true rfl) dX3_printFigures_56 (fun H locs hP hD hS => ?_)
        refine lv_goto (tgt := 87) hx hb dX3_printFigures_59 (by decide) ?_
        exact hret _ (opE hf) H locs ls 87 dX3_printFigures_87 hP hD hS
      · have hf := ifF hc15 hf
        refine lv_tableOut (tgt := 62) hx hb dX3_printFigures_1 (tsw3_1 hc13 hc14 hc15) (by decide) ?_
        refine lv_aload_n hx hb dX3_printFigures_62 rfl (lv_at hl 0 rfl) ?_
        refine lv_aload_n hx hb dX3_printFigures_63 rfl (lv_at hl 0 rfl) ?_
        refine va_get (D := D) (ci := 4) (v := .ref a_p0_figures) (C := RX3) (T := TX3) (N := 4) hx hb hts uwX3 hown hK hP 0 rfl rfl 3 (by decide) (hts _ kfX3_12) (fun _ h9 => h9) rfl dX3_printFigures_64 ?_
        refine va_get (D := D) (ci := 3) (v := .int p0_figures_count) (C := RX1) (T := TX1) (N := 3) hx hb hts uwX1 hown hK hP 3 rfl rfl 1 (by decide) (hts _ kfX3_87) (fun _ h9 => h9) rfl dX3_printFigures_67 ?_
        refine lv_iconst (v := 1) hx hb dX3_printFigures_70 (by decide) ?_
        refine lv_isub hx hb dX3_printFigures_71 ?_
        refine lv_aload_n hx hb dX3_printFigures_72 rfl (lv_at hl 0 rfl) ?_
        refine va_get (D := D) (ci := 4) (v := .ref a_p0_figures) (C := RX3) (T := TX3) (N := 4) hx hb hts uwX3 hown hK hP 0 rfl rfl 3 (by decide) (hts _ kfX3_12) (fun _ h9 => h9) rfl dX3_printFigures_73 ?_
        refine va_get (D := D) (ci := 3) (v := .int p0_figures_top) (C := RX1) (T := TX1) (N := 3) hx hb hts uwX1 hown hK hP 3 rfl rfl 2 (by decide) (hts _ kfX3_80) (fun _ h9 => h9) rfl dX3_printFigures_76 ?_
        refine lv_isub hx hb dX3_printFigures_79 ?_
        refine lv_iconst (v := 0) hx hb dX3_printFigures_80 (by decide) ?_
        obtain ⟨u1, hu2, hf⟩ := bdE hf
        refine cS_I (ws' := [(a_p0, .inr (4, [.ref a_p0_sheet, .ref a_p0_shortest, .ref a_p0_shortest_left, .ref a_p0_figures])), (a_p0_sheet, .inr (6, [.ref a_p0_sheet_bytes, .int p0_sheet_length])), (a_p0_sheet_bytes, .inl (cI, 1077, .inl p0_sheet_bytes)), (a_p0_figures, .inr (3, [.ref a_p0_figures_row, .int p0_figures_count, .int p0_figures_top])), (a_p0_figures_row, .inl (cI, 792, .inl p0_figures_row))]) (rest := [.ref a_p0]) S hK hN hA hP hD hS (c_J9_max_7cf53 l D cI cJ  ((p0_figures_count - (1 : Int32)) - p0_figures_top) (0 : Int32)  u1 hu2) mwJ9_max_7cf53 msJ9_max_7cf53 kmX3_90 [] rfl (by decide) rfl rfl rfl ⟨Nat.le_of_ble_eq_true rfl, Nat.le_of_ble_eq_true rfl⟩ ⟨Nat.zero_le _, Nat.zero_le _⟩ hl.1 rfl rfl (Nat.le_of_ble_eq_true rfl) dX3_printFigures_81 (fun H locs hP hD hS => ?_)
        obtain ⟨u3, hu4, hf⟩ := bdE hf
        refine cV_V (ws' := [(a_p0, .inr (4, [.ref a_p0_sheet, .ref a_p0_shortest, .ref a_p0_shortest_left, .ref a_p0_figures])), (a_p0_sheet, .inr (6, [.ref a_p0_sheet_bytes, .int u3.1])), (a_p0_sheet_bytes, .inl (cI, 1077, .inl u3.2)), (a_p0_figures, .inr (3, [.ref a_p0_figures_row, .int p0_figures_count, .int p0_figures_top])), (a_p0_figures_row, .inl (cI, 792, .inl p0_figures_row))]) (rest := []) S hK hN hA hP hD hS (c_X3_printInPlace l D cI cJ a_p0 a_p0_sheet a_p0_shortest a_p0_shortest_left a_p0_figures a_p0_sheet_bytes a_p0_figures_row u1 p0_sheet_length p0_sheet_bytes p0_figures_count p0_figures_top p0_figures_row u3 hu4) mwX3_printInPlace miX3_printInPlace kmX3_99 [0, 1, 2, 3, 4] rfl (by decide) rfl rfl rfl 0 rfl rfl ⟨Nat.le_of_ble_eq_true rfl, Nat.le_of_ble_eq_true rfl⟩ ⟨Nat.zero_le _, Nat.zero_le _⟩ hl.1 rfl rfl (Nat.le_of_ble_eq_true rfl) dX3_printFigures_84 (fun H locs hP hD hS => ?_)
        exact hret _ (opE hf) H locs ls 87 dX3_printFigures_87 hP hD hS
set_option maxRecDepth 100000 in
set_option maxHeartbeats 4000000 in
theorem c_X5_clear (l : Launch) (D : va_G) (cI cJ : ClassId) (a_p0 a_p0_bytes : Nat) (p0_length : Int32) (u : Int32) (hf : f_X5_clear p0_length = some u) : CtV l yX5_clear cX5_clear 1 0 0 [.ref a_p0] D cI cJ [(a_p0, .inr (6, [.ref a_p0_bytes, .int p0_length]))] [(a_p0, .inr (6, [.ref a_p0_bytes, .int u]))] := by
  refine mkV (own := RX5) rfl (by decide +kernel) (Nat.le_of_ble_eq_true rfl) (lv := [(0, .ref a_p0)]) rfl ?_
  intro p e s m below meth c Q A ls ar S hA hK hN hret H locs hP hD hS hl
  obtain ⟨hx, hb, hml, hown, hts⟩ := id S
  have hret : ∀ (w : Int32), w = u → ∀ (H : Heap) (locs : List Loc) (ls : Array Slot) (pc : Nat), decode cX5_clear pc = .ok (.return_, 1) → va_P D vwCl [(a_p0, .inr (6, [.ref a_p0_bytes, .int w]))] H → va_D A [(a_p0, .inr (6, [.ref a_p0_bytes, .int w]))] → va_S A s.heap H locs → W p l e (rmz 0 0) s m ar below meth c H locs 0 0 Q (F0 m pc ls []) := fun w hw => hw ▸ hret
  unfold f_X5_clear at hf
  refine lv_aload_n hx hb dX5_clear_0 rfl (lv_at hl 0 rfl) ?_
  refine lv_iconst (v := 0) hx hb dX5_clear_1 (by decide) ?_
  refine va_put (D := D) (ci := 6) (v := .int (0 : Int32)) (ty := tyX5 1) (C := RX5) (T := TX5) (N := 2) hx hb hts uwX5 tyX5 tyX5_ok nmX5 hown hK hP hD hS 0 rfl rfl 1 (by decide) (hts _ kfX5_13) (fun _ h9 => h9) rfl (tyX5_ok 1 (by decide)) rfl rfl (Nat.le_of_ble_eq_true rfl) dX5_clear_2 (fun H locs hP hD hS => ?_)
  have hP : va_P D vwCl [(a_p0, .inr (6, [.ref a_p0_bytes, .int (0 : Int32)]))] H := hP
  have hD : va_D A [(a_p0, .inr (6, [.ref a_p0_bytes, .int (0 : Int32)]))] := hD
  exact hret _ (opE hf) H locs ls 5 dX5_clear_5 hP hD hS
set_option maxRecDepth 100000 in
set_option maxHeartbeats 4000000 in
theorem c_X5_at (l : Launch) (D : va_G) (cI cJ : ClassId) (a_p0 a_p0_bytes : Nat) (p1 : Int32) (p0_length : Int32) (p0_bytes : (Nat → Int32)) (u : Int32) (hf : f_X5_at p0_length p0_bytes p1 = some u) : CtI l yX5_at cX5_at 2 0 0 .int [.ref a_p0, .int p1] D cI cJ [(a_p0, .inr (6, [.ref a_p0_bytes, .int p0_length])), (a_p0_bytes, .inl (cI, 1077, .inl p0_bytes))] [(a_p0, .inr (6, [.ref a_p0_bytes, .int p0_length])), (a_p0_bytes, .inl (cI, 1077, .inl p0_bytes))] u := by
  refine mkI (own := RX5) rfl (by decide +kernel) (Nat.le_of_ble_eq_true rfl) (lv := [(0, .ref a_p0), (1, .int p1)]) rfl ?_
  intro p e s m below meth c Q A ls ar S hA hK hN hret H locs hP hD hS hl
  obtain ⟨hx, hb, hml, hown, hts⟩ := id S
  have hret : ∀ (w : Int32), w = u → ∀ (H : Heap) (locs : List Loc) (ls : Array Slot) (pc : Nat), decode cX5_at pc = .ok (.ireturn, 1) → va_P D vwCl [(a_p0, .inr (6, [.ref a_p0_bytes, .int p0_length])), (a_p0_bytes, .inl (cI, 1077, .inl p0_bytes))] H → va_D A [(a_p0, .inr (6, [.ref a_p0_bytes, .int p0_length])), (a_p0_bytes, .inl (cI, 1077, .inl p0_bytes))] → va_S A s.heap H locs → W p l e (rmz 0 0) s m ar below meth c H locs 0 0 Q (F0 m pc ls [.int w]) := fun w hw => hw ▸ hret
  unfold f_X5_at at hf
  refine lv_iload_n hx hb dX5_at_0 rfl (lv_at hl 1 rfl) ?_
  refine lv_if_lt (tgt := 28) hx hb dX5_at_1 (by decide) (fun hc4 => ?_) (fun hc4 => ?_)
  · have hf := ifT hc4 hf
    refine lv_iconst (v := -1) hx hb dX5_at_28 (by decide) ?_
    exact hret _ (opE hf) H locs ls 29 dX5_at_29 hP hD hS
  · have hf := ifF hc4 hf
    refine lv_iload_n hx hb dX5_at_4 rfl (lv_at hl 1 rfl) ?_
    refine lv_aload_n hx hb dX5_at_5 rfl (lv_at hl 0 rfl) ?_
    refine va_get (D := D) (ci := 6) (v := .int p0_length) (C := RX5) (T := TX5) (N := 2) hx hb hts uwX5 hown hK hP 0 rfl rfl 1 (by decide) (hts _ kfX5_13) (fun _ h9 => h9) rfl dX5_at_6 ?_
    refine lv_icmp_ge (tgt := 28) hx hb dX5_at_9 (by decide) (fun hc3 => ?_) (fun hc3 => ?_)
    · have hf := ifT hc3 hf
      refine lv_iconst (v := -1) hx hb dX5_at_28 (by decide) ?_
      exact hret _ (opE hf) H locs ls 29 dX5_at_29 hP hD hS
    · have hf := ifF hc3 hf
      refine lv_iload_n hx hb dX5_at_12 rfl (lv_at hl 1 rfl) ?_
      refine lv_sipush (v := 1077) hx hb dX5_at_13 (by decide) ?_
      refine lv_icmp_ge (tgt := 28) hx hb dX5_at_16 (by decide) (fun hc2 => ?_) (fun hc2 => ?_)
      · have hf := ifT hc2 hf
        refine lv_iconst (v := -1) hx hb dX5_at_28 (by decide) ?_
        exact hret _ (opE hf) H locs ls 29 dX5_at_29 hP hD hS
      · have hf := ifF hc2 hf
        refine lv_aload_n hx hb dX5_at_19 rfl (lv_at hl 0 rfl) ?_
        refine va_get (D := D) (ci := 6) (v := .ref a_p0_bytes) (C := RX5) (T := TX5) (N := 2) hx hb hts uwX5 hown hK hP 0 rfl rfl 0 (by decide) (hts _ kfX5_9) (fun _ h9 => h9) rfl dX5_at_20 ?_
        refine lv_iload_n hx hb dX5_at_23 rfl (lv_at hl 1 rfl) ?_
        obtain ⟨hi1, hf⟩ := gdE hf
        refine va_iald hx hb hK hP 1 0 rfl rfl hi1 dX5_at_24 ?_
        refine lv_goto (tgt := 29) hx hb dX5_at_25 (by decide) ?_
        exact hret _ (opE hf) H locs ls 29 dX5_at_29 hP hD hS
set_option maxRecDepth 100000 in
set_option maxHeartbeats 4000000 in
theorem c_X7_hasRoomFor (l : Launch) (D : va_G) (cI cJ : ClassId) (a_p0 a_p0_bytes : Nat) (p1 : Int32) (p0_length : Int32) (p0_minus : Int32) (p0_kind : Int32) (p0_sixteens : Int32) (p0_behindPoint : Int32) (p0_counting : Int32) (p0_power : Int32) (p0_begin : Int32) (p0_end : Int32) (u : Int32) (hf : f_X7_hasRoomFor p0_length p1 = some u) : CtI l yX7_hasRoomFor cX7_hasRoomFor 2 0 0 .boolean [.ref a_p0, .int p1] D cI cJ [(a_p0, .inr (8, [.ref a_p0_bytes, .int p0_length, .int p0_minus, .int p0_kind, .int p0_sixteens, .int p0_behindPoint, .int p0_counting, .int p0_power, .int p0_begin, .int p0_end]))] [(a_p0, .inr (8, [.ref a_p0_bytes, .int p0_length, .int p0_minus, .int p0_kind, .int p0_sixteens, .int p0_behindPoint, .int p0_counting, .int p0_power, .int p0_begin, .int p0_end]))] u := by
  refine mkZ (own := RX7) rfl (by decide +kernel) (Nat.le_of_ble_eq_true rfl) (lv := [(0, .ref a_p0), (1, .int p1)]) rfl ?_
  intro p e s m below meth c Q A ls ar S hA hK hN hret H locs hP hD hS hl
  obtain ⟨hx, hb, hml, hown, hts⟩ := id S
  have hret : ∀ (w : Int32), w = u → ∀ (H : Heap) (locs : List Loc) (ls : Array Slot) (pc : Nat), decode cX7_hasRoomFor pc = .ok (.ireturn, 1) → (w = 0 ∨ w = 1) → va_P D vwCl [(a_p0, .inr (8, [.ref a_p0_bytes, .int p0_length, .int p0_minus, .int p0_kind, .int p0_sixteens, .int p0_behindPoint, .int p0_counting, .int p0_power, .int p0_begin, .int p0_end]))] H → va_D A [(a_p0, .inr (8, [.ref a_p0_bytes, .int p0_length, .int p0_minus, .int p0_kind, .int p0_sixteens, .int p0_behindPoint, .int p0_counting, .int p0_power, .int p0_begin, .int p0_end]))] → va_S A s.heap H locs → W p l e (rmz 0 0) s m ar below meth c H locs 0 0 Q (F0 m pc ls [.int w]) := fun w hw => hw ▸ hret
  unfold f_X7_hasRoomFor at hf
  refine lv_iload_n hx hb dX7_hasRoomFor_0 rfl (lv_at hl 1 rfl) ?_
  refine lv_sipush (v := 1200) hx hb dX7_hasRoomFor_1 (by decide) ?_
  refine lv_aload_n hx hb dX7_hasRoomFor_4 rfl (lv_at hl 0 rfl) ?_
  refine va_get (D := D) (ci := 8) (v := .int p0_length) (C := RX7) (T := TX7) (N := 10) hx hb hts uwX7 hown hK hP 0 rfl rfl 1 (by decide) (hts _ kfX7_15) (fun _ h9 => h9) rfl dX7_hasRoomFor_5 ?_
  refine lv_isub hx hb dX7_hasRoomFor_8 ?_
  refine lv_icmp_gt (tgt := 16) hx hb dX7_hasRoomFor_9 (by decide) (fun hc1 => ?_) (fun hc1 => ?_)
  · have hf := ifT hc1 hf
    refine lv_iconst (v := 0) hx hb dX7_hasRoomFor_16 (by decide) ?_
    exact hret _ (opE hf) H locs ls 17 dX7_hasRoomFor_17 (Or.inl rfl) hP hD hS
  · have hf := ifF hc1 hf
    refine lv_iconst (v := 1) hx hb dX7_hasRoomFor_12 (by decide) ?_
    refine lv_goto (tgt := 17) hx hb dX7_hasRoomFor_13 (by decide) ?_
    exact hret _ (opE hf) H locs ls 17 dX7_hasRoomFor_17 (Or.inr rfl) hP hD hS
set_option maxRecDepth 100000 in
set_option maxHeartbeats 4000000 in
theorem c_X7_append (l : Launch) (D : va_G) (cI cJ : ClassId) (a_p0 a_p0_bytes : Nat) (p1 : Int32) (p0_length : Int32) (p0_minus : Int32) (p0_kind : Int32) (p0_sixteens : Int32) (p0_behindPoint : Int32) (p0_counting : Int32) (p0_power : Int32) (p0_begin : Int32) (p0_end : Int32) (p0_bytes : (Nat → Int32)) (u : Int32 × (Nat → Int32)) (hf : f_X7_append p1 p0_length p0_bytes = some u) : CtV l yX7_append cX7_append 2 0 0 [.ref a_p0, .int p1] D cI cJ [(a_p0, .inr (8, [.ref a_p0_bytes, .int p0_length, .int p0_minus, .int p0_kind, .int p0_sixteens, .int p0_behindPoint, .int p0_counting, .int p0_power, .int p0_begin, .int p0_end])), (a_p0_bytes, .inl (cI, 1200, .inl p0_bytes))] [(a_p0, .inr (8, [.ref a_p0_bytes, .int u.1, .int p0_minus, .int p0_kind, .int p0_sixteens, .int p0_behindPoint, .int p0_counting, .int p0_power, .int p0_begin, .int p0_end])), (a_p0_bytes, .inl (cI, 1200, .inl u.2))] := by
  refine mkV (own := RX7) rfl (by decide +kernel) (Nat.le_of_ble_eq_true rfl) (lv := [(0, .ref a_p0), (1, .int p1)]) rfl ?_
  intro p e s m below meth c Q A ls ar S hA hK hN hret H locs hP hD hS hl
  obtain ⟨hx, hb, hml, hown, hts⟩ := id S
  have hret : ∀ (w : Int32 × (Nat → Int32)), w = u → ∀ (H : Heap) (locs : List Loc) (ls : Array Slot) (pc : Nat), decode cX7_append pc = .ok (.return_, 1) → va_P D vwCl [(a_p0, .inr (8, [.ref a_p0_bytes, .int w.1, .int p0_minus, .int p0_kind, .int p0_sixteens, .int p0_behindPoint, .int p0_counting, .int p0_power, .int p0_begin, .int p0_end])), (a_p0_bytes, .inl (cI, 1200, .inl w.2))] H → va_D A [(a_p0, .inr (8, [.ref a_p0_bytes, .int w.1, .int p0_minus, .int p0_kind, .int p0_sixteens, .int p0_behindPoint, .int p0_counting, .int p0_power, .int p0_begin, .int p0_end])), (a_p0_bytes, .inl (cI, 1200, .inl w.2))] → va_S A s.heap H locs → W p l e (rmz 0 0) s m ar below meth c H locs 0 0 Q (F0 m pc ls []) := fun w hw => hw ▸ hret
  unfold f_X7_append at hf
  refine lv_aload_n hx hb dX7_append_0 rfl (lv_at hl 0 rfl) ?_
  refine va_get (D := D) (ci := 8) (v := .int p0_length) (C := RX7) (T := TX7) (N := 10) hx hb hts uwX7 hown hK hP 0 rfl rfl 1 (by decide) (hts _ kfX7_15) (fun _ h9 => h9) rfl dX7_append_1 ?_
  refine lv_sipush (v := 1200) hx hb dX7_append_4 (by decide) ?_
  refine lv_icmp_ge (tgt := 30) hx hb dX7_append_7 (by decide) (fun hc2 => ?_) (fun hc2 => ?_)
  · have hf := ifT hc2 hf
    exact hret _ (opE hf) H locs ls 30 dX7_append_30 hP hD hS
  · have hf := ifF hc2 hf
    refine lv_aload_n hx hb dX7_append_10 rfl (lv_at hl 0 rfl) ?_
    refine va_get (D := D) (ci := 8) (v := .ref a_p0_bytes) (C := RX7) (T := TX7) (N := 10) hx hb hts uwX7 hown hK hP 0 rfl rfl 0 (by decide) (hts _ kfX7_11) (fun _ h9 => h9) rfl dX7_append_11 ?_
    refine lv_aload_n hx hb dX7_append_14 rfl (lv_at hl 0 rfl) ?_
    refine va_get (D := D) (ci := 8) (v := .int p0_length) (C := RX7) (T := TX7) (N := 10) hx hb hts uwX7 hown hK hP 0 rfl rfl 1 (by decide) (hts _ kfX7_15) (fun _ h9 => h9) rfl dX7_append_15 ?_
    refine lv_iload_n hx hb dX7_append_18 rfl (lv_at hl 1 rfl) ?_
    obtain ⟨hi1, hf⟩ := gdE hf
    refine va_iast hx hb hK hP hD hS 1 0 rfl rfl hi1 dX7_append_19 (fun H locs hP hD hS => ?_)
    have hP : va_P D vwCl [(a_p0, .inr (8, [.ref a_p0_bytes, .int p0_length, .int p0_minus, .int p0_kind, .int p0_sixteens, .int p0_behindPoint, .int p0_counting, .int p0_power, .int p0_begin, .int p0_end])), (a_p0_bytes, .inl (cI, 1200, .inl (upd p0_bytes p0_length.toNatClampNeg p1)))] H := hP
    have hD : va_D A [(a_p0, .inr (8, [.ref a_p0_bytes, .int p0_length, .int p0_minus, .int p0_kind, .int p0_sixteens, .int p0_behindPoint, .int p0_counting, .int p0_power, .int p0_begin, .int p0_end])), (a_p0_bytes, .inl (cI, 1200, .inl (upd p0_bytes p0_length.toNatClampNeg p1)))] := hD
    refine lv_aload_n hx hb dX7_append_20 rfl (lv_at hl 0 rfl) ?_
    refine lv_dup hx hb dX7_append_21 rfl ?_
    refine va_get (D := D) (ci := 8) (v := .int p0_length) (C := RX7) (T := TX7) (N := 10) hx hb hts uwX7 hown hK hP 0 rfl rfl 1 (by decide) (hts _ kfX7_15) (fun _ h9 => h9) rfl dX7_append_22 ?_
    refine lv_iconst (v := 1) hx hb dX7_append_25 (by decide) ?_
    refine lv_iadd hx hb dX7_append_26 ?_
    refine va_put (D := D) (ci := 8) (v := .int (p0_length + (1 : Int32))) (ty := tyX7 1) (C := RX7) (T := TX7) (N := 10) hx hb hts uwX7 tyX7 tyX7_ok nmX7 hown hK hP hD hS 0 rfl rfl 1 (by decide) (hts _ kfX7_15) (fun _ h9 => h9) rfl (tyX7_ok 1 (by decide)) rfl rfl (Nat.le_of_ble_eq_true rfl) dX7_append_27 (fun H locs hP hD hS => ?_)
    have hP : va_P D vwCl [(a_p0, .inr (8, [.ref a_p0_bytes, .int (p0_length + (1 : Int32)), .int p0_minus, .int p0_kind, .int p0_sixteens, .int p0_behindPoint, .int p0_counting, .int p0_power, .int p0_begin, .int p0_end])), (a_p0_bytes, .inl (cI, 1200, .inl (upd p0_bytes p0_length.toNatClampNeg p1)))] H := hP
    have hD : va_D A [(a_p0, .inr (8, [.ref a_p0_bytes, .int (p0_length + (1 : Int32)), .int p0_minus, .int p0_kind, .int p0_sixteens, .int p0_behindPoint, .int p0_counting, .int p0_power, .int p0_begin, .int p0_end])), (a_p0_bytes, .inl (cI, 1200, .inl (upd p0_bytes p0_length.toNatClampNeg p1)))] := hD
    exact hret _ (opE hf) H locs ls 30 dX7_append_30 hP hD hS
set_option maxRecDepth 100000 in
set_option maxHeartbeats 4000000 in
theorem c_X7_clear (l : Launch) (D : va_G) (cI cJ : ClassId) (a_p0 a_p0_bytes : Nat) (p0_length : Int32) (p0_minus : Int32) (p0_kind : Int32) (p0_sixteens : Int32) (p0_behindPoint : Int32) (p0_counting : Int32) (p0_power : Int32) (p0_begin : Int32) (p0_end : Int32) (u : Int32) (hf : f_X7_clear p0_length = some u) : CtV l yX7_clear cX7_clear 1 0 0 [.ref a_p0] D cI cJ [(a_p0, .inr (8, [.ref a_p0_bytes, .int p0_length, .int p0_minus, .int p0_kind, .int p0_sixteens, .int p0_behindPoint, .int p0_counting, .int p0_power, .int p0_begin, .int p0_end]))] [(a_p0, .inr (8, [.ref a_p0_bytes, .int u, .int p0_minus, .int p0_kind, .int p0_sixteens, .int p0_behindPoint, .int p0_counting, .int p0_power, .int p0_begin, .int p0_end]))] := by
  refine mkV (own := RX7) rfl (by decide +kernel) (Nat.le_of_ble_eq_true rfl) (lv := [(0, .ref a_p0)]) rfl ?_
  intro p e s m below meth c Q A ls ar S hA hK hN hret H locs hP hD hS hl
  obtain ⟨hx, hb, hml, hown, hts⟩ := id S
  have hret : ∀ (w : Int32), w = u → ∀ (H : Heap) (locs : List Loc) (ls : Array Slot) (pc : Nat), decode cX7_clear pc = .ok (.return_, 1) → va_P D vwCl [(a_p0, .inr (8, [.ref a_p0_bytes, .int w, .int p0_minus, .int p0_kind, .int p0_sixteens, .int p0_behindPoint, .int p0_counting, .int p0_power, .int p0_begin, .int p0_end]))] H → va_D A [(a_p0, .inr (8, [.ref a_p0_bytes, .int w, .int p0_minus, .int p0_kind, .int p0_sixteens, .int p0_behindPoint, .int p0_counting, .int p0_power, .int p0_begin, .int p0_end]))] → va_S A s.heap H locs → W p l e (rmz 0 0) s m ar below meth c H locs 0 0 Q (F0 m pc ls []) := fun w hw => hw ▸ hret
  unfold f_X7_clear at hf
  refine lv_aload_n hx hb dX7_clear_0 rfl (lv_at hl 0 rfl) ?_
  refine lv_iconst (v := 0) hx hb dX7_clear_1 (by decide) ?_
  refine va_put (D := D) (ci := 8) (v := .int (0 : Int32)) (ty := tyX7 1) (C := RX7) (T := TX7) (N := 10) hx hb hts uwX7 tyX7 tyX7_ok nmX7 hown hK hP hD hS 0 rfl rfl 1 (by decide) (hts _ kfX7_15) (fun _ h9 => h9) rfl (tyX7_ok 1 (by decide)) rfl rfl (Nat.le_of_ble_eq_true rfl) dX7_clear_2 (fun H locs hP hD hS => ?_)
  have hP : va_P D vwCl [(a_p0, .inr (8, [.ref a_p0_bytes, .int (0 : Int32), .int p0_minus, .int p0_kind, .int p0_sixteens, .int p0_behindPoint, .int p0_counting, .int p0_power, .int p0_begin, .int p0_end]))] H := hP
  have hD : va_D A [(a_p0, .inr (8, [.ref a_p0_bytes, .int (0 : Int32), .int p0_minus, .int p0_kind, .int p0_sixteens, .int p0_behindPoint, .int p0_counting, .int p0_power, .int p0_begin, .int p0_end]))] := hD
  exact hret _ (opE hf) H locs ls 5 dX7_clear_5 hP hD hS
set_option maxRecDepth 100000 in
set_option maxHeartbeats 4000000 in
theorem c_X7_signLength (l : Launch) (D : va_G) (cI cJ : ClassId) (a_p0 a_p0_bytes : Nat) (p1 : Int32) (p0_length : Int32) (p0_minus : Int32) (p0_kind : Int32) (p0_sixteens : Int32) (p0_behindPoint : Int32) (p0_counting : Int32) (p0_power : Int32) (p0_begin : Int32) (p0_end : Int32) (p0_bytes : (Nat → Int32)) (u : Int32) (hf : f_X7_signLength p0_length p0_bytes p1 = some u) : CtI l yX7_signLength cX7_signLength 2 1 21 .int [.ref a_p0, .int p1] D cI cJ [(a_p0, .inr (8, [.ref a_p0_bytes, .int p0_length, .int p0_minus, .int p0_kind, .int p0_sixteens, .int p0_behindPoint, .int p0_counting, .int p0_power, .int p0_begin, .int p0_end])), (a_p0_bytes, .inl (cI, 1200, .inl p0_bytes))] [(a_p0, .inr (8, [.ref a_p0_bytes, .int p0_length, .int p0_minus, .int p0_kind, .int p0_sixteens, .int p0_behindPoint, .int p0_counting, .int p0_power, .int p0_begin, .int p0_end])), (a_p0_bytes, .inl (cI, 1200, .inl p0_bytes))] u := by
  refine mkI (own := RX7) rfl (by decide +kernel) (Nat.le_of_ble_eq_true rfl) (lv := [(0, .ref a_p0), (1, .int p1)]) rfl ?_
  intro p e s m below meth c Q A ls ar S hA hK hN hret H locs hP hD hS hl
  obtain ⟨hx, hb, hml, hown, hts⟩ := id S
  have hret : ∀ (w : Int32), w = u → ∀ (H : Heap) (locs : List Loc) (ls : Array Slot) (pc : Nat), decode cX7_signLength pc = .ok (.ireturn, 1) → va_P D vwCl [(a_p0, .inr (8, [.ref a_p0_bytes, .int p0_length, .int p0_minus, .int p0_kind, .int p0_sixteens, .int p0_behindPoint, .int p0_counting, .int p0_power, .int p0_begin, .int p0_end])), (a_p0_bytes, .inl (cI, 1200, .inl p0_bytes))] H → va_D A [(a_p0, .inr (8, [.ref a_p0_bytes, .int p0_length, .int p0_minus, .int p0_kind, .int p0_sixteens, .int p0_behindPoint, .int p0_counting, .int p0_power, .int p0_begin, .int p0_end])), (a_p0_bytes, .inl (cI, 1200, .inl p0_bytes))] → va_S A s.heap H locs → W p l e (rmz 1 21) s m ar below meth c H locs 0 0 Q (F0 m pc ls [.int w]) := fun w hw => hw ▸ hret
  unfold f_X7_signLength at hf
  refine lv_aload_n hx hb dX7_signLength_0 rfl (lv_at hl 0 rfl) ?_
  refine lv_iload_n hx hb dX7_signLength_1 rfl (lv_at hl 1 rfl) ?_
  obtain ⟨u1, hu2, hf⟩ := bdE hf
  refine cV_I (ws' := [(a_p0, .inr (8, [.ref a_p0_bytes, .int p0_length, .int p0_minus, .int p0_kind, .int p0_sixteens, .int p0_behindPoint, .int p0_counting, .int p0_power, .int p0_begin, .int p0_end])), (a_p0_bytes, .inl (cI, 1200, .inl p0_bytes))]) (rest := []) S hK hN hA hP hD hS (c_X7_at l D cI cJ a_p0 a_p0_bytes p1 p0_length p0_minus p0_kind p0_sixteens p0_behindPoint p0_counting p0_power p0_begin p0_end p0_bytes u1 hu2) mwX7_at miX7_at kmX7_19 [0, 1] rfl (by decide) rfl rfl rfl 0 rfl rfl ⟨Nat.le_of_ble_eq_true rfl, Nat.le_of_ble_eq_true rfl⟩ ⟨Nat.zero_le _, Nat.zero_le _⟩ hl.1 rfl rfl (Nat.le_of_ble_eq_true rfl) dX7_signLength_2 (fun H locs hP hD hS => ?_)
  refine lv_bipush (v := 45) hx hb dX7_signLength_5 (by decide) ?_
  refine lv_icmp_eq (tgt := 20) hx hb dX7_signLength_7 (by decide) (fun hc6 => ?_) (fun hc6 => ?_)
  · have hf := ifT hc6 hf
    refine lv_iconst (v := 1) hx hb dX7_signLength_20 (by decide) ?_
    refine lv_goto (tgt := 25) hx hb dX7_signLength_21 (by decide) ?_
    exact hret _ (opE hf) H locs ls 25 dX7_signLength_25 hP hD hS
  · have hf := ifF hc6 hf
    refine lv_aload_n hx hb dX7_signLength_10 rfl (lv_at hl 0 rfl) ?_
    refine lv_iload_n hx hb dX7_signLength_11 rfl (lv_at hl 1 rfl) ?_
    obtain ⟨u3, hu4, hf⟩ := bdE hf
    refine cV_I (ws' := [(a_p0, .inr (8, [.ref a_p0_bytes, .int p0_length, .int p0_minus, .int p0_kind, .int p0_sixteens, .int p0_behindPoint, .int p0_counting, .int p0_power, .int p0_begin, .int p0_end])), (a_p0_bytes, .inl (cI, 1200, .inl p0_bytes))]) (rest := []) S hK hN hA hP hD hS (c_X7_at l D cI cJ a_p0 a_p0_bytes p1 p0_length p0_minus p0_kind p0_sixteens p0_behindPoint p0_counting p0_power p0_begin p0_end p0_bytes u3 hu4) mwX7_at miX7_at kmX7_19 [0, 1] rfl (by decide) rfl rfl rfl 0 rfl rfl ⟨Nat.le_of_ble_eq_true rfl, Nat.le_of_ble_eq_true rfl⟩ ⟨Nat.zero_le _, Nat.zero_le _⟩ hl.1 rfl rfl (Nat.le_of_ble_eq_true rfl) dX7_signLength_12 (fun H locs hP hD hS => ?_)
    refine lv_bipush (v := 43) hx hb dX7_signLength_15 (by decide) ?_
    refine lv_icmp_ne (tgt := 24) hx hb dX7_signLength_17 (by decide) (fun hc5 => ?_) (fun hc5 => ?_)
    · have hf := ifF hc5 hf
      refine lv_iconst (v := 0) hx hb dX7_signLength_24 (by decide) ?_
      exact hret _ (opE hf) H locs ls 25 dX7_signLength_25 hP hD hS
    · have hf := ifT hc5 hf
      refine lv_iconst (v := 1) hx hb dX7_signLength_20 (by decide) ?_
      refine lv_goto (tgt := 25) hx hb dX7_signLength_21 (by decide) ?_
      exact hret _ (opE hf) H locs ls 25 dX7_signLength_25 hP hD hS
set_option maxRecDepth 100000 in
set_option maxHeartbeats 4000000 in
theorem c_X7_parseFigures (l : Launch) (D : va_G) (cI cJ : ClassId) (a_p0 a_p0_bytes : Nat) (p0_length : Int32) (p0_minus : Int32) (p0_kind : Int32) (p0_sixteens : Int32) (p0_behindPoint : Int32) (p0_counting : Int32) (p0_power : Int32) (p0_begin : Int32) (p0_end : Int32) (p0_bytes : (Nat → Int32)) (u : Int32 × Int32 × Int32 × Int32) (hf : f_X7_parseFigures p0_length p0_sixteens p0_begin p0_bytes p0_behindPoint p0_counting p0_end = some u) : CtI l yX7_parseFigures cX7_parseFigures 4 2 43 .boolean [.ref a_p0] D cI cJ [(a_p0, .inr (8, [.ref a_p0_bytes, .int p0_length, .int p0_minus, .int p0_kind, .int p0_sixteens, .int p0_behindPoint, .int p0_counting, .int p0_power, .int p0_begin, .int p0_end])), (a_p0_bytes, .inl (cI, 1200, .inl p0_bytes))] [(a_p0, .inr (8, [.ref a_p0_bytes, .int p0_length, .int p0_minus, .int p0_kind, .int p0_sixteens, .int u.2.1, .int u.2.2.1, .int p0_power, .int p0_begin, .int u.2.2.2])), (a_p0_bytes, .inl (cI, 1200, .inl p0_bytes))] u.1 := by
  refine mkZ (own := RX7) rfl (by decide +kernel) (Nat.le_of_ble_eq_true rfl) (lv := [(0, .ref a_p0)]) rfl ?_
  intro p e s m below meth c Q A ls ar S hA hK hN hret H locs hP hD hS hl
  obtain ⟨hx, hb, hml, hown, hts⟩ := id S
  have hret : ∀ (w : Int32 × Int32 × Int32 × Int32), w = u → ∀ (H : Heap) (locs : List Loc) (ls : Array Slot) (pc : Nat), decode cX7_parseFigures pc = .ok (.ireturn, 1) → (w.1 = 0 ∨ w.1 = 1) → va_P D vwCl [(a_p0, .inr (8, [.ref a_p0_bytes, .int p0_length, .int p0_minus, .int p0_kind, .int p0_sixteens, .int w.2.1, .int w.2.2.1, .int p0_power, .int p0_begin, .int w.2.2.2])), (a_p0_bytes, .inl (cI, 1200, .inl p0_bytes))] H → va_D A [(a_p0, .inr (8, [.ref a_p0_bytes, .int p0_length, .int p0_minus, .int p0_kind, .int p0_sixteens, .int w.2.1, .int w.2.2.1, .int p0_power, .int p0_begin, .int w.2.2.2])), (a_p0_bytes, .inl (cI, 1200, .inl p0_bytes))] → va_S A s.heap H locs → W p l e (rmz 2 43) s m ar below meth c H locs 0 0 Q (F0 m pc ls [.int w.1]) := fun w hw => hw ▸ hret
  have keyB87 : ∀ (kL22 : Int32 → Int32 → Int32 → Int32 → Int32 → Option (Int32 × Int32 × Int32 × Int32)) (hL22 : ∀ (v1 : Int32) (v2 : Int32) (p0_behindPoint : Int32) (p0_counting : Int32) (p0_end : Int32) (H : Heap) (locs : List Loc) (ls : Array Slot), kL22 v1 v2 p0_behindPoint p0_counting p0_end = some u → va_P D vwCl [(a_p0, .inr (8, [.ref a_p0_bytes, .int p0_length, .int p0_minus, .int p0_kind, .int p0_sixteens, .int p0_behindPoint, .int p0_counting, .int p0_power, .int p0_begin, .int p0_end])), (a_p0_bytes, .inl (cI, 1200, .inl p0_bytes))] H → va_D A [(a_p0, .inr (8, [.ref a_p0_bytes, .int p0_length, .int p0_minus, .int p0_kind, .int p0_sixteens, .int p0_behindPoint, .int p0_counting, .int p0_power, .int p0_begin, .int p0_end])), (a_p0_bytes, .inl (cI, 1200, .inl p0_bytes))] → va_S A s.heap H locs → lv_has ls 4 [(0, .ref a_p0), (1, .int v1), (2, .int v2)] → W p l e (rmz 2 43) s m ar below meth c H locs 0 0 Q (F0 m 22 ls [])) (v1 : Int32) (v2 : Int32) (s1 : Int32) (s2 : Int32) (p0_behindPoint : Int32) (p0_counting : Int32) (p0_end : Int32) (H : Heap) (locs : List Loc) (ls : Array Slot), f_X7_parseFigures_B87 p0_length p0_sixteens p0_begin p0_bytes kL22 v1 v2 s1 s2 p0_behindPoint p0_counting p0_end = some u → va_P D vwCl [(a_p0, .inr (8, [.ref a_p0_bytes, .int p0_length, .int p0_minus, .int p0_kind, .int p0_sixteens, .int p0_behindPoint, .int p0_counting, .int p0_power, .int p0_begin, .int p0_end])), (a_p0_bytes, .inl (cI, 1200, .inl p0_bytes))] H → va_D A [(a_p0, .inr (8, [.ref a_p0_bytes, .int p0_length, .int p0_minus, .int p0_kind, .int p0_sixteens, .int p0_behindPoint, .int p0_counting, .int p0_power, .int p0_begin, .int p0_end])), (a_p0_bytes, .inl (cI, 1200, .inl p0_bytes))] → va_S A s.heap H locs → lv_has ls 4 [(0, .ref a_p0), (1, .int v1), (2, .int v2)] → W p l e (rmz 2 43) s m ar below meth c H locs 0 0 Q (F0 m 87 ls [.int s2, .int s1, .ref a_p0]) := by
    intro kL22 hL22 v1 v2 s1 s2 p0_behindPoint p0_counting p0_end H locs ls hf hP hD hS hl
    unfold f_X7_parseFigures_B87 at hf
    refine lv_iadd hx hb dX7_parseFigures_87 ?_
    refine va_put (D := D) (ci := 8) (v := .int (s1 + s2)) (ty := tyX7 6) (C := RX7) (T := TX7) (N := 10) hx hb hts uwX7 tyX7 tyX7_ok nmX7 hown hK hP hD hS 0 rfl rfl 6 (by decide) (hts _ kfX7_87) (fun _ h9 => h9) rfl (tyX7_ok 6 (by decide)) rfl rfl (Nat.le_of_ble_eq_true rfl) dX7_parseFigures_88 (fun H locs hP hD hS => ?_)
    have hP : va_P D vwCl [(a_p0, .inr (8, [.ref a_p0_bytes, .int p0_length, .int p0_minus, .int p0_kind, .int p0_sixteens, .int p0_behindPoint, .int (s1 + s2), .int p0_power, .int p0_begin, .int p0_end])), (a_p0_bytes, .inl (cI, 1200, .inl p0_bytes))] H := hP
    have hD : va_D A [(a_p0, .inr (8, [.ref a_p0_bytes, .int p0_length, .int p0_minus, .int p0_kind, .int p0_sixteens, .int p0_behindPoint, .int (s1 + s2), .int p0_power, .int p0_begin, .int p0_end])), (a_p0_bytes, .inl (cI, 1200, .inl p0_bytes))] := hD
    refine lv_goto (tgt := 118) hx hb dX7_parseFigures_91 (by decide) ?_
    refine lv_aload_n hx hb dX7_parseFigures_118 rfl (lv_at hl 0 rfl) ?_
    refine lv_dup hx hb dX7_parseFigures_119 rfl ?_
    refine va_get (D := D) (ci := 8) (v := .int p0_end) (C := RX7) (T := TX7) (N := 10) hx hb hts uwX7 hown hK hP 0 rfl rfl 9 (by decide) (hts _ kfX7_51) (fun _ h9 => h9) rfl dX7_parseFigures_120 ?_
    refine lv_iconst (v := 1) hx hb dX7_parseFigures_123 (by decide) ?_
    refine lv_iadd hx hb dX7_parseFigures_124 ?_
    refine va_put (D := D) (ci := 8) (v := .int (p0_end + (1 : Int32))) (ty := tyX7 9) (C := RX7) (T := TX7) (N := 10) hx hb hts uwX7 tyX7 tyX7_ok nmX7 hown hK hP hD hS 0 rfl rfl 9 (by decide) (hts _ kfX7_51) (fun _ h9 => h9) rfl (tyX7_ok 9 (by decide)) rfl rfl (Nat.le_of_ble_eq_true rfl) dX7_parseFigures_125 (fun H locs hP hD hS => ?_)
    have hP : va_P D vwCl [(a_p0, .inr (8, [.ref a_p0_bytes, .int p0_length, .int p0_minus, .int p0_kind, .int p0_sixteens, .int p0_behindPoint, .int (s1 + s2), .int p0_power, .int p0_begin, .int (p0_end + (1 : Int32))])), (a_p0_bytes, .inl (cI, 1200, .inl p0_bytes))] H := hP
    have hD : va_D A [(a_p0, .inr (8, [.ref a_p0_bytes, .int p0_length, .int p0_minus, .int p0_kind, .int p0_sixteens, .int p0_behindPoint, .int (s1 + s2), .int p0_power, .int p0_begin, .int (p0_end + (1 : Int32))])), (a_p0_bytes, .inl (cI, 1200, .inl p0_bytes))] := hD
    refine lv_goto (tgt := 22) hx hb dX7_parseFigures_128 (by decide) ?_
    exact hL22 v1 v2 p0_behindPoint (s1 + s2) (p0_end + (1 : Int32)) H locs ls hf hP hD hS (lv_sub hl [0, 1, 2] rfl)
  have keyB82 : ∀ (kL22 : Int32 → Int32 → Int32 → Int32 → Int32 → Option (Int32 × Int32 × Int32 × Int32)) (hL22 : ∀ (v1 : Int32) (v2 : Int32) (p0_behindPoint : Int32) (p0_counting : Int32) (p0_end : Int32) (H : Heap) (locs : List Loc) (ls : Array Slot), kL22 v1 v2 p0_behindPoint p0_counting p0_end = some u → va_P D vwCl [(a_p0, .inr (8, [.ref a_p0_bytes, .int p0_length, .int p0_minus, .int p0_kind, .int p0_sixteens, .int p0_behindPoint, .int p0_counting, .int p0_power, .int p0_begin, .int p0_end])), (a_p0_bytes, .inl (cI, 1200, .inl p0_bytes))] H → va_D A [(a_p0, .inr (8, [.ref a_p0_bytes, .int p0_length, .int p0_minus, .int p0_kind, .int p0_sixteens, .int p0_behindPoint, .int p0_counting, .int p0_power, .int p0_begin, .int p0_end])), (a_p0_bytes, .inl (cI, 1200, .inl p0_bytes))] → va_S A s.heap H locs → lv_has ls 4 [(0, .ref a_p0), (1, .int v1), (2, .int v2)] → W p l e (rmz 2 43) s m ar below meth c H locs 0 0 Q (F0 m 22 ls [])) (v1 : Int32) (v2 : Int32) (s1 : Int32) (p0_behindPoint : Int32) (p0_counting : Int32) (p0_end : Int32) (H : Heap) (locs : List Loc) (ls : Array Slot), f_X7_parseFigures_B82 p0_length p0_sixteens p0_begin p0_bytes kL22 v1 v2 s1 p0_behindPoint p0_counting p0_end = some u → va_P D vwCl [(a_p0, .inr (8, [.ref a_p0_bytes, .int p0_length, .int p0_minus, .int p0_kind, .int p0_sixteens, .int p0_behindPoint, .int p0_counting, .int p0_power, .int p0_begin, .int p0_end])), (a_p0_bytes, .inl (cI, 1200, .inl p0_bytes))] H → va_D A [(a_p0, .inr (8, [.ref a_p0_bytes, .int p0_length, .int p0_minus, .int p0_kind, .int p0_sixteens, .int p0_behindPoint, .int p0_counting, .int p0_power, .int p0_begin, .int p0_end])), (a_p0_bytes, .inl (cI, 1200, .inl p0_bytes))] → va_S A s.heap H locs → lv_has ls 4 [(0, .ref a_p0), (1, .int v1), (2, .int v2)] → W p l e (rmz 2 43) s m ar below meth c H locs 0 0 Q (F0 m 82 ls [.int s1, .ref a_p0]) := by
    intro kL22 hL22 v1 v2 s1 p0_behindPoint p0_counting p0_end H locs ls hf hP hD hS hl
    unfold f_X7_parseFigures_B82 at hf
    refine lv_iconst (v := 1) hx hb dX7_parseFigures_82 (by decide) ?_
    refine lv_goto (tgt := 87) hx hb dX7_parseFigures_83 (by decide) ?_
    exact keyB87 kL22 hL22 v1 v2 s1 (1 : Int32) p0_behindPoint p0_counting p0_end H locs ls hf hP hD hS (lv_sub hl [0, 1, 2] rfl)
  have keyB62 : ∀ (kL22 : Int32 → Int32 → Int32 → Int32 → Int32 → Option (Int32 × Int32 × Int32 × Int32)) (hL22 : ∀ (v1 : Int32) (v2 : Int32) (p0_behindPoint : Int32) (p0_counting : Int32) (p0_end : Int32) (H : Heap) (locs : List Loc) (ls : Array Slot), kL22 v1 v2 p0_behindPoint p0_counting p0_end = some u → va_P D vwCl [(a_p0, .inr (8, [.ref a_p0_bytes, .int p0_length, .int p0_minus, .int p0_kind, .int p0_sixteens, .int p0_behindPoint, .int p0_counting, .int p0_power, .int p0_begin, .int p0_end])), (a_p0_bytes, .inl (cI, 1200, .inl p0_bytes))] H → va_D A [(a_p0, .inr (8, [.ref a_p0_bytes, .int p0_length, .int p0_minus, .int p0_kind, .int p0_sixteens, .int p0_behindPoint, .int p0_counting, .int p0_power, .int p0_begin, .int p0_end])), (a_p0_bytes, .inl (cI, 1200, .inl p0_bytes))] → va_S A s.heap H locs → lv_has ls 4 [(0, .ref a_p0), (1, .int v1), (2, .int v2)] → W p l e (rmz 2 43) s m ar below meth c H locs 0 0 Q (F0 m 22 ls [])) (v1 : Int32) (v2 : Int32) (v3 : Int32) (s1 : Int32) (s2 : Int32) (p0_behindPoint : Int32) (p0_counting : Int32) (p0_end : Int32) (H : Heap) (locs : List Loc) (ls : Array Slot), f_X7_parseFigures_B62 p0_length p0_sixteens p0_begin p0_bytes kL22 v1 v2 v3 s1 s2 p0_behindPoint p0_counting p0_end = some u → va_P D vwCl [(a_p0, .inr (8, [.ref a_p0_bytes, .int p0_length, .int p0_minus, .int p0_kind, .int p0_sixteens, .int p0_behindPoint, .int p0_counting, .int p0_power, .int p0_begin, .int p0_end])), (a_p0_bytes, .inl (cI, 1200, .inl p0_bytes))] H → va_D A [(a_p0, .inr (8, [.ref a_p0_bytes, .int p0_length, .int p0_minus, .int p0_kind, .int p0_sixteens, .int p0_behindPoint, .int p0_counting, .int p0_power, .int p0_begin, .int p0_end])), (a_p0_bytes, .inl (cI, 1200, .inl p0_bytes))] → va_S A s.heap H locs → lv_has ls 4 [(0, .ref a_p0), (1, .int v1), (2, .int v2), (3, .int v3)] → W p l e (rmz 2 43) s m ar below meth c H locs 0 0 Q (F0 m 62 ls [.int s2, .int s1, .ref a_p0]) := by
    intro kL22 hL22 v1 v2 v3 s1 s2 p0_behindPoint p0_counting p0_end H locs ls hf hP hD hS hl
    unfold f_X7_parseFigures_B62 at hf
    refine lv_iadd hx hb dX7_parseFigures_62 ?_
    refine va_put (D := D) (ci := 8) (v := .int (s1 + s2)) (ty := tyX7 5) (C := RX7) (T := TX7) (N := 10) hx hb hts uwX7 tyX7 tyX7_ok nmX7 hown hK hP hD hS 0 rfl rfl 5 (by decide) (hts _ kfX7_84) (fun _ h9 => h9) rfl (tyX7_ok 5 (by decide)) rfl rfl (Nat.le_of_ble_eq_true rfl) dX7_parseFigures_63 (fun H locs hP hD hS => ?_)
    have hP : va_P D vwCl [(a_p0, .inr (8, [.ref a_p0_bytes, .int p0_length, .int p0_minus, .int p0_kind, .int p0_sixteens, .int (s1 + s2), .int p0_counting, .int p0_power, .int p0_begin, .int p0_end])), (a_p0_bytes, .inl (cI, 1200, .inl p0_bytes))] H := hP
    have hD : va_D A [(a_p0, .inr (8, [.ref a_p0_bytes, .int p0_length, .int p0_minus, .int p0_kind, .int p0_sixteens, .int (s1 + s2), .int p0_counting, .int p0_power, .int p0_begin, .int p0_end])), (a_p0_bytes, .inl (cI, 1200, .inl p0_bytes))] := hD
    refine lv_aload_n hx hb dX7_parseFigures_66 rfl (lv_at hl 0 rfl) ?_
    refine lv_dup hx hb dX7_parseFigures_67 rfl ?_
    refine va_get (D := D) (ci := 8) (v := .int p0_counting) (C := RX7) (T := TX7) (N := 10) hx hb hts uwX7 hown hK hP 0 rfl rfl 6 (by decide) (hts _ kfX7_87) (fun _ h9 => h9) rfl dX7_parseFigures_68 ?_
    refine lv_aload_n hx hb dX7_parseFigures_71 rfl (lv_at hl 0 rfl) ?_
    refine va_get (D := D) (ci := 8) (v := .int p0_counting) (C := RX7) (T := TX7) (N := 10) hx hb hts uwX7 hown hK hP 0 rfl rfl 6 (by decide) (hts _ kfX7_87) (fun _ h9 => h9) rfl dX7_parseFigures_72 ?_
    refine lv_if_gt (tgt := 82) hx hb dX7_parseFigures_75 (by decide) (fun hc11 => ?_) (fun hc11 => ?_)
    · have hf := ifT hc11 hf
      exact keyB82 kL22 hL22 v1 v2 p0_counting (s1 + s2) p0_counting p0_end H locs ls hf hP hD hS (lv_sub hl [0, 1, 2] rfl)
    · have hf := ifF hc11 hf
      refine lv_iload_n hx hb dX7_parseFigures_78 rfl (lv_at hl 3 rfl) ?_
      refine lv_if_le (tgt := 86) hx hb dX7_parseFigures_79 (by decide) (fun hc10 => ?_) (fun hc10 => ?_)
      · have hf := ifT hc10 hf
        refine lv_iconst (v := 0) hx hb dX7_parseFigures_86 (by decide) ?_
        exact keyB87 kL22 hL22 v1 v2 p0_counting (0 : Int32) (s1 + s2) p0_counting p0_end H locs ls hf hP hD hS (lv_sub hl [0, 1, 2] rfl)
      · have hf := ifF hc10 hf
        exact keyB82 kL22 hL22 v1 v2 p0_counting (s1 + s2) p0_counting p0_end H locs ls hf hP hD hS (lv_sub hl [0, 1, 2] rfl)
  have keyL22 : ∀ (n : Nat) (v1 : Int32) (v2 : Int32) (p0_behindPoint : Int32) (p0_counting : Int32) (p0_end : Int32) (H : Heap) (locs : List Loc) (ls : Array Slot), f_X7_parseFigures_L22 p0_length p0_sixteens p0_begin p0_bytes n v1 v2 p0_behindPoint p0_counting p0_end = some u → va_P D vwCl [(a_p0, .inr (8, [.ref a_p0_bytes, .int p0_length, .int p0_minus, .int p0_kind, .int p0_sixteens, .int p0_behindPoint, .int p0_counting, .int p0_power, .int p0_begin, .int p0_end])), (a_p0_bytes, .inl (cI, 1200, .inl p0_bytes))] H → va_D A [(a_p0, .inr (8, [.ref a_p0_bytes, .int p0_length, .int p0_minus, .int p0_kind, .int p0_sixteens, .int p0_behindPoint, .int p0_counting, .int p0_power, .int p0_begin, .int p0_end])), (a_p0_bytes, .inl (cI, 1200, .inl p0_bytes))] → va_S A s.heap H locs → lv_has ls 4 [(0, .ref a_p0), (1, .int v1), (2, .int v2)] → W p l e (rmz 2 43) s m ar below meth c H locs 0 0 Q (F0 m 22 ls []) := by
    intro n
    induction n with
      | zero =>
        intro v1 v2 p0_behindPoint p0_counting p0_end H locs ls hf
        cases hf
      | succ n ih =>
        intro v1 v2 p0_behindPoint p0_counting p0_end H locs ls hf hP hD hS hl
        rw [f_X7_parseFigures_L22] at hf
        refine lv_aload_n hx hb dX7_parseFigures_22 rfl (lv_at hl 0 rfl) ?_
        refine va_get (D := D) (ci := 8) (v := .int p0_end) (C := RX7) (T := TX7) (N := 10) hx hb hts uwX7 hown hK hP 0 rfl rfl 9 (by decide) (hts _ kfX7_51) (fun _ h9 => h9) rfl dX7_parseFigures_23 ?_
        refine lv_aload_n hx hb dX7_parseFigures_26 rfl (lv_at hl 0 rfl) ?_
        refine va_get (D := D) (ci := 8) (v := .int p0_length) (C := RX7) (T := TX7) (N := 10) hx hb hts uwX7 hown hK hP 0 rfl rfl 1 (by decide) (hts _ kfX7_15) (fun _ h9 => h9) rfl dX7_parseFigures_27 ?_
        refine lv_icmp_ge (tgt := 131) hx hb dX7_parseFigures_30 (by decide) (fun hc14 => ?_) (fun hc14 => ?_)
        · have hf := ifT hc14 hf
          refine lv_iload_n hx hb dX7_parseFigures_131 rfl (lv_at hl 1 rfl) ?_
          obtain ⟨hb1, hf⟩ := blE hf
          exact hret _ (opE hf) H locs ls 132 dX7_parseFigures_132 hb1 hP hD hS
        · have hf := ifF hc14 hf
          refine lv_aload_n hx hb dX7_parseFigures_33 rfl (lv_at hl 0 rfl) ?_
          refine lv_aload_n hx hb dX7_parseFigures_34 rfl (lv_at hl 0 rfl) ?_
          refine va_get (D := D) (ci := 8) (v := .int p0_end) (C := RX7) (T := TX7) (N := 10) hx hb hts uwX7 hown hK hP 0 rfl rfl 9 (by decide) (hts _ kfX7_51) (fun _ h9 => h9) rfl dX7_parseFigures_35 ?_
          obtain ⟨u2, hu3, hf⟩ := bdE hf
          refine cV_I (ws' := [(a_p0, .inr (8, [.ref a_p0_bytes, .int p0_length, .int p0_minus, .int p0_kind, .int p0_sixteens, .int p0_behindPoint, .int p0_counting, .int p0_power, .int p0_begin, .int p0_end])), (a_p0_bytes, .inl (cI, 1200, .inl p0_bytes))]) (rest := []) S hK hN hA hP hD hS (c_X7_figureAt l D cI cJ a_p0 a_p0_bytes p0_end p0_length p0_minus p0_kind p0_sixteens p0_behindPoint p0_counting p0_power p0_begin p0_end p0_bytes u2 hu3) mwX7_figureAt miX7_figureAt kmX7_66 [0, 1] rfl (by decide) rfl rfl rfl 0 rfl rfl ⟨Nat.le_of_ble_eq_true rfl, Nat.le_of_ble_eq_true rfl⟩ ⟨Nat.zero_le _, Nat.zero_le _⟩ hl.1 rfl rfl (Nat.le_of_ble_eq_true rfl) dX7_parseFigures_38 (fun H locs hP hD hS => ?_)
          refine lv_istore_n (lv' := [(3, .int u2), (0, .ref a_p0), (1, .int v1), (2, .int v2)]) hx hb dX7_parseFigures_41 rfl hl (by decide) rfl (fun ls hl => ?_)
          refine lv_iload_n hx hb dX7_parseFigures_42 rfl (lv_at hl 0 rfl) ?_
          refine lv_if_lt (tgt := 94) hx hb dX7_parseFigures_43 (by decide) (fun hc13 => ?_) (fun hc13 => ?_)
          · have hf := ifT hc13 hf
            refine lv_aload_n hx hb dX7_parseFigures_94 rfl (lv_at hl 1 rfl) ?_
            refine lv_aload_n hx hb dX7_parseFigures_95 rfl (lv_at hl 1 rfl) ?_
            refine va_get (D := D) (ci := 8) (v := .int p0_end) (C := RX7) (T := TX7) (N := 10) hx hb hts uwX7 hown hK hP 0 rfl rfl 9 (by decide) (hts _ kfX7_51) (fun _ h9 => h9) rfl dX7_parseFigures_96 ?_
            obtain ⟨u4, hu5, hf⟩ := bdE hf
            refine cV_I (ws' := [(a_p0, .inr (8, [.ref a_p0_bytes, .int p0_length, .int p0_minus, .int p0_kind, .int p0_sixteens, .int p0_behindPoint, .int p0_counting, .int p0_power, .int p0_begin, .int p0_end])), (a_p0_bytes, .inl (cI, 1200, .inl p0_bytes))]) (rest := []) S hK hN hA hP hD hS (c_X7_at l D cI cJ a_p0 a_p0_bytes p0_end p0_length p0_minus p0_kind p0_sixteens p0_behindPoint p0_counting p0_power p0_begin p0_end p0_bytes u4 hu5) mwX7_at miX7_at kmX7_19 [0, 1] rfl (by decide) rfl rfl rfl 0 rfl rfl ⟨Nat.le_of_ble_eq_true rfl, Nat.le_of_ble_eq_true rfl⟩ ⟨Nat.zero_le _, Nat.zero_le _⟩ hl.1 rfl rfl (Nat.le_of_ble_eq_true rfl) dX7_parseFigures_99 (fun H locs hP hD hS => ?_)
            refine lv_bipush (v := 46) hx hb dX7_parseFigures_102 (by decide) ?_
            refine lv_icmp_ne (tgt := 116) hx hb dX7_parseFigures_104 (by decide) (fun hc9 => ?_) (fun hc9 => ?_)
            · have hf := ifF hc9 hf
              refine lv_iload_n hx hb dX7_parseFigures_116 rfl (lv_at hl 2 rfl) ?_
              obtain ⟨hb6, hf⟩ := blE hf
              exact hret _ (opE hf) H locs ls 117 dX7_parseFigures_117 hb6 hP hD hS
            · have hf := ifT hc9 hf
              refine lv_iload_n hx hb dX7_parseFigures_107 rfl (lv_at hl 3 rfl) ?_
              refine lv_if_ne (tgt := 116) hx hb dX7_parseFigures_108 (by decide) (fun hc8 => ?_) (fun hc8 => ?_)
              · have hf := ifF hc8 hf
                refine lv_iload_n hx hb dX7_parseFigures_116 rfl (lv_at hl 2 rfl) ?_
                obtain ⟨hb7, hf⟩ := blE hf
                exact hret _ (opE hf) H locs ls 117 dX7_parseFigures_117 hb7 hP hD hS
              · have hf := ifT hc8 hf
                refine lv_iconst (v := 1) hx hb dX7_parseFigures_111 (by decide) ?_
                refine lv_istore_n (lv' := [(2, .int (1 : Int32)), (3, .int u2), (0, .ref a_p0), (1, .int v1)]) hx hb dX7_parseFigures_112 rfl hl (by decide) rfl (fun ls hl => ?_)
                refine lv_goto (tgt := 118) hx hb dX7_parseFigures_113 (by decide) ?_
                refine lv_aload_n hx hb dX7_parseFigures_118 rfl (lv_at hl 2 rfl) ?_
                refine lv_dup hx hb dX7_parseFigures_119 rfl ?_
                refine va_get (D := D) (ci := 8) (v := .int p0_end) (C := RX7) (T := TX7) (N := 10) hx hb hts uwX7 hown hK hP 0 rfl rfl 9 (by decide) (hts _ kfX7_51) (fun _ h9 => h9) rfl dX7_parseFigures_120 ?_
                refine lv_iconst (v := 1) hx hb dX7_parseFigures_123 (by decide) ?_
                refine lv_iadd hx hb dX7_parseFigures_124 ?_
                refine va_put (D := D) (ci := 8) (v := .int (p0_end + (1 : Int32))) (ty := tyX7 9) (C := RX7) (T := TX7) (N := 10) hx hb hts uwX7 tyX7 tyX7_ok nmX7 hown hK hP hD hS 0 rfl rfl 9 (by decide) (hts _ kfX7_51) (fun _ h9 => h9) rfl (tyX7_ok 9 (by decide)) rfl rfl (Nat.le_of_ble_eq_true rfl) dX7_parseFigures_125 (fun H locs hP hD hS => ?_)
                have hP : va_P D vwCl [(a_p0, .inr (8, [.ref a_p0_bytes, .int p0_length, .int p0_minus, .int p0_kind, .int p0_sixteens, .int p0_behindPoint, .int p0_counting, .int p0_power, .int p0_begin, .int (p0_end + (1 : Int32))])), (a_p0_bytes, .inl (cI, 1200, .inl p0_bytes))] H := hP
                have hD : va_D A [(a_p0, .inr (8, [.ref a_p0_bytes, .int p0_length, .int p0_minus, .int p0_kind, .int p0_sixteens, .int p0_behindPoint, .int p0_counting, .int p0_power, .int p0_begin, .int (p0_end + (1 : Int32))])), (a_p0_bytes, .inl (cI, 1200, .inl p0_bytes))] := hD
                refine lv_goto (tgt := 22) hx hb dX7_parseFigures_128 (by decide) ?_
                exact ih v1 (1 : Int32) p0_behindPoint p0_counting (p0_end + (1 : Int32)) H locs ls hf hP hD hS (lv_sub hl [2, 3, 0] rfl)
          · have hf := ifF hc13 hf
            refine lv_iconst (v := 1) hx hb dX7_parseFigures_46 (by decide) ?_
            refine lv_istore_n (lv' := [(1, .int (1 : Int32)), (3, .int u2), (0, .ref a_p0), (2, .int v2)]) hx hb dX7_parseFigures_47 rfl hl (by decide) rfl (fun ls hl => ?_)
            refine lv_aload_n hx hb dX7_parseFigures_48 rfl (lv_at hl 2 rfl) ?_
            refine lv_dup hx hb dX7_parseFigures_49 rfl ?_
            refine va_get (D := D) (ci := 8) (v := .int p0_behindPoint) (C := RX7) (T := TX7) (N := 10) hx hb hts uwX7 hown hK hP 0 rfl rfl 5 (by decide) (hts _ kfX7_84) (fun _ h9 => h9) rfl dX7_parseFigures_50 ?_
            refine lv_iload_n hx hb dX7_parseFigures_53 rfl (lv_at hl 3 rfl) ?_
            refine lv_if_eq (tgt := 61) hx hb dX7_parseFigures_54 (by decide) (fun hc12 => ?_) (fun hc12 => ?_)
            · have hf := ifT hc12 hf
              refine lv_iconst (v := 0) hx hb dX7_parseFigures_61 (by decide) ?_
              exact keyB62 (f_X7_parseFigures_L22 p0_length p0_sixteens p0_begin p0_bytes n) ih (1 : Int32) v2 u2 p0_behindPoint (0 : Int32) p0_behindPoint p0_counting p0_end H locs ls hf hP hD hS (lv_sub hl [2, 0, 3, 1] rfl)
            · have hf := ifF hc12 hf
              refine lv_iconst (v := 1) hx hb dX7_parseFigures_57 (by decide) ?_
              refine lv_goto (tgt := 62) hx hb dX7_parseFigures_58 (by decide) ?_
              exact keyB62 (f_X7_parseFigures_L22 p0_length p0_sixteens p0_begin p0_bytes n) ih (1 : Int32) v2 u2 p0_behindPoint (1 : Int32) p0_behindPoint p0_counting p0_end H locs ls hf hP hD hS (lv_sub hl [2, 0, 3, 1] rfl)
  unfold f_X7_parseFigures at hf
  refine lv_iconst (v := 0) hx hb dX7_parseFigures_0 (by decide) ?_
  refine lv_istore_n (lv' := [(1, .int (0 : Int32)), (0, .ref a_p0)]) hx hb dX7_parseFigures_1 rfl hl (by decide) rfl (fun ls hl => ?_)
  refine lv_iconst (v := 0) hx hb dX7_parseFigures_2 (by decide) ?_
  refine lv_istore_n (lv' := [(2, .int (0 : Int32)), (1, .int (0 : Int32)), (0, .ref a_p0)]) hx hb dX7_parseFigures_3 rfl hl (by decide) rfl (fun ls hl => ?_)
  refine lv_aload_n hx hb dX7_parseFigures_4 rfl (lv_at hl 2 rfl) ?_
  refine lv_iconst (v := 0) hx hb dX7_parseFigures_5 (by decide) ?_
  refine va_put (D := D) (ci := 8) (v := .int (0 : Int32)) (ty := tyX7 5) (C := RX7) (T := TX7) (N := 10) hx hb hts uwX7 tyX7 tyX7_ok nmX7 hown hK hP hD hS 0 rfl rfl 5 (by decide) (hts _ kfX7_84) (fun _ h9 => h9) rfl (tyX7_ok 5 (by decide)) rfl rfl (Nat.le_of_ble_eq_true rfl) dX7_parseFigures_6 (fun H locs hP hD hS => ?_)
  have hP : va_P D vwCl [(a_p0, .inr (8, [.ref a_p0_bytes, .int p0_length, .int p0_minus, .int p0_kind, .int p0_sixteens, .int (0 : Int32), .int p0_counting, .int p0_power, .int p0_begin, .int p0_end])), (a_p0_bytes, .inl (cI, 1200, .inl p0_bytes))] H := hP
  have hD : va_D A [(a_p0, .inr (8, [.ref a_p0_bytes, .int p0_length, .int p0_minus, .int p0_kind, .int p0_sixteens, .int (0 : Int32), .int p0_counting, .int p0_power, .int p0_begin, .int p0_end])), (a_p0_bytes, .inl (cI, 1200, .inl p0_bytes))] := hD
  refine lv_aload_n hx hb dX7_parseFigures_9 rfl (lv_at hl 2 rfl) ?_
  refine lv_iconst (v := 0) hx hb dX7_parseFigures_10 (by decide) ?_
  refine va_put (D := D) (ci := 8) (v := .int (0 : Int32)) (ty := tyX7 6) (C := RX7) (T := TX7) (N := 10) hx hb hts uwX7 tyX7 tyX7_ok nmX7 hown hK hP hD hS 0 rfl rfl 6 (by decide) (hts _ kfX7_87) (fun _ h9 => h9) rfl (tyX7_ok 6 (by decide)) rfl rfl (Nat.le_of_ble_eq_true rfl) dX7_parseFigures_11 (fun H locs hP hD hS => ?_)
  have hP : va_P D vwCl [(a_p0, .inr (8, [.ref a_p0_bytes, .int p0_length, .int p0_minus, .int p0_kind, .int p0_sixteens, .int (0 : Int32), .int (0 : Int32), .int p0_power, .int p0_begin, .int p0_end])), (a_p0_bytes, .inl (cI, 1200, .inl p0_bytes))] H := hP
  have hD : va_D A [(a_p0, .inr (8, [.ref a_p0_bytes, .int p0_length, .int p0_minus, .int p0_kind, .int p0_sixteens, .int (0 : Int32), .int (0 : Int32), .int p0_power, .int p0_begin, .int p0_end])), (a_p0_bytes, .inl (cI, 1200, .inl p0_bytes))] := hD
  refine lv_aload_n hx hb dX7_parseFigures_14 rfl (lv_at hl 2 rfl) ?_
  refine lv_aload_n hx hb dX7_parseFigures_15 rfl (lv_at hl 2 rfl) ?_
  refine va_get (D := D) (ci := 8) (v := .int p0_begin) (C := RX7) (T := TX7) (N := 10) hx hb hts uwX7 hown hK hP 0 rfl rfl 8 (by decide) (hts _ kfX7_44) (fun _ h9 => h9) rfl dX7_parseFigures_16 ?_
  refine va_put (D := D) (ci := 8) (v := .int p0_begin) (ty := tyX7 9) (C := RX7) (T := TX7) (N := 10) hx hb hts uwX7 tyX7 tyX7_ok nmX7 hown hK hP hD hS 0 rfl rfl 9 (by decide) (hts _ kfX7_51) (fun _ h9 => h9) rfl (tyX7_ok 9 (by decide)) rfl rfl (Nat.le_of_ble_eq_true rfl) dX7_parseFigures_19 (fun H locs hP hD hS => ?_)
  have hP : va_P D vwCl [(a_p0, .inr (8, [.ref a_p0_bytes, .int p0_length, .int p0_minus, .int p0_kind, .int p0_sixteens, .int (0 : Int32), .int (0 : Int32), .int p0_power, .int p0_begin, .int p0_begin])), (a_p0_bytes, .inl (cI, 1200, .inl p0_bytes))] H := hP
  have hD : va_D A [(a_p0, .inr (8, [.ref a_p0_bytes, .int p0_length, .int p0_minus, .int p0_kind, .int p0_sixteens, .int (0 : Int32), .int (0 : Int32), .int p0_power, .int p0_begin, .int p0_begin])), (a_p0_bytes, .inl (cI, 1200, .inl p0_bytes))] := hD
  exact keyL22 FU (0 : Int32) (0 : Int32) (0 : Int32) (0 : Int32) p0_begin H locs ls hf hP hD hS (lv_sub hl [2, 1, 0] rfl)
set_option maxRecDepth 100000 in
set_option maxHeartbeats 4000000 in
theorem c_X7_parsePower (l : Launch) (D : va_G) (cI cJ : ClassId) (a_p0 a_p0_bytes : Nat) (p1 : Int32) (p0_length : Int32) (p0_minus : Int32) (p0_kind : Int32) (p0_sixteens : Int32) (p0_behindPoint : Int32) (p0_counting : Int32) (p0_power : Int32) (p0_begin : Int32) (p0_end : Int32) (p0_bytes : (Nat → Int32)) (u : Int32 × Int32) (hf : f_X7_parsePower p0_length p0_bytes p1 p0_power = some u) : CtI l yX7_parsePower cX7_parsePower 4 2 42 .int [.ref a_p0, .int p1] D cI cJ [(a_p0, .inr (8, [.ref a_p0_bytes, .int p0_length, .int p0_minus, .int p0_kind, .int p0_sixteens, .int p0_behindPoint, .int p0_counting, .int p0_power, .int p0_begin, .int p0_end])), (a_p0_bytes, .inl (cI, 1200, .inl p0_bytes))] [(a_p0, .inr (8, [.ref a_p0_bytes, .int p0_length, .int p0_minus, .int p0_kind, .int p0_sixteens, .int p0_behindPoint, .int p0_counting, .int u.2, .int p0_begin, .int p0_end])), (a_p0_bytes, .inl (cI, 1200, .inl p0_bytes))] u.1 := by
  refine mkI (own := RX7) rfl (by decide +kernel) (Nat.le_of_ble_eq_true rfl) (lv := [(0, .ref a_p0), (1, .int p1)]) rfl ?_
  intro p e s m below meth c Q A ls ar S hA hK hN hret H locs hP hD hS hl
  obtain ⟨hx, hb, hml, hown, hts⟩ := id S
  have hret : ∀ (w : Int32 × Int32), w = u → ∀ (H : Heap) (locs : List Loc) (ls : Array Slot) (pc : Nat), decode cX7_parsePower pc = .ok (.ireturn, 1) → va_P D vwCl [(a_p0, .inr (8, [.ref a_p0_bytes, .int p0_length, .int p0_minus, .int p0_kind, .int p0_sixteens, .int p0_behindPoint, .int p0_counting, .int w.2, .int p0_begin, .int p0_end])), (a_p0_bytes, .inl (cI, 1200, .inl p0_bytes))] H → va_D A [(a_p0, .inr (8, [.ref a_p0_bytes, .int p0_length, .int p0_minus, .int p0_kind, .int p0_sixteens, .int p0_behindPoint, .int p0_counting, .int w.2, .int p0_begin, .int p0_end])), (a_p0_bytes, .inl (cI, 1200, .inl p0_bytes))] → va_S A s.heap H locs → W p l e (rmz 2 42) s m ar below meth c H locs 0 0 Q (F0 m pc ls [.int w.1]) := fun w hw => hw ▸ hret
  have keyB74 : ∀ (v2 : Int32) (v3 : Int32) (p0_power : Int32) (H : Heap) (locs : List Loc) (ls : Array Slot), f_X7_parsePower_B74 p0_length p0_bytes v2 v3 p0_power = some u → va_P D vwCl [(a_p0, .inr (8, [.ref a_p0_bytes, .int p0_length, .int p0_minus, .int p0_kind, .int p0_sixteens, .int p0_behindPoint, .int p0_counting, .int p0_power, .int p0_begin, .int p0_end])), (a_p0_bytes, .inl (cI, 1200, .inl p0_bytes))] H → va_D A [(a_p0, .inr (8, [.ref a_p0_bytes, .int p0_length, .int p0_minus, .int p0_kind, .int p0_sixteens, .int p0_behindPoint, .int p0_counting, .int p0_power, .int p0_begin, .int p0_end])), (a_p0_bytes, .inl (cI, 1200, .inl p0_bytes))] → va_S A s.heap H locs → lv_has ls 4 [(0, .ref a_p0), (2, .int v2), (3, .int v3)] → W p l e (rmz 2 42) s m ar below meth c H locs 0 0 Q (F0 m 74 ls []) := by
    intro v2 v3 p0_power H locs ls hf hP hD hS hl
    unfold f_X7_parsePower_B74 at hf
    refine lv_iload_n hx hb dX7_parsePower_74 rfl (lv_at hl 2 rfl) ?_
    refine lv_iload_n hx hb dX7_parsePower_75 rfl (lv_at hl 1 rfl) ?_
    refine lv_icmp_le (tgt := 91) hx hb dX7_parsePower_76 (by decide) (fun hc6 => ?_) (fun hc6 => ?_)
    · have hf := ifT hc6 hf
      refine lv_iload_n hx hb dX7_parsePower_91 rfl (lv_at hl 2 rfl) ?_
      exact hret _ (opE hf) H locs ls 92 dX7_parsePower_92 hP hD hS
    · have hf := ifF hc6 hf
      refine lv_iload_n hx hb dX7_parsePower_79 rfl (lv_at hl 2 rfl) ?_
      refine lv_aload_n hx hb dX7_parsePower_80 rfl (lv_at hl 0 rfl) ?_
      refine va_get (D := D) (ci := 8) (v := .int p0_length) (C := RX7) (T := TX7) (N := 10) hx hb hts uwX7 hown hK hP 0 rfl rfl 1 (by decide) (hts _ kfX7_15) (fun _ h9 => h9) rfl dX7_parsePower_81 ?_
      refine lv_icmp_ne (tgt := 91) hx hb dX7_parsePower_84 (by decide) (fun hc5 => ?_) (fun hc5 => ?_)
      · have hf := ifF hc5 hf
        refine lv_iload_n hx hb dX7_parsePower_91 rfl (lv_at hl 2 rfl) ?_
        exact hret _ (opE hf) H locs ls 92 dX7_parsePower_92 hP hD hS
      · have hf := ifT hc5 hf
        refine lv_iconst (v := -1) hx hb dX7_parsePower_87 (by decide) ?_
        refine lv_goto (tgt := 92) hx hb dX7_parsePower_88 (by decide) ?_
        exact hret _ (opE hf) H locs ls 92 dX7_parsePower_92 hP hD hS
  have keyB55 : ∀ (v1 : Int32) (v2 : Int32) (v3 : Int32) (p0_power : Int32) (H : Heap) (locs : List Loc) (ls : Array Slot), f_X7_parsePower_B55 p0_length p0_bytes v1 v2 v3 p0_power = some u → va_P D vwCl [(a_p0, .inr (8, [.ref a_p0_bytes, .int p0_length, .int p0_minus, .int p0_kind, .int p0_sixteens, .int p0_behindPoint, .int p0_counting, .int p0_power, .int p0_begin, .int p0_end])), (a_p0_bytes, .inl (cI, 1200, .inl p0_bytes))] H → va_D A [(a_p0, .inr (8, [.ref a_p0_bytes, .int p0_length, .int p0_minus, .int p0_kind, .int p0_sixteens, .int p0_behindPoint, .int p0_counting, .int p0_power, .int p0_begin, .int p0_end])), (a_p0_bytes, .inl (cI, 1200, .inl p0_bytes))] → va_S A s.heap H locs → lv_has ls 4 [(0, .ref a_p0), (1, .int v1), (2, .int v2), (3, .int v3)] → W p l e (rmz 2 42) s m ar below meth c H locs 0 0 Q (F0 m 55 ls []) := by
    intro v1 v2 v3 p0_power H locs ls hf hP hD hS hl
    unfold f_X7_parsePower_B55 at hf
    refine lv_aload_n hx hb dX7_parsePower_55 rfl (lv_at hl 0 rfl) ?_
    refine lv_iload_n hx hb dX7_parsePower_56 rfl (lv_at hl 1 rfl) ?_
    obtain ⟨u3, hu4, hf⟩ := bdE hf
    refine cV_I (ws' := [(a_p0, .inr (8, [.ref a_p0_bytes, .int p0_length, .int p0_minus, .int p0_kind, .int p0_sixteens, .int p0_behindPoint, .int p0_counting, .int p0_power, .int p0_begin, .int p0_end])), (a_p0_bytes, .inl (cI, 1200, .inl p0_bytes))]) (rest := []) S hK hN hA hP hD hS (c_X7_at l D cI cJ a_p0 a_p0_bytes v1 p0_length p0_minus p0_kind p0_sixteens p0_behindPoint p0_counting p0_power p0_begin p0_end p0_bytes u3 hu4) mwX7_at miX7_at kmX7_19 [0, 1] rfl (by decide) rfl rfl rfl 0 rfl rfl ⟨Nat.le_of_ble_eq_true rfl, Nat.le_of_ble_eq_true rfl⟩ ⟨Nat.zero_le _, Nat.zero_le _⟩ hl.1 rfl rfl (Nat.le_of_ble_eq_true rfl) dX7_parsePower_57 (fun H locs hP hD hS => ?_)
    refine lv_bipush (v := 45) hx hb dX7_parsePower_60 (by decide) ?_
    refine lv_icmp_ne (tgt := 74) hx hb dX7_parsePower_62 (by decide) (fun hc7 => ?_) (fun hc7 => ?_)
    · have hf := ifF hc7 hf
      exact keyB74 v2 v3 p0_power H locs ls hf hP hD hS (lv_sub hl [0, 2, 3] rfl)
    · have hf := ifT hc7 hf
      refine lv_aload_n hx hb dX7_parsePower_65 rfl (lv_at hl 0 rfl) ?_
      refine lv_aload_n hx hb dX7_parsePower_66 rfl (lv_at hl 0 rfl) ?_
      refine va_get (D := D) (ci := 8) (v := .int p0_power) (C := RX7) (T := TX7) (N := 10) hx hb hts uwX7 hown hK hP 0 rfl rfl 7 (by decide) (hts _ kfX7_54) (fun _ h9 => h9) rfl dX7_parsePower_67 ?_
      refine lv_ineg hx hb dX7_parsePower_70 ?_
      refine va_put (D := D) (ci := 8) (v := .int (-p0_power)) (ty := tyX7 7) (C := RX7) (T := TX7) (N := 10) hx hb hts uwX7 tyX7 tyX7_ok nmX7 hown hK hP hD hS 0 rfl rfl 7 (by decide) (hts _ kfX7_54) (fun _ h9 => h9) rfl (tyX7_ok 7 (by decide)) rfl rfl (Nat.le_of_ble_eq_true rfl) dX7_parsePower_71 (fun H locs hP hD hS => ?_)
      have hP : va_P D vwCl [(a_p0, .inr (8, [.ref a_p0_bytes, .int p0_length, .int p0_minus, .int p0_kind, .int p0_sixteens, .int p0_behindPoint, .int p0_counting, .int (-p0_power), .int p0_begin, .int p0_end])), (a_p0_bytes, .inl (cI, 1200, .inl p0_bytes))] H := hP
      have hD : va_D A [(a_p0, .inr (8, [.ref a_p0_bytes, .int p0_length, .int p0_minus, .int p0_kind, .int p0_sixteens, .int p0_behindPoint, .int p0_counting, .int (-p0_power), .int p0_begin, .int p0_end])), (a_p0_bytes, .inl (cI, 1200, .inl p0_bytes))] := hD
      exact keyB74 v2 v3 (-p0_power) H locs ls hf hP hD hS (lv_sub hl [0, 2, 3] rfl)
  have keyL10 : ∀ (n : Nat) (v1 : Int32) (v2 : Int32) (v3 : Int32) (p0_power : Int32) (H : Heap) (locs : List Loc) (ls : Array Slot), f_X7_parsePower_L10 p0_length p0_bytes n v1 v2 v3 p0_power = some u → va_P D vwCl [(a_p0, .inr (8, [.ref a_p0_bytes, .int p0_length, .int p0_minus, .int p0_kind, .int p0_sixteens, .int p0_behindPoint, .int p0_counting, .int p0_power, .int p0_begin, .int p0_end])), (a_p0_bytes, .inl (cI, 1200, .inl p0_bytes))] H → va_D A [(a_p0, .inr (8, [.ref a_p0_bytes, .int p0_length, .int p0_minus, .int p0_kind, .int p0_sixteens, .int p0_behindPoint, .int p0_counting, .int p0_power, .int p0_begin, .int p0_end])), (a_p0_bytes, .inl (cI, 1200, .inl p0_bytes))] → va_S A s.heap H locs → lv_has ls 4 [(0, .ref a_p0), (1, .int v1), (2, .int v2), (3, .int v3)] → W p l e (rmz 2 42) s m ar below meth c H locs 0 0 Q (F0 m 10 ls []) := by
    intro n
    induction n with
      | zero =>
        intro v1 v2 v3 p0_power H locs ls hf
        cases hf
      | succ n ih =>
        intro v1 v2 v3 p0_power H locs ls hf hP hD hS hl
        rw [f_X7_parsePower_L10] at hf
        refine lv_iload_n hx hb dX7_parsePower_10 rfl (lv_at hl 3 rfl) ?_
        refine lv_iload_n hx hb dX7_parsePower_11 rfl (lv_at hl 2 rfl) ?_
        refine lv_bipush (v := 6) hx hb dX7_parsePower_12 (by decide) ?_
        refine lv_iadd hx hb dX7_parsePower_14 ?_
        refine lv_icmp_ge (tgt := 55) hx hb dX7_parsePower_15 (by decide) (fun hc15 => ?_) (fun hc15 => ?_)
        · have hf := ifT hc15 hf
          exact keyB55 v1 v2 v3 p0_power H locs ls hf hP hD hS (lv_sub hl [0, 1, 2, 3] rfl)
        · have hf := ifF hc15 hf
          refine lv_aload_n hx hb dX7_parsePower_18 rfl (lv_at hl 0 rfl) ?_
          refine lv_iload_n hx hb dX7_parsePower_19 rfl (lv_at hl 3 rfl) ?_
          obtain ⟨u8, hu9, hf⟩ := bdE hf
          refine cV_I (ws' := [(a_p0, .inr (8, [.ref a_p0_bytes, .int p0_length, .int p0_minus, .int p0_kind, .int p0_sixteens, .int p0_behindPoint, .int p0_counting, .int p0_power, .int p0_begin, .int p0_end])), (a_p0_bytes, .inl (cI, 1200, .inl p0_bytes))]) (rest := []) S hK hN hA hP hD hS (c_X7_at l D cI cJ a_p0 a_p0_bytes v3 p0_length p0_minus p0_kind p0_sixteens p0_behindPoint p0_counting p0_power p0_begin p0_end p0_bytes u8 hu9) mwX7_at miX7_at kmX7_19 [0, 1] rfl (by decide) rfl rfl rfl 0 rfl rfl ⟨Nat.le_of_ble_eq_true rfl, Nat.le_of_ble_eq_true rfl⟩ ⟨Nat.zero_le _, Nat.zero_le _⟩ hl.1 rfl rfl (Nat.le_of_ble_eq_true rfl) dX7_parsePower_20 (fun H locs hP hD hS => ?_)
          obtain ⟨u10, hu11, hf⟩ := bdE hf
          refine cS_I (ws' := [(a_p0, .inr (8, [.ref a_p0_bytes, .int p0_length, .int p0_minus, .int p0_kind, .int p0_sixteens, .int p0_behindPoint, .int p0_counting, .int p0_power, .int p0_begin, .int p0_end])), (a_p0_bytes, .inl (cI, 1200, .inl p0_bytes))]) (rest := []) S hK hN hA hP hD hS (c_X7_isTenFigure l D cI cJ  u8  u10 hu11) mwX7_isTenFigure msX7_isTenFigure kmX7_90 [] rfl (by decide) rfl rfl rfl ⟨Nat.le_of_ble_eq_true rfl, Nat.le_of_ble_eq_true rfl⟩ ⟨Nat.zero_le _, Nat.zero_le _⟩ hl.1 rfl rfl (Nat.le_of_ble_eq_true rfl) dX7_parsePower_23 (fun H locs hP hD hS => ?_)
          refine lv_if_eq (tgt := 55) hx hb dX7_parsePower_26 (by decide) (fun hc14 => ?_) (fun hc14 => ?_)
          · have hf := ifT hc14 hf
            exact keyB55 v1 v2 v3 p0_power H locs ls hf hP hD hS (lv_sub hl [0, 1, 2, 3] rfl)
          · have hf := ifF hc14 hf
            refine lv_aload_n hx hb dX7_parsePower_29 rfl (lv_at hl 0 rfl) ?_
            refine lv_bipush (v := 10) hx hb dX7_parsePower_30 (by decide) ?_
            refine lv_aload_n hx hb dX7_parsePower_32 rfl (lv_at hl 0 rfl) ?_
            refine va_get (D := D) (ci := 8) (v := .int p0_power) (C := RX7) (T := TX7) (N := 10) hx hb hts uwX7 hown hK hP 0 rfl rfl 7 (by decide) (hts _ kfX7_54) (fun _ h9 => h9) rfl dX7_parsePower_33 ?_
            refine lv_imul hx hb dX7_parsePower_36 ?_
            refine lv_aload_n hx hb dX7_parsePower_37 rfl (lv_at hl 0 rfl) ?_
            refine lv_iload_n hx hb dX7_parsePower_38 rfl (lv_at hl 3 rfl) ?_
            obtain ⟨u12, hu13, hf⟩ := bdE hf
            refine cV_I (ws' := [(a_p0, .inr (8, [.ref a_p0_bytes, .int p0_length, .int p0_minus, .int p0_kind, .int p0_sixteens, .int p0_behindPoint, .int p0_counting, .int p0_power, .int p0_begin, .int p0_end])), (a_p0_bytes, .inl (cI, 1200, .inl p0_bytes))]) (rest := [.int ((10 : Int32) * p0_power), .ref a_p0]) S hK hN hA hP hD hS (c_X7_at l D cI cJ a_p0 a_p0_bytes v3 p0_length p0_minus p0_kind p0_sixteens p0_behindPoint p0_counting p0_power p0_begin p0_end p0_bytes u12 hu13) mwX7_at miX7_at kmX7_19 [0, 1] rfl (by decide) rfl rfl rfl 0 rfl rfl ⟨Nat.le_of_ble_eq_true rfl, Nat.le_of_ble_eq_true rfl⟩ ⟨Nat.zero_le _, Nat.zero_le _⟩ hl.1 rfl rfl (Nat.le_of_ble_eq_true rfl) dX7_parsePower_39 (fun H locs hP hD hS => ?_)
            refine lv_iadd hx hb dX7_parsePower_42 ?_
            refine lv_bipush (v := 48) hx hb dX7_parsePower_43 (by decide) ?_
            refine lv_isub hx hb dX7_parsePower_45 ?_
            refine va_put (D := D) (ci := 8) (v := .int ((((10 : Int32) * p0_power) + u12) - (48 : Int32))) (ty := tyX7 7) (C := RX7) (T := TX7) (N := 10) hx hb hts uwX7 tyX7 tyX7_ok nmX7 hown hK hP hD hS 0 rfl rfl 7 (by decide) (hts _ kfX7_54) (fun _ h9 => h9) rfl (tyX7_ok 7 (by decide)) rfl rfl (Nat.le_of_ble_eq_true rfl) dX7_parsePower_46 (fun H locs hP hD hS => ?_)
            have hP : va_P D vwCl [(a_p0, .inr (8, [.ref a_p0_bytes, .int p0_length, .int p0_minus, .int p0_kind, .int p0_sixteens, .int p0_behindPoint, .int p0_counting, .int ((((10 : Int32) * p0_power) + u12) - (48 : Int32)), .int p0_begin, .int p0_end])), (a_p0_bytes, .inl (cI, 1200, .inl p0_bytes))] H := hP
            have hD : va_D A [(a_p0, .inr (8, [.ref a_p0_bytes, .int p0_length, .int p0_minus, .int p0_kind, .int p0_sixteens, .int p0_behindPoint, .int p0_counting, .int ((((10 : Int32) * p0_power) + u12) - (48 : Int32)), .int p0_begin, .int p0_end])), (a_p0_bytes, .inl (cI, 1200, .inl p0_bytes))] := hD
            refine lv_iinc (v := v3 + (1 : Int32)) (lv' := [(3, .int (v3 + (1 : Int32))), (0, .ref a_p0), (1, .int v1), (2, .int v2)]) hx hb dX7_parsePower_49 hl (k := 3) rfl (by rfl) (by decide) rfl (fun ls hl => ?_)
            refine lv_goto (tgt := 10) hx hb dX7_parsePower_52 (by decide) ?_
            exact ih v1 v2 (v3 + (1 : Int32)) ((((10 : Int32) * p0_power) + u12) - (48 : Int32)) H locs ls hf hP hD hS (lv_sub hl [1, 2, 3, 0] rfl)
  unfold f_X7_parsePower at hf
  refine lv_iload_n hx hb dX7_parsePower_0 rfl (lv_at hl 1 rfl) ?_
  refine lv_aload_n hx hb dX7_parsePower_1 rfl (lv_at hl 0 rfl) ?_
  refine lv_iload_n hx hb dX7_parsePower_2 rfl (lv_at hl 1 rfl) ?_
  obtain ⟨u1, hu2, hf⟩ := bdE hf
  refine cV_I (ws' := [(a_p0, .inr (8, [.ref a_p0_bytes, .int p0_length, .int p0_minus, .int p0_kind, .int p0_sixteens, .int p0_behindPoint, .int p0_counting, .int p0_power, .int p0_begin, .int p0_end])), (a_p0_bytes, .inl (cI, 1200, .inl p0_bytes))]) (rest := [.int p1]) S hK hN hA hP hD hS (c_X7_signLength l D cI cJ a_p0 a_p0_bytes p1 p0_length p0_minus p0_kind p0_sixteens p0_behindPoint p0_counting p0_power p0_begin p0_end p0_bytes u1 hu2) mwX7_signLength miX7_signLength kmX7_27 [0, 1] rfl (by decide) rfl rfl rfl 0 rfl rfl ⟨Nat.le_of_ble_eq_true rfl, Nat.le_of_ble_eq_true rfl⟩ ⟨Nat.zero_le _, Nat.zero_le _⟩ hl.1 rfl rfl (Nat.le_of_ble_eq_true rfl) dX7_parsePower_3 (fun H locs hP hD hS => ?_)
  refine lv_iadd hx hb dX7_parsePower_6 ?_
  refine lv_istore_n (lv' := [(2, .int (p1 + u1)), (0, .ref a_p0), (1, .int p1)]) hx hb dX7_parsePower_7 rfl hl (by decide) rfl (fun ls hl => ?_)
  refine lv_iload_n hx hb dX7_parsePower_8 rfl (lv_at hl 0 rfl) ?_
  refine lv_istore_n (lv' := [(3, .int (p1 + u1)), (2, .int (p1 + u1)), (0, .ref a_p0), (1, .int p1)]) hx hb dX7_parsePower_9 rfl hl (by decide) rfl (fun ls hl => ?_)
  exact keyL10 FU p1 (p1 + u1) (p1 + u1) p0_power H locs ls hf hP hD hS (lv_sub hl [2, 3, 1, 0] rfl)
set_option maxRecDepth 100000 in
set_option maxHeartbeats 4000000 in
theorem c_X8_unpack (l : Launch) (D : va_G) (cI cJ : ClassId) (a_p0 : Nat) (p1 : Int32) (p2 : Int64) (p0_kind : Int32) (p0_minus : Int32) (p0_m : Int64) (p0_e : Int32) (p0_narrowBelow : Int32) (u : Int32 × Int32 × Int64 × Int32 × Int32) (hf : f_X8_unpack p1 p2 p0_kind p0_minus p0_m p0_e p0_narrowBelow = some u) : CtV l yX8_unpack cX8_unpack 10 1 20 [.ref a_p0, .int p1, .long p2] D cI cJ [(a_p0, .inr (9, [.int p0_kind, .int p0_minus, .long p0_m, .int p0_e, .int p0_narrowBelow]))] [(a_p0, .inr (9, [.int u.1, .int u.2.1, .long u.2.2.1, .int u.2.2.2.1, .int u.2.2.2.2]))] := by
  refine mkV (own := RX8) rfl (by decide +kernel) (Nat.le_of_ble_eq_true rfl) (lv := [(0, .ref a_p0), (1, .int p1), (2, .long p2)]) rfl ?_
  intro p e s m below meth c Q A ls ar S hA hK hN hret H locs hP hD hS hl
  obtain ⟨hx, hb, hml, hown, hts⟩ := id S
  have hret : ∀ (w : Int32 × Int32 × Int64 × Int32 × Int32), w = u → ∀ (H : Heap) (locs : List Loc) (ls : Array Slot) (pc : Nat), decode cX8_unpack pc = .ok (.return_, 1) → va_P D vwCl [(a_p0, .inr (9, [.int w.1, .int w.2.1, .long w.2.2.1, .int w.2.2.2.1, .int w.2.2.2.2]))] H → va_D A [(a_p0, .inr (9, [.int w.1, .int w.2.1, .long w.2.2.1, .int w.2.2.2.1, .int w.2.2.2.2]))] → va_S A s.heap H locs → W p l e (rmz 1 20) s m ar below meth c H locs 0 0 Q (F0 m pc ls []) := fun w hw => hw ▸ hret
  have keyB117 : ∀ (v1 : Int32) (v7 : Int64) (s1 : Int32) (p0_kind : Int32) (p0_minus : Int32) (p0_m : Int64) (p0_e : Int32) (p0_narrowBelow : Int32) (H : Heap) (locs : List Loc) (ls : Array Slot), f_X8_unpack_B117 v1 v7 s1 p0_kind p0_minus p0_m p0_e p0_narrowBelow = some u → va_P D vwCl [(a_p0, .inr (9, [.int p0_kind, .int p0_minus, .long p0_m, .int p0_e, .int p0_narrowBelow]))] H → va_D A [(a_p0, .inr (9, [.int p0_kind, .int p0_minus, .long p0_m, .int p0_e, .int p0_narrowBelow]))] → va_S A s.heap H locs → lv_has ls 10 [(0, .ref a_p0), (1, .int v1), (7, .long v7)] → W p l e (rmz 1 20) s m ar below meth c H locs 0 0 Q (F0 m 117 ls [.int s1, .ref a_p0]) := by
    intro v1 v7 s1 p0_kind p0_minus p0_m p0_e p0_narrowBelow H locs ls hf hP hD hS hl
    unfold f_X8_unpack_B117 at hf
    refine va_put (D := D) (ci := 9) (v := .int s1) (ty := tyX8 0) (C := RX8) (T := TX8) (N := 5) hx hb hts uwX8 tyX8 tyX8_ok nmX8 hown hK hP hD hS 0 rfl rfl 0 (by decide) (hts _ kfX8_41) (fun _ h9 => h9) rfl (tyX8_ok 0 (by decide)) rfl rfl (Nat.le_of_ble_eq_true rfl) dX8_unpack_117 (fun H locs hP hD hS => ?_)
    have hP : va_P D vwCl [(a_p0, .inr (9, [.int s1, .int p0_minus, .long p0_m, .int p0_e, .int p0_narrowBelow]))] H := hP
    have hD : va_D A [(a_p0, .inr (9, [.int s1, .int p0_minus, .long p0_m, .int p0_e, .int p0_narrowBelow]))] := hD
    refine lv_aload_n hx hb dX8_unpack_120 rfl (lv_at hl 0 rfl) ?_
    refine lv_lload hx hb dX8_unpack_121 (lv_at hl 2 rfl) ?_
    refine va_put (D := D) (ci := 9) (v := .long v7) (ty := tyX8 2) (C := RX8) (T := TX8) (N := 5) hx hb hts uwX8 tyX8 tyX8_ok nmX8 hown hK hP hD hS 0 rfl rfl 2 (by decide) (hts _ kfX8_27) (fun _ h9 => h9) rfl (tyX8_ok 2 (by decide)) rfl rfl (Nat.le_of_ble_eq_true rfl) dX8_unpack_123 (fun H locs hP hD hS => ?_)
    have hP : va_P D vwCl [(a_p0, .inr (9, [.int s1, .int p0_minus, .long v7, .int p0_e, .int p0_narrowBelow]))] H := hP
    have hD : va_D A [(a_p0, .inr (9, [.int s1, .int p0_minus, .long v7, .int p0_e, .int p0_narrowBelow]))] := hD
    refine lv_aload_n hx hb dX8_unpack_126 rfl (lv_at hl 0 rfl) ?_
    refine lv_iload_n hx hb dX8_unpack_127 rfl (lv_at hl 1 rfl) ?_
    obtain ⟨u12, hu13, hf⟩ := bdE hf
    refine cS_I (ws' := [(a_p0, .inr (9, [.int s1, .int p0_minus, .long v7, .int p0_e, .int p0_narrowBelow]))]) (rest := [.ref a_p0]) S hK hN hA hP hD hS (c_X2_lowest l D cI cJ  v1  u12 hu13) mwX2_lowest msX2_lowest kmX8_44 [] rfl (by decide) rfl rfl rfl ⟨Nat.le_of_ble_eq_true rfl, Nat.le_of_ble_eq_true rfl⟩ ⟨Nat.zero_le _, Nat.zero_le _⟩ hl.1 rfl rfl (Nat.le_of_ble_eq_true rfl) dX8_unpack_128 (fun H locs hP hD hS => ?_)
    refine va_put (D := D) (ci := 9) (v := .int u12) (ty := tyX8 3) (C := RX8) (T := TX8) (N := 5) hx hb hts uwX8 tyX8 tyX8_ok nmX8 hown hK hP hD hS 0 rfl rfl 3 (by decide) (hts _ kfX8_31) (fun _ h9 => h9) rfl (tyX8_ok 3 (by decide)) rfl rfl (Nat.le_of_ble_eq_true rfl) dX8_unpack_131 (fun H locs hP hD hS => ?_)
    have hP : va_P D vwCl [(a_p0, .inr (9, [.int s1, .int p0_minus, .long v7, .int u12, .int p0_narrowBelow]))] H := hP
    have hD : va_D A [(a_p0, .inr (9, [.int s1, .int p0_minus, .long v7, .int u12, .int p0_narrowBelow]))] := hD
    refine lv_goto (tgt := 188) hx hb dX8_unpack_134 (by decide) ?_
    exact hret _ (opE hf) H locs ls 188 dX8_unpack_188 hP hD hS
  have keyB52 : ∀ (v1 : Int32) (v4 : Int32) (v5 : Int64) (v7 : Int64) (v9 : Int32) (s1 : Int32) (p0_kind : Int32) (p0_minus : Int32) (p0_m : Int64) (p0_e : Int32) (p0_narrowBelow : Int32) (H : Heap) (locs : List Loc) (ls : Array Slot), f_X8_unpack_B52 v1 v4 v5 v7 v9 s1 p0_kind p0_minus p0_m p0_e p0_narrowBelow = some u → va_P D vwCl [(a_p0, .inr (9, [.int p0_kind, .int p0_minus, .long p0_m, .int p0_e, .int p0_narrowBelow]))] H → va_D A [(a_p0, .inr (9, [.int p0_kind, .int p0_minus, .long p0_m, .int p0_e, .int p0_narrowBelow]))] → va_S A s.heap H locs → lv_has ls 10 [(0, .ref a_p0), (1, .int v1), (4, .int v4), (5, .long v5), (7, .long v7), (9, .int v9)] → W p l e (rmz 1 20) s m ar below meth c H locs 0 0 Q (F0 m 52 ls [.int s1, .ref a_p0]) := by
    intro v1 v4 v5 v7 v9 s1 p0_kind p0_minus p0_m p0_e p0_narrowBelow H locs ls hf hP hD hS hl
    unfold f_X8_unpack_B52 at hf
    obtain ⟨hb5, hf⟩ := blE hf
    refine va_put (D := D) (ci := 9) (v := .int s1) (ty := tyX8 1) (C := RX8) (T := TX8) (N := 5) hx hb hts uwX8 tyX8 tyX8_ok nmX8 hown hK hP hD hS 0 rfl rfl 1 (by decide) (hts _ kfX8_21) (fun _ h9 => h9) rfl (tyX8_ok 1 (by decide)) (nar_bool hb5) (fit_bool hb5) (Nat.le_of_ble_eq_true rfl) dX8_unpack_52 (fun H locs hP hD hS => ?_)
    have hP : va_P D vwCl [(a_p0, .inr (9, [.int p0_kind, .int s1, .long p0_m, .int p0_e, .int p0_narrowBelow]))] H := hP
    have hD : va_D A [(a_p0, .inr (9, [.int p0_kind, .int s1, .long p0_m, .int p0_e, .int p0_narrowBelow]))] := hD
    refine lv_aload_n hx hb dX8_unpack_55 rfl (lv_at hl 0 rfl) ?_
    refine lv_lconst (v := 0) hx hb dX8_unpack_56 (by decide) ?_
    refine va_put (D := D) (ci := 9) (v := .long (0 : Int64)) (ty := tyX8 2) (C := RX8) (T := TX8) (N := 5) hx hb hts uwX8 tyX8 tyX8_ok nmX8 hown hK hP hD hS 0 rfl rfl 2 (by decide) (hts _ kfX8_27) (fun _ h9 => h9) rfl (tyX8_ok 2 (by decide)) rfl rfl (Nat.le_of_ble_eq_true rfl) dX8_unpack_57 (fun H locs hP hD hS => ?_)
    have hP : va_P D vwCl [(a_p0, .inr (9, [.int p0_kind, .int s1, .long (0 : Int64), .int p0_e, .int p0_narrowBelow]))] H := hP
    have hD : va_D A [(a_p0, .inr (9, [.int p0_kind, .int s1, .long (0 : Int64), .int p0_e, .int p0_narrowBelow]))] := hD
    refine lv_aload_n hx hb dX8_unpack_60 rfl (lv_at hl 0 rfl) ?_
    refine lv_iconst (v := 0) hx hb dX8_unpack_61 (by decide) ?_
    refine va_put (D := D) (ci := 9) (v := .int (0 : Int32)) (ty := tyX8 3) (C := RX8) (T := TX8) (N := 5) hx hb hts uwX8 tyX8 tyX8_ok nmX8 hown hK hP hD hS 0 rfl rfl 3 (by decide) (hts _ kfX8_31) (fun _ h9 => h9) rfl (tyX8_ok 3 (by decide)) rfl rfl (Nat.le_of_ble_eq_true rfl) dX8_unpack_62 (fun H locs hP hD hS => ?_)
    have hP : va_P D vwCl [(a_p0, .inr (9, [.int p0_kind, .int s1, .long (0 : Int64), .int (0 : Int32), .int p0_narrowBelow]))] H := hP
    have hD : va_D A [(a_p0, .inr (9, [.int p0_kind, .int s1, .long (0 : Int64), .int (0 : Int32), .int p0_narrowBelow]))] := hD
    refine lv_aload_n hx hb dX8_unpack_65 rfl (lv_at hl 0 rfl) ?_
    refine lv_iconst (v := 0) hx hb dX8_unpack_66 (by decide) ?_
    refine va_put (D := D) (ci := 9) (v := .int (0 : Int32)) (ty := tyX8 4) (C := RX8) (T := TX8) (N := 5) hx hb hts uwX8 tyX8 tyX8_ok nmX8 hown hK hP hD hS 0 rfl rfl 4 (by decide) (hts _ kfX8_35) (fun _ h9 => h9) rfl (tyX8_ok 4 (by decide)) rfl rfl (Nat.le_of_ble_eq_true rfl) dX8_unpack_67 (fun H locs hP hD hS => ?_)
    have hP : va_P D vwCl [(a_p0, .inr (9, [.int p0_kind, .int s1, .long (0 : Int64), .int (0 : Int32), .int (0 : Int32)]))] H := hP
    have hD : va_D A [(a_p0, .inr (9, [.int p0_kind, .int s1, .long (0 : Int64), .int (0 : Int32), .int (0 : Int32)]))] := hD
    refine lv_lload hx hb dX8_unpack_70 (lv_at hl 3 rfl) ?_
    refine lv_iload_n hx hb dX8_unpack_72 rfl (lv_at hl 1 rfl) ?_
    obtain ⟨u6, hu7, hf⟩ := bdE hf
    refine cS_L (ws' := [(a_p0, .inr (9, [.int p0_kind, .int s1, .long (0 : Int64), .int (0 : Int32), .int (0 : Int32)]))]) (rest := [.long v5]) S hK hN hA hP hD hS (c_X2_endlessSize l D cI cJ  v1  u6 hu7) mwX2_endlessSize msX2_endlessSize kmX8_38 [] rfl (by decide) rfl rfl rfl ⟨Nat.le_of_ble_eq_true rfl, Nat.le_of_ble_eq_true rfl⟩ ⟨Nat.zero_le _, Nat.zero_le _⟩ hl.1 rfl rfl (Nat.le_of_ble_eq_true rfl) dX8_unpack_73 (fun H locs hP hD hS => ?_)
    refine W.lcmp hx hb dX8_unpack_76 ?_
    refine lv_if_lt (tgt := 99) hx hb dX8_unpack_77 (by decide) (fun hc17 => ?_) (fun hc17 => ?_)
    · have hf := ifT hc17 hf
      refine lv_iload hx hb dX8_unpack_99 (lv_at hl 5 rfl) ?_
      refine lv_if_ne (tgt := 137) hx hb dX8_unpack_101 (by decide) (fun hc15 => ?_) (fun hc15 => ?_)
      · have hf := ifF hc15 hf
        refine lv_aload_n hx hb dX8_unpack_137 rfl (lv_at hl 0 rfl) ?_
        refine lv_iconst (v := 2) hx hb dX8_unpack_138 (by decide) ?_
        refine va_put (D := D) (ci := 9) (v := .int (2 : Int32)) (ty := tyX8 0) (C := RX8) (T := TX8) (N := 5) hx hb hts uwX8 tyX8 tyX8_ok nmX8 hown hK hP hD hS 0 rfl rfl 0 (by decide) (hts _ kfX8_41) (fun _ h9 => h9) rfl (tyX8_ok 0 (by decide)) rfl rfl (Nat.le_of_ble_eq_true rfl) dX8_unpack_139 (fun H locs hP hD hS => ?_)
        have hP : va_P D vwCl [(a_p0, .inr (9, [.int (2 : Int32), .int s1, .long (0 : Int64), .int (0 : Int32), .int (0 : Int32)]))] H := hP
        have hD : va_D A [(a_p0, .inr (9, [.int (2 : Int32), .int s1, .long (0 : Int64), .int (0 : Int32), .int (0 : Int32)]))] := hD
        refine lv_aload_n hx hb dX8_unpack_142 rfl (lv_at hl 0 rfl) ?_
        refine lv_lload hx hb dX8_unpack_143 (lv_at hl 4 rfl) ?_
        refine lv_lconst (v := 1) hx hb dX8_unpack_145 (by decide) ?_
        refine lv_iload hx hb dX8_unpack_146 (lv_at hl 2 rfl) ?_
        refine lv_lshl (v := lsh (1 : Int64) v4) hx hb dX8_unpack_148 rfl ?_
        refine lv_lor hx hb dX8_unpack_149 ?_
        refine va_put (D := D) (ci := 9) (v := .long (v7 ||| (lsh (1 : Int64) v4))) (ty := tyX8 2) (C := RX8) (T := TX8) (N := 5) hx hb hts uwX8 tyX8 tyX8_ok nmX8 hown hK hP hD hS 0 rfl rfl 2 (by decide) (hts _ kfX8_27) (fun _ h9 => h9) rfl (tyX8_ok 2 (by decide)) rfl rfl (Nat.le_of_ble_eq_true rfl) dX8_unpack_150 (fun H locs hP hD hS => ?_)
        have hP : va_P D vwCl [(a_p0, .inr (9, [.int (2 : Int32), .int s1, .long (v7 ||| (lsh (1 : Int64) v4)), .int (0 : Int32), .int (0 : Int32)]))] H := hP
        have hD : va_D A [(a_p0, .inr (9, [.int (2 : Int32), .int s1, .long (v7 ||| (lsh (1 : Int64) v4)), .int (0 : Int32), .int (0 : Int32)]))] := hD
        refine lv_aload_n hx hb dX8_unpack_153 rfl (lv_at hl 0 rfl) ?_
        refine lv_iload_n hx hb dX8_unpack_154 rfl (lv_at hl 1 rfl) ?_
        obtain ⟨u8, hu9, hf⟩ := bdE hf
        refine cS_I (ws' := [(a_p0, .inr (9, [.int (2 : Int32), .int s1, .long (v7 ||| (lsh (1 : Int64) v4)), .int (0 : Int32), .int (0 : Int32)]))]) (rest := [.ref a_p0]) S hK hN hA hP hD hS (c_X2_lowest l D cI cJ  v1  u8 hu9) mwX2_lowest msX2_lowest kmX8_44 [] rfl (by decide) rfl rfl rfl ⟨Nat.le_of_ble_eq_true rfl, Nat.le_of_ble_eq_true rfl⟩ ⟨Nat.zero_le _, Nat.zero_le _⟩ hl.1 rfl rfl (Nat.le_of_ble_eq_true rfl) dX8_unpack_155 (fun H locs hP hD hS => ?_)
        refine lv_iconst (v := 1) hx hb dX8_unpack_158 (by decide) ?_
        refine lv_isub hx hb dX8_unpack_159 ?_
        refine lv_iload hx hb dX8_unpack_160 (lv_at hl 5 rfl) ?_
        refine lv_iadd hx hb dX8_unpack_162 ?_
        refine va_put (D := D) (ci := 9) (v := .int ((u8 - (1 : Int32)) + v9)) (ty := tyX8 3) (C := RX8) (T := TX8) (N := 5) hx hb hts uwX8 tyX8 tyX8_ok nmX8 hown hK hP hD hS 0 rfl rfl 3 (by decide) (hts _ kfX8_31) (fun _ h9 => h9) rfl (tyX8_ok 3 (by decide)) rfl rfl (Nat.le_of_ble_eq_true rfl) dX8_unpack_163 (fun H locs hP hD hS => ?_)
        have hP : va_P D vwCl [(a_p0, .inr (9, [.int (2 : Int32), .int s1, .long (v7 ||| (lsh (1 : Int64) v4)), .int ((u8 - (1 : Int32)) + v9), .int (0 : Int32)]))] H := hP
        have hD : va_D A [(a_p0, .inr (9, [.int (2 : Int32), .int s1, .long (v7 ||| (lsh (1 : Int64) v4)), .int ((u8 - (1 : Int32)) + v9), .int (0 : Int32)]))] := hD
        refine lv_aload_n hx hb dX8_unpack_166 rfl (lv_at hl 0 rfl) ?_
        refine lv_lload hx hb dX8_unpack_167 (lv_at hl 4 rfl) ?_
        refine lv_lconst (v := 0) hx hb dX8_unpack_169 (by decide) ?_
        refine W.lcmp hx hb dX8_unpack_170 ?_
        refine lv_if_ne (tgt := 184) hx hb dX8_unpack_171 (by decide) (fun hc11 => ?_) (fun hc11 => ?_)
        · have hf := ifF hc11 hf
          refine lv_iconst (v := 0) hx hb dX8_unpack_184 (by decide) ?_
          refine va_put (D := D) (ci := 9) (v := .int (0 : Int32)) (ty := tyX8 4) (C := RX8) (T := TX8) (N := 5) hx hb hts uwX8 tyX8 tyX8_ok nmX8 hown hK hP hD hS 0 rfl rfl 4 (by decide) (hts _ kfX8_35) (fun _ h9 => h9) rfl (tyX8_ok 4 (by decide)) rfl rfl (Nat.le_of_ble_eq_true rfl) dX8_unpack_185 (fun H locs hP hD hS => ?_)
          have hP : va_P D vwCl [(a_p0, .inr (9, [.int (2 : Int32), .int s1, .long (v7 ||| (lsh (1 : Int64) v4)), .int ((u8 - (1 : Int32)) + v9), .int (0 : Int32)]))] H := hP
          have hD : va_D A [(a_p0, .inr (9, [.int (2 : Int32), .int s1, .long (v7 ||| (lsh (1 : Int64) v4)), .int ((u8 - (1 : Int32)) + v9), .int (0 : Int32)]))] := hD
          exact hret _ (opE hf) H locs ls 188 dX8_unpack_188 hP hD hS
        · have hf := ifT hc11 hf
          refine lv_iload hx hb dX8_unpack_174 (lv_at hl 5 rfl) ?_
          refine lv_iconst (v := 1) hx hb dX8_unpack_176 (by decide) ?_
          refine lv_icmp_le (tgt := 184) hx hb dX8_unpack_177 (by decide) (fun hc10 => ?_) (fun hc10 => ?_)
          · have hf := ifT hc10 hf
            refine lv_iconst (v := 0) hx hb dX8_unpack_184 (by decide) ?_
            refine va_put (D := D) (ci := 9) (v := .int (0 : Int32)) (ty := tyX8 4) (C := RX8) (T := TX8) (N := 5) hx hb hts uwX8 tyX8 tyX8_ok nmX8 hown hK hP hD hS 0 rfl rfl 4 (by decide) (hts _ kfX8_35) (fun _ h9 => h9) rfl (tyX8_ok 4 (by decide)) rfl rfl (Nat.le_of_ble_eq_true rfl) dX8_unpack_185 (fun H locs hP hD hS => ?_)
            have hP : va_P D vwCl [(a_p0, .inr (9, [.int (2 : Int32), .int s1, .long (v7 ||| (lsh (1 : Int64) v4)), .int ((u8 - (1 : Int32)) + v9), .int (0 : Int32)]))] H := hP
            have hD : va_D A [(a_p0, .inr (9, [.int (2 : Int32), .int s1, .long (v7 ||| (lsh (1 : Int64) v4)), .int ((u8 - (1 : Int32)) + v9), .int (0 : Int32)]))] := hD
            exact hret _ (opE hf) H locs ls 188 dX8_unpack_188 hP hD hS
          · have hf := ifF hc10 hf
            refine lv_iconst (v := 1) hx hb dX8_unpack_180 (by decide) ?_
            refine lv_goto (tgt := 185) hx hb dX8_unpack_181 (by decide) ?_
            refine va_put (D := D) (ci := 9) (v := .int (1 : Int32)) (ty := tyX8 4) (C := RX8) (T := TX8) (N := 5) hx hb hts uwX8 tyX8 tyX8_ok nmX8 hown hK hP hD hS 0 rfl rfl 4 (by decide) (hts _ kfX8_35) (fun _ h9 => h9) rfl (tyX8_ok 4 (by decide)) rfl rfl (Nat.le_of_ble_eq_true rfl) dX8_unpack_185 (fun H locs hP hD hS => ?_)
            have hP : va_P D vwCl [(a_p0, .inr (9, [.int (2 : Int32), .int s1, .long (v7 ||| (lsh (1 : Int64) v4)), .int ((u8 - (1 : Int32)) + v9), .int (1 : Int32)]))] H := hP
            have hD : va_D A [(a_p0, .inr (9, [.int (2 : Int32), .int s1, .long (v7 ||| (lsh (1 : Int64) v4)), .int ((u8 - (1 : Int32)) + v9), .int (1 : Int32)]))] := hD
            exact hret _ (opE hf) H locs ls 188 dX8_unpack_188 hP hD hS
      · have hf := ifT hc15 hf
        refine lv_aload_n hx hb dX8_unpack_104 rfl (lv_at hl 0 rfl) ?_
        refine lv_lload hx hb dX8_unpack_105 (lv_at hl 4 rfl) ?_
        refine lv_lconst (v := 0) hx hb dX8_unpack_107 (by decide) ?_
        refine W.lcmp hx hb dX8_unpack_108 ?_
        refine lv_if_ne (tgt := 116) hx hb dX8_unpack_109 (by decide) (fun hc14 => ?_) (fun hc14 => ?_)
        · have hf := ifF hc14 hf
          refine lv_iconst (v := 1) hx hb dX8_unpack_116 (by decide) ?_
          exact keyB117 v1 v7 (1 : Int32) p0_kind s1 (0 : Int64) (0 : Int32) (0 : Int32) H locs ls hf hP hD hS (lv_sub hl [0, 1, 4] rfl)
        · have hf := ifT hc14 hf
          refine lv_iconst (v := 0) hx hb dX8_unpack_112 (by decide) ?_
          refine lv_goto (tgt := 117) hx hb dX8_unpack_113 (by decide) ?_
          exact keyB117 v1 v7 (0 : Int32) p0_kind s1 (0 : Int64) (0 : Int32) (0 : Int32) H locs ls hf hP hD hS (lv_sub hl [0, 1, 4] rfl)
    · have hf := ifF hc17 hf
      refine lv_aload_n hx hb dX8_unpack_80 rfl (lv_at hl 0 rfl) ?_
      refine lv_lload hx hb dX8_unpack_81 (lv_at hl 4 rfl) ?_
      refine lv_lconst (v := 0) hx hb dX8_unpack_83 (by decide) ?_
      refine W.lcmp hx hb dX8_unpack_84 ?_
      refine lv_if_ne (tgt := 92) hx hb dX8_unpack_85 (by decide) (fun hc16 => ?_) (fun hc16 => ?_)
      · have hf := ifF hc16 hf
        refine lv_iconst (v := 4) hx hb dX8_unpack_92 (by decide) ?_
        refine va_put (D := D) (ci := 9) (v := .int (4 : Int32)) (ty := tyX8 0) (C := RX8) (T := TX8) (N := 5) hx hb hts uwX8 tyX8 tyX8_ok nmX8 hown hK hP hD hS 0 rfl rfl 0 (by decide) (hts _ kfX8_41) (fun _ h9 => h9) rfl (tyX8_ok 0 (by decide)) rfl rfl (Nat.le_of_ble_eq_true rfl) dX8_unpack_93 (fun H locs hP hD hS => ?_)
        have hP : va_P D vwCl [(a_p0, .inr (9, [.int (4 : Int32), .int s1, .long (0 : Int64), .int (0 : Int32), .int (0 : Int32)]))] H := hP
        have hD : va_D A [(a_p0, .inr (9, [.int (4 : Int32), .int s1, .long (0 : Int64), .int (0 : Int32), .int (0 : Int32)]))] := hD
        refine lv_goto (tgt := 188) hx hb dX8_unpack_96 (by decide) ?_
        exact hret _ (opE hf) H locs ls 188 dX8_unpack_188 hP hD hS
      · have hf := ifT hc16 hf
        refine lv_iconst (v := 3) hx hb dX8_unpack_88 (by decide) ?_
        refine lv_goto (tgt := 93) hx hb dX8_unpack_89 (by decide) ?_
        refine va_put (D := D) (ci := 9) (v := .int (3 : Int32)) (ty := tyX8 0) (C := RX8) (T := TX8) (N := 5) hx hb hts uwX8 tyX8 tyX8_ok nmX8 hown hK hP hD hS 0 rfl rfl 0 (by decide) (hts _ kfX8_41) (fun _ h9 => h9) rfl (tyX8_ok 0 (by decide)) rfl rfl (Nat.le_of_ble_eq_true rfl) dX8_unpack_93 (fun H locs hP hD hS => ?_)
        have hP : va_P D vwCl [(a_p0, .inr (9, [.int (3 : Int32), .int s1, .long (0 : Int64), .int (0 : Int32), .int (0 : Int32)]))] H := hP
        have hD : va_D A [(a_p0, .inr (9, [.int (3 : Int32), .int s1, .long (0 : Int64), .int (0 : Int32), .int (0 : Int32)]))] := hD
        refine lv_goto (tgt := 188) hx hb dX8_unpack_96 (by decide) ?_
        exact hret _ (opE hf) H locs ls 188 dX8_unpack_188 hP hD hS
  unfold f_X8_unpack at hf
  refine lv_iload_n hx hb dX8_unpack_0 rfl (lv_at hl 1 rfl) ?_
  obtain ⟨u1, hu2, hf⟩ := bdE hf
  refine cS_I (ws' := [(a_p0, .inr (9, [.int p0_kind, .int p0_minus, .long p0_m, .int p0_e, .int p0_narrowBelow]))]) (rest := []) S hK hN hA hP hD hS (c_X2_precision l D cI cJ  p1  u1 hu2) mwX2_precision msX2_precision kmX8_9 [] rfl (by decide) rfl rfl rfl ⟨Nat.le_of_ble_eq_true rfl, Nat.le_of_ble_eq_true rfl⟩ ⟨Nat.zero_le _, Nat.zero_le _⟩ hl.1 rfl rfl (Nat.le_of_ble_eq_true rfl) dX8_unpack_1 (fun H locs hP hD hS => ?_)
  refine lv_iconst (v := 1) hx hb dX8_unpack_4 (by decide) ?_
  refine lv_isub hx hb dX8_unpack_5 ?_
  refine lv_istore (lv' := [(4, .int (u1 - (1 : Int32))), (0, .ref a_p0), (1, .int p1), (2, .long p2)]) hx hb dX8_unpack_6 hl (by decide) rfl (fun ls hl => ?_)
  refine lv_lload_n hx hb dX8_unpack_8 rfl (lv_at hl 3 rfl) ?_
  refine lv_iload_n hx hb dX8_unpack_9 rfl (lv_at hl 2 rfl) ?_
  obtain ⟨u3, hu4, hf⟩ := bdE hf
  refine cS_L (ws' := [(a_p0, .inr (9, [.int p0_kind, .int p0_minus, .long p0_m, .int p0_e, .int p0_narrowBelow]))]) (rest := [.long p2]) S hK hN hA hP hD hS (c_X2_signBit l D cI cJ  p1  u3 hu4) mwX2_signBit msX2_signBit kmX8_15 [] rfl (by decide) rfl rfl rfl ⟨Nat.le_of_ble_eq_true rfl, Nat.le_of_ble_eq_true rfl⟩ ⟨Nat.zero_le _, Nat.zero_le _⟩ hl.1 rfl rfl (Nat.le_of_ble_eq_true rfl) dX8_unpack_10 (fun H locs hP hD hS => ?_)
  refine lv_ldc2 hx hb hown (hts _ kcX8_19) dX8_unpack_13 ?_
  refine lv_lxor hx hb dX8_unpack_16 ?_
  refine lv_land hx hb dX8_unpack_17 ?_
  refine lv_lstore (lv' := [(5, .long (p2 &&& (u3 ^^^ (-1 : Int64)))), (4, .int (u1 - (1 : Int32))), (0, .ref a_p0), (1, .int p1), (2, .long p2)]) hx hb dX8_unpack_18 hl (by decide) rfl (fun ls hl => ?_)
  refine lv_lload hx hb dX8_unpack_20 (lv_at hl 0 rfl) ?_
  refine lv_lconst (v := 1) hx hb dX8_unpack_22 (by decide) ?_
  refine lv_iload hx hb dX8_unpack_23 (lv_at hl 1 rfl) ?_
  refine lv_lshl (v := lsh (1 : Int64) (u1 - (1 : Int32))) hx hb dX8_unpack_25 rfl ?_
  refine lv_lconst (v := 1) hx hb dX8_unpack_26 (by decide) ?_
  refine lv_lsub hx hb dX8_unpack_27 ?_
  refine lv_land hx hb dX8_unpack_28 ?_
  refine lv_lstore (lv' := [(7, .long ((p2 &&& (u3 ^^^ (-1 : Int64))) &&& ((lsh (1 : Int64) (u1 - (1 : Int32))) - (1 : Int64)))), (5, .long (p2 &&& (u3 ^^^ (-1 : Int64)))), (4, .int (u1 - (1 : Int32))), (0, .ref a_p0), (1, .int p1), (2, .long p2)]) hx hb dX8_unpack_29 hl (by decide) rfl (fun ls hl => ?_)
  refine lv_lload hx hb dX8_unpack_31 (lv_at hl 1 rfl) ?_
  refine lv_iload hx hb dX8_unpack_33 (lv_at hl 2 rfl) ?_
  refine lv_lushr (v := lus (p2 &&& (u3 ^^^ (-1 : Int64))) (u1 - (1 : Int32))) hx hb dX8_unpack_35 rfl ?_
  refine lv_l2i (v := (lus (p2 &&& (u3 ^^^ (-1 : Int64))) (u1 - (1 : Int32))).toInt32) hx hb dX8_unpack_36 rfl ?_
  refine lv_istore (lv' := [(9, .int ((lus (p2 &&& (u3 ^^^ (-1 : Int64))) (u1 - (1 : Int32))).toInt32)), (7, .long ((p2 &&& (u3 ^^^ (-1 : Int64))) &&& ((lsh (1 : Int64) (u1 - (1 : Int32))) - (1 : Int64)))), (5, .long (p2 &&& (u3 ^^^ (-1 : Int64)))), (4, .int (u1 - (1 : Int32))), (0, .ref a_p0), (1, .int p1), (2, .long p2)]) hx hb dX8_unpack_37 hl (by decide) rfl (fun ls hl => ?_)
  refine lv_aload_n hx hb dX8_unpack_39 rfl (lv_at hl 4 rfl) ?_
  refine lv_lload hx hb dX8_unpack_40 (lv_at hl 2 rfl) ?_
  refine lv_lload_n hx hb dX8_unpack_42 rfl (lv_at hl 6 rfl) ?_
  refine W.lcmp hx hb dX8_unpack_43 ?_
  refine lv_if_eq (tgt := 51) hx hb dX8_unpack_44 (by decide) (fun hc18 => ?_) (fun hc18 => ?_)
  · have hf := ifT hc18 hf
    refine lv_iconst (v := 0) hx hb dX8_unpack_51 (by decide) ?_
    exact keyB52 p1 (u1 - (1 : Int32)) (p2 &&& (u3 ^^^ (-1 : Int64))) ((p2 &&& (u3 ^^^ (-1 : Int64))) &&& ((lsh (1 : Int64) (u1 - (1 : Int32))) - (1 : Int64))) ((lus (p2 &&& (u3 ^^^ (-1 : Int64))) (u1 - (1 : Int32))).toInt32) (0 : Int32) p0_kind p0_minus p0_m p0_e p0_narrowBelow H locs ls hf hP hD hS (lv_sub hl [4, 5, 3, 2, 1, 0] rfl)
  · have hf := ifF hc18 hf
    refine lv_iconst (v := 1) hx hb dX8_unpack_47 (by decide) ?_
    refine lv_goto (tgt := 52) hx hb dX8_unpack_48 (by decide) ?_
    exact keyB52 p1 (u1 - (1 : Int32)) (p2 &&& (u3 ^^^ (-1 : Int64))) ((p2 &&& (u3 ^^^ (-1 : Int64))) &&& ((lsh (1 : Int64) (u1 - (1 : Int32))) - (1 : Int64))) ((lus (p2 &&& (u3 ^^^ (-1 : Int64))) (u1 - (1 : Int32))).toInt32) (1 : Int32) p0_kind p0_minus p0_m p0_e p0_narrowBelow H locs ls hf hP hD hS (lv_sub hl [4, 5, 3, 2, 1, 0] rfl)
