set_option maxRecDepth 100000 in
set_option maxHeartbeats 4000000 in
theorem c_X3_printFigures (l : Launch) (D : va_G) (cI cJ : ClassId) (a_p0 a_p0_sheet a_p0_shortest a_p0_shortest_left a_p0_figures a_p0_sheet_bytes a_p0_figures_row : Nat) (p1 : Int32) (p2 : Int32) (p0_sheet_length : Int32) (p0_sheet_bytes : (Nat → Int32)) (p0_figures_count : Int32) (p0_figures_top : Int32) (p0_figures_row : (Nat → Int32)) (u : Int32 × (Nat → Int32)) (hf : f_X3_printFigures p0_figures_count p0_figures_top p0_figures_row p1 p2 p0_sheet_length p0_sheet_bytes = some u) : CtV l yX3_printFigures cX3_printFigures 3 3 65 [.ref a_p0, .int p1, .int p2] D cI cJ [(a_p0, .inr (4, [.ref a_p0_sheet, .ref a_p0_shortest, .ref a_p0_shortest_left, .ref a_p0_figures])), (a_p0_sheet, .inr (6, [.ref a_p0_sheet_bytes, .int p0_sheet_length])), (a_p0_sheet_bytes, .inl (cI, 1077, .inl p0_sheet_bytes)), (a_p0_figures, .inr (3, [.ref a_p0_figures_row, .int p0_figures_count, .int p0_figures_top])), (a_p0_figures_row, .inl (cI, 792, .inl p0_figures_row))] [(a_p0, .inr (4, [.ref a_p0_sheet, .ref a_p0_shortest, .ref a_p0_shortest_left, .ref a_p0_figures])), (a_p0_sheet, .inr (6, [.ref a_p0_sheet_bytes, .int u.1])), (a_p0_sheet_bytes, .inl (cI, 1077, .inl u.2)), (a_p0_figures, .inr (3, [.ref a_p0_figures_row, .int p0_figures_count, .int p0_figures_top])), (a_p0_figures_row, .inl (cI, 792, .inl p0_figures_row))] := by
  refine mkV (own := RX3) rfl (by decide +kernel) (Nat.le_of_ble_eq_true rfl) (lv := [(0, .ref a_p0), (1, .int p1), (2, .int p2)]) rfl ?_
  intro p e s m below meth c Q A ls ar S hA hK hN hret H locs hP hD hS hl
  obtain ⟨hx, hb, hml, hown, hts⟩ := id S
  have hret : ∀ (w : Int32 × (Nat → Int32)), w = u → ∀ (H : Heap) (locs : List Loc) (ls : Array Slot) (pc : Nat), decode cX3_printFigures pc = .ok (.return_, 1) → va_P D vwCl [(a_p0, .inr (4, [.ref a_p0_sheet, .ref a_p0_shortest, .ref a_p0_shortest_left, .ref a_p0_figures])), (a_p0_sheet, .inr (6, [.ref a_p0_sheet_bytes, .int w.1])), (a_p0_sheet_bytes, .inl (cI, 1077, .inl w.2)), (a_p0_figures, .inr (3, [.ref a_p0_figures_row, .int p0_figures_count, .int p0_figures_top])), (a_p0_figures_row, .inl (cI, 792, .inl p0_figures_row))] H → va_D A [(a_p0, .inr (4, [.ref a_p0_sheet, .ref a_p0_shortest, .ref a_p0_shortest_left, .ref a_p0_figures])), (a_p0_sheet, .inr (6, [.ref a_p0_sheet_bytes, .int w.1])), (a_p0_sheet_bytes, .inl (cI, 1077, .inl w.2)), (a_p0_figures, .inr (3, [.ref a_p0_figures_row, .int p0_figures_count, .int p0_figures_top])), (a_p0_figures_row, .inl (cI, 792, .inl p0_figures_row))] → va_S A s.heap H locs → W p l e (rmz 3 65) s m ar below meth c H locs 0 0 Q (F0 m pc ls []) := fun w hw => hw ▸ hret
  unfold f_X3_printFigures at hf
  refine lv_iload_n hx hb dX3_printFigures_0 rfl (lv_at hl 1 rfl) ?_
  by_cases hc13 : p1 = (1 : Int32)
  · have hf := ifT hc13 hf
    refine lv_tableIn (tgt := 28) hx hb dX3_printFigures_1 (by rw [hc13]; decide) (by rw [hc13]; decide) (by rw [hc13]; rfl) (by decide) ?_
    refine lv_aload_n hx hb dX3_printFigures_28 rfl (lv_at hl 0 rfl) ?_
    refine lv_aload_n hx hb dX3_printFigures_29 rfl (lv_at hl 0 rfl) ?_
    refine va_get (D := D) (ci := 4) (v := .ref a_p0_figures) (C := RX3) (T := TX3) (N := 4) hx hb hts uwX3 hown hK hP 0 rfl rfl 3 (by decide) (hts _ kfX3_21) (fun _ h9 => h9) rfl dX3_printFigures_30 ?_
    refine va_get (D := D) (ci := 3) (v := .int p0_figures_count) (C := RX1) (T := TX1) (N := 3) hx hb hts uwX1 hown hK hP 3 rfl rfl 1 (by decide) (hts _ kfX3_88) (fun _ h9 => h9) rfl dX3_printFigures_33 ?_
    refine lv_iconst (v := 1) hx hb dX3_printFigures_36 (by decide) ?_
    obtain ⟨u5, hu6, hf⟩ := bdE hf
    refine cS_I (ws' := [(a_p0, .inr (4, [.ref a_p0_sheet, .ref a_p0_shortest, .ref a_p0_shortest_left, .ref a_p0_figures])), (a_p0_sheet, .inr (6, [.ref a_p0_sheet_bytes, .int p0_sheet_length])), (a_p0_sheet_bytes, .inl (cI, 1077, .inl p0_sheet_bytes)), (a_p0_figures, .inr (3, [.ref a_p0_figures_row, .int p0_figures_count, .int p0_figures_top])), (a_p0_figures_row, .inl (cI, 792, .inl p0_figures_row))]) (rest := [.ref a_p0]) S hK hN hA hP hD hS (c_J9_max_7cf53 l D cI cJ  p0_figures_count (1 : Int32)  u5 hu6) mwJ9_max_7cf53 msJ9_max_7cf53 kmX3_91 [] rfl (by decide) rfl rfl rfl ⟨Nat.le_of_ble_eq_true rfl, Nat.le_of_ble_eq_true rfl⟩ ⟨Nat.zero_le _, Nat.zero_le _⟩ hl.1 rfl rfl (Nat.le_of_ble_eq_true rfl) dX3_printFigures_37 (fun H locs hP hD hS => ?_)
    obtain ⟨u7, hu8, hf⟩ := bdE hf
    refine cV_V (ws' := [(a_p0, .inr (4, [.ref a_p0_sheet, .ref a_p0_shortest, .ref a_p0_shortest_left, .ref a_p0_figures])), (a_p0_sheet, .inr (6, [.ref a_p0_sheet_bytes, .int u7.1])), (a_p0_sheet_bytes, .inl (cI, 1077, .inl u7.2)), (a_p0_figures, .inr (3, [.ref a_p0_figures_row, .int p0_figures_count, .int p0_figures_top])), (a_p0_figures_row, .inl (cI, 792, .inl p0_figures_row))]) (rest := []) S hK hN hA hP hD hS (c_X3_printPowered l D cI cJ a_p0 a_p0_sheet a_p0_shortest a_p0_shortest_left a_p0_figures a_p0_sheet_bytes a_p0_figures_row u5 p0_sheet_length p0_sheet_bytes p0_figures_count p0_figures_top p0_figures_row u7 hu8) mwX3_printPowered miX3_printPowered kmX3_97 [0, 1, 2, 3, 4] rfl (by decide) rfl rfl rfl 0 rfl rfl ⟨Nat.le_of_ble_eq_true rfl, Nat.le_of_ble_eq_true rfl⟩ ⟨Nat.zero_le _, Nat.zero_le _⟩ hl.1 rfl rfl (Nat.le_of_ble_eq_true rfl) dX3_printFigures_40 (fun H locs hP hD hS => ?_)
    refine lv_goto (tgt := 87) hx hb dX3_printFigures_43 (by decide) ?_
    exact hret _ (opE hf) H locs ls 87 dX3_printFigures_87 hP hD hS
  · have hf := ifF hc13 hf
    by_cases hc14 : p1 = (2 : Int32)
    · have hf := ifT hc14 hf
      refine lv_tableIn (tgt := 46) hx hb dX3_printFigures_1 (by rw [hc14]; decide) (by rw [hc14]; decide) (by rw [hc14]; rfl) (by decide) ?_
      refine lv_aload_n hx hb dX3_printFigures_46 rfl (lv_at hl 0 rfl) ?_
      refine lv_iload_n hx hb dX3_printFigures_47 rfl (lv_at hl 2 rfl) ?_
      obtain ⟨u9, hu10, hf⟩ := bdE hf
      refine cV_V (ws' := [(a_p0, .inr (4, [.ref a_p0_sheet, .ref a_p0_shortest, .ref a_p0_shortest_left, .ref a_p0_figures])), (a_p0_sheet, .inr (6, [.ref a_p0_sheet_bytes, .int u9.1])), (a_p0_sheet_bytes, .inl (cI, 1077, .inl u9.2)), (a_p0_figures, .inr (3, [.ref a_p0_figures_row, .int p0_figures_count, .int p0_figures_top])), (a_p0_figures_row, .inl (cI, 792, .inl p0_figures_row))]) (rest := []) S hK hN hA hP hD hS (c_X3_printInPlace l D cI cJ a_p0 a_p0_sheet a_p0_shortest a_p0_shortest_left a_p0_figures a_p0_sheet_bytes a_p0_figures_row p2 p0_sheet_length p0_sheet_bytes p0_figures_count p0_figures_top p0_figures_row u9 hu10) mwX3_printInPlace miX3_printInPlace kmX3_100 [0, 1, 2, 3, 4] rfl (by decide) rfl rfl rfl 0 rfl rfl ⟨Nat.le_of_ble_eq_true rfl, Nat.le_of_ble_eq_true rfl⟩ ⟨Nat.zero_le _, Nat.zero_le _⟩ hl.1 rfl rfl (Nat.le_of_ble_eq_true rfl) dX3_printFigures_48 (fun H locs hP hD hS => ?_)
      refine lv_goto (tgt := 87) hx hb dX3_printFigures_51 (by decide) ?_
      exact hret _ (opE hf) H locs ls 87 dX3_printFigures_87 hP hD hS
    · have hf := ifF hc14 hf
      by_cases hc15 : p1 = (3 : Int32)
      · have hf := ifT hc15 hf
        refine lv_tableIn (tgt := 54) hx hb dX3_printFigures_1 (by rw [hc15]; decide) (by rw [hc15]; decide) (by rw [hc15]; rfl) (by decide) ?_
        refine lv_aload_n hx hb dX3_printFigures_54 rfl (lv_at hl 0 rfl) ?_
        refine lv_iload_n hx hb dX3_printFigures_55 rfl (lv_at hl 2 rfl) ?_
        obtain ⟨u11, hu12, hf⟩ := bdE hf
        refine cV_V (ws' := [(a_p0, .inr (4, [.ref a_p0_sheet, .ref a_p0_shortest, .ref a_p0_shortest_left, .ref a_p0_figures])), (a_p0_sheet, .inr (6, [.ref a_p0_sheet_bytes, .int u11.1])), (a_p0_sheet_bytes, .inl (cI, 1077, .inl u11.2)), (a_p0_figures, .inr (3, [.ref a_p0_figures_row, .int p0_figures_count, .int p0_figures_top])), (a_p0_figures_row, .inl (cI, 792, .inl p0_figures_row))]) (rest := []) S hK hN hA hP hD hS (c_X3_printPowered l D cI cJ a_p0 a_p0_sheet a_p0_shortest a_p0_shortest_left a_p0_figures a_p0_sheet_bytes a_p0_figures_row p2 p0_sheet_length p0_sheet_bytes p0_figures_count p0_figures_top p0_figures_row u11 hu12) mwX3_printPowered miX3_printPowered kmX3_97 [0, 1, 2, 3, 4] rfl (by decide) rfl rfl rfl 0 rfl rfl ⟨Nat.le_of_ble_eq_true rfl, Nat.le_of_ble_eq_true rfl⟩ ⟨Nat.zero_le _, Nat.zero_le _⟩ hl.1 rfl rfl (Nat.le_of_ble_eq_true rfl) dX3_printFigures_56 (fun H locs hP hD hS => ?_)
        refine lv_goto (tgt := 87) hx hb dX3_printFigures_59 (by decide) ?_
        exact hret _ (opE hf) H locs ls 87 dX3_printFigures_87 hP hD hS
      · have hf := ifF hc15 hf
        refine lv_tableOut (tgt := 62) hx hb dX3_printFigures_1 (tsw3_1 hc13 hc14 hc15) (by decide) ?_
        refine lv_aload_n hx hb dX3_printFigures_62 rfl (lv_at hl 0 rfl) ?_
        refine lv_aload_n hx hb dX3_printFigures_63 rfl (lv_at hl 0 rfl) ?_
        refine va_get (D := D) (ci := 4) (v := .ref a_p0_figures) (C := RX3) (T := TX3) (N := 4) hx hb hts uwX3 hown hK hP 0 rfl rfl 3 (by decide) (hts _ kfX3_21) (fun _ h9 => h9) rfl dX3_printFigures_64 ?_
        refine va_get (D := D) (ci := 3) (v := .int p0_figures_count) (C := RX1) (T := TX1) (N := 3) hx hb hts uwX1 hown hK hP 3 rfl rfl 1 (by decide) (hts _ kfX3_88) (fun _ h9 => h9) rfl dX3_printFigures_67 ?_
        refine lv_iconst (v := 1) hx hb dX3_printFigures_70 (by decide) ?_
        refine lv_isub hx hb dX3_printFigures_71 ?_
        refine lv_aload_n hx hb dX3_printFigures_72 rfl (lv_at hl 0 rfl) ?_
        refine va_get (D := D) (ci := 4) (v := .ref a_p0_figures) (C := RX3) (T := TX3) (N := 4) hx hb hts uwX3 hown hK hP 0 rfl rfl 3 (by decide) (hts _ kfX3_21) (fun _ h9 => h9) rfl dX3_printFigures_73 ?_
        refine va_get (D := D) (ci := 3) (v := .int p0_figures_top) (C := RX1) (T := TX1) (N := 3) hx hb hts uwX1 hown hK hP 3 rfl rfl 2 (by decide) (hts _ kfX3_81) (fun _ h9 => h9) rfl dX3_printFigures_76 ?_
        refine lv_isub hx hb dX3_printFigures_79 ?_
        refine lv_iconst (v := 0) hx hb dX3_printFigures_80 (by decide) ?_
        obtain ⟨u1, hu2, hf⟩ := bdE hf
        refine cS_I (ws' := [(a_p0, .inr (4, [.ref a_p0_sheet, .ref a_p0_shortest, .ref a_p0_shortest_left, .ref a_p0_figures])), (a_p0_sheet, .inr (6, [.ref a_p0_sheet_bytes, .int p0_sheet_length])), (a_p0_sheet_bytes, .inl (cI, 1077, .inl p0_sheet_bytes)), (a_p0_figures, .inr (3, [.ref a_p0_figures_row, .int p0_figures_count, .int p0_figures_top])), (a_p0_figures_row, .inl (cI, 792, .inl p0_figures_row))]) (rest := [.ref a_p0]) S hK hN hA hP hD hS (c_J9_max_7cf53 l D cI cJ  ((p0_figures_count - (1 : Int32)) - p0_figures_top) (0 : Int32)  u1 hu2) mwJ9_max_7cf53 msJ9_max_7cf53 kmX3_91 [] rfl (by decide) rfl rfl rfl ⟨Nat.le_of_ble_eq_true rfl, Nat.le_of_ble_eq_true rfl⟩ ⟨Nat.zero_le _, Nat.zero_le _⟩ hl.1 rfl rfl (Nat.le_of_ble_eq_true rfl) dX3_printFigures_81 (fun H locs hP hD hS => ?_)
        obtain ⟨u3, hu4, hf⟩ := bdE hf
        refine cV_V (ws' := [(a_p0, .inr (4, [.ref a_p0_sheet, .ref a_p0_shortest, .ref a_p0_shortest_left, .ref a_p0_figures])), (a_p0_sheet, .inr (6, [.ref a_p0_sheet_bytes, .int u3.1])), (a_p0_sheet_bytes, .inl (cI, 1077, .inl u3.2)), (a_p0_figures, .inr (3, [.ref a_p0_figures_row, .int p0_figures_count, .int p0_figures_top])), (a_p0_figures_row, .inl (cI, 792, .inl p0_figures_row))]) (rest := []) S hK hN hA hP hD hS (c_X3_printInPlace l D cI cJ a_p0 a_p0_sheet a_p0_shortest a_p0_shortest_left a_p0_figures a_p0_sheet_bytes a_p0_figures_row u1 p0_sheet_length p0_sheet_bytes p0_figures_count p0_figures_top p0_figures_row u3 hu4) mwX3_printInPlace miX3_printInPlace kmX3_100 [0, 1, 2, 3, 4] rfl (by decide) rfl rfl rfl 0 rfl rfl ⟨Nat.le_of_ble_eq_true rfl, Nat.le_of_ble_eq_true rfl⟩ ⟨Nat.zero_le _, Nat.zero_le _⟩ hl.1 rfl rfl (Nat.le_of_ble_eq_true rfl) dX3_printFigures_84 (fun H locs hP hD hS => ?_)
        exact hret _ (opE hf) H locs ls 87 dX3_printFigures_87 hP hD hS
set_option maxRecDepth 100000 in
set_option maxHeartbeats 4000000 in
theorem c_X5_putText (l : Launch) (D : va_G) (cI cJ : ClassId) (sa sv : Nat → Nat) (a_p0 a_p0_bytes : Nat) (p1 : Nat) (p0_length : Int32) (p0_bytes : (Nat → Int32)) (ht_p1 : p1 < strTab.length) (u : Int32 × (Nat → Int32)) (hf : f_X5_putText p1 p0_length p0_bytes = some u) : CeV l yX5_putText cX5_putText 3 4 85 [.ref a_p0, .ref (sa p1)] D cI cJ sa sv [(a_p0, .inr (6, [.ref a_p0_bytes, .int p0_length])), (a_p0_bytes, .inl (cI, 1077, .inl p0_bytes))] [(a_p0, .inr (6, [.ref a_p0_bytes, .int u.1])), (a_p0_bytes, .inl (cI, 1077, .inl u.2))] := by
  refine mkEV (own := RX5) rfl (by decide +kernel) (Nat.le_of_ble_eq_true rfl) (lv := [(0, .ref a_p0), (1, .ref (sa p1))]) rfl ?_
  intro p e s m below meth c Q A ls ar S hA hK hN hE hret H locs hP hD hS hl
  obtain ⟨hx, hb, hml, hown, hts⟩ := id S
  have hret : ∀ (w : Int32 × (Nat → Int32)), w = u → ∀ (H : Heap) (locs : List Loc) (ls : Array Slot) (pc : Nat), decode cX5_putText pc = .ok (.return_, 1) → va_P D vwCl [(a_p0, .inr (6, [.ref a_p0_bytes, .int w.1])), (a_p0_bytes, .inl (cI, 1077, .inl w.2))] H → va_D A [(a_p0, .inr (6, [.ref a_p0_bytes, .int w.1])), (a_p0_bytes, .inl (cI, 1077, .inl w.2))] → va_S A s.heap H locs → W p l e (rmz 4 85) s m ar below meth c H locs 0 0 Q (F0 m pc ls []) := fun w hw => hw ▸ hret
  have keyL2 : ∀ (n : Nat) (v2 : Int32) (p0_length : Int32) (p0_bytes : (Nat → Int32)) (H : Heap) (locs : List Loc) (ls : Array Slot), f_X5_putText_L2 p1 n v2 p0_length p0_bytes = some u → va_P D vwCl [(a_p0, .inr (6, [.ref a_p0_bytes, .int p0_length])), (a_p0_bytes, .inl (cI, 1077, .inl p0_bytes))] H → va_D A [(a_p0, .inr (6, [.ref a_p0_bytes, .int p0_length])), (a_p0_bytes, .inl (cI, 1077, .inl p0_bytes))] → va_S A s.heap H locs → lv_has ls 3 [(0, .ref a_p0), (1, .ref (sa p1)), (2, .int v2)] → W p l e (rmz 4 85) s m ar below meth c H locs 0 0 Q (F0 m 2 ls []) := by
    intro n
    induction n with
      | zero =>
        intro v2 p0_length p0_bytes H locs ls hf
        cases hf
      | succ n ih =>
        intro v2 p0_length p0_bytes H locs ls hf hP hD hS hl
        rw [f_X5_putText_L2] at hf
        refine lv_iload_n hx hb dX5_putText_2 rfl (lv_at hl 2 rfl) ?_
        refine lv_aload_n hx hb dX5_putText_3 rfl (lv_at hl 1 rfl) ?_
        refine sV_I (rest := [.int v2]) S hK hN hE hA hP hD hS (c_str_length l D cI cJ sa sv p1 ht_p1) mwJ0_length_8abf5 miJ0_length_8abf5 kmX5_17 (hE.obj ht_p1) ⟨Nat.le_of_ble_eq_true rfl, Nat.le_of_ble_eq_true rfl⟩ ⟨Nat.zero_le _, Nat.zero_le _⟩ hl.1 rfl rfl (Nat.le_of_ble_eq_true rfl) dX5_putText_4 (fun H locs hP hS => ?_)
        refine lv_icmp_ge (tgt := 25) hx hb dX5_putText_7 (by decide) (fun hc4 => ?_) (fun hc4 => ?_)
        · have hf := ifT hc4 hf
          exact hret _ (opE hf) H locs ls 25 dX5_putText_25 hP hD hS
        · have hf := ifF hc4 hf
          refine lv_aload_n hx hb dX5_putText_10 rfl (lv_at hl 0 rfl) ?_
          refine lv_aload_n hx hb dX5_putText_11 rfl (lv_at hl 1 rfl) ?_
          refine lv_iload_n hx hb dX5_putText_12 rfl (lv_at hl 2 rfl) ?_
          obtain ⟨hi1, hf⟩ := gdE hf
          refine sV_I (rest := [.ref a_p0]) S hK hN hE hA hP hD hS (c_str_charAt l D cI cJ sa sv p1 ht_p1 v2 hi1 (str_lt ht_p1 hi1)) mwJ0_charAt_5068e miJ0_charAt_5068e kmX5_22 (hE.obj ht_p1) ⟨Nat.le_of_ble_eq_true rfl, Nat.le_of_ble_eq_true rfl⟩ ⟨Nat.zero_le _, Nat.zero_le _⟩ hl.1 rfl rfl (Nat.le_of_ble_eq_true rfl) dX5_putText_13 (fun H locs hP hS => ?_)
          obtain ⟨u2, hu3, hf⟩ := bdE hf
          refine cV_V (ws' := [(a_p0, .inr (6, [.ref a_p0_bytes, .int u2.1])), (a_p0_bytes, .inl (cI, 1077, .inl u2.2))]) (rest := []) S hK hN hA hP hD hS (c_X5_put l D cI cJ a_p0 a_p0_bytes (sChr p1 v2) p0_length p0_bytes u2 hu3) mwX5_put miX5_put kmX5_26 [0, 1] rfl (by decide) rfl rfl rfl 0 rfl rfl ⟨Nat.le_of_ble_eq_true rfl, Nat.le_of_ble_eq_true rfl⟩ ⟨Nat.zero_le _, Nat.zero_le _⟩ hl.1 rfl rfl (Nat.le_of_ble_eq_true rfl) dX5_putText_16 (fun H locs hP hD hS => ?_)
          refine lv_iinc (v := v2 + (1 : Int32)) (lv' := [(2, .int (v2 + (1 : Int32))), (0, .ref a_p0), (1, .ref (sa p1))]) hx hb dX5_putText_19 hl (k := 2) rfl (by rfl) (by decide) rfl (fun ls hl => ?_)
          refine lv_goto (tgt := 2) hx hb dX5_putText_22 (by decide) ?_
          exact ih (v2 + (1 : Int32)) u2.1 u2.2 H locs ls hf hP hD hS (lv_sub hl [1, 2, 0] rfl)
  unfold f_X5_putText at hf
  refine lv_iconst (v := 0) hx hb dX5_putText_0 (by decide) ?_
  refine lv_istore_n (lv' := [(2, .int (0 : Int32)), (0, .ref a_p0), (1, .ref (sa p1))]) hx hb dX5_putText_1 rfl hl (by decide) rfl (fun ls hl => ?_)
  exact keyL2 FU (0 : Int32) p0_length p0_bytes H locs ls hf hP hD hS (lv_sub hl [1, 2, 0] rfl)
set_option maxRecDepth 100000 in
set_option maxHeartbeats 4000000 in
theorem c_X3_printSixteens (l : Launch) (D : va_G) (cI cJ : ClassId) (sa sv : Nat → Nat) (a_p0 a_p0_sheet a_p0_shortest a_p0_shortest_left a_p0_figures a_p0_sheet_bytes a_p1 : Nat) (p0_sheet_length : Int32) (p0_sheet_bytes : (Nat → Int32)) (p1_kind : Int32) (p1_minus : Int32) (p1_m : Int64) (p1_e : Int32) (p1_narrowBelow : Int32) (u : Int32 × (Nat → Int32)) (hf : f_X3_printSixteens p1_kind p1_m p1_e p0_sheet_length p0_sheet_bytes = some u) : CeV l yX3_printSixteens cX3_printSixteens 6 5 107 [.ref a_p0, .ref a_p1] D cI cJ sa sv [(a_p0, .inr (4, [.ref a_p0_sheet, .ref a_p0_shortest, .ref a_p0_shortest_left, .ref a_p0_figures])), (a_p0_sheet, .inr (6, [.ref a_p0_sheet_bytes, .int p0_sheet_length])), (a_p0_sheet_bytes, .inl (cI, 1077, .inl p0_sheet_bytes)), (a_p1, .inr (9, [.int p1_kind, .int p1_minus, .long p1_m, .int p1_e, .int p1_narrowBelow]))] [(a_p0, .inr (4, [.ref a_p0_sheet, .ref a_p0_shortest, .ref a_p0_shortest_left, .ref a_p0_figures])), (a_p0_sheet, .inr (6, [.ref a_p0_sheet_bytes, .int u.1])), (a_p0_sheet_bytes, .inl (cI, 1077, .inl u.2)), (a_p1, .inr (9, [.int p1_kind, .int p1_minus, .long p1_m, .int p1_e, .int p1_narrowBelow]))] := by
  refine mkEV (own := RX3) rfl (by decide +kernel) (Nat.le_of_ble_eq_true rfl) (lv := [(0, .ref a_p0), (1, .ref a_p1)]) rfl ?_
  intro p e s m below meth c Q A ls ar S hA hK hN hE hret H locs hP hD hS hl
  obtain ⟨hx, hb, hml, hown, hts⟩ := id S
  have hret : ∀ (w : Int32 × (Nat → Int32)), w = u → ∀ (H : Heap) (locs : List Loc) (ls : Array Slot) (pc : Nat), decode cX3_printSixteens pc = .ok (.return_, 1) → va_P D vwCl [(a_p0, .inr (4, [.ref a_p0_sheet, .ref a_p0_shortest, .ref a_p0_shortest_left, .ref a_p0_figures])), (a_p0_sheet, .inr (6, [.ref a_p0_sheet_bytes, .int w.1])), (a_p0_sheet_bytes, .inl (cI, 1077, .inl w.2)), (a_p1, .inr (9, [.int p1_kind, .int p1_minus, .long p1_m, .int p1_e, .int p1_narrowBelow]))] H → va_D A [(a_p0, .inr (4, [.ref a_p0_sheet, .ref a_p0_shortest, .ref a_p0_shortest_left, .ref a_p0_figures])), (a_p0_sheet, .inr (6, [.ref a_p0_sheet_bytes, .int w.1])), (a_p0_sheet_bytes, .inl (cI, 1077, .inl w.2)), (a_p1, .inr (9, [.int p1_kind, .int p1_minus, .long p1_m, .int p1_e, .int p1_narrowBelow]))] → va_S A s.heap H locs → W p l e (rmz 5 107) s m ar below meth c H locs 0 0 Q (F0 m pc ls []) := fun w hw => hw ▸ hret
  have keyB119 : ∀ (p0_sheet_length : Int32) (p0_sheet_bytes : (Nat → Int32)) (H : Heap) (locs : List Loc) (ls : Array Slot), f_X3_printSixteens_B119 p1_kind p1_m p1_e p0_sheet_length p0_sheet_bytes = some u → va_P D vwCl [(a_p0, .inr (4, [.ref a_p0_sheet, .ref a_p0_shortest, .ref a_p0_shortest_left, .ref a_p0_figures])), (a_p0_sheet, .inr (6, [.ref a_p0_sheet_bytes, .int p0_sheet_length])), (a_p0_sheet_bytes, .inl (cI, 1077, .inl p0_sheet_bytes)), (a_p1, .inr (9, [.int p1_kind, .int p1_minus, .long p1_m, .int p1_e, .int p1_narrowBelow]))] H → va_D A [(a_p0, .inr (4, [.ref a_p0_sheet, .ref a_p0_shortest, .ref a_p0_shortest_left, .ref a_p0_figures])), (a_p0_sheet, .inr (6, [.ref a_p0_sheet_bytes, .int p0_sheet_length])), (a_p0_sheet_bytes, .inl (cI, 1077, .inl p0_sheet_bytes)), (a_p1, .inr (9, [.int p1_kind, .int p1_minus, .long p1_m, .int p1_e, .int p1_narrowBelow]))] → va_S A s.heap H locs → lv_has ls 6 [(0, .ref a_p0), (1, .ref a_p1)] → W p l e (rmz 5 107) s m ar below meth c H locs 0 0 Q (F0 m 119 ls []) := by
    intro p0_sheet_length p0_sheet_bytes H locs ls hf hP hD hS hl
    unfold f_X3_printSixteens_B119 at hf
    refine lv_aload_n hx hb dX3_printSixteens_119 rfl (lv_at hl 0 rfl) ?_
    refine va_get (D := D) (ci := 4) (v := .ref a_p0_sheet) (C := RX3) (T := TX3) (N := 4) hx hb hts uwX3 hown hK hP 0 rfl rfl 0 (by decide) (hts _ kfX3_12) (fun _ h9 => h9) rfl dX3_printSixteens_120 ?_
    refine lv_bipush (v := 112) hx hb dX3_printSixteens_123 (by decide) ?_
    obtain ⟨u5, hu6, hf⟩ := bdE hf
    refine cV_V (ws' := [(a_p0, .inr (4, [.ref a_p0_sheet, .ref a_p0_shortest, .ref a_p0_shortest_left, .ref a_p0_figures])), (a_p0_sheet, .inr (6, [.ref a_p0_sheet_bytes, .int u5.1])), (a_p0_sheet_bytes, .inl (cI, 1077, .inl u5.2)), (a_p1, .inr (9, [.int p1_kind, .int p1_minus, .long p1_m, .int p1_e, .int p1_narrowBelow]))]) (rest := []) S hK hN hA hP hD hS (c_X5_put l D cI cJ a_p0_sheet a_p0_sheet_bytes (112 : Int32) p0_sheet_length p0_sheet_bytes u5 hu6) mwX5_put miX5_put kmX3_52 [1, 2] rfl (by decide) rfl rfl rfl 0 rfl rfl ⟨Nat.le_of_ble_eq_true rfl, Nat.le_of_ble_eq_true rfl⟩ ⟨Nat.zero_le _, Nat.zero_le _⟩ hl.1 rfl rfl (Nat.le_of_ble_eq_true rfl) dX3_printSixteens_125 (fun H locs hP hD hS => ?_)
    refine lv_aload_n hx hb dX3_printSixteens_128 rfl (lv_at hl 0 rfl) ?_
    refine va_get (D := D) (ci := 4) (v := .ref a_p0_sheet) (C := RX3) (T := TX3) (N := 4) hx hb hts uwX3 hown hK hP 0 rfl rfl 0 (by decide) (hts _ kfX3_12) (fun _ h9 => h9) rfl dX3_printSixteens_129 ?_
    refine lv_aload_n hx hb dX3_printSixteens_132 rfl (lv_at hl 1 rfl) ?_
    refine va_get (D := D) (ci := 9) (v := .int p1_e) (C := RX8) (T := TX8) (N := 5) hx hb hts uwX8 hown hK hP 3 rfl rfl 3 (by decide) (hts _ kfX3_122) (fun _ h9 => h9) rfl dX3_printSixteens_133 ?_
    refine lv_aload_n hx hb dX3_printSixteens_136 rfl (lv_at hl 1 rfl) ?_
    obtain ⟨u7, hu8, hf⟩ := bdE hf
    refine cV_I (ws' := [(a_p0, .inr (4, [.ref a_p0_sheet, .ref a_p0_shortest, .ref a_p0_shortest_left, .ref a_p0_figures])), (a_p0_sheet, .inr (6, [.ref a_p0_sheet_bytes, .int u5.1])), (a_p0_sheet_bytes, .inl (cI, 1077, .inl u5.2)), (a_p1, .inr (9, [.int p1_kind, .int p1_minus, .long p1_m, .int p1_e, .int p1_narrowBelow]))]) (rest := [.int p1_e, .ref a_p0_sheet]) S hK hN hA hP hD hS (c_X8_bits l D cI cJ a_p1  p1_kind p1_minus p1_m p1_e p1_narrowBelow u7 hu8) mwX8_bits miX8_bits kmX3_118 [3] rfl (by decide) rfl rfl rfl 0 rfl rfl ⟨Nat.le_of_ble_eq_true rfl, Nat.le_of_ble_eq_true rfl⟩ ⟨Nat.zero_le _, Nat.zero_le _⟩ hl.1 rfl rfl (Nat.le_of_ble_eq_true rfl) dX3_printSixteens_137 (fun H locs hP hD hS => ?_)
    refine lv_iadd hx hb dX3_printSixteens_140 ?_
    refine lv_iconst (v := 1) hx hb dX3_printSixteens_141 (by decide) ?_
    refine lv_isub hx hb dX3_printSixteens_142 ?_
    obtain ⟨u9, hu10, hf⟩ := bdE hf
    refine cV_V (ws' := [(a_p0, .inr (4, [.ref a_p0_sheet, .ref a_p0_shortest, .ref a_p0_shortest_left, .ref a_p0_figures])), (a_p0_sheet, .inr (6, [.ref a_p0_sheet_bytes, .int u9.1])), (a_p0_sheet_bytes, .inl (cI, 1077, .inl u9.2)), (a_p1, .inr (9, [.int p1_kind, .int p1_minus, .long p1_m, .int p1_e, .int p1_narrowBelow]))]) (rest := []) S hK hN hA hP hD hS (c_X5_putNumber l D cI cJ a_p0_sheet a_p0_sheet_bytes ((p1_e + u7) - (1 : Int32)) u5.1 u5.2 u9 hu10) mwX5_putNumber miX5_putNumber kmX3_107 [1, 2] rfl (by decide) rfl rfl rfl 0 rfl rfl ⟨Nat.le_of_ble_eq_true rfl, Nat.le_of_ble_eq_true rfl⟩ ⟨Nat.zero_le _, Nat.zero_le _⟩ hl.1 rfl rfl (Nat.le_of_ble_eq_true rfl) dX3_printSixteens_143 (fun H locs hP hD hS => ?_)
    exact hret _ (opE hf) H locs ls 146 dX3_printSixteens_146 hP hD hS
  have keyB106 : ∀ (kL59 : Int64 → Int32 → Int32 → (Nat → Int32) → Option (Int32 × (Nat → Int32))) (hL59 : ∀ (v2 : Int64) (v4 : Int32) (p0_sheet_length : Int32) (p0_sheet_bytes : (Nat → Int32)) (H : Heap) (locs : List Loc) (ls : Array Slot), kL59 v2 v4 p0_sheet_length p0_sheet_bytes = some u → va_P D vwCl [(a_p0, .inr (4, [.ref a_p0_sheet, .ref a_p0_shortest, .ref a_p0_shortest_left, .ref a_p0_figures])), (a_p0_sheet, .inr (6, [.ref a_p0_sheet_bytes, .int p0_sheet_length])), (a_p0_sheet_bytes, .inl (cI, 1077, .inl p0_sheet_bytes)), (a_p1, .inr (9, [.int p1_kind, .int p1_minus, .long p1_m, .int p1_e, .int p1_narrowBelow]))] H → va_D A [(a_p0, .inr (4, [.ref a_p0_sheet, .ref a_p0_shortest, .ref a_p0_shortest_left, .ref a_p0_figures])), (a_p0_sheet, .inr (6, [.ref a_p0_sheet_bytes, .int p0_sheet_length])), (a_p0_sheet_bytes, .inl (cI, 1077, .inl p0_sheet_bytes)), (a_p1, .inr (9, [.int p1_kind, .int p1_minus, .long p1_m, .int p1_e, .int p1_narrowBelow]))] → va_S A s.heap H locs → lv_has ls 6 [(0, .ref a_p0), (1, .ref a_p1), (2, .long v2), (4, .int v4)] → W p l e (rmz 5 107) s m ar below meth c H locs 0 0 Q (F0 m 59 ls [])) (v2 : Int64) (v4 : Int32) (s1 : Int32) (p0_sheet_length : Int32) (p0_sheet_bytes : (Nat → Int32)) (H : Heap) (locs : List Loc) (ls : Array Slot), f_X3_printSixteens_B106 p1_kind p1_m p1_e kL59 v2 v4 s1 p0_sheet_length p0_sheet_bytes = some u → va_P D vwCl [(a_p0, .inr (4, [.ref a_p0_sheet, .ref a_p0_shortest, .ref a_p0_shortest_left, .ref a_p0_figures])), (a_p0_sheet, .inr (6, [.ref a_p0_sheet_bytes, .int p0_sheet_length])), (a_p0_sheet_bytes, .inl (cI, 1077, .inl p0_sheet_bytes)), (a_p1, .inr (9, [.int p1_kind, .int p1_minus, .long p1_m, .int p1_e, .int p1_narrowBelow]))] H → va_D A [(a_p0, .inr (4, [.ref a_p0_sheet, .ref a_p0_shortest, .ref a_p0_shortest_left, .ref a_p0_figures])), (a_p0_sheet, .inr (6, [.ref a_p0_sheet_bytes, .int p0_sheet_length])), (a_p0_sheet_bytes, .inl (cI, 1077, .inl p0_sheet_bytes)), (a_p1, .inr (9, [.int p1_kind, .int p1_minus, .long p1_m, .int p1_e, .int p1_narrowBelow]))] → va_S A s.heap H locs → lv_has ls 6 [(0, .ref a_p0), (1, .ref a_p1), (2, .long v2), (4, .int v4)] → W p l e (rmz 5 107) s m ar below meth c H locs 0 0 Q (F0 m 106 ls [.int s1, .ref a_p0_sheet]) := by
    intro kL59 hL59 v2 v4 s1 p0_sheet_length p0_sheet_bytes H locs ls hf hP hD hS hl
    unfold f_X3_printSixteens_B106 at hf
    obtain ⟨u11, hu12, hf⟩ := bdE hf
    refine cV_V (ws' := [(a_p0, .inr (4, [.ref a_p0_sheet, .ref a_p0_shortest, .ref a_p0_shortest_left, .ref a_p0_figures])), (a_p0_sheet, .inr (6, [.ref a_p0_sheet_bytes, .int u11.1])), (a_p0_sheet_bytes, .inl (cI, 1077, .inl u11.2)), (a_p1, .inr (9, [.int p1_kind, .int p1_minus, .long p1_m, .int p1_e, .int p1_narrowBelow]))]) (rest := []) S hK hN hA hP hD hS (c_X5_put l D cI cJ a_p0_sheet a_p0_sheet_bytes s1 p0_sheet_length p0_sheet_bytes u11 hu12) mwX5_put miX5_put kmX3_52 [1, 2] rfl (by decide) rfl rfl rfl 0 rfl rfl ⟨Nat.le_of_ble_eq_true rfl, Nat.le_of_ble_eq_true rfl⟩ ⟨Nat.zero_le _, Nat.zero_le _⟩ hl.1 rfl rfl (Nat.le_of_ble_eq_true rfl) dX3_printSixteens_106 (fun H locs hP hD hS => ?_)
    refine lv_lload_n hx hb dX3_printSixteens_109 rfl (lv_at hl 2 rfl) ?_
    refine lv_iconst (v := 4) hx hb dX3_printSixteens_110 (by decide) ?_
    refine lv_lshl (v := lsh v2 (4 : Int32)) hx hb dX3_printSixteens_111 rfl ?_
    refine lv_lstore_n (lv' := [(2, .long (lsh v2 (4 : Int32))), (0, .ref a_p0), (1, .ref a_p1), (4, .int v4)]) hx hb dX3_printSixteens_112 rfl hl (by decide) rfl (fun ls hl => ?_)
    refine lv_iinc (v := v4 + (1 : Int32)) (lv' := [(4, .int (v4 + (1 : Int32))), (2, .long (lsh v2 (4 : Int32))), (0, .ref a_p0), (1, .ref a_p1)]) hx hb dX3_printSixteens_113 hl (k := 3) rfl (by rfl) (by decide) rfl (fun ls hl => ?_)
    refine lv_goto (tgt := 59) hx hb dX3_printSixteens_116 (by decide) ?_
    exact hL59 (lsh v2 (4 : Int32)) (v4 + (1 : Int32)) u11.1 u11.2 H locs ls hf hP hD hS (lv_sub hl [2, 3, 1, 0] rfl)
  have keyL59 : ∀ (n : Nat) (v2 : Int64) (v4 : Int32) (p0_sheet_length : Int32) (p0_sheet_bytes : (Nat → Int32)) (H : Heap) (locs : List Loc) (ls : Array Slot), f_X3_printSixteens_L59 p1_kind p1_m p1_e n v2 v4 p0_sheet_length p0_sheet_bytes = some u → va_P D vwCl [(a_p0, .inr (4, [.ref a_p0_sheet, .ref a_p0_shortest, .ref a_p0_shortest_left, .ref a_p0_figures])), (a_p0_sheet, .inr (6, [.ref a_p0_sheet_bytes, .int p0_sheet_length])), (a_p0_sheet_bytes, .inl (cI, 1077, .inl p0_sheet_bytes)), (a_p1, .inr (9, [.int p1_kind, .int p1_minus, .long p1_m, .int p1_e, .int p1_narrowBelow]))] H → va_D A [(a_p0, .inr (4, [.ref a_p0_sheet, .ref a_p0_shortest, .ref a_p0_shortest_left, .ref a_p0_figures])), (a_p0_sheet, .inr (6, [.ref a_p0_sheet_bytes, .int p0_sheet_length])), (a_p0_sheet_bytes, .inl (cI, 1077, .inl p0_sheet_bytes)), (a_p1, .inr (9, [.int p1_kind, .int p1_minus, .long p1_m, .int p1_e, .int p1_narrowBelow]))] → va_S A s.heap H locs → lv_has ls 6 [(0, .ref a_p0), (1, .ref a_p1), (2, .long v2), (4, .int v4)] → W p l e (rmz 5 107) s m ar below meth c H locs 0 0 Q (F0 m 59 ls []) := by
    intro n
    induction n with
      | zero =>
        intro v2 v4 p0_sheet_length p0_sheet_bytes H locs ls hf
        cases hf
      | succ n ih =>
        intro v2 v4 p0_sheet_length p0_sheet_bytes H locs ls hf hP hD hS hl
        rw [f_X3_printSixteens_L59] at hf
        refine lv_iload hx hb dX3_printSixteens_59 (lv_at hl 3 rfl) ?_
        refine lv_bipush (v := 16) hx hb dX3_printSixteens_61 (by decide) ?_
        refine lv_icmp_ge (tgt := 119) hx hb dX3_printSixteens_63 (by decide) (fun hc15 => ?_) (fun hc15 => ?_)
        · have hf := ifT hc15 hf
          exact keyB119 p0_sheet_length p0_sheet_bytes H locs ls hf hP hD hS (lv_sub hl [0, 1] rfl)
        · have hf := ifF hc15 hf
          refine lv_lload_n hx hb dX3_printSixteens_66 rfl (lv_at hl 2 rfl) ?_
          refine lv_lconst (v := 0) hx hb dX3_printSixteens_67 (by decide) ?_
          refine W.lcmp hx hb dX3_printSixteens_68 ?_
          refine lv_if_eq (tgt := 119) hx hb dX3_printSixteens_69 (by decide) (fun hc14 => ?_) (fun hc14 => ?_)
          · have hf := ifT hc14 hf
            exact keyB119 p0_sheet_length p0_sheet_bytes H locs ls hf hP hD hS (lv_sub hl [0, 1] rfl)
          · have hf := ifF hc14 hf
            refine lv_lload_n hx hb dX3_printSixteens_72 rfl (lv_at hl 2 rfl) ?_
            refine lv_bipush (v := 60) hx hb dX3_printSixteens_73 (by decide) ?_
            refine lv_lushr (v := lus v2 (60 : Int32)) hx hb dX3_printSixteens_75 rfl ?_
            refine lv_l2i (v := (lus v2 (60 : Int32)).toInt32) hx hb dX3_printSixteens_76 rfl ?_
            refine lv_istore (lv' := [(5, .int ((lus v2 (60 : Int32)).toInt32)), (0, .ref a_p0), (1, .ref a_p1), (2, .long v2), (4, .int v4)]) hx hb dX3_printSixteens_77 hl (by decide) rfl (fun ls hl => ?_)
            refine lv_aload_n hx hb dX3_printSixteens_79 rfl (lv_at hl 1 rfl) ?_
            refine va_get (D := D) (ci := 4) (v := .ref a_p0_sheet) (C := RX3) (T := TX3) (N := 4) hx hb hts uwX3 hown hK hP 0 rfl rfl 0 (by decide) (hts _ kfX3_12) (fun _ h9 => h9) rfl dX3_printSixteens_80 ?_
            refine lv_iload hx hb dX3_printSixteens_83 (lv_at hl 0 rfl) ?_
            refine lv_bipush (v := 10) hx hb dX3_printSixteens_85 (by decide) ?_
            refine lv_icmp_ge (tgt := 98) hx hb dX3_printSixteens_87 (by decide) (fun hc13 => ?_) (fun hc13 => ?_)
            · have hf := ifT hc13 hf
              refine lv_bipush (v := 97) hx hb dX3_printSixteens_98 (by decide) ?_
              refine lv_iload hx hb dX3_printSixteens_100 (lv_at hl 0 rfl) ?_
              refine lv_iadd hx hb dX3_printSixteens_102 ?_
              refine lv_bipush (v := 10) hx hb dX3_printSixteens_103 (by decide) ?_
              refine lv_isub hx hb dX3_printSixteens_105 ?_
              exact keyB106 (f_X3_printSixteens_L59 p1_kind p1_m p1_e n) ih v2 v4 (((97 : Int32) + ((lus v2 (60 : Int32)).toInt32)) - (10 : Int32)) p0_sheet_length p0_sheet_bytes H locs ls hf hP hD hS (lv_sub hl [1, 2, 3, 4] rfl)
            · have hf := ifF hc13 hf
              refine lv_bipush (v := 48) hx hb dX3_printSixteens_90 (by decide) ?_
              refine lv_iload hx hb dX3_printSixteens_92 (lv_at hl 0 rfl) ?_
              refine lv_iadd hx hb dX3_printSixteens_94 ?_
              refine lv_goto (tgt := 106) hx hb dX3_printSixteens_95 (by decide) ?_
              exact keyB106 (f_X3_printSixteens_L59 p1_kind p1_m p1_e n) ih v2 v4 ((48 : Int32) + ((lus v2 (60 : Int32)).toInt32)) p0_sheet_length p0_sheet_bytes H locs ls hf hP hD hS (lv_sub hl [1, 2, 3, 4] rfl)
  unfold f_X3_printSixteens at hf
  refine lv_aload_n hx hb dX3_printSixteens_0 rfl (lv_at hl 1 rfl) ?_
  refine va_get (D := D) (ci := 9) (v := .int p1_kind) (C := RX8) (T := TX8) (N := 5) hx hb hts uwX8 hown hK hP 3 rfl rfl 0 (by decide) (hts _ kfX3_36) (fun _ h9 => h9) rfl dX3_printSixteens_1 ?_
  refine lv_if_ne (tgt := 17) hx hb dX3_printSixteens_4 (by decide) (fun hc21 => ?_) (fun hc21 => ?_)
  · have hf := ifF hc21 hf
    refine lv_aload_n hx hb dX3_printSixteens_17 rfl (lv_at hl 0 rfl) ?_
    refine va_get (D := D) (ci := 4) (v := .ref a_p0_sheet) (C := RX3) (T := TX3) (N := 4) hx hb hts uwX3 hown hK hP 0 rfl rfl 0 (by decide) (hts _ kfX3_12) (fun _ h9 => h9) rfl dX3_printSixteens_18 ?_
    refine va_ldcS hx hb hown hE.s13 dX3_printSixteens_21 ?_
    obtain ⟨u1, hu2, hf⟩ := bdE hf
    refine eV_V (ws' := [(a_p0, .inr (4, [.ref a_p0_sheet, .ref a_p0_shortest, .ref a_p0_shortest_left, .ref a_p0_figures])), (a_p0_sheet, .inr (6, [.ref a_p0_sheet_bytes, .int u1.1])), (a_p0_sheet_bytes, .inl (cI, 1077, .inl u1.2)), (a_p1, .inr (9, [.int p1_kind, .int p1_minus, .long p1_m, .int p1_e, .int p1_narrowBelow]))]) (rest := []) S hK hN hE hA hP hD hS (c_X5_putText l D cI cJ sa sv a_p0_sheet a_p0_sheet_bytes 13 p0_sheet_length p0_sheet_bytes sl13 u1 hu2) mwX5_putText miX5_putText kmX3_44 [1, 2] rfl (by decide) rfl rfl rfl 0 rfl rfl ⟨Nat.le_of_ble_eq_true rfl, Nat.le_of_ble_eq_true rfl⟩ ⟨Nat.zero_le _, Nat.zero_le _⟩ hl.1 rfl rfl (Nat.le_of_ble_eq_true rfl) dX3_printSixteens_23 (fun H locs hP hD hS => ?_)
    refine lv_aload_n hx hb dX3_printSixteens_26 rfl (lv_at hl 1 rfl) ?_
    refine va_get (D := D) (ci := 9) (v := .long p1_m) (C := RX8) (T := TX8) (N := 5) hx hb hts uwX8 hown hK hP 3 rfl rfl 2 (by decide) (hts _ kfX3_114) (fun _ h9 => h9) rfl dX3_printSixteens_27 ?_
    refine lv_bipush (v := 64) hx hb dX3_printSixteens_30 (by decide) ?_
    refine lv_aload_n hx hb dX3_printSixteens_32 rfl (lv_at hl 1 rfl) ?_
    obtain ⟨u3, hu4, hf⟩ := bdE hf
    refine cV_I (ws' := [(a_p0, .inr (4, [.ref a_p0_sheet, .ref a_p0_shortest, .ref a_p0_shortest_left, .ref a_p0_figures])), (a_p0_sheet, .inr (6, [.ref a_p0_sheet_bytes, .int u1.1])), (a_p0_sheet_bytes, .inl (cI, 1077, .inl u1.2)), (a_p1, .inr (9, [.int p1_kind, .int p1_minus, .long p1_m, .int p1_e, .int p1_narrowBelow]))]) (rest := [.int (64 : Int32), .long p1_m]) S hK hN hA hP hD hS (c_X8_bits l D cI cJ a_p1  p1_kind p1_minus p1_m p1_e p1_narrowBelow u3 hu4) mwX8_bits miX8_bits kmX3_118 [3] rfl (by decide) rfl rfl rfl 0 rfl rfl ⟨Nat.le_of_ble_eq_true rfl, Nat.le_of_ble_eq_true rfl⟩ ⟨Nat.zero_le _, Nat.zero_le _⟩ hl.1 rfl rfl (Nat.le_of_ble_eq_true rfl) dX3_printSixteens_33 (fun H locs hP hD hS => ?_)
    refine lv_isub hx hb dX3_printSixteens_36 ?_
    refine lv_lshl (v := lsh p1_m ((64 : Int32) - u3)) hx hb dX3_printSixteens_37 rfl ?_
    refine lv_iconst (v := 1) hx hb dX3_printSixteens_38 (by decide) ?_
    refine lv_lshl (v := lsh (lsh p1_m ((64 : Int32) - u3)) (1 : Int32)) hx hb dX3_printSixteens_39 rfl ?_
    refine lv_lstore_n (lv' := [(2, .long (lsh (lsh p1_m ((64 : Int32) - u3)) (1 : Int32))), (0, .ref a_p0), (1, .ref a_p1)]) hx hb dX3_printSixteens_40 rfl hl (by decide) rfl (fun ls hl => ?_)
    refine lv_lload_n hx hb dX3_printSixteens_41 rfl (lv_at hl 0 rfl) ?_
    refine lv_lconst (v := 0) hx hb dX3_printSixteens_42 (by decide) ?_
    refine W.lcmp hx hb dX3_printSixteens_43 ?_
    refine lv_if_eq (tgt := 56) hx hb dX3_printSixteens_44 (by decide) (fun hc18 => ?_) (fun hc18 => ?_)
    · have hf := ifT hc18 hf
      refine lv_iconst (v := 0) hx hb dX3_printSixteens_56 (by decide) ?_
      refine lv_istore (lv' := [(4, .int (0 : Int32)), (2, .long (lsh (lsh p1_m ((64 : Int32) - u3)) (1 : Int32))), (0, .ref a_p0), (1, .ref a_p1)]) hx hb dX3_printSixteens_57 hl (by decide) rfl (fun ls hl => ?_)
      exact keyL59 FU (lsh (lsh p1_m ((64 : Int32) - u3)) (1 : Int32)) (0 : Int32) u1.1 u1.2 H locs ls hf hP hD hS (lv_sub hl [2, 3, 1, 0] rfl)
    · have hf := ifF hc18 hf
      refine lv_aload_n hx hb dX3_printSixteens_47 rfl (lv_at hl 1 rfl) ?_
      refine va_get (D := D) (ci := 4) (v := .ref a_p0_sheet) (C := RX3) (T := TX3) (N := 4) hx hb hts uwX3 hown hK hP 0 rfl rfl 0 (by decide) (hts _ kfX3_12) (fun _ h9 => h9) rfl dX3_printSixteens_48 ?_
      refine lv_bipush (v := 46) hx hb dX3_printSixteens_51 (by decide) ?_
      obtain ⟨u16, hu17, hf⟩ := bdE hf
      refine cV_V (ws' := [(a_p0, .inr (4, [.ref a_p0_sheet, .ref a_p0_shortest, .ref a_p0_shortest_left, .ref a_p0_figures])), (a_p0_sheet, .inr (6, [.ref a_p0_sheet_bytes, .int u16.1])), (a_p0_sheet_bytes, .inl (cI, 1077, .inl u16.2)), (a_p1, .inr (9, [.int p1_kind, .int p1_minus, .long p1_m, .int p1_e, .int p1_narrowBelow]))]) (rest := []) S hK hN hA hP hD hS (c_X5_put l D cI cJ a_p0_sheet a_p0_sheet_bytes (46 : Int32) u1.1 u1.2 u16 hu17) mwX5_put miX5_put kmX3_52 [1, 2] rfl (by decide) rfl rfl rfl 0 rfl rfl ⟨Nat.le_of_ble_eq_true rfl, Nat.le_of_ble_eq_true rfl⟩ ⟨Nat.zero_le _, Nat.zero_le _⟩ hl.1 rfl rfl (Nat.le_of_ble_eq_true rfl) dX3_printSixteens_53 (fun H locs hP hD hS => ?_)
      refine lv_iconst (v := 0) hx hb dX3_printSixteens_56 (by decide) ?_
      refine lv_istore (lv' := [(4, .int (0 : Int32)), (2, .long (lsh (lsh p1_m ((64 : Int32) - u3)) (1 : Int32))), (0, .ref a_p0), (1, .ref a_p1)]) hx hb dX3_printSixteens_57 hl (by decide) rfl (fun ls hl => ?_)
      exact keyL59 FU (lsh (lsh p1_m ((64 : Int32) - u3)) (1 : Int32)) (0 : Int32) u16.1 u16.2 H locs ls hf hP hD hS (lv_sub hl [2, 3, 1, 0] rfl)
  · have hf := ifT hc21 hf
    refine lv_aload_n hx hb dX3_printSixteens_7 rfl (lv_at hl 0 rfl) ?_
    refine va_get (D := D) (ci := 4) (v := .ref a_p0_sheet) (C := RX3) (T := TX3) (N := 4) hx hb hts uwX3 hown hK hP 0 rfl rfl 0 (by decide) (hts _ kfX3_12) (fun _ h9 => h9) rfl dX3_printSixteens_8 ?_
    refine va_ldcS hx hb hown hE.s12 dX3_printSixteens_11 ?_
    obtain ⟨u19, hu20, hf⟩ := bdE hf
    refine eV_V (ws' := [(a_p0, .inr (4, [.ref a_p0_sheet, .ref a_p0_shortest, .ref a_p0_shortest_left, .ref a_p0_figures])), (a_p0_sheet, .inr (6, [.ref a_p0_sheet_bytes, .int u19.1])), (a_p0_sheet_bytes, .inl (cI, 1077, .inl u19.2)), (a_p1, .inr (9, [.int p1_kind, .int p1_minus, .long p1_m, .int p1_e, .int p1_narrowBelow]))]) (rest := []) S hK hN hE hA hP hD hS (c_X5_putText l D cI cJ sa sv a_p0_sheet a_p0_sheet_bytes 12 p0_sheet_length p0_sheet_bytes sl12 u19 hu20) mwX5_putText miX5_putText kmX3_44 [1, 2] rfl (by decide) rfl rfl rfl 0 rfl rfl ⟨Nat.le_of_ble_eq_true rfl, Nat.le_of_ble_eq_true rfl⟩ ⟨Nat.zero_le _, Nat.zero_le _⟩ hl.1 rfl rfl (Nat.le_of_ble_eq_true rfl) dX3_printSixteens_13 (fun H locs hP hD hS => ?_)
    exact hret _ (opE hf) H locs ls 16 dX3_printSixteens_16 hP hD hS
set_option maxRecDepth 100000 in
set_option maxHeartbeats 4000000 in
theorem c_X5_clear (l : Launch) (D : va_G) (cI cJ : ClassId) (a_p0 a_p0_bytes : Nat) (p0_length : Int32) (u : Int32) (hf : f_X5_clear p0_length = some u) : CtV l yX5_clear cX5_clear 1 0 0 [.ref a_p0] D cI cJ [(a_p0, .inr (6, [.ref a_p0_bytes, .int p0_length]))] [(a_p0, .inr (6, [.ref a_p0_bytes, .int u]))] := by
  refine mkV (own := RX5) rfl (by decide +kernel) (Nat.le_of_ble_eq_true rfl) (lv := [(0, .ref a_p0)]) rfl ?_
  intro p e s m below meth c Q A ls ar S hA hK hN hret H locs hP hD hS hl
  obtain ⟨hx, hb, hml, hown, hts⟩ := id S
  have hret : ∀ (w : Int32), w = u → ∀ (H : Heap) (locs : List Loc) (ls : Array Slot) (pc : Nat), decode cX5_clear pc = .ok (.return_, 1) → va_P D vwCl [(a_p0, .inr (6, [.ref a_p0_bytes, .int w]))] H → va_D A [(a_p0, .inr (6, [.ref a_p0_bytes, .int w]))] → va_S A s.heap H locs → W p l e (rmz 0 0) s m ar below meth c H locs 0 0 Q (F0 m pc ls []) := fun w hw => hw ▸ hret
  unfold f_X5_clear at hf
  refine lv_aload_n hx hb dX5_clear_0 rfl (lv_at hl 0 rfl) ?_
  refine lv_iconst (v := 0) hx hb dX5_clear_1 (by decide) ?_
  refine va_put (D := D) (ci := 6) (v := .int (0 : Int32)) (ty := tyX5 1) (C := RX5) (T := TX5) (N := 2) hx hb hts uwX5 tyX5 tyX5_ok nmX5 hown hK hP hD hS 0 rfl rfl 1 (by decide) (hts _ kfX5_13) (fun _ h9 => h9) rfl (tyX5_ok 1 (by decide)) rfl rfl (Nat.le_of_ble_eq_true rfl) dX5_clear_2 (fun H locs hP hD hS => ?_)
  have hP : va_P D vwCl [(a_p0, .inr (6, [.ref a_p0_bytes, .int (0 : Int32)]))] H := hP
  have hD : va_D A [(a_p0, .inr (6, [.ref a_p0_bytes, .int (0 : Int32)]))] := hD
  exact hret _ (opE hf) H locs ls 5 dX5_clear_5 hP hD hS
set_option maxRecDepth 100000 in
set_option maxHeartbeats 4000000 in
theorem c_X3_print (l : Launch) (D : va_G) (cI cJ : ClassId) (sa sv : Nat → Nat) (a_p0 a_p0_sheet a_p0_shortest a_p0_shortest_left a_p0_figures a_p0_sheet_bytes a_p0_shortest_unit a_p0_shortest_reach a_p0_shortest_work a_p0_shortest_left_limbs a_p0_shortest_unit_limbs a_p0_shortest_reach_limbs a_p0_shortest_work_limbs a_p0_figures_row a_p1 : Nat) (p2 : Int32) (p3 : Int32) (p4 : Int32) (p0_sheet_length : Int32) (p0_sheet_bytes : (Nat → Int32)) (p0_shortest_even : Int32) (p0_shortest_narrow : Int32) (p0_shortest_left_size : Int32) (p0_shortest_left_limbs : (Nat → Int64)) (p0_shortest_unit_size : Int32) (p0_shortest_unit_limbs : (Nat → Int64)) (p0_shortest_reach_size : Int32) (p0_shortest_reach_limbs : (Nat → Int64)) (p0_shortest_work_size : Int32) (p0_shortest_work_limbs : (Nat → Int64)) (p0_figures_count : Int32) (p0_figures_top : Int32) (p0_figures_row : (Nat → Int32)) (p1_kind : Int32) (p1_minus : Int32) (p1_m : Int64) (p1_e : Int32) (p1_narrowBelow : Int32) (u : Int32 × (Nat → Int32) × Int32 × Int32 × Int32 × (Nat → Int64) × Int32 × (Nat → Int64) × Int32 × (Nat → Int64) × Int32 × (Nat → Int64) × Int32 × Int32 × (Nat → Int32)) (hf : f_X3_print p1_kind p1_minus p1_m p1_e p1_narrowBelow p2 p3 p4 p0_sheet_length p0_sheet_bytes p0_shortest_even p0_shortest_narrow p0_shortest_left_size p0_shortest_left_limbs p0_shortest_unit_size p0_shortest_unit_limbs p0_shortest_reach_size p0_shortest_reach_limbs p0_shortest_work_size p0_shortest_work_limbs p0_figures_count p0_figures_top p0_figures_row = some u) : CeV l yX3_print cX3_print 5 6 134 [.ref a_p0, .ref a_p1, .int p2, .int p3, .int p4] D cI cJ sa sv [(a_p0, .inr (4, [.ref a_p0_sheet, .ref a_p0_shortest, .ref a_p0_shortest_left, .ref a_p0_figures])), (a_p0_sheet, .inr (6, [.ref a_p0_sheet_bytes, .int p0_sheet_length])), (a_p0_sheet_bytes, .inl (cI, 1077, .inl p0_sheet_bytes)), (a_p0_shortest, .inr (7, [.ref a_p0_shortest_left, .ref a_p0_shortest_unit, .ref a_p0_shortest_reach, .ref a_p0_shortest_work, .int p0_shortest_even, .int p0_shortest_narrow])), (a_p0_shortest_left, .inr (5, [.ref a_p0_shortest_left_limbs, .int p0_shortest_left_size])), (a_p0_shortest_left_limbs, .inl (cJ, 160, .inr (.inl p0_shortest_left_limbs))), (a_p0_shortest_unit, .inr (5, [.ref a_p0_shortest_unit_limbs, .int p0_shortest_unit_size])), (a_p0_shortest_unit_limbs, .inl (cJ, 160, .inr (.inl p0_shortest_unit_limbs))), (a_p0_shortest_reach, .inr (5, [.ref a_p0_shortest_reach_limbs, .int p0_shortest_reach_size])), (a_p0_shortest_reach_limbs, .inl (cJ, 160, .inr (.inl p0_shortest_reach_limbs))), (a_p0_shortest_work, .inr (5, [.ref a_p0_shortest_work_limbs, .int p0_shortest_work_size])), (a_p0_shortest_work_limbs, .inl (cJ, 160, .inr (.inl p0_shortest_work_limbs))), (a_p0_figures, .inr (3, [.ref a_p0_figures_row, .int p0_figures_count, .int p0_figures_top])), (a_p0_figures_row, .inl (cI, 792, .inl p0_figures_row)), (a_p1, .inr (9, [.int p1_kind, .int p1_minus, .long p1_m, .int p1_e, .int p1_narrowBelow]))] [(a_p0, .inr (4, [.ref a_p0_sheet, .ref a_p0_shortest, .ref a_p0_shortest_left, .ref a_p0_figures])), (a_p0_sheet, .inr (6, [.ref a_p0_sheet_bytes, .int u.1])), (a_p0_sheet_bytes, .inl (cI, 1077, .inl u.2.1)), (a_p0_shortest, .inr (7, [.ref a_p0_shortest_left, .ref a_p0_shortest_unit, .ref a_p0_shortest_reach, .ref a_p0_shortest_work, .int u.2.2.1, .int u.2.2.2.1])), (a_p0_shortest_left, .inr (5, [.ref a_p0_shortest_left_limbs, .int u.2.2.2.2.1])), (a_p0_shortest_left_limbs, .inl (cJ, 160, .inr (.inl u.2.2.2.2.2.1))), (a_p0_shortest_unit, .inr (5, [.ref a_p0_shortest_unit_limbs, .int u.2.2.2.2.2.2.1])), (a_p0_shortest_unit_limbs, .inl (cJ, 160, .inr (.inl u.2.2.2.2.2.2.2.1))), (a_p0_shortest_reach, .inr (5, [.ref a_p0_shortest_reach_limbs, .int u.2.2.2.2.2.2.2.2.1])), (a_p0_shortest_reach_limbs, .inl (cJ, 160, .inr (.inl u.2.2.2.2.2.2.2.2.2.1))), (a_p0_shortest_work, .inr (5, [.ref a_p0_shortest_work_limbs, .int u.2.2.2.2.2.2.2.2.2.2.1])), (a_p0_shortest_work_limbs, .inl (cJ, 160, .inr (.inl u.2.2.2.2.2.2.2.2.2.2.2.1))), (a_p0_figures, .inr (3, [.ref a_p0_figures_row, .int u.2.2.2.2.2.2.2.2.2.2.2.2.1, .int u.2.2.2.2.2.2.2.2.2.2.2.2.2.1])), (a_p0_figures_row, .inl (cI, 792, .inl u.2.2.2.2.2.2.2.2.2.2.2.2.2.2)), (a_p1, .inr (9, [.int p1_kind, .int p1_minus, .long p1_m, .int p1_e, .int p1_narrowBelow]))] := by
  refine mkEV (own := RX3) rfl (by decide +kernel) (Nat.le_of_ble_eq_true rfl) (lv := [(0, .ref a_p0), (1, .ref a_p1), (2, .int p2), (3, .int p3), (4, .int p4)]) rfl ?_
  intro p e s m below meth c Q A ls ar S hA hK hN hE hret H locs hP hD hS hl
  obtain ⟨hx, hb, hml, hown, hts⟩ := id S
  have hret : ∀ (w : Int32 × (Nat → Int32) × Int32 × Int32 × Int32 × (Nat → Int64) × Int32 × (Nat → Int64) × Int32 × (Nat → Int64) × Int32 × (Nat → Int64) × Int32 × Int32 × (Nat → Int32)), w = u → ∀ (H : Heap) (locs : List Loc) (ls : Array Slot) (pc : Nat), decode cX3_print pc = .ok (.return_, 1) → va_P D vwCl [(a_p0, .inr (4, [.ref a_p0_sheet, .ref a_p0_shortest, .ref a_p0_shortest_left, .ref a_p0_figures])), (a_p0_sheet, .inr (6, [.ref a_p0_sheet_bytes, .int w.1])), (a_p0_sheet_bytes, .inl (cI, 1077, .inl w.2.1)), (a_p0_shortest, .inr (7, [.ref a_p0_shortest_left, .ref a_p0_shortest_unit, .ref a_p0_shortest_reach, .ref a_p0_shortest_work, .int w.2.2.1, .int w.2.2.2.1])), (a_p0_shortest_left, .inr (5, [.ref a_p0_shortest_left_limbs, .int w.2.2.2.2.1])), (a_p0_shortest_left_limbs, .inl (cJ, 160, .inr (.inl w.2.2.2.2.2.1))), (a_p0_shortest_unit, .inr (5, [.ref a_p0_shortest_unit_limbs, .int w.2.2.2.2.2.2.1])), (a_p0_shortest_unit_limbs, .inl (cJ, 160, .inr (.inl w.2.2.2.2.2.2.2.1))), (a_p0_shortest_reach, .inr (5, [.ref a_p0_shortest_reach_limbs, .int w.2.2.2.2.2.2.2.2.1])), (a_p0_shortest_reach_limbs, .inl (cJ, 160, .inr (.inl w.2.2.2.2.2.2.2.2.2.1))), (a_p0_shortest_work, .inr (5, [.ref a_p0_shortest_work_limbs, .int w.2.2.2.2.2.2.2.2.2.2.1])), (a_p0_shortest_work_limbs, .inl (cJ, 160, .inr (.inl w.2.2.2.2.2.2.2.2.2.2.2.1))), (a_p0_figures, .inr (3, [.ref a_p0_figures_row, .int w.2.2.2.2.2.2.2.2.2.2.2.2.1, .int w.2.2.2.2.2.2.2.2.2.2.2.2.2.1])), (a_p0_figures_row, .inl (cI, 792, .inl w.2.2.2.2.2.2.2.2.2.2.2.2.2.2)), (a_p1, .inr (9, [.int p1_kind, .int p1_minus, .long p1_m, .int p1_e, .int p1_narrowBelow]))] H → va_D A [(a_p0, .inr (4, [.ref a_p0_sheet, .ref a_p0_shortest, .ref a_p0_shortest_left, .ref a_p0_figures])), (a_p0_sheet, .inr (6, [.ref a_p0_sheet_bytes, .int w.1])), (a_p0_sheet_bytes, .inl (cI, 1077, .inl w.2.1)), (a_p0_shortest, .inr (7, [.ref a_p0_shortest_left, .ref a_p0_shortest_unit, .ref a_p0_shortest_reach, .ref a_p0_shortest_work, .int w.2.2.1, .int w.2.2.2.1])), (a_p0_shortest_left, .inr (5, [.ref a_p0_shortest_left_limbs, .int w.2.2.2.2.1])), (a_p0_shortest_left_limbs, .inl (cJ, 160, .inr (.inl w.2.2.2.2.2.1))), (a_p0_shortest_unit, .inr (5, [.ref a_p0_shortest_unit_limbs, .int w.2.2.2.2.2.2.1])), (a_p0_shortest_unit_limbs, .inl (cJ, 160, .inr (.inl w.2.2.2.2.2.2.2.1))), (a_p0_shortest_reach, .inr (5, [.ref a_p0_shortest_reach_limbs, .int w.2.2.2.2.2.2.2.2.1])), (a_p0_shortest_reach_limbs, .inl (cJ, 160, .inr (.inl w.2.2.2.2.2.2.2.2.2.1))), (a_p0_shortest_work, .inr (5, [.ref a_p0_shortest_work_limbs, .int w.2.2.2.2.2.2.2.2.2.2.1])), (a_p0_shortest_work_limbs, .inl (cJ, 160, .inr (.inl w.2.2.2.2.2.2.2.2.2.2.2.1))), (a_p0_figures, .inr (3, [.ref a_p0_figures_row, .int w.2.2.2.2.2.2.2.2.2.2.2.2.1, .int w.2.2.2.2.2.2.2.2.2.2.2.2.2.1])), (a_p0_figures_row, .inl (cI, 792, .inl w.2.2.2.2.2.2.2.2.2.2.2.2.2.2)), (a_p1, .inr (9, [.int p1_kind, .int p1_minus, .long p1_m, .int p1_e, .int p1_narrowBelow]))] → va_S A s.heap H locs → W p l e (rmz 6 134) s m ar below meth c H locs 0 0 Q (F0 m pc ls []) := fun w hw => hw ▸ hret
  have keyB41 : ∀ (v2 : Int32) (v3 : Int32) (v4 : Int32) (p0_sheet_length : Int32) (p0_sheet_bytes : (Nat → Int32)) (p0_shortest_even : Int32) (p0_shortest_narrow : Int32) (p0_shortest_left_size : Int32) (p0_shortest_left_limbs : (Nat → Int64)) (p0_shortest_unit_size : Int32) (p0_shortest_unit_limbs : (Nat → Int64)) (p0_shortest_reach_size : Int32) (p0_shortest_reach_limbs : (Nat → Int64)) (p0_shortest_work_size : Int32) (p0_shortest_work_limbs : (Nat → Int64)) (p0_figures_count : Int32) (p0_figures_top : Int32) (p0_figures_row : (Nat → Int32)) (H : Heap) (locs : List Loc) (ls : Array Slot), f_X3_print_B41 p1_kind p1_minus p1_m p1_e p1_narrowBelow v2 v3 v4 p0_sheet_length p0_sheet_bytes p0_shortest_even p0_shortest_narrow p0_shortest_left_size p0_shortest_left_limbs p0_shortest_unit_size p0_shortest_unit_limbs p0_shortest_reach_size p0_shortest_reach_limbs p0_shortest_work_size p0_shortest_work_limbs p0_figures_count p0_figures_top p0_figures_row = some u → va_P D vwCl [(a_p0, .inr (4, [.ref a_p0_sheet, .ref a_p0_shortest, .ref a_p0_shortest_left, .ref a_p0_figures])), (a_p0_sheet, .inr (6, [.ref a_p0_sheet_bytes, .int p0_sheet_length])), (a_p0_sheet_bytes, .inl (cI, 1077, .inl p0_sheet_bytes)), (a_p0_shortest, .inr (7, [.ref a_p0_shortest_left, .ref a_p0_shortest_unit, .ref a_p0_shortest_reach, .ref a_p0_shortest_work, .int p0_shortest_even, .int p0_shortest_narrow])), (a_p0_shortest_left, .inr (5, [.ref a_p0_shortest_left_limbs, .int p0_shortest_left_size])), (a_p0_shortest_left_limbs, .inl (cJ, 160, .inr (.inl p0_shortest_left_limbs))), (a_p0_shortest_unit, .inr (5, [.ref a_p0_shortest_unit_limbs, .int p0_shortest_unit_size])), (a_p0_shortest_unit_limbs, .inl (cJ, 160, .inr (.inl p0_shortest_unit_limbs))), (a_p0_shortest_reach, .inr (5, [.ref a_p0_shortest_reach_limbs, .int p0_shortest_reach_size])), (a_p0_shortest_reach_limbs, .inl (cJ, 160, .inr (.inl p0_shortest_reach_limbs))), (a_p0_shortest_work, .inr (5, [.ref a_p0_shortest_work_limbs, .int p0_shortest_work_size])), (a_p0_shortest_work_limbs, .inl (cJ, 160, .inr (.inl p0_shortest_work_limbs))), (a_p0_figures, .inr (3, [.ref a_p0_figures_row, .int p0_figures_count, .int p0_figures_top])), (a_p0_figures_row, .inl (cI, 792, .inl p0_figures_row)), (a_p1, .inr (9, [.int p1_kind, .int p1_minus, .long p1_m, .int p1_e, .int p1_narrowBelow]))] H → va_D A [(a_p0, .inr (4, [.ref a_p0_sheet, .ref a_p0_shortest, .ref a_p0_shortest_left, .ref a_p0_figures])), (a_p0_sheet, .inr (6, [.ref a_p0_sheet_bytes, .int p0_sheet_length])), (a_p0_sheet_bytes, .inl (cI, 1077, .inl p0_sheet_bytes)), (a_p0_shortest, .inr (7, [.ref a_p0_shortest_left, .ref a_p0_shortest_unit, .ref a_p0_shortest_reach, .ref a_p0_shortest_work, .int p0_shortest_even, .int p0_shortest_narrow])), (a_p0_shortest_left, .inr (5, [.ref a_p0_shortest_left_limbs, .int p0_shortest_left_size])), (a_p0_shortest_left_limbs, .inl (cJ, 160, .inr (.inl p0_shortest_left_limbs))), (a_p0_shortest_unit, .inr (5, [.ref a_p0_shortest_unit_limbs, .int p0_shortest_unit_size])), (a_p0_shortest_unit_limbs, .inl (cJ, 160, .inr (.inl p0_shortest_unit_limbs))), (a_p0_shortest_reach, .inr (5, [.ref a_p0_shortest_reach_limbs, .int p0_shortest_reach_size])), (a_p0_shortest_reach_limbs, .inl (cJ, 160, .inr (.inl p0_shortest_reach_limbs))), (a_p0_shortest_work, .inr (5, [.ref a_p0_shortest_work_limbs, .int p0_shortest_work_size])), (a_p0_shortest_work_limbs, .inl (cJ, 160, .inr (.inl p0_shortest_work_limbs))), (a_p0_figures, .inr (3, [.ref a_p0_figures_row, .int p0_figures_count, .int p0_figures_top])), (a_p0_figures_row, .inl (cI, 792, .inl p0_figures_row)), (a_p1, .inr (9, [.int p1_kind, .int p1_minus, .long p1_m, .int p1_e, .int p1_narrowBelow]))] → va_S A s.heap H locs → lv_has ls 5 [(0, .ref a_p0), (1, .ref a_p1), (2, .int v2), (3, .int v3), (4, .int v4)] → W p l e (rmz 6 134) s m ar below meth c H locs 0 0 Q (F0 m 41 ls []) := by
    intro v2 v3 v4 p0_sheet_length p0_sheet_bytes p0_shortest_even p0_shortest_narrow p0_shortest_left_size p0_shortest_left_limbs p0_shortest_unit_size p0_shortest_unit_limbs p0_shortest_reach_size p0_shortest_reach_limbs p0_shortest_work_size p0_shortest_work_limbs p0_figures_count p0_figures_top p0_figures_row H locs ls hf hP hD hS hl
    unfold f_X3_print_B41 at hf
    refine lv_aload_n hx hb dX3_print_41 rfl (lv_at hl 1 rfl) ?_
    refine va_get (D := D) (ci := 9) (v := .int p1_kind) (C := RX8) (T := TX8) (N := 5) hx hb hts uwX8 hown hK hP 14 rfl rfl 0 (by decide) (hts _ kfX3_36) (fun _ h9 => h9) rfl dX3_print_42 ?_
    refine lv_iconst (v := 3) hx hb dX3_print_45 (by decide) ?_
    refine lv_icmp_ne (tgt := 61) hx hb dX3_print_46 (by decide) (fun hc12 => ?_) (fun hc12 => ?_)
    · have hf := ifF hc12 hf
      refine lv_iload_n hx hb dX3_print_61 rfl (lv_at hl 2 rfl) ?_
      refine lv_iconst (v := 4) hx hb dX3_print_62 (by decide) ?_
      refine lv_icmp_ne (tgt := 74) hx hb dX3_print_63 (by decide) (fun hc9 => ?_) (fun hc9 => ?_)
      · have hf := ifF hc9 hf
        refine lv_aload_n hx hb dX3_print_74 rfl (lv_at hl 0 rfl) ?_
        refine lv_aload_n hx hb dX3_print_75 rfl (lv_at hl 1 rfl) ?_
        refine lv_iload_n hx hb dX3_print_76 rfl (lv_at hl 2 rfl) ?_
        refine lv_iload_n hx hb dX3_print_77 rfl (lv_at hl 3 rfl) ?_
        refine lv_iload hx hb dX3_print_78 (lv_at hl 4 rfl) ?_
        obtain ⟨u3, hu4, hf⟩ := bdE hf
        refine cV_V (ws' := [(a_p0, .inr (4, [.ref a_p0_sheet, .ref a_p0_shortest, .ref a_p0_shortest_left, .ref a_p0_figures])), (a_p0_sheet, .inr (6, [.ref a_p0_sheet_bytes, .int p0_sheet_length])), (a_p0_sheet_bytes, .inl (cI, 1077, .inl p0_sheet_bytes)), (a_p0_shortest, .inr (7, [.ref a_p0_shortest_left, .ref a_p0_shortest_unit, .ref a_p0_shortest_reach, .ref a_p0_shortest_work, .int u3.1, .int u3.2.1])), (a_p0_shortest_left, .inr (5, [.ref a_p0_shortest_left_limbs, .int u3.2.2.1])), (a_p0_shortest_left_limbs, .inl (cJ, 160, .inr (.inl u3.2.2.2.1))), (a_p0_shortest_unit, .inr (5, [.ref a_p0_shortest_unit_limbs, .int u3.2.2.2.2.1])), (a_p0_shortest_unit_limbs, .inl (cJ, 160, .inr (.inl u3.2.2.2.2.2.1))), (a_p0_shortest_reach, .inr (5, [.ref a_p0_shortest_reach_limbs, .int u3.2.2.2.2.2.2.1])), (a_p0_shortest_reach_limbs, .inl (cJ, 160, .inr (.inl u3.2.2.2.2.2.2.2.1))), (a_p0_shortest_work, .inr (5, [.ref a_p0_shortest_work_limbs, .int u3.2.2.2.2.2.2.2.2.1])), (a_p0_shortest_work_limbs, .inl (cJ, 160, .inr (.inl u3.2.2.2.2.2.2.2.2.2.1))), (a_p0_figures, .inr (3, [.ref a_p0_figures_row, .int u3.2.2.2.2.2.2.2.2.2.2.1, .int u3.2.2.2.2.2.2.2.2.2.2.2.1])), (a_p0_figures_row, .inl (cI, 792, .inl u3.2.2.2.2.2.2.2.2.2.2.2.2)), (a_p1, .inr (9, [.int p1_kind, .int p1_minus, .long p1_m, .int p1_e, .int p1_narrowBelow]))]) (rest := []) S hK hN hA hP hD hS (c_X3_findFigures l D cI cJ a_p0 a_p0_sheet a_p0_shortest a_p0_shortest_left a_p0_figures a_p0_shortest_unit a_p0_shortest_reach a_p0_shortest_work a_p0_shortest_left_limbs a_p0_shortest_unit_limbs a_p0_shortest_reach_limbs a_p0_shortest_work_limbs a_p0_figures_row a_p1 v2 v3 v4 p0_shortest_even p0_shortest_narrow p0_shortest_left_size p0_shortest_left_limbs p0_shortest_unit_size p0_shortest_unit_limbs p0_shortest_reach_size p0_shortest_reach_limbs p0_shortest_work_size p0_shortest_work_limbs p0_figures_count p0_figures_top p0_figures_row p1_kind p1_minus p1_m p1_e p1_narrowBelow u3 hu4) mwX3_findFigures miX3_findFigures kmX3_62 [0, 3, 4, 5, 6, 7, 8, 9, 10, 11, 12, 13, 14] rfl (by decide) rfl rfl rfl 0 rfl rfl ⟨Nat.le_of_ble_eq_true rfl, Nat.le_of_ble_eq_true rfl⟩ ⟨Nat.zero_le _, Nat.zero_le _⟩ hl.1 rfl rfl (Nat.le_of_ble_eq_true rfl) dX3_print_80 (fun H locs hP hD hS => ?_)
        refine lv_aload_n hx hb dX3_print_83 rfl (lv_at hl 0 rfl) ?_
        refine lv_iload_n hx hb dX3_print_84 rfl (lv_at hl 2 rfl) ?_
        refine lv_iload_n hx hb dX3_print_85 rfl (lv_at hl 3 rfl) ?_
        obtain ⟨u5, hu6, hf⟩ := bdE hf
        refine cV_V (ws' := [(a_p0, .inr (4, [.ref a_p0_sheet, .ref a_p0_shortest, .ref a_p0_shortest_left, .ref a_p0_figures])), (a_p0_sheet, .inr (6, [.ref a_p0_sheet_bytes, .int u5.1])), (a_p0_sheet_bytes, .inl (cI, 1077, .inl u5.2)), (a_p0_shortest, .inr (7, [.ref a_p0_shortest_left, .ref a_p0_shortest_unit, .ref a_p0_shortest_reach, .ref a_p0_shortest_work, .int u3.1, .int u3.2.1])), (a_p0_shortest_left, .inr (5, [.ref a_p0_shortest_left_limbs, .int u3.2.2.1])), (a_p0_shortest_left_limbs, .inl (cJ, 160, .inr (.inl u3.2.2.2.1))), (a_p0_shortest_unit, .inr (5, [.ref a_p0_shortest_unit_limbs, .int u3.2.2.2.2.1])), (a_p0_shortest_unit_limbs, .inl (cJ, 160, .inr (.inl u3.2.2.2.2.2.1))), (a_p0_shortest_reach, .inr (5, [.ref a_p0_shortest_reach_limbs, .int u3.2.2.2.2.2.2.1])), (a_p0_shortest_reach_limbs, .inl (cJ, 160, .inr (.inl u3.2.2.2.2.2.2.2.1))), (a_p0_shortest_work, .inr (5, [.ref a_p0_shortest_work_limbs, .int u3.2.2.2.2.2.2.2.2.1])), (a_p0_shortest_work_limbs, .inl (cJ, 160, .inr (.inl u3.2.2.2.2.2.2.2.2.2.1))), (a_p0_figures, .inr (3, [.ref a_p0_figures_row, .int u3.2.2.2.2.2.2.2.2.2.2.1, .int u3.2.2.2.2.2.2.2.2.2.2.2.1])), (a_p0_figures_row, .inl (cI, 792, .inl u3.2.2.2.2.2.2.2.2.2.2.2.2)), (a_p1, .inr (9, [.int p1_kind, .int p1_minus, .long p1_m, .int p1_e, .int p1_narrowBelow]))]) (rest := []) S hK hN hA hP hD hS (c_X3_printFigures l D cI cJ a_p0 a_p0_sheet a_p0_shortest a_p0_shortest_left a_p0_figures a_p0_sheet_bytes a_p0_figures_row v2 v3 p0_sheet_length p0_sheet_bytes u3.2.2.2.2.2.2.2.2.2.2.1 u3.2.2.2.2.2.2.2.2.2.2.2.1 u3.2.2.2.2.2.2.2.2.2.2.2.2 u5 hu6) mwX3_printFigures miX3_printFigures kmX3_66 [0, 1, 2, 12, 13] rfl (by decide) rfl rfl rfl 0 rfl rfl ⟨Nat.le_of_ble_eq_true rfl, Nat.le_of_ble_eq_true rfl⟩ ⟨Nat.zero_le _, Nat.zero_le _⟩ hl.1 rfl rfl (Nat.le_of_ble_eq_true rfl) dX3_print_86 (fun H locs hP hD hS => ?_)
        exact hret _ (opE hf) H locs ls 89 dX3_print_89 hP hD hS
      · have hf := ifT hc9 hf
        refine lv_aload_n hx hb dX3_print_66 rfl (lv_at hl 0 rfl) ?_
        refine lv_aload_n hx hb dX3_print_67 rfl (lv_at hl 1 rfl) ?_
        obtain ⟨u7, hu8, hf⟩ := bdE hf
        refine eV_V (ws' := [(a_p0, .inr (4, [.ref a_p0_sheet, .ref a_p0_shortest, .ref a_p0_shortest_left, .ref a_p0_figures])), (a_p0_sheet, .inr (6, [.ref a_p0_sheet_bytes, .int u7.1])), (a_p0_sheet_bytes, .inl (cI, 1077, .inl u7.2)), (a_p0_shortest, .inr (7, [.ref a_p0_shortest_left, .ref a_p0_shortest_unit, .ref a_p0_shortest_reach, .ref a_p0_shortest_work, .int p0_shortest_even, .int p0_shortest_narrow])), (a_p0_shortest_left, .inr (5, [.ref a_p0_shortest_left_limbs, .int p0_shortest_left_size])), (a_p0_shortest_left_limbs, .inl (cJ, 160, .inr (.inl p0_shortest_left_limbs))), (a_p0_shortest_unit, .inr (5, [.ref a_p0_shortest_unit_limbs, .int p0_shortest_unit_size])), (a_p0_shortest_unit_limbs, .inl (cJ, 160, .inr (.inl p0_shortest_unit_limbs))), (a_p0_shortest_reach, .inr (5, [.ref a_p0_shortest_reach_limbs, .int p0_shortest_reach_size])), (a_p0_shortest_reach_limbs, .inl (cJ, 160, .inr (.inl p0_shortest_reach_limbs))), (a_p0_shortest_work, .inr (5, [.ref a_p0_shortest_work_limbs, .int p0_shortest_work_size])), (a_p0_shortest_work_limbs, .inl (cJ, 160, .inr (.inl p0_shortest_work_limbs))), (a_p0_figures, .inr (3, [.ref a_p0_figures_row, .int p0_figures_count, .int p0_figures_top])), (a_p0_figures_row, .inl (cI, 792, .inl p0_figures_row)), (a_p1, .inr (9, [.int p1_kind, .int p1_minus, .long p1_m, .int p1_e, .int p1_narrowBelow]))]) (rest := []) S hK hN hE hA hP hD hS (c_X3_printSixteens l D cI cJ sa sv a_p0 a_p0_sheet a_p0_shortest a_p0_shortest_left a_p0_figures a_p0_sheet_bytes a_p1  p0_sheet_length p0_sheet_bytes p1_kind p1_minus p1_m p1_e p1_narrowBelow u7 hu8) mwX3_printSixteens miX3_printSixteens kmX3_58 [0, 1, 2, 14] rfl (by decide) rfl rfl rfl 0 rfl rfl ⟨Nat.le_of_ble_eq_true rfl, Nat.le_of_ble_eq_true rfl⟩ ⟨Nat.zero_le _, Nat.zero_le _⟩ hl.1 rfl rfl (Nat.le_of_ble_eq_true rfl) dX3_print_68 (fun H locs hP hD hS => ?_)
        refine lv_goto (tgt := 89) hx hb dX3_print_71 (by decide) ?_
        exact hret _ (opE hf) H locs ls 89 dX3_print_89 hP hD hS
    · have hf := ifT hc12 hf
      refine lv_aload_n hx hb dX3_print_49 rfl (lv_at hl 0 rfl) ?_
      refine va_get (D := D) (ci := 4) (v := .ref a_p0_sheet) (C := RX3) (T := TX3) (N := 4) hx hb hts uwX3 hown hK hP 0 rfl rfl 0 (by decide) (hts _ kfX3_12) (fun _ h9 => h9) rfl dX3_print_50 ?_
      refine va_ldcS hx hb hown hE.s11 dX3_print_53 ?_
      obtain ⟨u10, hu11, hf⟩ := bdE hf
      refine eV_V (ws' := [(a_p0, .inr (4, [.ref a_p0_sheet, .ref a_p0_shortest, .ref a_p0_shortest_left, .ref a_p0_figures])), (a_p0_sheet, .inr (6, [.ref a_p0_sheet_bytes, .int u10.1])), (a_p0_sheet_bytes, .inl (cI, 1077, .inl u10.2)), (a_p0_shortest, .inr (7, [.ref a_p0_shortest_left, .ref a_p0_shortest_unit, .ref a_p0_shortest_reach, .ref a_p0_shortest_work, .int p0_shortest_even, .int p0_shortest_narrow])), (a_p0_shortest_left, .inr (5, [.ref a_p0_shortest_left_limbs, .int p0_shortest_left_size])), (a_p0_shortest_left_limbs, .inl (cJ, 160, .inr (.inl p0_shortest_left_limbs))), (a_p0_shortest_unit, .inr (5, [.ref a_p0_shortest_unit_limbs, .int p0_shortest_unit_size])), (a_p0_shortest_unit_limbs, .inl (cJ, 160, .inr (.inl p0_shortest_unit_limbs))), (a_p0_shortest_reach, .inr (5, [.ref a_p0_shortest_reach_limbs, .int p0_shortest_reach_size])), (a_p0_shortest_reach_limbs, .inl (cJ, 160, .inr (.inl p0_shortest_reach_limbs))), (a_p0_shortest_work, .inr (5, [.ref a_p0_shortest_work_limbs, .int p0_shortest_work_size])), (a_p0_shortest_work_limbs, .inl (cJ, 160, .inr (.inl p0_shortest_work_limbs))), (a_p0_figures, .inr (3, [.ref a_p0_figures_row, .int p0_figures_count, .int p0_figures_top])), (a_p0_figures_row, .inl (cI, 792, .inl p0_figures_row)), (a_p1, .inr (9, [.int p1_kind, .int p1_minus, .long p1_m, .int p1_e, .int p1_narrowBelow]))]) (rest := []) S hK hN hE hA hP hD hS (c_X5_putText l D cI cJ sa sv a_p0_sheet a_p0_sheet_bytes 11 p0_sheet_length p0_sheet_bytes sl11 u10 hu11) mwX5_putText miX5_putText kmX3_44 [1, 2] rfl (by decide) rfl rfl rfl 0 rfl rfl ⟨Nat.le_of_ble_eq_true rfl, Nat.le_of_ble_eq_true rfl⟩ ⟨Nat.zero_le _, Nat.zero_le _⟩ hl.1 rfl rfl (Nat.le_of_ble_eq_true rfl) dX3_print_55 (fun H locs hP hD hS => ?_)
      refine lv_goto (tgt := 89) hx hb dX3_print_58 (by decide) ?_
      exact hret _ (opE hf) H locs ls 89 dX3_print_89 hP hD hS
  unfold f_X3_print at hf
  refine lv_aload_n hx hb dX3_print_0 rfl (lv_at hl 0 rfl) ?_
  refine va_get (D := D) (ci := 4) (v := .ref a_p0_sheet) (C := RX3) (T := TX3) (N := 4) hx hb hts uwX3 hown hK hP 0 rfl rfl 0 (by decide) (hts _ kfX3_12) (fun _ h9 => h9) rfl dX3_print_1 ?_
  obtain ⟨u1, hu2, hf⟩ := bdE hf
  refine cV_V (ws' := [(a_p0, .inr (4, [.ref a_p0_sheet, .ref a_p0_shortest, .ref a_p0_shortest_left, .ref a_p0_figures])), (a_p0_sheet, .inr (6, [.ref a_p0_sheet_bytes, .int u1])), (a_p0_sheet_bytes, .inl (cI, 1077, .inl p0_sheet_bytes)), (a_p0_shortest, .inr (7, [.ref a_p0_shortest_left, .ref a_p0_shortest_unit, .ref a_p0_shortest_reach, .ref a_p0_shortest_work, .int p0_shortest_even, .int p0_shortest_narrow])), (a_p0_shortest_left, .inr (5, [.ref a_p0_shortest_left_limbs, .int p0_shortest_left_size])), (a_p0_shortest_left_limbs, .inl (cJ, 160, .inr (.inl p0_shortest_left_limbs))), (a_p0_shortest_unit, .inr (5, [.ref a_p0_shortest_unit_limbs, .int p0_shortest_unit_size])), (a_p0_shortest_unit_limbs, .inl (cJ, 160, .inr (.inl p0_shortest_unit_limbs))), (a_p0_shortest_reach, .inr (5, [.ref a_p0_shortest_reach_limbs, .int p0_shortest_reach_size])), (a_p0_shortest_reach_limbs, .inl (cJ, 160, .inr (.inl p0_shortest_reach_limbs))), (a_p0_shortest_work, .inr (5, [.ref a_p0_shortest_work_limbs, .int p0_shortest_work_size])), (a_p0_shortest_work_limbs, .inl (cJ, 160, .inr (.inl p0_shortest_work_limbs))), (a_p0_figures, .inr (3, [.ref a_p0_figures_row, .int p0_figures_count, .int p0_figures_top])), (a_p0_figures_row, .inl (cI, 792, .inl p0_figures_row)), (a_p1, .inr (9, [.int p1_kind, .int p1_minus, .long p1_m, .int p1_e, .int p1_narrowBelow]))]) (rest := []) S hK hN hA hP hD hS (c_X5_clear l D cI cJ a_p0_sheet a_p0_sheet_bytes  p0_sheet_length u1 hu2) mwX5_clear miX5_clear kmX3_33 [1] rfl (by decide) rfl rfl rfl 0 rfl rfl ⟨Nat.le_of_ble_eq_true rfl, Nat.le_of_ble_eq_true rfl⟩ ⟨Nat.zero_le _, Nat.zero_le _⟩ hl.1 rfl rfl (Nat.le_of_ble_eq_true rfl) dX3_print_4 (fun H locs hP hD hS => ?_)
  refine lv_aload_n hx hb dX3_print_7 rfl (lv_at hl 1 rfl) ?_
  refine va_get (D := D) (ci := 9) (v := .int p1_kind) (C := RX8) (T := TX8) (N := 5) hx hb hts uwX8 hown hK hP 14 rfl rfl 0 (by decide) (hts _ kfX3_36) (fun _ h9 => h9) rfl dX3_print_8 ?_
  refine lv_iconst (v := 4) hx hb dX3_print_11 (by decide) ?_
  refine lv_icmp_ne (tgt := 25) hx hb dX3_print_12 (by decide) (fun hc18 => ?_) (fun hc18 => ?_)
  · have hf := ifF hc18 hf
    refine lv_aload_n hx hb dX3_print_25 rfl (lv_at hl 1 rfl) ?_
    refine va_get (D := D) (ci := 9) (v := .int p1_minus) (C := RX8) (T := TX8) (N := 5) hx hb hts uwX8 hown hK hP 14 rfl rfl 1 (by decide) (hts _ kfX3_48) (fun _ h9 => h9) rfl dX3_print_26 ?_
    refine lv_if_eq (tgt := 41) hx hb dX3_print_29 (by decide) (fun hc15 => ?_) (fun hc15 => ?_)
    · have hf := ifT hc15 hf
      exact keyB41 p2 p3 p4 u1 p0_sheet_bytes p0_shortest_even p0_shortest_narrow p0_shortest_left_size p0_shortest_left_limbs p0_shortest_unit_size p0_shortest_unit_limbs p0_shortest_reach_size p0_shortest_reach_limbs p0_shortest_work_size p0_shortest_work_limbs p0_figures_count p0_figures_top p0_figures_row H locs ls hf hP hD hS (lv_sub hl [0, 1, 2, 3, 4] rfl)
    · have hf := ifF hc15 hf
      refine lv_aload_n hx hb dX3_print_32 rfl (lv_at hl 0 rfl) ?_
      refine va_get (D := D) (ci := 4) (v := .ref a_p0_sheet) (C := RX3) (T := TX3) (N := 4) hx hb hts uwX3 hown hK hP 0 rfl rfl 0 (by decide) (hts _ kfX3_12) (fun _ h9 => h9) rfl dX3_print_33 ?_
      refine lv_bipush (v := 45) hx hb dX3_print_36 (by decide) ?_
      obtain ⟨u13, hu14, hf⟩ := bdE hf
      refine cV_V (ws' := [(a_p0, .inr (4, [.ref a_p0_sheet, .ref a_p0_shortest, .ref a_p0_shortest_left, .ref a_p0_figures])), (a_p0_sheet, .inr (6, [.ref a_p0_sheet_bytes, .int u13.1])), (a_p0_sheet_bytes, .inl (cI, 1077, .inl u13.2)), (a_p0_shortest, .inr (7, [.ref a_p0_shortest_left, .ref a_p0_shortest_unit, .ref a_p0_shortest_reach, .ref a_p0_shortest_work, .int p0_shortest_even, .int p0_shortest_narrow])), (a_p0_shortest_left, .inr (5, [.ref a_p0_shortest_left_limbs, .int p0_shortest_left_size])), (a_p0_shortest_left_limbs, .inl (cJ, 160, .inr (.inl p0_shortest_left_limbs))), (a_p0_shortest_unit, .inr (5, [.ref a_p0_shortest_unit_limbs, .int p0_shortest_unit_size])), (a_p0_shortest_unit_limbs, .inl (cJ, 160, .inr (.inl p0_shortest_unit_limbs))), (a_p0_shortest_reach, .inr (5, [.ref a_p0_shortest_reach_limbs, .int p0_shortest_reach_size])), (a_p0_shortest_reach_limbs, .inl (cJ, 160, .inr (.inl p0_shortest_reach_limbs))), (a_p0_shortest_work, .inr (5, [.ref a_p0_shortest_work_limbs, .int p0_shortest_work_size])), (a_p0_shortest_work_limbs, .inl (cJ, 160, .inr (.inl p0_shortest_work_limbs))), (a_p0_figures, .inr (3, [.ref a_p0_figures_row, .int p0_figures_count, .int p0_figures_top])), (a_p0_figures_row, .inl (cI, 792, .inl p0_figures_row)), (a_p1, .inr (9, [.int p1_kind, .int p1_minus, .long p1_m, .int p1_e, .int p1_narrowBelow]))]) (rest := []) S hK hN hA hP hD hS (c_X5_put l D cI cJ a_p0_sheet a_p0_sheet_bytes (45 : Int32) u1 p0_sheet_bytes u13 hu14) mwX5_put miX5_put kmX3_52 [1, 2] rfl (by decide) rfl rfl rfl 0 rfl rfl ⟨Nat.le_of_ble_eq_true rfl, Nat.le_of_ble_eq_true rfl⟩ ⟨Nat.zero_le _, Nat.zero_le _⟩ hl.1 rfl rfl (Nat.le_of_ble_eq_true rfl) dX3_print_38 (fun H locs hP hD hS => ?_)
      exact keyB41 p2 p3 p4 u13.1 u13.2 p0_shortest_even p0_shortest_narrow p0_shortest_left_size p0_shortest_left_limbs p0_shortest_unit_size p0_shortest_unit_limbs p0_shortest_reach_size p0_shortest_reach_limbs p0_shortest_work_size p0_shortest_work_limbs p0_figures_count p0_figures_top p0_figures_row H locs ls hf hP hD hS (lv_sub hl [0, 1, 2, 3, 4] rfl)
  · have hf := ifT hc18 hf
    refine lv_aload_n hx hb dX3_print_15 rfl (lv_at hl 0 rfl) ?_
    refine va_get (D := D) (ci := 4) (v := .ref a_p0_sheet) (C := RX3) (T := TX3) (N := 4) hx hb hts uwX3 hown hK hP 0 rfl rfl 0 (by decide) (hts _ kfX3_12) (fun _ h9 => h9) rfl dX3_print_16 ?_
    refine va_ldcS hx hb hown hE.s10 dX3_print_19 ?_
    obtain ⟨u16, hu17, hf⟩ := bdE hf
    refine eV_V (ws' := [(a_p0, .inr (4, [.ref a_p0_sheet, .ref a_p0_shortest, .ref a_p0_shortest_left, .ref a_p0_figures])), (a_p0_sheet, .inr (6, [.ref a_p0_sheet_bytes, .int u16.1])), (a_p0_sheet_bytes, .inl (cI, 1077, .inl u16.2)), (a_p0_shortest, .inr (7, [.ref a_p0_shortest_left, .ref a_p0_shortest_unit, .ref a_p0_shortest_reach, .ref a_p0_shortest_work, .int p0_shortest_even, .int p0_shortest_narrow])), (a_p0_shortest_left, .inr (5, [.ref a_p0_shortest_left_limbs, .int p0_shortest_left_size])), (a_p0_shortest_left_limbs, .inl (cJ, 160, .inr (.inl p0_shortest_left_limbs))), (a_p0_shortest_unit, .inr (5, [.ref a_p0_shortest_unit_limbs, .int p0_shortest_unit_size])), (a_p0_shortest_unit_limbs, .inl (cJ, 160, .inr (.inl p0_shortest_unit_limbs))), (a_p0_shortest_reach, .inr (5, [.ref a_p0_shortest_reach_limbs, .int p0_shortest_reach_size])), (a_p0_shortest_reach_limbs, .inl (cJ, 160, .inr (.inl p0_shortest_reach_limbs))), (a_p0_shortest_work, .inr (5, [.ref a_p0_shortest_work_limbs, .int p0_shortest_work_size])), (a_p0_shortest_work_limbs, .inl (cJ, 160, .inr (.inl p0_shortest_work_limbs))), (a_p0_figures, .inr (3, [.ref a_p0_figures_row, .int p0_figures_count, .int p0_figures_top])), (a_p0_figures_row, .inl (cI, 792, .inl p0_figures_row)), (a_p1, .inr (9, [.int p1_kind, .int p1_minus, .long p1_m, .int p1_e, .int p1_narrowBelow]))]) (rest := []) S hK hN hE hA hP hD hS (c_X5_putText l D cI cJ sa sv a_p0_sheet a_p0_sheet_bytes 10 u1 p0_sheet_bytes sl10 u16 hu17) mwX5_putText miX5_putText kmX3_44 [1, 2] rfl (by decide) rfl rfl rfl 0 rfl rfl ⟨Nat.le_of_ble_eq_true rfl, Nat.le_of_ble_eq_true rfl⟩ ⟨Nat.zero_le _, Nat.zero_le _⟩ hl.1 rfl rfl (Nat.le_of_ble_eq_true rfl) dX3_print_21 (fun H locs hP hD hS => ?_)
    exact hret _ (opE hf) H locs ls 24 dX3_print_24 hP hD hS
set_option maxRecDepth 100000 in
set_option maxHeartbeats 4000000 in
theorem c_X5_at (l : Launch) (D : va_G) (cI cJ : ClassId) (a_p0 a_p0_bytes : Nat) (p1 : Int32) (p0_length : Int32) (p0_bytes : (Nat → Int32)) (u : Int32) (hf : f_X5_at p0_length p0_bytes p1 = some u) : CtI l yX5_at cX5_at 2 0 0 .int [.ref a_p0, .int p1] D cI cJ [(a_p0, .inr (6, [.ref a_p0_bytes, .int p0_length])), (a_p0_bytes, .inl (cI, 1077, .inl p0_bytes))] [(a_p0, .inr (6, [.ref a_p0_bytes, .int p0_length])), (a_p0_bytes, .inl (cI, 1077, .inl p0_bytes))] u := by
  refine mkI (own := RX5) rfl (by decide +kernel) (Nat.le_of_ble_eq_true rfl) (lv := [(0, .ref a_p0), (1, .int p1)]) rfl ?_
  intro p e s m below meth c Q A ls ar S hA hK hN hret H locs hP hD hS hl
  obtain ⟨hx, hb, hml, hown, hts⟩ := id S
  have hret : ∀ (w : Int32), w = u → ∀ (H : Heap) (locs : List Loc) (ls : Array Slot) (pc : Nat), decode cX5_at pc = .ok (.ireturn, 1) → va_P D vwCl [(a_p0, .inr (6, [.ref a_p0_bytes, .int p0_length])), (a_p0_bytes, .inl (cI, 1077, .inl p0_bytes))] H → va_D A [(a_p0, .inr (6, [.ref a_p0_bytes, .int p0_length])), (a_p0_bytes, .inl (cI, 1077, .inl p0_bytes))] → va_S A s.heap H locs → W p l e (rmz 0 0) s m ar below meth c H locs 0 0 Q (F0 m pc ls [.int w]) := fun w hw => hw ▸ hret
  unfold f_X5_at at hf
  refine lv_iload_n hx hb dX5_at_0 rfl (lv_at hl 1 rfl) ?_
  refine lv_if_lt (tgt := 28) hx hb dX5_at_1 (by decide) (fun hc4 => ?_) (fun hc4 => ?_)
  · have hf := ifT hc4 hf
    refine lv_iconst (v := -1) hx hb dX5_at_28 (by decide) ?_
    exact hret _ (opE hf) H locs ls 29 dX5_at_29 hP hD hS
  · have hf := ifF hc4 hf
    refine lv_iload_n hx hb dX5_at_4 rfl (lv_at hl 1 rfl) ?_
    refine lv_aload_n hx hb dX5_at_5 rfl (lv_at hl 0 rfl) ?_
    refine va_get (D := D) (ci := 6) (v := .int p0_length) (C := RX5) (T := TX5) (N := 2) hx hb hts uwX5 hown hK hP 0 rfl rfl 1 (by decide) (hts _ kfX5_13) (fun _ h9 => h9) rfl dX5_at_6 ?_
    refine lv_icmp_ge (tgt := 28) hx hb dX5_at_9 (by decide) (fun hc3 => ?_) (fun hc3 => ?_)
    · have hf := ifT hc3 hf
      refine lv_iconst (v := -1) hx hb dX5_at_28 (by decide) ?_
      exact hret _ (opE hf) H locs ls 29 dX5_at_29 hP hD hS
    · have hf := ifF hc3 hf
      refine lv_iload_n hx hb dX5_at_12 rfl (lv_at hl 1 rfl) ?_
      refine lv_sipush (v := 1077) hx hb dX5_at_13 (by decide) ?_
      refine lv_icmp_ge (tgt := 28) hx hb dX5_at_16 (by decide) (fun hc2 => ?_) (fun hc2 => ?_)
      · have hf := ifT hc2 hf
        refine lv_iconst (v := -1) hx hb dX5_at_28 (by decide) ?_
        exact hret _ (opE hf) H locs ls 29 dX5_at_29 hP hD hS
      · have hf := ifF hc2 hf
        refine lv_aload_n hx hb dX5_at_19 rfl (lv_at hl 0 rfl) ?_
        refine va_get (D := D) (ci := 6) (v := .ref a_p0_bytes) (C := RX5) (T := TX5) (N := 2) hx hb hts uwX5 hown hK hP 0 rfl rfl 0 (by decide) (hts _ kfX5_9) (fun _ h9 => h9) rfl dX5_at_20 ?_
        refine lv_iload_n hx hb dX5_at_23 rfl (lv_at hl 1 rfl) ?_
        obtain ⟨hi1, hf⟩ := gdE hf
        refine va_iald hx hb hK hP 1 0 rfl rfl hi1 dX5_at_24 ?_
        refine lv_goto (tgt := 29) hx hb dX5_at_25 (by decide) ?_
        exact hret _ (opE hf) H locs ls 29 dX5_at_29 hP hD hS
set_option maxRecDepth 100000 in
set_option maxHeartbeats 4000000 in
theorem c_X7_hasRoomFor (l : Launch) (D : va_G) (cI cJ : ClassId) (a_p0 a_p0_bytes : Nat) (p1 : Int32) (p0_length : Int32) (p0_minus : Int32) (p0_kind : Int32) (p0_sixteens : Int32) (p0_behindPoint : Int32) (p0_counting : Int32) (p0_power : Int32) (p0_begin : Int32) (p0_end : Int32) (u : Int32) (hf : f_X7_hasRoomFor p0_length p1 = some u) : CtI l yX7_hasRoomFor cX7_hasRoomFor 2 0 0 .boolean [.ref a_p0, .int p1] D cI cJ [(a_p0, .inr (8, [.ref a_p0_bytes, .int p0_length, .int p0_minus, .int p0_kind, .int p0_sixteens, .int p0_behindPoint, .int p0_counting, .int p0_power, .int p0_begin, .int p0_end]))] [(a_p0, .inr (8, [.ref a_p0_bytes, .int p0_length, .int p0_minus, .int p0_kind, .int p0_sixteens, .int p0_behindPoint, .int p0_counting, .int p0_power, .int p0_begin, .int p0_end]))] u := by
  refine mkZ (own := RX7) rfl (by decide +kernel) (Nat.le_of_ble_eq_true rfl) (lv := [(0, .ref a_p0), (1, .int p1)]) rfl ?_
  intro p e s m below meth c Q A ls ar S hA hK hN hret H locs hP hD hS hl
  obtain ⟨hx, hb, hml, hown, hts⟩ := id S
  have hret : ∀ (w : Int32), w = u → ∀ (H : Heap) (locs : List Loc) (ls : Array Slot) (pc : Nat), decode cX7_hasRoomFor pc = .ok (.ireturn, 1) → (w = 0 ∨ w = 1) → va_P D vwCl [(a_p0, .inr (8, [.ref a_p0_bytes, .int p0_length, .int p0_minus, .int p0_kind, .int p0_sixteens, .int p0_behindPoint, .int p0_counting, .int p0_power, .int p0_begin, .int p0_end]))] H → va_D A [(a_p0, .inr (8, [.ref a_p0_bytes, .int p0_length, .int p0_minus, .int p0_kind, .int p0_sixteens, .int p0_behindPoint, .int p0_counting, .int p0_power, .int p0_begin, .int p0_end]))] → va_S A s.heap H locs → W p l e (rmz 0 0) s m ar below meth c H locs 0 0 Q (F0 m pc ls [.int w]) := fun w hw => hw ▸ hret
  unfold f_X7_hasRoomFor at hf
  refine lv_iload_n hx hb dX7_hasRoomFor_0 rfl (lv_at hl 1 rfl) ?_
  refine lv_sipush (v := 1200) hx hb dX7_hasRoomFor_1 (by decide) ?_
  refine lv_aload_n hx hb dX7_hasRoomFor_4 rfl (lv_at hl 0 rfl) ?_
  refine va_get (D := D) (ci := 8) (v := .int p0_length) (C := RX7) (T := TX7) (N := 10) hx hb hts uwX7 hown hK hP 0 rfl rfl 1 (by decide) (hts _ kfX7_15) (fun _ h9 => h9) rfl dX7_hasRoomFor_5 ?_
  refine lv_isub hx hb dX7_hasRoomFor_8 ?_
  refine lv_icmp_gt (tgt := 16) hx hb dX7_hasRoomFor_9 (by decide) (fun hc1 => ?_) (fun hc1 => ?_)
  · have hf := ifT hc1 hf
    refine lv_iconst (v := 0) hx hb dX7_hasRoomFor_16 (by decide) ?_
    exact hret _ (opE hf) H locs ls 17 dX7_hasRoomFor_17 (Or.inl rfl) hP hD hS
  · have hf := ifF hc1 hf
    refine lv_iconst (v := 1) hx hb dX7_hasRoomFor_12 (by decide) ?_
    refine lv_goto (tgt := 17) hx hb dX7_hasRoomFor_13 (by decide) ?_
    exact hret _ (opE hf) H locs ls 17 dX7_hasRoomFor_17 (Or.inr rfl) hP hD hS
set_option maxRecDepth 100000 in
set_option maxHeartbeats 4000000 in
theorem c_X7_append (l : Launch) (D : va_G) (cI cJ : ClassId) (a_p0 a_p0_bytes : Nat) (p1 : Int32) (p0_length : Int32) (p0_minus : Int32) (p0_kind : Int32) (p0_sixteens : Int32) (p0_behindPoint : Int32) (p0_counting : Int32) (p0_power : Int32) (p0_begin : Int32) (p0_end : Int32) (p0_bytes : (Nat → Int32)) (u : Int32 × (Nat → Int32)) (hf : f_X7_append p1 p0_length p0_bytes = some u) : CtV l yX7_append cX7_append 2 0 0 [.ref a_p0, .int p1] D cI cJ [(a_p0, .inr (8, [.ref a_p0_bytes, .int p0_length, .int p0_minus, .int p0_kind, .int p0_sixteens, .int p0_behindPoint, .int p0_counting, .int p0_power, .int p0_begin, .int p0_end])), (a_p0_bytes, .inl (cI, 1200, .inl p0_bytes))] [(a_p0, .inr (8, [.ref a_p0_bytes, .int u.1, .int p0_minus, .int p0_kind, .int p0_sixteens, .int p0_behindPoint, .int p0_counting, .int p0_power, .int p0_begin, .int p0_end])), (a_p0_bytes, .inl (cI, 1200, .inl u.2))] := by
  refine mkV (own := RX7) rfl (by decide +kernel) (Nat.le_of_ble_eq_true rfl) (lv := [(0, .ref a_p0), (1, .int p1)]) rfl ?_
  intro p e s m below meth c Q A ls ar S hA hK hN hret H locs hP hD hS hl
  obtain ⟨hx, hb, hml, hown, hts⟩ := id S
  have hret : ∀ (w : Int32 × (Nat → Int32)), w = u → ∀ (H : Heap) (locs : List Loc) (ls : Array Slot) (pc : Nat), decode cX7_append pc = .ok (.return_, 1) → va_P D vwCl [(a_p0, .inr (8, [.ref a_p0_bytes, .int w.1, .int p0_minus, .int p0_kind, .int p0_sixteens, .int p0_behindPoint, .int p0_counting, .int p0_power, .int p0_begin, .int p0_end])), (a_p0_bytes, .inl (cI, 1200, .inl w.2))] H → va_D A [(a_p0, .inr (8, [.ref a_p0_bytes, .int w.1, .int p0_minus, .int p0_kind, .int p0_sixteens, .int p0_behindPoint, .int p0_counting, .int p0_power, .int p0_begin, .int p0_end])), (a_p0_bytes, .inl (cI, 1200, .inl w.2))] → va_S A s.heap H locs → W p l e (rmz 0 0) s m ar below meth c H locs 0 0 Q (F0 m pc ls []) := fun w hw => hw ▸ hret
  unfold f_X7_append at hf
  refine lv_aload_n hx hb dX7_append_0 rfl (lv_at hl 0 rfl) ?_
  refine va_get (D := D) (ci := 8) (v := .int p0_length) (C := RX7) (T := TX7) (N := 10) hx hb hts uwX7 hown hK hP 0 rfl rfl 1 (by decide) (hts _ kfX7_15) (fun _ h9 => h9) rfl dX7_append_1 ?_
  refine lv_sipush (v := 1200) hx hb dX7_append_4 (by decide) ?_
  refine lv_icmp_ge (tgt := 30) hx hb dX7_append_7 (by decide) (fun hc2 => ?_) (fun hc2 => ?_)
  · have hf := ifT hc2 hf
    exact hret _ (opE hf) H locs ls 30 dX7_append_30 hP hD hS
  · have hf := ifF hc2 hf
    refine lv_aload_n hx hb dX7_append_10 rfl (lv_at hl 0 rfl) ?_
    refine va_get (D := D) (ci := 8) (v := .ref a_p0_bytes) (C := RX7) (T := TX7) (N := 10) hx hb hts uwX7 hown hK hP 0 rfl rfl 0 (by decide) (hts _ kfX7_11) (fun _ h9 => h9) rfl dX7_append_11 ?_
    refine lv_aload_n hx hb dX7_append_14 rfl (lv_at hl 0 rfl) ?_
    refine va_get (D := D) (ci := 8) (v := .int p0_length) (C := RX7) (T := TX7) (N := 10) hx hb hts uwX7 hown hK hP 0 rfl rfl 1 (by decide) (hts _ kfX7_15) (fun _ h9 => h9) rfl dX7_append_15 ?_
    refine lv_iload_n hx hb dX7_append_18 rfl (lv_at hl 1 rfl) ?_
    obtain ⟨hi1, hf⟩ := gdE hf
    refine va_iast hx hb hK hP hD hS 1 0 rfl rfl hi1 dX7_append_19 (fun H locs hP hD hS => ?_)
    have hP : va_P D vwCl [(a_p0, .inr (8, [.ref a_p0_bytes, .int p0_length, .int p0_minus, .int p0_kind, .int p0_sixteens, .int p0_behindPoint, .int p0_counting, .int p0_power, .int p0_begin, .int p0_end])), (a_p0_bytes, .inl (cI, 1200, .inl (upd p0_bytes p0_length.toNatClampNeg p1)))] H := hP
    have hD : va_D A [(a_p0, .inr (8, [.ref a_p0_bytes, .int p0_length, .int p0_minus, .int p0_kind, .int p0_sixteens, .int p0_behindPoint, .int p0_counting, .int p0_power, .int p0_begin, .int p0_end])), (a_p0_bytes, .inl (cI, 1200, .inl (upd p0_bytes p0_length.toNatClampNeg p1)))] := hD
    refine lv_aload_n hx hb dX7_append_20 rfl (lv_at hl 0 rfl) ?_
    refine lv_dup hx hb dX7_append_21 rfl ?_
    refine va_get (D := D) (ci := 8) (v := .int p0_length) (C := RX7) (T := TX7) (N := 10) hx hb hts uwX7 hown hK hP 0 rfl rfl 1 (by decide) (hts _ kfX7_15) (fun _ h9 => h9) rfl dX7_append_22 ?_
    refine lv_iconst (v := 1) hx hb dX7_append_25 (by decide) ?_
    refine lv_iadd hx hb dX7_append_26 ?_
    refine va_put (D := D) (ci := 8) (v := .int (p0_length + (1 : Int32))) (ty := tyX7 1) (C := RX7) (T := TX7) (N := 10) hx hb hts uwX7 tyX7 tyX7_ok nmX7 hown hK hP hD hS 0 rfl rfl 1 (by decide) (hts _ kfX7_15) (fun _ h9 => h9) rfl (tyX7_ok 1 (by decide)) rfl rfl (Nat.le_of_ble_eq_true rfl) dX7_append_27 (fun H locs hP hD hS => ?_)
    have hP : va_P D vwCl [(a_p0, .inr (8, [.ref a_p0_bytes, .int (p0_length + (1 : Int32)), .int p0_minus, .int p0_kind, .int p0_sixteens, .int p0_behindPoint, .int p0_counting, .int p0_power, .int p0_begin, .int p0_end])), (a_p0_bytes, .inl (cI, 1200, .inl (upd p0_bytes p0_length.toNatClampNeg p1)))] H := hP
    have hD : va_D A [(a_p0, .inr (8, [.ref a_p0_bytes, .int (p0_length + (1 : Int32)), .int p0_minus, .int p0_kind, .int p0_sixteens, .int p0_behindPoint, .int p0_counting, .int p0_power, .int p0_begin, .int p0_end])), (a_p0_bytes, .inl (cI, 1200, .inl (upd p0_bytes p0_length.toNatClampNeg p1)))] := hD
    exact hret _ (opE hf) H locs ls 30 dX7_append_30 hP hD hS
set_option maxRecDepth 100000 in
set_option maxHeartbeats 4000000 in
theorem c_X7_clear (l : Launch) (D : va_G) (cI cJ : ClassId) (a_p0 a_p0_bytes : Nat) (p0_length : Int32) (p0_minus : Int32) (p0_kind : Int32) (p0_sixteens : Int32) (p0_behindPoint : Int32) (p0_counting : Int32) (p0_power : Int32) (p0_begin : Int32) (p0_end : Int32) (u : Int32) (hf : f_X7_clear p0_length = some u) : CtV l yX7_clear cX7_clear 1 0 0 [.ref a_p0] D cI cJ [(a_p0, .inr (8, [.ref a_p0_bytes, .int p0_length, .int p0_minus, .int p0_kind, .int p0_sixteens, .int p0_behindPoint, .int p0_counting, .int p0_power, .int p0_begin, .int p0_end]))] [(a_p0, .inr (8, [.ref a_p0_bytes, .int u, .int p0_minus, .int p0_kind, .int p0_sixteens, .int p0_behindPoint, .int p0_counting, .int p0_power, .int p0_begin, .int p0_end]))] := by
  refine mkV (own := RX7) rfl (by decide +kernel) (Nat.le_of_ble_eq_true rfl) (lv := [(0, .ref a_p0)]) rfl ?_
  intro p e s m below meth c Q A ls ar S hA hK hN hret H locs hP hD hS hl
  obtain ⟨hx, hb, hml, hown, hts⟩ := id S
  have hret : ∀ (w : Int32), w = u → ∀ (H : Heap) (locs : List Loc) (ls : Array Slot) (pc : Nat), decode cX7_clear pc = .ok (.return_, 1) → va_P D vwCl [(a_p0, .inr (8, [.ref a_p0_bytes, .int w, .int p0_minus, .int p0_kind, .int p0_sixteens, .int p0_behindPoint, .int p0_counting, .int p0_power, .int p0_begin, .int p0_end]))] H → va_D A [(a_p0, .inr (8, [.ref a_p0_bytes, .int w, .int p0_minus, .int p0_kind, .int p0_sixteens, .int p0_behindPoint, .int p0_counting, .int p0_power, .int p0_begin, .int p0_end]))] → va_S A s.heap H locs → W p l e (rmz 0 0) s m ar below meth c H locs 0 0 Q (F0 m pc ls []) := fun w hw => hw ▸ hret
  unfold f_X7_clear at hf
  refine lv_aload_n hx hb dX7_clear_0 rfl (lv_at hl 0 rfl) ?_
  refine lv_iconst (v := 0) hx hb dX7_clear_1 (by decide) ?_
  refine va_put (D := D) (ci := 8) (v := .int (0 : Int32)) (ty := tyX7 1) (C := RX7) (T := TX7) (N := 10) hx hb hts uwX7 tyX7 tyX7_ok nmX7 hown hK hP hD hS 0 rfl rfl 1 (by decide) (hts _ kfX7_15) (fun _ h9 => h9) rfl (tyX7_ok 1 (by decide)) rfl rfl (Nat.le_of_ble_eq_true rfl) dX7_clear_2 (fun H locs hP hD hS => ?_)
  have hP : va_P D vwCl [(a_p0, .inr (8, [.ref a_p0_bytes, .int (0 : Int32), .int p0_minus, .int p0_kind, .int p0_sixteens, .int p0_behindPoint, .int p0_counting, .int p0_power, .int p0_begin, .int p0_end]))] H := hP
  have hD : va_D A [(a_p0, .inr (8, [.ref a_p0_bytes, .int (0 : Int32), .int p0_minus, .int p0_kind, .int p0_sixteens, .int p0_behindPoint, .int p0_counting, .int p0_power, .int p0_begin, .int p0_end]))] := hD
  exact hret _ (opE hf) H locs ls 5 dX7_clear_5 hP hD hS
set_option maxRecDepth 100000 in
set_option maxHeartbeats 4000000 in
theorem c_X7_parseFigures (l : Launch) (D : va_G) (cI cJ : ClassId) (a_p0 a_p0_bytes : Nat) (p0_length : Int32) (p0_minus : Int32) (p0_kind : Int32) (p0_sixteens : Int32) (p0_behindPoint : Int32) (p0_counting : Int32) (p0_power : Int32) (p0_begin : Int32) (p0_end : Int32) (p0_bytes : (Nat → Int32)) (u : Int32 × Int32 × Int32 × Int32) (hf : f_X7_parseFigures p0_length p0_sixteens p0_begin p0_bytes p0_behindPoint p0_counting p0_end = some u) : CtI l yX7_parseFigures cX7_parseFigures 4 2 43 .boolean [.ref a_p0] D cI cJ [(a_p0, .inr (8, [.ref a_p0_bytes, .int p0_length, .int p0_minus, .int p0_kind, .int p0_sixteens, .int p0_behindPoint, .int p0_counting, .int p0_power, .int p0_begin, .int p0_end])), (a_p0_bytes, .inl (cI, 1200, .inl p0_bytes))] [(a_p0, .inr (8, [.ref a_p0_bytes, .int p0_length, .int p0_minus, .int p0_kind, .int p0_sixteens, .int u.2.1, .int u.2.2.1, .int p0_power, .int p0_begin, .int u.2.2.2])), (a_p0_bytes, .inl (cI, 1200, .inl p0_bytes))] u.1 := by
  refine mkZ (own := RX7) rfl (by decide +kernel) (Nat.le_of_ble_eq_true rfl) (lv := [(0, .ref a_p0)]) rfl ?_
  intro p e s m below meth c Q A ls ar S hA hK hN hret H locs hP hD hS hl
  obtain ⟨hx, hb, hml, hown, hts⟩ := id S
  have hret : ∀ (w : Int32 × Int32 × Int32 × Int32), w = u → ∀ (H : Heap) (locs : List Loc) (ls : Array Slot) (pc : Nat), decode cX7_parseFigures pc = .ok (.ireturn, 1) → (w.1 = 0 ∨ w.1 = 1) → va_P D vwCl [(a_p0, .inr (8, [.ref a_p0_bytes, .int p0_length, .int p0_minus, .int p0_kind, .int p0_sixteens, .int w.2.1, .int w.2.2.1, .int p0_power, .int p0_begin, .int w.2.2.2])), (a_p0_bytes, .inl (cI, 1200, .inl p0_bytes))] H → va_D A [(a_p0, .inr (8, [.ref a_p0_bytes, .int p0_length, .int p0_minus, .int p0_kind, .int p0_sixteens, .int w.2.1, .int w.2.2.1, .int p0_power, .int p0_begin, .int w.2.2.2])), (a_p0_bytes, .inl (cI, 1200, .inl p0_bytes))] → va_S A s.heap H locs → W p l e (rmz 2 43) s m ar below meth c H locs 0 0 Q (F0 m pc ls [.int w.1]) := fun w hw => hw ▸ hret
  have keyB87 : ∀ (kL22 : Int32 → Int32 → Int32 → Int32 → Int32 → Option (Int32 × Int32 × Int32 × Int32)) (hL22 : ∀ (v1 : Int32) (v2 : Int32) (p0_behindPoint : Int32) (p0_counting : Int32) (p0_end : Int32) (H : Heap) (locs : List Loc) (ls : Array Slot), kL22 v1 v2 p0_behindPoint p0_counting p0_end = some u → va_P D vwCl [(a_p0, .inr (8, [.ref a_p0_bytes, .int p0_length, .int p0_minus, .int p0_kind, .int p0_sixteens, .int p0_behindPoint, .int p0_counting, .int p0_power, .int p0_begin, .int p0_end])), (a_p0_bytes, .inl (cI, 1200, .inl p0_bytes))] H → va_D A [(a_p0, .inr (8, [.ref a_p0_bytes, .int p0_length, .int p0_minus, .int p0_kind, .int p0_sixteens, .int p0_behindPoint, .int p0_counting, .int p0_power, .int p0_begin, .int p0_end])), (a_p0_bytes, .inl (cI, 1200, .inl p0_bytes))] → va_S A s.heap H locs → lv_has ls 4 [(0, .ref a_p0), (1, .int v1), (2, .int v2)] → W p l e (rmz 2 43) s m ar below meth c H locs 0 0 Q (F0 m 22 ls [])) (v1 : Int32) (v2 : Int32) (s1 : Int32) (s2 : Int32) (p0_behindPoint : Int32) (p0_counting : Int32) (p0_end : Int32) (H : Heap) (locs : List Loc) (ls : Array Slot), f_X7_parseFigures_B87 p0_length p0_sixteens p0_begin p0_bytes kL22 v1 v2 s1 s2 p0_behindPoint p0_counting p0_end = some u → va_P D vwCl [(a_p0, .inr (8, [.ref a_p0_bytes, .int p0_length, .int p0_minus, .int p0_kind, .int p0_sixteens, .int p0_behindPoint, .int p0_counting, .int p0_power, .int p0_begin, .int p0_end])), (a_p0_bytes, .inl (cI, 1200, .inl p0_bytes))] H → va_D A [(a_p0, .inr (8, [.ref a_p0_bytes, .int p0_length, .int p0_minus, .int p0_kind, .int p0_sixteens, .int p0_behindPoint, .int p0_counting, .int p0_power, .int p0_begin, .int p0_end])), (a_p0_bytes, .inl (cI, 1200, .inl p0_bytes))] → va_S A s.heap H locs → lv_has ls 4 [(0, .ref a_p0), (1, .int v1), (2, .int v2)] → W p l e (rmz 2 43) s m ar below meth c H locs 0 0 Q (F0 m 87 ls [.int s2, .int s1, .ref a_p0]) := by
    intro kL22 hL22 v1 v2 s1 s2 p0_behindPoint p0_counting p0_end H locs ls hf hP hD hS hl
    unfold f_X7_parseFigures_B87 at hf
    refine lv_iadd hx hb dX7_parseFigures_87 ?_
    refine va_put (D := D) (ci := 8) (v := .int (s1 + s2)) (ty := tyX7 6) (C := RX7) (T := TX7) (N := 10) hx hb hts uwX7 tyX7 tyX7_ok nmX7 hown hK hP hD hS 0 rfl rfl 6 (by decide) (hts _ kfX7_87) (fun _ h9 => h9) rfl (tyX7_ok 6 (by decide)) rfl rfl (Nat.le_of_ble_eq_true rfl) dX7_parseFigures_88 (fun H locs hP hD hS => ?_)
    have hP : va_P D vwCl [(a_p0, .inr (8, [.ref a_p0_bytes, .int p0_length, .int p0_minus, .int p0_kind, .int p0_sixteens, .int p0_behindPoint, .int (s1 + s2), .int p0_power, .int p0_begin, .int p0_end])), (a_p0_bytes, .inl (cI, 1200, .inl p0_bytes))] H := hP
    have hD : va_D A [(a_p0, .inr (8, [.ref a_p0_bytes, .int p0_length, .int p0_minus, .int p0_kind, .int p0_sixteens, .int p0_behindPoint, .int (s1 + s2), .int p0_power, .int p0_begin, .int p0_end])), (a_p0_bytes, .inl (cI, 1200, .inl p0_bytes))] := hD
    refine lv_goto (tgt := 118) hx hb dX7_parseFigures_91 (by decide) ?_
    refine lv_aload_n hx hb dX7_parseFigures_118 rfl (lv_at hl 0 rfl) ?_
    refine lv_dup hx hb dX7_parseFigures_119 rfl ?_
    refine va_get (D := D) (ci := 8) (v := .int p0_end) (C := RX7) (T := TX7) (N := 10) hx hb hts uwX7 hown hK hP 0 rfl rfl 9 (by decide) (hts _ kfX7_51) (fun _ h9 => h9) rfl dX7_parseFigures_120 ?_
    refine lv_iconst (v := 1) hx hb dX7_parseFigures_123 (by decide) ?_
    refine lv_iadd hx hb dX7_parseFigures_124 ?_
    refine va_put (D := D) (ci := 8) (v := .int (p0_end + (1 : Int32))) (ty := tyX7 9) (C := RX7) (T := TX7) (N := 10) hx hb hts uwX7 tyX7 tyX7_ok nmX7 hown hK hP hD hS 0 rfl rfl 9 (by decide) (hts _ kfX7_51) (fun _ h9 => h9) rfl (tyX7_ok 9 (by decide)) rfl rfl (Nat.le_of_ble_eq_true rfl) dX7_parseFigures_125 (fun H locs hP hD hS => ?_)
    have hP : va_P D vwCl [(a_p0, .inr (8, [.ref a_p0_bytes, .int p0_length, .int p0_minus, .int p0_kind, .int p0_sixteens, .int p0_behindPoint, .int (s1 + s2), .int p0_power, .int p0_begin, .int (p0_end + (1 : Int32))])), (a_p0_bytes, .inl (cI, 1200, .inl p0_bytes))] H := hP
    have hD : va_D A [(a_p0, .inr (8, [.ref a_p0_bytes, .int p0_length, .int p0_minus, .int p0_kind, .int p0_sixteens, .int p0_behindPoint, .int (s1 + s2), .int p0_power, .int p0_begin, .int (p0_end + (1 : Int32))])), (a_p0_bytes, .inl (cI, 1200, .inl p0_bytes))] := hD
    refine lv_goto (tgt := 22) hx hb dX7_parseFigures_128 (by decide) ?_
    exact hL22 v1 v2 p0_behindPoint (s1 + s2) (p0_end + (1 : Int32)) H locs ls hf hP hD hS (lv_sub hl [0, 1, 2] rfl)
  have keyB82 : ∀ (kL22 : Int32 → Int32 → Int32 → Int32 → Int32 → Option (Int32 × Int32 × Int32 × Int32)) (hL22 : ∀ (v1 : Int32) (v2 : Int32) (p0_behindPoint : Int32) (p0_counting : Int32) (p0_end : Int32) (H : Heap) (locs : List Loc) (ls : Array Slot), kL22 v1 v2 p0_behindPoint p0_counting p0_end = some u → va_P D vwCl [(a_p0, .inr (8, [.ref a_p0_bytes, .int p0_length, .int p0_minus, .int p0_kind, .int p0_sixteens, .int p0_behindPoint, .int p0_counting, .int p0_power, .int p0_begin, .int p0_end])), (a_p0_bytes, .inl (cI, 1200, .inl p0_bytes))] H → va_D A [(a_p0, .inr (8, [.ref a_p0_bytes, .int p0_length, .int p0_minus, .int p0_kind, .int p0_sixteens, .int p0_behindPoint, .int p0_counting, .int p0_power, .int p0_begin, .int p0_end])), (a_p0_bytes, .inl (cI, 1200, .inl p0_bytes))] → va_S A s.heap H locs → lv_has ls 4 [(0, .ref a_p0), (1, .int v1), (2, .int v2)] → W p l e (rmz 2 43) s m ar below meth c H locs 0 0 Q (F0 m 22 ls [])) (v1 : Int32) (v2 : Int32) (s1 : Int32) (p0_behindPoint : Int32) (p0_counting : Int32) (p0_end : Int32) (H : Heap) (locs : List Loc) (ls : Array Slot), f_X7_parseFigures_B82 p0_length p0_sixteens p0_begin p0_bytes kL22 v1 v2 s1 p0_behindPoint p0_counting p0_end = some u → va_P D vwCl [(a_p0, .inr (8, [.ref a_p0_bytes, .int p0_length, .int p0_minus, .int p0_kind, .int p0_sixteens, .int p0_behindPoint, .int p0_counting, .int p0_power, .int p0_begin, .int p0_end])), (a_p0_bytes, .inl (cI, 1200, .inl p0_bytes))] H → va_D A [(a_p0, .inr (8, [.ref a_p0_bytes, .int p0_length, .int p0_minus, .int p0_kind, .int p0_sixteens, .int p0_behindPoint, .int p0_counting, .int p0_power, .int p0_begin, .int p0_end])), (a_p0_bytes, .inl (cI, 1200, .inl p0_bytes))] → va_S A s.heap H locs → lv_has ls 4 [(0, .ref a_p0), (1, .int v1), (2, .int v2)] → W p l e (rmz 2 43) s m ar below meth c H locs 0 0 Q (F0 m 82 ls [.int s1, .ref a_p0]) := by
    intro kL22 hL22 v1 v2 s1 p0_behindPoint p0_counting p0_end H locs ls hf hP hD hS hl
    unfold f_X7_parseFigures_B82 at hf
    refine lv_iconst (v := 1) hx hb dX7_parseFigures_82 (by decide) ?_
    refine lv_goto (tgt := 87) hx hb dX7_parseFigures_83 (by decide) ?_
    exact keyB87 kL22 hL22 v1 v2 s1 (1 : Int32) p0_behindPoint p0_counting p0_end H locs ls hf hP hD hS (lv_sub hl [0, 1, 2] rfl)
  have keyB62 : ∀ (kL22 : Int32 → Int32 → Int32 → Int32 → Int32 → Option (Int32 × Int32 × Int32 × Int32)) (hL22 : ∀ (v1 : Int32) (v2 : Int32) (p0_behindPoint : Int32) (p0_counting : Int32) (p0_end : Int32) (H : Heap) (locs : List Loc) (ls : Array Slot), kL22 v1 v2 p0_behindPoint p0_counting p0_end = some u → va_P D vwCl [(a_p0, .inr (8, [.ref a_p0_bytes, .int p0_length, .int p0_minus, .int p0_kind, .int p0_sixteens, .int p0_behindPoint, .int p0_counting, .int p0_power, .int p0_begin, .int p0_end])), (a_p0_bytes, .inl (cI, 1200, .inl p0_bytes))] H → va_D A [(a_p0, .inr (8, [.ref a_p0_bytes, .int p0_length, .int p0_minus, .int p0_kind, .int p0_sixteens, .int p0_behindPoint, .int p0_counting, .int p0_power, .int p0_begin, .int p0_end])), (a_p0_bytes, .inl (cI, 1200, .inl p0_bytes))] → va_S A s.heap H locs → lv_has ls 4 [(0, .ref a_p0), (1, .int v1), (2, .int v2)] → W p l e (rmz 2 43) s m ar below meth c H locs 0 0 Q (F0 m 22 ls [])) (v1 : Int32) (v2 : Int32) (v3 : Int32) (s1 : Int32) (s2 : Int32) (p0_behindPoint : Int32) (p0_counting : Int32) (p0_end : Int32) (H : Heap) (locs : List Loc) (ls : Array Slot), f_X7_parseFigures_B62 p0_length p0_sixteens p0_begin p0_bytes kL22 v1 v2 v3 s1 s2 p0_behindPoint p0_counting p0_end = some u → va_P D vwCl [(a_p0, .inr (8, [.ref a_p0_bytes, .int p0_length, .int p0_minus, .int p0_kind, .int p0_sixteens, .int p0_behindPoint, .int p0_counting, .int p0_power, .int p0_begin, .int p0_end])), (a_p0_bytes, .inl (cI, 1200, .inl p0_bytes))] H → va_D A [(a_p0, .inr (8, [.ref a_p0_bytes, .int p0_length, .int p0_minus, .int p0_kind, .int p0_sixteens, .int p0_behindPoint, .int p0_counting, .int p0_power, .int p0_begin, .int p0_end])), (a_p0_bytes, .inl (cI, 1200, .inl p0_bytes))] → va_S A s.heap H locs → lv_has ls 4 [(0, .ref a_p0), (1, .int v1), (2, .int v2), (3, .int v3)] → W p l e (rmz 2 43) s m ar below meth c H locs 0 0 Q (F0 m 62 ls [.int s2, .int s1, .ref a_p0]) := by
    intro kL22 hL22 v1 v2 v3 s1 s2 p0_behindPoint p0_counting p0_end H locs ls hf hP hD hS hl
    unfold f_X7_parseFigures_B62 at hf
    refine lv_iadd hx hb dX7_parseFigures_62 ?_
    refine va_put (D := D) (ci := 8) (v := .int (s1 + s2)) (ty := tyX7 5) (C := RX7) (T := TX7) (N := 10) hx hb hts uwX7 tyX7 tyX7_ok nmX7 hown hK hP hD hS 0 rfl rfl 5 (by decide) (hts _ kfX7_84) (fun _ h9 => h9) rfl (tyX7_ok 5 (by decide)) rfl rfl (Nat.le_of_ble_eq_true rfl) dX7_parseFigures_63 (fun H locs hP hD hS => ?_)
    have hP : va_P D vwCl [(a_p0, .inr (8, [.ref a_p0_bytes, .int p0_length, .int p0_minus, .int p0_kind, .int p0_sixteens, .int (s1 + s2), .int p0_counting, .int p0_power, .int p0_begin, .int p0_end])), (a_p0_bytes, .inl (cI, 1200, .inl p0_bytes))] H := hP
    have hD : va_D A [(a_p0, .inr (8, [.ref a_p0_bytes, .int p0_length, .int p0_minus, .int p0_kind, .int p0_sixteens, .int (s1 + s2), .int p0_counting, .int p0_power, .int p0_begin, .int p0_end])), (a_p0_bytes, .inl (cI, 1200, .inl p0_bytes))] := hD
    refine lv_aload_n hx hb dX7_parseFigures_66 rfl (lv_at hl 0 rfl) ?_
    refine lv_dup hx hb dX7_parseFigures_67 rfl ?_
    refine va_get (D := D) (ci := 8) (v := .int p0_counting) (C := RX7) (T := TX7) (N := 10) hx hb hts uwX7 hown hK hP 0 rfl rfl 6 (by decide) (hts _ kfX7_87) (fun _ h9 => h9) rfl dX7_parseFigures_68 ?_
    refine lv_aload_n hx hb dX7_parseFigures_71 rfl (lv_at hl 0 rfl) ?_
    refine va_get (D := D) (ci := 8) (v := .int p0_counting) (C := RX7) (T := TX7) (N := 10) hx hb hts uwX7 hown hK hP 0 rfl rfl 6 (by decide) (hts _ kfX7_87) (fun _ h9 => h9) rfl dX7_parseFigures_72 ?_
    refine lv_if_gt (tgt := 82) hx hb dX7_parseFigures_75 (by decide) (fun hc11 => ?_) (fun hc11 => ?_)
    · have hf := ifT hc11 hf
      exact keyB82 kL22 hL22 v1 v2 p0_counting (s1 + s2) p0_counting p0_end H locs ls hf hP hD hS (lv_sub hl [0, 1, 2] rfl)
    · have hf := ifF hc11 hf
      refine lv_iload_n hx hb dX7_parseFigures_78 rfl (lv_at hl 3 rfl) ?_
      refine lv_if_le (tgt := 86) hx hb dX7_parseFigures_79 (by decide) (fun hc10 => ?_) (fun hc10 => ?_)
      · have hf := ifT hc10 hf
        refine lv_iconst (v := 0) hx hb dX7_parseFigures_86 (by decide) ?_
        exact keyB87 kL22 hL22 v1 v2 p0_counting (0 : Int32) (s1 + s2) p0_counting p0_end H locs ls hf hP hD hS (lv_sub hl [0, 1, 2] rfl)
      · have hf := ifF hc10 hf
        exact keyB82 kL22 hL22 v1 v2 p0_counting (s1 + s2) p0_counting p0_end H locs ls hf hP hD hS (lv_sub hl [0, 1, 2] rfl)
  have keyL22 : ∀ (n : Nat) (v1 : Int32) (v2 : Int32) (p0_behindPoint : Int32) (p0_counting : Int32) (p0_end : Int32) (H : Heap) (locs : List Loc) (ls : Array Slot), f_X7_parseFigures_L22 p0_length p0_sixteens p0_begin p0_bytes n v1 v2 p0_behindPoint p0_counting p0_end = some u → va_P D vwCl [(a_p0, .inr (8, [.ref a_p0_bytes, .int p0_length, .int p0_minus, .int p0_kind, .int p0_sixteens, .int p0_behindPoint, .int p0_counting, .int p0_power, .int p0_begin, .int p0_end])), (a_p0_bytes, .inl (cI, 1200, .inl p0_bytes))] H → va_D A [(a_p0, .inr (8, [.ref a_p0_bytes, .int p0_length, .int p0_minus, .int p0_kind, .int p0_sixteens, .int p0_behindPoint, .int p0_counting, .int p0_power, .int p0_begin, .int p0_end])), (a_p0_bytes, .inl (cI, 1200, .inl p0_bytes))] → va_S A s.heap H locs → lv_has ls 4 [(0, .ref a_p0), (1, .int v1), (2, .int v2)] → W p l e (rmz 2 43) s m ar below meth c H locs 0 0 Q (F0 m 22 ls []) := by
    intro n
    induction n with
      | zero =>
        intro v1 v2 p0_behindPoint p0_counting p0_end H locs ls hf
        cases hf
      | succ n ih =>
        intro v1 v2 p0_behindPoint p0_counting p0_end H locs ls hf hP hD hS hl
        rw [f_X7_parseFigures_L22] at hf
        refine lv_aload_n hx hb dX7_parseFigures_22 rfl (lv_at hl 0 rfl) ?_
        refine va_get (D := D) (ci := 8) (v := .int p0_end) (C := RX7) (T := TX7) (N := 10) hx hb hts uwX7 hown hK hP 0 rfl rfl 9 (by decide) (hts _ kfX7_51) (fun _ h9 => h9) rfl dX7_parseFigures_23 ?_
        refine lv_aload_n hx hb dX7_parseFigures_26 rfl (lv_at hl 0 rfl) ?_
        refine va_get (D := D) (ci := 8) (v := .int p0_length) (C := RX7) (T := TX7) (N := 10) hx hb hts uwX7 hown hK hP 0 rfl rfl 1 (by decide) (hts _ kfX7_15) (fun _ h9 => h9) rfl dX7_parseFigures_27 ?_
        refine lv_icmp_ge (tgt := 131) hx hb dX7_parseFigures_30 (by decide) (fun hc14 => ?_) (fun hc14 => ?_)
        · have hf := ifT hc14 hf
          refine lv_iload_n hx hb dX7_parseFigures_131 rfl (lv_at hl 1 rfl) ?_
          obtain ⟨hb1, hf⟩ := blE hf
          exact hret _ (opE hf) H locs ls 132 dX7_parseFigures_132 hb1 hP hD hS
        · have hf := ifF hc14 hf
          refine lv_aload_n hx hb dX7_parseFigures_33 rfl (lv_at hl 0 rfl) ?_
          refine lv_aload_n hx hb dX7_parseFigures_34 rfl (lv_at hl 0 rfl) ?_
          refine va_get (D := D) (ci := 8) (v := .int p0_end) (C := RX7) (T := TX7) (N := 10) hx hb hts uwX7 hown hK hP 0 rfl rfl 9 (by decide) (hts _ kfX7_51) (fun _ h9 => h9) rfl dX7_parseFigures_35 ?_
          obtain ⟨u2, hu3, hf⟩ := bdE hf
          refine cV_I (ws' := [(a_p0, .inr (8, [.ref a_p0_bytes, .int p0_length, .int p0_minus, .int p0_kind, .int p0_sixteens, .int p0_behindPoint, .int p0_counting, .int p0_power, .int p0_begin, .int p0_end])), (a_p0_bytes, .inl (cI, 1200, .inl p0_bytes))]) (rest := []) S hK hN hA hP hD hS (c_X7_figureAt l D cI cJ a_p0 a_p0_bytes p0_end p0_length p0_minus p0_kind p0_sixteens p0_behindPoint p0_counting p0_power p0_begin p0_end p0_bytes u2 hu3) mwX7_figureAt miX7_figureAt kmX7_66 [0, 1] rfl (by decide) rfl rfl rfl 0 rfl rfl ⟨Nat.le_of_ble_eq_true rfl, Nat.le_of_ble_eq_true rfl⟩ ⟨Nat.zero_le _, Nat.zero_le _⟩ hl.1 rfl rfl (Nat.le_of_ble_eq_true rfl) dX7_parseFigures_38 (fun H locs hP hD hS => ?_)
          refine lv_istore_n (lv' := [(3, .int u2), (0, .ref a_p0), (1, .int v1), (2, .int v2)]) hx hb dX7_parseFigures_41 rfl hl (by decide) rfl (fun ls hl => ?_)
          refine lv_iload_n hx hb dX7_parseFigures_42 rfl (lv_at hl 0 rfl) ?_
          refine lv_if_lt (tgt := 94) hx hb dX7_parseFigures_43 (by decide) (fun hc13 => ?_) (fun hc13 => ?_)
          · have hf := ifT hc13 hf
            refine lv_aload_n hx hb dX7_parseFigures_94 rfl (lv_at hl 1 rfl) ?_
            refine lv_aload_n hx hb dX7_parseFigures_95 rfl (lv_at hl 1 rfl) ?_
            refine va_get (D := D) (ci := 8) (v := .int p0_end) (C := RX7) (T := TX7) (N := 10) hx hb hts uwX7 hown hK hP 0 rfl rfl 9 (by decide) (hts _ kfX7_51) (fun _ h9 => h9) rfl dX7_parseFigures_96 ?_
            obtain ⟨u4, hu5, hf⟩ := bdE hf
            refine cV_I (ws' := [(a_p0, .inr (8, [.ref a_p0_bytes, .int p0_length, .int p0_minus, .int p0_kind, .int p0_sixteens, .int p0_behindPoint, .int p0_counting, .int p0_power, .int p0_begin, .int p0_end])), (a_p0_bytes, .inl (cI, 1200, .inl p0_bytes))]) (rest := []) S hK hN hA hP hD hS (c_X7_at l D cI cJ a_p0 a_p0_bytes p0_end p0_length p0_minus p0_kind p0_sixteens p0_behindPoint p0_counting p0_power p0_begin p0_end p0_bytes u4 hu5) mwX7_at miX7_at kmX7_19 [0, 1] rfl (by decide) rfl rfl rfl 0 rfl rfl ⟨Nat.le_of_ble_eq_true rfl, Nat.le_of_ble_eq_true rfl⟩ ⟨Nat.zero_le _, Nat.zero_le _⟩ hl.1 rfl rfl (Nat.le_of_ble_eq_true rfl) dX7_parseFigures_99 (fun H locs hP hD hS => ?_)
            refine lv_bipush (v := 46) hx hb dX7_parseFigures_102 (by decide) ?_
            refine lv_icmp_ne (tgt := 116) hx hb dX7_parseFigures_104 (by decide) (fun hc9 => ?_) (fun hc9 => ?_)
            · have hf := ifF hc9 hf
              refine lv_iload_n hx hb dX7_parseFigures_116 rfl (lv_at hl 2 rfl) ?_
              obtain ⟨hb6, hf⟩ := blE hf
              exact hret _ (opE hf) H locs ls 117 dX7_parseFigures_117 hb6 hP hD hS
            · have hf := ifT hc9 hf
              refine lv_iload_n hx hb dX7_parseFigures_107 rfl (lv_at hl 3 rfl) ?_
              refine lv_if_ne (tgt := 116) hx hb dX7_parseFigures_108 (by decide) (fun hc8 => ?_) (fun hc8 => ?_)
              · have hf := ifF hc8 hf
                refine lv_iload_n hx hb dX7_parseFigures_116 rfl (lv_at hl 2 rfl) ?_
                obtain ⟨hb7, hf⟩ := blE hf
                exact hret _ (opE hf) H locs ls 117 dX7_parseFigures_117 hb7 hP hD hS
              · have hf := ifT hc8 hf
                refine lv_iconst (v := 1) hx hb dX7_parseFigures_111 (by decide) ?_
                refine lv_istore_n (lv' := [(2, .int (1 : Int32)), (3, .int u2), (0, .ref a_p0), (1, .int v1)]) hx hb dX7_parseFigures_112 rfl hl (by decide) rfl (fun ls hl => ?_)
                refine lv_goto (tgt := 118) hx hb dX7_parseFigures_113 (by decide) ?_
                refine lv_aload_n hx hb dX7_parseFigures_118 rfl (lv_at hl 2 rfl) ?_
                refine lv_dup hx hb dX7_parseFigures_119 rfl ?_
                refine va_get (D := D) (ci := 8) (v := .int p0_end) (C := RX7) (T := TX7) (N := 10) hx hb hts uwX7 hown hK hP 0 rfl rfl 9 (by decide) (hts _ kfX7_51) (fun _ h9 => h9) rfl dX7_parseFigures_120 ?_
                refine lv_iconst (v := 1) hx hb dX7_parseFigures_123 (by decide) ?_
                refine lv_iadd hx hb dX7_parseFigures_124 ?_
                refine va_put (D := D) (ci := 8) (v := .int (p0_end + (1 : Int32))) (ty := tyX7 9) (C := RX7) (T := TX7) (N := 10) hx hb hts uwX7 tyX7 tyX7_ok nmX7 hown hK hP hD hS 0 rfl rfl 9 (by decide) (hts _ kfX7_51) (fun _ h9 => h9) rfl (tyX7_ok 9 (by decide)) rfl rfl (Nat.le_of_ble_eq_true rfl) dX7_parseFigures_125 (fun H locs hP hD hS => ?_)
                have hP : va_P D vwCl [(a_p0, .inr (8, [.ref a_p0_bytes, .int p0_length, .int p0_minus, .int p0_kind, .int p0_sixteens, .int p0_behindPoint, .int p0_counting, .int p0_power, .int p0_begin, .int (p0_end + (1 : Int32))])), (a_p0_bytes, .inl (cI, 1200, .inl p0_bytes))] H := hP
                have hD : va_D A [(a_p0, .inr (8, [.ref a_p0_bytes, .int p0_length, .int p0_minus, .int p0_kind, .int p0_sixteens, .int p0_behindPoint, .int p0_counting, .int p0_power, .int p0_begin, .int (p0_end + (1 : Int32))])), (a_p0_bytes, .inl (cI, 1200, .inl p0_bytes))] := hD
                refine lv_goto (tgt := 22) hx hb dX7_parseFigures_128 (by decide) ?_
                exact ih v1 (1 : Int32) p0_behindPoint p0_counting (p0_end + (1 : Int32)) H locs ls hf hP hD hS (lv_sub hl [2, 3, 0] rfl)
          · have hf := ifF hc13 hf
            refine lv_iconst (v := 1) hx hb dX7_parseFigures_46 (by decide) ?_
            refine lv_istore_n (lv' := [(1, .int (1 : Int32)), (3, .int u2), (0, .ref a_p0), (2, .int v2)]) hx hb dX7_parseFigures_47 rfl hl (by decide) rfl (fun ls hl => ?_)
            refine lv_aload_n hx hb dX7_parseFigures_48 rfl (lv_at hl 2 rfl) ?_
            refine lv_dup hx hb dX7_parseFigures_49 rfl ?_
            refine va_get (D := D) (ci := 8) (v := .int p0_behindPoint) (C := RX7) (T := TX7) (N := 10) hx hb hts uwX7 hown hK hP 0 rfl rfl 5 (by decide) (hts _ kfX7_84) (fun _ h9 => h9) rfl dX7_parseFigures_50 ?_
            refine lv_iload_n hx hb dX7_parseFigures_53 rfl (lv_at hl 3 rfl) ?_
            refine lv_if_eq (tgt := 61) hx hb dX7_parseFigures_54 (by decide) (fun hc12 => ?_) (fun hc12 => ?_)
            · have hf := ifT hc12 hf
              refine lv_iconst (v := 0) hx hb dX7_parseFigures_61 (by decide) ?_
              exact keyB62 (f_X7_parseFigures_L22 p0_length p0_sixteens p0_begin p0_bytes n) ih (1 : Int32) v2 u2 p0_behindPoint (0 : Int32) p0_behindPoint p0_counting p0_end H locs ls hf hP hD hS (lv_sub hl [2, 0, 3, 1] rfl)
            · have hf := ifF hc12 hf
              refine lv_iconst (v := 1) hx hb dX7_parseFigures_57 (by decide) ?_
              refine lv_goto (tgt := 62) hx hb dX7_parseFigures_58 (by decide) ?_
              exact keyB62 (f_X7_parseFigures_L22 p0_length p0_sixteens p0_begin p0_bytes n) ih (1 : Int32) v2 u2 p0_behindPoint (1 : Int32) p0_behindPoint p0_counting p0_end H locs ls hf hP hD hS (lv_sub hl [2, 0, 3, 1] rfl)
  unfold f_X7_parseFigures at hf
  refine lv_iconst (v := 0) hx hb dX7_parseFigures_0 (by decide) ?_
  refine lv_istore_n (lv' := [(1, .int (0 : Int32)), (0, .ref a_p0)]) hx hb dX7_parseFigures_1 rfl hl (by decide) rfl (fun ls hl => ?_)
  refine lv_iconst (v := 0) hx hb dX7_parseFigures_2 (by decide) ?_
  refine lv_istore_n (lv' := [(2, .int (0 : Int32)), (1, .int (0 : Int32)), (0, .ref a_p0)]) hx hb dX7_parseFigures_3 rfl hl (by decide) rfl (fun ls hl => ?_)
  refine lv_aload_n hx hb dX7_parseFigures_4 rfl (lv_at hl 2 rfl) ?_
  refine lv_iconst (v := 0) hx hb dX7_parseFigures_5 (by decide) ?_
  refine va_put (D := D) (ci := 8) (v := .int (0 : Int32)) (ty := tyX7 5) (C := RX7) (T := TX7) (N := 10) hx hb hts uwX7 tyX7 tyX7_ok nmX7 hown hK hP hD hS 0 rfl rfl 5 (by decide) (hts _ kfX7_84) (fun _ h9 => h9) rfl (tyX7_ok 5 (by decide)) rfl rfl (Nat.le_of_ble_eq_true rfl) dX7_parseFigures_6 (fun H locs hP hD hS => ?_)
  have hP : va_P D vwCl [(a_p0, .inr (8, [.ref a_p0_bytes, .int p0_length, .int p0_minus, .int p0_kind, .int p0_sixteens, .int (0 : Int32), .int p0_counting, .int p0_power, .int p0_begin, .int p0_end])), (a_p0_bytes, .inl (cI, 1200, .inl p0_bytes))] H := hP
  have hD : va_D A [(a_p0, .inr (8, [.ref a_p0_bytes, .int p0_length, .int p0_minus, .int p0_kind, .int p0_sixteens, .int (0 : Int32), .int p0_counting, .int p0_power, .int p0_begin, .int p0_end])), (a_p0_bytes, .inl (cI, 1200, .inl p0_bytes))] := hD
  refine lv_aload_n hx hb dX7_parseFigures_9 rfl (lv_at hl 2 rfl) ?_
  refine lv_iconst (v := 0) hx hb dX7_parseFigures_10 (by decide) ?_
  refine va_put (D := D) (ci := 8) (v := .int (0 : Int32)) (ty := tyX7 6) (C := RX7) (T := TX7) (N := 10) hx hb hts uwX7 tyX7 tyX7_ok nmX7 hown hK hP hD hS 0 rfl rfl 6 (by decide) (hts _ kfX7_87) (fun _ h9 => h9) rfl (tyX7_ok 6 (by decide)) rfl rfl (Nat.le_of_ble_eq_true rfl) dX7_parseFigures_11 (fun H locs hP hD hS => ?_)
  have hP : va_P D vwCl [(a_p0, .inr (8, [.ref a_p0_bytes, .int p0_length, .int p0_minus, .int p0_kind, .int p0_sixteens, .int (0 : Int32), .int (0 : Int32), .int p0_power, .int p0_begin, .int p0_end])), (a_p0_bytes, .inl (cI, 1200, .inl p0_bytes))] H := hP
  have hD : va_D A [(a_p0, .inr (8, [.ref a_p0_bytes, .int p0_length, .int p0_minus, .int p0_kind, .int p0_sixteens, .int (0 : Int32), .int (0 : Int32), .int p0_power, .int p0_begin, .int p0_end])), (a_p0_bytes, .inl (cI, 1200, .inl p0_bytes))] := hD
  refine lv_aload_n hx hb dX7_parseFigures_14 rfl (lv_at hl 2 rfl) ?_
  refine lv_aload_n hx hb dX7_parseFigures_15 rfl (lv_at hl 2 rfl) ?_
  refine va_get (D := D) (ci := 8) (v := .int p0_begin) (C := RX7) (T := TX7) (N := 10) hx hb hts uwX7 hown hK hP 0 rfl rfl 8 (by decide) (hts _ kfX7_44) (fun _ h9 => h9) rfl dX7_parseFigures_16 ?_
  refine va_put (D := D) (ci := 8) (v := .int p0_begin) (ty := tyX7 9) (C := RX7) (T := TX7) (N := 10) hx hb hts uwX7 tyX7 tyX7_ok nmX7 hown hK hP hD hS 0 rfl rfl 9 (by decide) (hts _ kfX7_51) (fun _ h9 => h9) rfl (tyX7_ok 9 (by decide)) rfl rfl (Nat.le_of_ble_eq_true rfl) dX7_parseFigures_19 (fun H locs hP hD hS => ?_)
  have hP : va_P D vwCl [(a_p0, .inr (8, [.ref a_p0_bytes, .int p0_length, .int p0_minus, .int p0_kind, .int p0_sixteens, .int (0 : Int32), .int (0 : Int32), .int p0_power, .int p0_begin, .int p0_begin])), (a_p0_bytes, .inl (cI, 1200, .inl p0_bytes))] H := hP
  have hD : va_D A [(a_p0, .inr (8, [.ref a_p0_bytes, .int p0_length, .int p0_minus, .int p0_kind, .int p0_sixteens, .int (0 : Int32), .int (0 : Int32), .int p0_power, .int p0_begin, .int p0_begin])), (a_p0_bytes, .inl (cI, 1200, .inl p0_bytes))] := hD
  exact keyL22 FU (0 : Int32) (0 : Int32) (0 : Int32) (0 : Int32) p0_begin H locs ls hf hP hD hS (lv_sub hl [2, 1, 0] rfl)
