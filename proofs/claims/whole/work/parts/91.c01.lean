set_option maxRecDepth 100000 in
set_option maxHeartbeats 4000000 in
theorem c_X0_converted (l : Launch) (D : va_G) (cI cJ : ClassId) (a_p0 a_p0_left a_p0_right a_p0_left_limbs a_p1 : Nat) (p2 : Int32) (p3 : Int32) (p0_left_size : Int32) (p0_left_limbs : (Nat → Int64)) (p1_kind : Int32) (p1_minus : Int32) (p1_m : Int64) (p1_e : Int32) (p1_narrowBelow : Int32) (u : Int64 × Int32 × (Nat → Int64)) (hf : f_X0_converted p1_kind p1_minus p1_m p1_e p2 p3 p0_left_size p0_left_limbs = some u) : CtL l yX0_converted cX0_converted 4 4 101 [.ref a_p0, .ref a_p1, .int p2, .int p3] D cI cJ [(a_p0, .inr (2, [.ref a_p0_left, .ref a_p0_right])), (a_p0_left, .inr (5, [.ref a_p0_left_limbs, .int p0_left_size])), (a_p0_left_limbs, .inl (cJ, 160, .inr (.inl p0_left_limbs))), (a_p1, .inr (9, [.int p1_kind, .int p1_minus, .long p1_m, .int p1_e, .int p1_narrowBelow]))] [(a_p0, .inr (2, [.ref a_p0_left, .ref a_p0_right])), (a_p0_left, .inr (5, [.ref a_p0_left_limbs, .int u.2.1])), (a_p0_left_limbs, .inl (cJ, 160, .inr (.inl u.2.2))), (a_p1, .inr (9, [.int p1_kind, .int p1_minus, .long p1_m, .int p1_e, .int p1_narrowBelow]))] u.1 := by
  refine mkL (own := RX0) rfl (by decide +kernel) (Nat.le_of_ble_eq_true rfl) (lv := [(0, .ref a_p0), (1, .ref a_p1), (2, .int p2), (3, .int p3)]) rfl ?_
  intro p e s m below meth c Q A ls ar S hA hK hN hret H locs hP hD hS hl
  obtain ⟨hx, hb, hml, hown, hts⟩ := id S
  have hret : ∀ (w : Int64 × Int32 × (Nat → Int64)), w = u → ∀ (H : Heap) (locs : List Loc) (ls : Array Slot) (pc : Nat), decode cX0_converted pc = .ok (.lreturn, 1) → va_P D vwCl [(a_p0, .inr (2, [.ref a_p0_left, .ref a_p0_right])), (a_p0_left, .inr (5, [.ref a_p0_left_limbs, .int w.2.1])), (a_p0_left_limbs, .inl (cJ, 160, .inr (.inl w.2.2))), (a_p1, .inr (9, [.int p1_kind, .int p1_minus, .long p1_m, .int p1_e, .int p1_narrowBelow]))] H → va_D A [(a_p0, .inr (2, [.ref a_p0_left, .ref a_p0_right])), (a_p0_left, .inr (5, [.ref a_p0_left_limbs, .int w.2.1])), (a_p0_left_limbs, .inl (cJ, 160, .inr (.inl w.2.2))), (a_p1, .inr (9, [.int p1_kind, .int p1_minus, .long p1_m, .int p1_e, .int p1_narrowBelow]))] → va_S A s.heap H locs → W p l e (rmz 4 101) s m ar below meth c H locs 0 0 Q (F0 m pc ls [.long w.1]) := fun w hw => hw ▸ hret
  unfold f_X0_converted at hf
  refine lv_aload_n hx hb dX0_converted_0 rfl (lv_at hl 1 rfl) ?_
  refine va_get (D := D) (ci := 9) (v := .int p1_kind) (C := RX8) (T := TX8) (N := 5) hx hb hts uwX8 hown hK hP 3 rfl rfl 0 (by decide) (hts _ kfX0_18) (fun _ h9 => h9) rfl dX0_converted_1 ?_
  refine lv_iconst (v := 4) hx hb dX0_converted_4 (by decide) ?_
  refine lv_icmp_ne (tgt := 13) hx hb dX0_converted_5 (by decide) (fun hc10 => ?_) (fun hc10 => ?_)
  · have hf := ifF hc10 hf
    refine lv_aload_n hx hb dX0_converted_13 rfl (lv_at hl 1 rfl) ?_
    refine va_get (D := D) (ci := 9) (v := .int p1_kind) (C := RX8) (T := TX8) (N := 5) hx hb hts uwX8 hown hK hP 3 rfl rfl 0 (by decide) (hts _ kfX0_18) (fun _ h9 => h9) rfl dX0_converted_14 ?_
    refine lv_iconst (v := 3) hx hb dX0_converted_17 (by decide) ?_
    refine lv_icmp_ne (tgt := 30) hx hb dX0_converted_18 (by decide) (fun hc7 => ?_) (fun hc7 => ?_)
    · have hf := ifF hc7 hf
      refine lv_aload_n hx hb dX0_converted_30 rfl (lv_at hl 0 rfl) ?_
      refine va_get (D := D) (ci := 2) (v := .ref a_p0_left) (C := RX0) (T := TX0) (N := 2) hx hb hts uwX0 hown hK hP 0 rfl rfl 0 (by decide) (hts _ kfX0_9) (fun _ h9 => h9) rfl dX0_converted_31 ?_
      refine lv_aload_n hx hb dX0_converted_34 rfl (lv_at hl 1 rfl) ?_
      refine va_get (D := D) (ci := 9) (v := .long p1_m) (C := RX8) (T := TX8) (N := 5) hx hb hts uwX8 hown hK hP 3 rfl rfl 2 (by decide) (hts _ kfX0_38) (fun _ h9 => h9) rfl dX0_converted_35 ?_
      obtain ⟨u1, hu2, hf⟩ := bdE hf
      refine cV_V (ws' := [(a_p0, .inr (2, [.ref a_p0_left, .ref a_p0_right])), (a_p0_left, .inr (5, [.ref a_p0_left_limbs, .int u1.1])), (a_p0_left_limbs, .inl (cJ, 160, .inr (.inl u1.2))), (a_p1, .inr (9, [.int p1_kind, .int p1_minus, .long p1_m, .int p1_e, .int p1_narrowBelow]))]) (rest := []) S hK hN hA hP hD hS (c_X4_take l D cI cJ a_p0_left a_p0_left_limbs p1_m p0_left_size p0_left_limbs u1 hu2) mwX4_take miX4_take kmX0_42 [1, 2] rfl (by decide) rfl rfl rfl 0 rfl rfl ⟨Nat.le_of_ble_eq_true rfl, Nat.le_of_ble_eq_true rfl⟩ ⟨Nat.zero_le _, Nat.zero_le _⟩ hl.1 rfl rfl (Nat.le_of_ble_eq_true rfl) dX0_converted_38 (fun H locs hP hD hS => ?_)
      refine lv_aload_n hx hb dX0_converted_41 rfl (lv_at hl 1 rfl) ?_
      refine va_get (D := D) (ci := 9) (v := .int p1_minus) (C := RX8) (T := TX8) (N := 5) hx hb hts uwX8 hown hK hP 3 rfl rfl 1 (by decide) (hts _ kfX0_30) (fun _ h9 => h9) rfl dX0_converted_42 ?_
      refine lv_aload_n hx hb dX0_converted_45 rfl (lv_at hl 0 rfl) ?_
      refine va_get (D := D) (ci := 2) (v := .ref a_p0_left) (C := RX0) (T := TX0) (N := 2) hx hb hts uwX0 hown hK hP 0 rfl rfl 0 (by decide) (hts _ kfX0_9) (fun _ h9 => h9) rfl dX0_converted_46 ?_
      refine lv_aload_n hx hb dX0_converted_49 rfl (lv_at hl 1 rfl) ?_
      refine va_get (D := D) (ci := 9) (v := .int p1_e) (C := RX8) (T := TX8) (N := 5) hx hb hts uwX8 hown hK hP 3 rfl rfl 3 (by decide) (hts _ kfX0_48) (fun _ h9 => h9) rfl dX0_converted_50 ?_
      refine lv_iconst (v := 0) hx hb dX0_converted_53 (by decide) ?_
      refine lv_iload_n hx hb dX0_converted_54 rfl (lv_at hl 2 rfl) ?_
      refine lv_iload_n hx hb dX0_converted_55 rfl (lv_at hl 3 rfl) ?_
      obtain ⟨u3, hu4, hf⟩ := bdE hf
      refine cS_L (ws' := [(a_p0, .inr (2, [.ref a_p0_left, .ref a_p0_right])), (a_p0_left, .inr (5, [.ref a_p0_left_limbs, .int u1.1])), (a_p0_left_limbs, .inl (cJ, 160, .inr (.inl u1.2))), (a_p1, .inr (9, [.int p1_kind, .int p1_minus, .long p1_m, .int p1_e, .int p1_narrowBelow]))]) (rest := []) S hK hN hA hP hD hS (c_X0_rounded l D cI cJ a_p0_left a_p0_left_limbs p1_minus p1_e (0 : Int32) p2 p3 u1.1 u1.2 u3 hu4) mwX0_rounded msX0_rounded kmX0_51 [1, 2] rfl (by decide) rfl rfl rfl ⟨Nat.le_of_ble_eq_true rfl, Nat.le_of_ble_eq_true rfl⟩ ⟨Nat.zero_le _, Nat.zero_le _⟩ hl.1 rfl rfl (Nat.le_of_ble_eq_true rfl) dX0_converted_56 (fun H locs hP hD hS => ?_)
      exact hret _ (opE hf) H locs ls 59 dX0_converted_59 hP hD hS
    · have hf := ifT hc7 hf
      refine lv_iload_n hx hb dX0_converted_21 rfl (lv_at hl 2 rfl) ?_
      refine lv_aload_n hx hb dX0_converted_22 rfl (lv_at hl 1 rfl) ?_
      refine va_get (D := D) (ci := 9) (v := .int p1_minus) (C := RX8) (T := TX8) (N := 5) hx hb hts uwX8 hown hK hP 3 rfl rfl 1 (by decide) (hts _ kfX0_30) (fun _ h9 => h9) rfl dX0_converted_23 ?_
      obtain ⟨u5, hu6, hf⟩ := bdE hf
      refine cS_L (ws' := [(a_p0, .inr (2, [.ref a_p0_left, .ref a_p0_right])), (a_p0_left, .inr (5, [.ref a_p0_left_limbs, .int p0_left_size])), (a_p0_left_limbs, .inl (cJ, 160, .inr (.inl p0_left_limbs))), (a_p1, .inr (9, [.int p1_kind, .int p1_minus, .long p1_m, .int p1_e, .int p1_narrowBelow]))]) (rest := []) S hK hN hA hP hD hS (c_X2_endless l D cI cJ  p2 p1_minus  u5 hu6) mwX2_endless msX2_endless kmX0_34 [] rfl (by decide) rfl rfl rfl ⟨Nat.le_of_ble_eq_true rfl, Nat.le_of_ble_eq_true rfl⟩ ⟨Nat.zero_le _, Nat.zero_le _⟩ hl.1 rfl rfl (Nat.le_of_ble_eq_true rfl) dX0_converted_26 (fun H locs hP hD hS => ?_)
      exact hret _ (opE hf) H locs ls 29 dX0_converted_29 hP hD hS
  · have hf := ifT hc10 hf
    refine lv_iload_n hx hb dX0_converted_8 rfl (lv_at hl 2 rfl) ?_
    obtain ⟨u8, hu9, hf⟩ := bdE hf
    refine cS_L (ws' := [(a_p0, .inr (2, [.ref a_p0_left, .ref a_p0_right])), (a_p0_left, .inr (5, [.ref a_p0_left_limbs, .int p0_left_size])), (a_p0_left_limbs, .inl (cJ, 160, .inr (.inl p0_left_limbs))), (a_p1, .inr (9, [.int p1_kind, .int p1_minus, .long p1_m, .int p1_e, .int p1_narrowBelow]))]) (rest := []) S hK hN hA hP hD hS (c_X2_none l D cI cJ  p2  u8 hu9) mwX2_none msX2_none kmX0_24 [] rfl (by decide) rfl rfl rfl ⟨Nat.le_of_ble_eq_true rfl, Nat.le_of_ble_eq_true rfl⟩ ⟨Nat.zero_le _, Nat.zero_le _⟩ hl.1 rfl rfl (Nat.le_of_ble_eq_true rfl) dX0_converted_9 (fun H locs hP hD hS => ?_)
    exact hret _ (opE hf) H locs ls 12 dX0_converted_12 hP hD hS
set_option maxRecDepth 100000 in
set_option maxHeartbeats 4000000 in
theorem c_X0_ofLong (l : Launch) (D : va_G) (cI cJ : ClassId) (a_p0 a_p0_left a_p0_right a_p0_left_limbs : Nat) (p1 : Int64) (p2 : Int32) (p3 : Int32) (p0_left_size : Int32) (p0_left_limbs : (Nat → Int64)) (u : Int64 × Int32 × (Nat → Int64)) (hf : f_X0_ofLong p1 p2 p3 p0_left_size p0_left_limbs = some u) : CtL l yX0_ofLong cX0_ofLong 5 4 101 [.ref a_p0, .long p1, .int p2, .int p3] D cI cJ [(a_p0, .inr (2, [.ref a_p0_left, .ref a_p0_right])), (a_p0_left, .inr (5, [.ref a_p0_left_limbs, .int p0_left_size])), (a_p0_left_limbs, .inl (cJ, 160, .inr (.inl p0_left_limbs)))] [(a_p0, .inr (2, [.ref a_p0_left, .ref a_p0_right])), (a_p0_left, .inr (5, [.ref a_p0_left_limbs, .int u.2.1])), (a_p0_left_limbs, .inl (cJ, 160, .inr (.inl u.2.2)))] u.1 := by
  refine mkL (own := RX0) rfl (by decide +kernel) (Nat.le_of_ble_eq_true rfl) (lv := [(0, .ref a_p0), (1, .long p1), (3, .int p2), (4, .int p3)]) rfl ?_
  intro p e s m below meth c Q A ls ar S hA hK hN hret H locs hP hD hS hl
  obtain ⟨hx, hb, hml, hown, hts⟩ := id S
  have hret : ∀ (w : Int64 × Int32 × (Nat → Int64)), w = u → ∀ (H : Heap) (locs : List Loc) (ls : Array Slot) (pc : Nat), decode cX0_ofLong pc = .ok (.lreturn, 1) → va_P D vwCl [(a_p0, .inr (2, [.ref a_p0_left, .ref a_p0_right])), (a_p0_left, .inr (5, [.ref a_p0_left_limbs, .int w.2.1])), (a_p0_left_limbs, .inl (cJ, 160, .inr (.inl w.2.2)))] H → va_D A [(a_p0, .inr (2, [.ref a_p0_left, .ref a_p0_right])), (a_p0_left, .inr (5, [.ref a_p0_left_limbs, .int w.2.1])), (a_p0_left_limbs, .inl (cJ, 160, .inr (.inl w.2.2)))] → va_S A s.heap H locs → W p l e (rmz 4 101) s m ar below meth c H locs 0 0 Q (F0 m pc ls [.long w.1]) := fun w hw => hw ▸ hret
  have keyB30 : ∀ (v3 : Int32) (v4 : Int32) (s0 : Int32) (p0_left_size : Int32) (p0_left_limbs : (Nat → Int64)) (H : Heap) (locs : List Loc) (ls : Array Slot), f_X0_ofLong_B30 v3 v4 s0 p0_left_size p0_left_limbs = some u → va_P D vwCl [(a_p0, .inr (2, [.ref a_p0_left, .ref a_p0_right])), (a_p0_left, .inr (5, [.ref a_p0_left_limbs, .int p0_left_size])), (a_p0_left_limbs, .inl (cJ, 160, .inr (.inl p0_left_limbs)))] H → va_D A [(a_p0, .inr (2, [.ref a_p0_left, .ref a_p0_right])), (a_p0_left, .inr (5, [.ref a_p0_left_limbs, .int p0_left_size])), (a_p0_left_limbs, .inl (cJ, 160, .inr (.inl p0_left_limbs)))] → va_S A s.heap H locs → lv_has ls 5 [(0, .ref a_p0), (3, .int v3), (4, .int v4)] → W p l e (rmz 4 101) s m ar below meth c H locs 0 0 Q (F0 m 30 ls [.int s0]) := by
    intro v3 v4 s0 p0_left_size p0_left_limbs H locs ls hf hP hD hS hl
    unfold f_X0_ofLong_B30 at hf
    refine lv_aload_n hx hb dX0_ofLong_30 rfl (lv_at hl 0 rfl) ?_
    refine va_get (D := D) (ci := 2) (v := .ref a_p0_left) (C := RX0) (T := TX0) (N := 2) hx hb hts uwX0 hown hK hP 0 rfl rfl 0 (by decide) (hts _ kfX0_9) (fun _ h9 => h9) rfl dX0_ofLong_31 ?_
    refine lv_iconst (v := 0) hx hb dX0_ofLong_34 (by decide) ?_
    refine lv_iconst (v := 0) hx hb dX0_ofLong_35 (by decide) ?_
    refine lv_iload_n hx hb dX0_ofLong_36 rfl (lv_at hl 1 rfl) ?_
    refine lv_iload hx hb dX0_ofLong_37 (lv_at hl 2 rfl) ?_
    obtain ⟨u3, hu4, hf⟩ := bdE hf
    refine cS_L (ws' := [(a_p0, .inr (2, [.ref a_p0_left, .ref a_p0_right])), (a_p0_left, .inr (5, [.ref a_p0_left_limbs, .int p0_left_size])), (a_p0_left_limbs, .inl (cJ, 160, .inr (.inl p0_left_limbs)))]) (rest := []) S hK hN hA hP hD hS (c_X0_rounded l D cI cJ a_p0_left a_p0_left_limbs s0 (0 : Int32) (0 : Int32) v3 v4 p0_left_size p0_left_limbs u3 hu4) mwX0_rounded msX0_rounded kmX0_51 [1, 2] rfl (by decide) rfl rfl rfl ⟨Nat.le_of_ble_eq_true rfl, Nat.le_of_ble_eq_true rfl⟩ ⟨Nat.zero_le _, Nat.zero_le _⟩ hl.1 rfl rfl (Nat.le_of_ble_eq_true rfl) dX0_ofLong_39 (fun H locs hP hD hS => ?_)
    exact hret _ (opE hf) H locs ls 42 dX0_ofLong_42 hP hD hS
  have keyB16 : ∀ (v1 : Int64) (v3 : Int32) (v4 : Int32) (s1 : Int64) (p0_left_size : Int32) (p0_left_limbs : (Nat → Int64)) (H : Heap) (locs : List Loc) (ls : Array Slot), f_X0_ofLong_B16 v1 v3 v4 s1 p0_left_size p0_left_limbs = some u → va_P D vwCl [(a_p0, .inr (2, [.ref a_p0_left, .ref a_p0_right])), (a_p0_left, .inr (5, [.ref a_p0_left_limbs, .int p0_left_size])), (a_p0_left_limbs, .inl (cJ, 160, .inr (.inl p0_left_limbs)))] H → va_D A [(a_p0, .inr (2, [.ref a_p0_left, .ref a_p0_right])), (a_p0_left, .inr (5, [.ref a_p0_left_limbs, .int p0_left_size])), (a_p0_left_limbs, .inl (cJ, 160, .inr (.inl p0_left_limbs)))] → va_S A s.heap H locs → lv_has ls 5 [(0, .ref a_p0), (1, .long v1), (3, .int v3), (4, .int v4)] → W p l e (rmz 4 101) s m ar below meth c H locs 0 0 Q (F0 m 16 ls [.long s1, .ref a_p0_left]) := by
    intro v1 v3 v4 s1 p0_left_size p0_left_limbs H locs ls hf hP hD hS hl
    unfold f_X0_ofLong_B16 at hf
    obtain ⟨u1, hu2, hf⟩ := bdE hf
    refine cV_V (ws' := [(a_p0, .inr (2, [.ref a_p0_left, .ref a_p0_right])), (a_p0_left, .inr (5, [.ref a_p0_left_limbs, .int u1.1])), (a_p0_left_limbs, .inl (cJ, 160, .inr (.inl u1.2)))]) (rest := []) S hK hN hA hP hD hS (c_X4_take l D cI cJ a_p0_left a_p0_left_limbs s1 p0_left_size p0_left_limbs u1 hu2) mwX4_take miX4_take kmX0_42 [1, 2] rfl (by decide) rfl rfl rfl 0 rfl rfl ⟨Nat.le_of_ble_eq_true rfl, Nat.le_of_ble_eq_true rfl⟩ ⟨Nat.zero_le _, Nat.zero_le _⟩ hl.1 rfl rfl (Nat.le_of_ble_eq_true rfl) dX0_ofLong_16 (fun H locs hP hD hS => ?_)
    refine lv_lload_n hx hb dX0_ofLong_19 rfl (lv_at hl 1 rfl) ?_
    refine lv_lconst (v := 0) hx hb dX0_ofLong_20 (by decide) ?_
    refine W.lcmp hx hb dX0_ofLong_21 ?_
    refine lv_if_ge (tgt := 29) hx hb dX0_ofLong_22 (by decide) (fun hc5 => ?_) (fun hc5 => ?_)
    · have hf := ifT hc5 hf
      refine lv_iconst (v := 0) hx hb dX0_ofLong_29 (by decide) ?_
      exact keyB30 v3 v4 (0 : Int32) u1.1 u1.2 H locs ls hf hP hD hS (lv_sub hl [0, 2, 3] rfl)
    · have hf := ifF hc5 hf
      refine lv_iconst (v := 1) hx hb dX0_ofLong_25 (by decide) ?_
      refine lv_goto (tgt := 30) hx hb dX0_ofLong_26 (by decide) ?_
      exact keyB30 v3 v4 (1 : Int32) u1.1 u1.2 H locs ls hf hP hD hS (lv_sub hl [0, 2, 3] rfl)
  unfold f_X0_ofLong at hf
  refine lv_aload_n hx hb dX0_ofLong_0 rfl (lv_at hl 0 rfl) ?_
  refine va_get (D := D) (ci := 2) (v := .ref a_p0_left) (C := RX0) (T := TX0) (N := 2) hx hb hts uwX0 hown hK hP 0 rfl rfl 0 (by decide) (hts _ kfX0_9) (fun _ h9 => h9) rfl dX0_ofLong_1 ?_
  refine lv_lload_n hx hb dX0_ofLong_4 rfl (lv_at hl 1 rfl) ?_
  refine lv_lconst (v := 0) hx hb dX0_ofLong_5 (by decide) ?_
  refine W.lcmp hx hb dX0_ofLong_6 ?_
  refine lv_if_ge (tgt := 15) hx hb dX0_ofLong_7 (by decide) (fun hc6 => ?_) (fun hc6 => ?_)
  · have hf := ifT hc6 hf
    refine lv_lload_n hx hb dX0_ofLong_15 rfl (lv_at hl 1 rfl) ?_
    exact keyB16 p1 p2 p3 p1 p0_left_size p0_left_limbs H locs ls hf hP hD hS (lv_sub hl [0, 1, 2, 3] rfl)
  · have hf := ifF hc6 hf
    refine lv_lload_n hx hb dX0_ofLong_10 rfl (lv_at hl 1 rfl) ?_
    refine lv_lneg hx hb dX0_ofLong_11 ?_
    refine lv_goto (tgt := 16) hx hb dX0_ofLong_12 (by decide) ?_
    exact keyB16 p1 p2 p3 (-p1) p0_left_size p0_left_limbs H locs ls hf hP hD hS (lv_sub hl [0, 1, 2, 3] rfl)
set_option maxRecDepth 100000 in
set_option maxHeartbeats 4000000 in
theorem c_J9_min_7cf53 (l : Launch) (D : va_G) (cI cJ : ClassId) (p0 : Int32) (p1 : Int32)  (u : Int32) (hf : f_J9_min_7cf53 p0 p1 = some u) : CtI l yJ9_min_7cf53 cJ9_min_7cf53 2 0 0 .int [.int p0, .int p1] D cI cJ [] [] u := by
  refine mkI (own := RJ9) rfl (by decide +kernel) (Nat.le_of_ble_eq_true rfl) (lv := [(0, .int p0), (1, .int p1)]) rfl ?_
  intro p e s m below meth c Q A ls ar S hA hK hN hret H locs hP hD hS hl
  obtain ⟨hx, hb, hml, hown, hts⟩ := id S
  have hret : ∀ (w : Int32), w = u → ∀ (H : Heap) (locs : List Loc) (ls : Array Slot) (pc : Nat), decode cJ9_min_7cf53 pc = .ok (.ireturn, 1) → va_P D vwCl [] H → va_D A [] → va_S A s.heap H locs → W p l e (rmz 0 0) s m ar below meth c H locs 0 0 Q (F0 m pc ls [.int w]) := fun w hw => hw ▸ hret
  unfold f_J9_min_7cf53 at hf
  refine lv_iload_n hx hb dJ9_min_7cf53_0 rfl (lv_at hl 0 rfl) ?_
  refine lv_iload_n hx hb dJ9_min_7cf53_1 rfl (lv_at hl 1 rfl) ?_
  refine lv_icmp_gt (tgt := 9) hx hb dJ9_min_7cf53_2 (by decide) (fun hc1 => ?_) (fun hc1 => ?_)
  · have hf := ifT hc1 hf
    refine lv_iload_n hx hb dJ9_min_7cf53_9 rfl (lv_at hl 1 rfl) ?_
    exact hret _ (opE hf) H locs ls 10 dJ9_min_7cf53_10 hP hD hS
  · have hf := ifF hc1 hf
    refine lv_iload_n hx hb dJ9_min_7cf53_5 rfl (lv_at hl 0 rfl) ?_
    refine lv_goto (tgt := 10) hx hb dJ9_min_7cf53_6 (by decide) ?_
    exact hret _ (opE hf) H locs ls 10 dJ9_min_7cf53_10 hP hD hS
set_option maxRecDepth 100000 in
set_option maxHeartbeats 4000000 in
theorem c_X4_comparedWith (l : Launch) (D : va_G) (cI cJ : ClassId) (a_p0 a_p0_limbs a_p1 a_p1_limbs : Nat) (p0_size : Int32) (p0_limbs : (Nat → Int64)) (p1_size : Int32) (p1_limbs : (Nat → Int64)) (u : Int32) (hf : f_X4_comparedWith p0_size p0_limbs p1_size p1_limbs = some u) : CtI l yX4_comparedWith cX4_comparedWith 3 0 0 .int [.ref a_p0, .ref a_p1] D cI cJ [(a_p0, .inr (5, [.ref a_p0_limbs, .int p0_size])), (a_p0_limbs, .inl (cJ, 160, .inr (.inl p0_limbs))), (a_p1, .inr (5, [.ref a_p1_limbs, .int p1_size])), (a_p1_limbs, .inl (cJ, 160, .inr (.inl p1_limbs)))] [(a_p0, .inr (5, [.ref a_p0_limbs, .int p0_size])), (a_p0_limbs, .inl (cJ, 160, .inr (.inl p0_limbs))), (a_p1, .inr (5, [.ref a_p1_limbs, .int p1_size])), (a_p1_limbs, .inl (cJ, 160, .inr (.inl p1_limbs)))] u := by
  refine mkI (own := RX4) rfl (by decide +kernel) (Nat.le_of_ble_eq_true rfl) (lv := [(0, .ref a_p0), (1, .ref a_p1)]) rfl ?_
  intro p e s m below meth c Q A ls ar S hA hK hN hret H locs hP hD hS hl
  obtain ⟨hx, hb, hml, hown, hts⟩ := id S
  have hret : ∀ (w : Int32), w = u → ∀ (H : Heap) (locs : List Loc) (ls : Array Slot) (pc : Nat), decode cX4_comparedWith pc = .ok (.ireturn, 1) → va_P D vwCl [(a_p0, .inr (5, [.ref a_p0_limbs, .int p0_size])), (a_p0_limbs, .inl (cJ, 160, .inr (.inl p0_limbs))), (a_p1, .inr (5, [.ref a_p1_limbs, .int p1_size])), (a_p1_limbs, .inl (cJ, 160, .inr (.inl p1_limbs)))] H → va_D A [(a_p0, .inr (5, [.ref a_p0_limbs, .int p0_size])), (a_p0_limbs, .inl (cJ, 160, .inr (.inl p0_limbs))), (a_p1, .inr (5, [.ref a_p1_limbs, .int p1_size])), (a_p1_limbs, .inl (cJ, 160, .inr (.inl p1_limbs)))] → va_S A s.heap H locs → W p l e (rmz 0 0) s m ar below meth c H locs 0 0 Q (F0 m pc ls [.int w]) := fun w hw => hw ▸ hret
  have keyB55 : ∀ (v2 : Int32) (H : Heap) (locs : List Loc) (ls : Array Slot), f_X4_comparedWith_B55 p0_size p0_limbs p1_size p1_limbs v2 = some u → va_P D vwCl [(a_p0, .inr (5, [.ref a_p0_limbs, .int p0_size])), (a_p0_limbs, .inl (cJ, 160, .inr (.inl p0_limbs))), (a_p1, .inr (5, [.ref a_p1_limbs, .int p1_size])), (a_p1_limbs, .inl (cJ, 160, .inr (.inl p1_limbs)))] H → va_D A [(a_p0, .inr (5, [.ref a_p0_limbs, .int p0_size])), (a_p0_limbs, .inl (cJ, 160, .inr (.inl p0_limbs))), (a_p1, .inr (5, [.ref a_p1_limbs, .int p1_size])), (a_p1_limbs, .inl (cJ, 160, .inr (.inl p1_limbs)))] → va_S A s.heap H locs → lv_has ls 3 [(0, .ref a_p0), (1, .ref a_p1), (2, .int v2)] → W p l e (rmz 0 0) s m ar below meth c H locs 0 0 Q (F0 m 55 ls []) := by
    intro v2 H locs ls hf hP hD hS hl
    unfold f_X4_comparedWith_B55 at hf
    refine lv_aload_n hx hb dX4_comparedWith_55 rfl (lv_at hl 0 rfl) ?_
    refine va_get (D := D) (ci := 5) (v := .ref a_p0_limbs) (C := RX4) (T := TX4) (N := 2) hx hb hts uwX4 hown hK hP 0 rfl rfl 0 (by decide) (hts _ kfX4_9) (fun _ h9 => h9) rfl dX4_comparedWith_56 ?_
    refine lv_iload_n hx hb dX4_comparedWith_59 rfl (lv_at hl 2 rfl) ?_
    obtain ⟨hi2, hf⟩ := gdE hf
    refine va_lald hx hb hK hP 1 1 rfl rfl hi2 dX4_comparedWith_60 ?_
    refine lv_aload_n hx hb dX4_comparedWith_61 rfl (lv_at hl 1 rfl) ?_
    refine va_get (D := D) (ci := 5) (v := .ref a_p1_limbs) (C := RX4) (T := TX4) (N := 2) hx hb hts uwX4 hown hK hP 2 rfl rfl 0 (by decide) (hts _ kfX4_9) (fun _ h9 => h9) rfl dX4_comparedWith_62 ?_
    refine lv_iload_n hx hb dX4_comparedWith_65 rfl (lv_at hl 2 rfl) ?_
    refine va_lald hx hb hK hP 3 1 rfl rfl hi2 dX4_comparedWith_66 ?_
    refine W.lcmp hx hb dX4_comparedWith_67 ?_
    refine lv_if_ge (tgt := 75) hx hb dX4_comparedWith_68 (by decide) (fun hc3 => ?_) (fun hc3 => ?_)
    · have hf := ifT hc3 hf
      refine lv_iconst (v := 1) hx hb dX4_comparedWith_75 (by decide) ?_
      exact hret _ (opE hf) H locs ls 76 dX4_comparedWith_76 hP hD hS
    · have hf := ifF hc3 hf
      refine lv_iconst (v := -1) hx hb dX4_comparedWith_71 (by decide) ?_
      refine lv_goto (tgt := 76) hx hb dX4_comparedWith_72 (by decide) ?_
      exact hret _ (opE hf) H locs ls 76 dX4_comparedWith_76 hP hD hS
  have keyL35 : ∀ (n : Nat) (v2 : Int32) (H : Heap) (locs : List Loc) (ls : Array Slot), f_X4_comparedWith_L35 p0_size p0_limbs p1_size p1_limbs n v2 = some u → va_P D vwCl [(a_p0, .inr (5, [.ref a_p0_limbs, .int p0_size])), (a_p0_limbs, .inl (cJ, 160, .inr (.inl p0_limbs))), (a_p1, .inr (5, [.ref a_p1_limbs, .int p1_size])), (a_p1_limbs, .inl (cJ, 160, .inr (.inl p1_limbs)))] H → va_D A [(a_p0, .inr (5, [.ref a_p0_limbs, .int p0_size])), (a_p0_limbs, .inl (cJ, 160, .inr (.inl p0_limbs))), (a_p1, .inr (5, [.ref a_p1_limbs, .int p1_size])), (a_p1_limbs, .inl (cJ, 160, .inr (.inl p1_limbs)))] → va_S A s.heap H locs → lv_has ls 3 [(0, .ref a_p0), (1, .ref a_p1), (2, .int v2)] → W p l e (rmz 0 0) s m ar below meth c H locs 0 0 Q (F0 m 35 ls []) := by
    intro n
    induction n with
      | zero =>
        intro v2 H locs ls hf
        cases hf
      | succ n ih =>
        intro v2 H locs ls hf hP hD hS hl
        rw [f_X4_comparedWith_L35] at hf
        refine lv_iload_n hx hb dX4_comparedWith_35 rfl (lv_at hl 2 rfl) ?_
        refine lv_if_lt (tgt := 83) hx hb dX4_comparedWith_36 (by decide) (fun hc5 => ?_) (fun hc5 => ?_)
        · have hf := ifT hc5 hf
          refine lv_iconst (v := 0) hx hb dX4_comparedWith_83 (by decide) ?_
          exact hret _ (opE hf) H locs ls 84 dX4_comparedWith_84 hP hD hS
        · have hf := ifF hc5 hf
          refine lv_aload_n hx hb dX4_comparedWith_39 rfl (lv_at hl 0 rfl) ?_
          refine va_get (D := D) (ci := 5) (v := .ref a_p0_limbs) (C := RX4) (T := TX4) (N := 2) hx hb hts uwX4 hown hK hP 0 rfl rfl 0 (by decide) (hts _ kfX4_9) (fun _ h9 => h9) rfl dX4_comparedWith_40 ?_
          refine lv_iload_n hx hb dX4_comparedWith_43 rfl (lv_at hl 2 rfl) ?_
          obtain ⟨hi1, hf⟩ := gdE hf
          refine va_lald hx hb hK hP 1 1 rfl rfl hi1 dX4_comparedWith_44 ?_
          refine lv_aload_n hx hb dX4_comparedWith_45 rfl (lv_at hl 1 rfl) ?_
          refine va_get (D := D) (ci := 5) (v := .ref a_p1_limbs) (C := RX4) (T := TX4) (N := 2) hx hb hts uwX4 hown hK hP 2 rfl rfl 0 (by decide) (hts _ kfX4_9) (fun _ h9 => h9) rfl dX4_comparedWith_46 ?_
          refine lv_iload_n hx hb dX4_comparedWith_49 rfl (lv_at hl 2 rfl) ?_
          refine va_lald hx hb hK hP 3 1 rfl rfl hi1 dX4_comparedWith_50 ?_
          refine W.lcmp hx hb dX4_comparedWith_51 ?_
          refine lv_if_eq (tgt := 77) hx hb dX4_comparedWith_52 (by decide) (fun hc4 => ?_) (fun hc4 => ?_)
          · have hf := ifT hc4 hf
            refine lv_iinc (v := v2 + (-1 : Int32)) (lv' := [(2, .int (v2 + (-1 : Int32))), (0, .ref a_p0), (1, .ref a_p1)]) hx hb dX4_comparedWith_77 hl (k := 2) rfl (by rfl) (by decide) rfl (fun ls hl => ?_)
            refine lv_goto (tgt := 35) hx hb dX4_comparedWith_80 (by decide) ?_
            exact ih (v2 + (-1 : Int32)) H locs ls hf hP hD hS (lv_sub hl [1, 2, 0] rfl)
          · have hf := ifF hc4 hf
            exact keyB55 v2 H locs ls hf hP hD hS (lv_sub hl [0, 1, 2] rfl)
  unfold f_X4_comparedWith at hf
  refine lv_aload_n hx hb dX4_comparedWith_0 rfl (lv_at hl 0 rfl) ?_
  refine va_get (D := D) (ci := 5) (v := .int p0_size) (C := RX4) (T := TX4) (N := 2) hx hb hts uwX4 hown hK hP 0 rfl rfl 1 (by decide) (hts _ kfX4_15) (fun _ h9 => h9) rfl dX4_comparedWith_1 ?_
  refine lv_aload_n hx hb dX4_comparedWith_4 rfl (lv_at hl 1 rfl) ?_
  refine va_get (D := D) (ci := 5) (v := .int p1_size) (C := RX4) (T := TX4) (N := 2) hx hb hts uwX4 hown hK hP 2 rfl rfl 1 (by decide) (hts _ kfX4_15) (fun _ h9 => h9) rfl dX4_comparedWith_5 ?_
  refine lv_icmp_eq (tgt := 28) hx hb dX4_comparedWith_8 (by decide) (fun hc7 => ?_) (fun hc7 => ?_)
  · have hf := ifT hc7 hf
    refine lv_aload_n hx hb dX4_comparedWith_28 rfl (lv_at hl 0 rfl) ?_
    refine va_get (D := D) (ci := 5) (v := .int p0_size) (C := RX4) (T := TX4) (N := 2) hx hb hts uwX4 hown hK hP 0 rfl rfl 1 (by decide) (hts _ kfX4_15) (fun _ h9 => h9) rfl dX4_comparedWith_29 ?_
    refine lv_iconst (v := 1) hx hb dX4_comparedWith_32 (by decide) ?_
    refine lv_isub hx hb dX4_comparedWith_33 ?_
    refine lv_istore_n (lv' := [(2, .int (p0_size - (1 : Int32))), (0, .ref a_p0), (1, .ref a_p1)]) hx hb dX4_comparedWith_34 rfl hl (by decide) rfl (fun ls hl => ?_)
    exact keyL35 FU (p0_size - (1 : Int32)) H locs ls hf hP hD hS (lv_sub hl [1, 2, 0] rfl)
  · have hf := ifF hc7 hf
    refine lv_aload_n hx hb dX4_comparedWith_11 rfl (lv_at hl 0 rfl) ?_
    refine va_get (D := D) (ci := 5) (v := .int p0_size) (C := RX4) (T := TX4) (N := 2) hx hb hts uwX4 hown hK hP 0 rfl rfl 1 (by decide) (hts _ kfX4_15) (fun _ h9 => h9) rfl dX4_comparedWith_12 ?_
    refine lv_aload_n hx hb dX4_comparedWith_15 rfl (lv_at hl 1 rfl) ?_
    refine va_get (D := D) (ci := 5) (v := .int p1_size) (C := RX4) (T := TX4) (N := 2) hx hb hts uwX4 hown hK hP 2 rfl rfl 1 (by decide) (hts _ kfX4_15) (fun _ h9 => h9) rfl dX4_comparedWith_16 ?_
    refine lv_icmp_ge (tgt := 26) hx hb dX4_comparedWith_19 (by decide) (fun hc6 => ?_) (fun hc6 => ?_)
    · have hf := ifT hc6 hf
      refine lv_iconst (v := 1) hx hb dX4_comparedWith_26 (by decide) ?_
      exact hret _ (opE hf) H locs ls 27 dX4_comparedWith_27 hP hD hS
    · have hf := ifF hc6 hf
      refine lv_iconst (v := -1) hx hb dX4_comparedWith_22 (by decide) ?_
      refine lv_goto (tgt := 27) hx hb dX4_comparedWith_23 (by decide) ?_
      exact hret _ (opE hf) H locs ls 27 dX4_comparedWith_27 hP hD hS
set_option maxRecDepth 100000 in
set_option maxHeartbeats 4000000 in
theorem c_X4_minus (l : Launch) (D : va_G) (cI cJ : ClassId) (a_p0 a_p0_limbs a_p1 a_p1_limbs : Nat) (p0_size : Int32) (p0_limbs : (Nat → Int64)) (p1_size : Int32) (p1_limbs : (Nat → Int64)) (u : Int32 × (Nat → Int64)) (hf : f_X4_minus p1_size p1_limbs p0_size p0_limbs = some u) : CtV l yX4_minus cX4_minus 5 1 21 [.ref a_p0, .ref a_p1] D cI cJ [(a_p0, .inr (5, [.ref a_p0_limbs, .int p0_size])), (a_p0_limbs, .inl (cJ, 160, .inr (.inl p0_limbs))), (a_p1, .inr (5, [.ref a_p1_limbs, .int p1_size])), (a_p1_limbs, .inl (cJ, 160, .inr (.inl p1_limbs)))] [(a_p0, .inr (5, [.ref a_p0_limbs, .int u.1])), (a_p0_limbs, .inl (cJ, 160, .inr (.inl u.2))), (a_p1, .inr (5, [.ref a_p1_limbs, .int p1_size])), (a_p1_limbs, .inl (cJ, 160, .inr (.inl p1_limbs)))] := by
  refine mkV (own := RX4) rfl (by decide +kernel) (Nat.le_of_ble_eq_true rfl) (lv := [(0, .ref a_p0), (1, .ref a_p1)]) rfl ?_
  intro p e s m below meth c Q A ls ar S hA hK hN hret H locs hP hD hS hl
  obtain ⟨hx, hb, hml, hown, hts⟩ := id S
  have hret : ∀ (w : Int32 × (Nat → Int64)), w = u → ∀ (H : Heap) (locs : List Loc) (ls : Array Slot) (pc : Nat), decode cX4_minus pc = .ok (.return_, 1) → va_P D vwCl [(a_p0, .inr (5, [.ref a_p0_limbs, .int w.1])), (a_p0_limbs, .inl (cJ, 160, .inr (.inl w.2))), (a_p1, .inr (5, [.ref a_p1_limbs, .int p1_size])), (a_p1_limbs, .inl (cJ, 160, .inr (.inl p1_limbs)))] H → va_D A [(a_p0, .inr (5, [.ref a_p0_limbs, .int w.1])), (a_p0_limbs, .inl (cJ, 160, .inr (.inl w.2))), (a_p1, .inr (5, [.ref a_p1_limbs, .int p1_size])), (a_p1_limbs, .inl (cJ, 160, .inr (.inl p1_limbs)))] → va_S A s.heap H locs → W p l e (rmz 1 21) s m ar below meth c H locs 0 0 Q (F0 m pc ls []) := fun w hw => hw ▸ hret
  have keyB54 : ∀ (p0_size : Int32) (p0_limbs : (Nat → Int64)) (H : Heap) (locs : List Loc) (ls : Array Slot), f_X4_minus_B54 p1_size p1_limbs p0_size p0_limbs = some u → va_P D vwCl [(a_p0, .inr (5, [.ref a_p0_limbs, .int p0_size])), (a_p0_limbs, .inl (cJ, 160, .inr (.inl p0_limbs))), (a_p1, .inr (5, [.ref a_p1_limbs, .int p1_size])), (a_p1_limbs, .inl (cJ, 160, .inr (.inl p1_limbs)))] H → va_D A [(a_p0, .inr (5, [.ref a_p0_limbs, .int p0_size])), (a_p0_limbs, .inl (cJ, 160, .inr (.inl p0_limbs))), (a_p1, .inr (5, [.ref a_p1_limbs, .int p1_size])), (a_p1_limbs, .inl (cJ, 160, .inr (.inl p1_limbs)))] → va_S A s.heap H locs → lv_has ls 5 [(0, .ref a_p0)] → W p l e (rmz 1 21) s m ar below meth c H locs 0 0 Q (F0 m 54 ls []) := by
    intro p0_size p0_limbs H locs ls hf hP hD hS hl
    unfold f_X4_minus_B54 at hf
    refine lv_aload_n hx hb dX4_minus_54 rfl (lv_at hl 0 rfl) ?_
    obtain ⟨u1, hu2, hf⟩ := bdE hf
    refine cV_V (ws' := [(a_p0, .inr (5, [.ref a_p0_limbs, .int u1])), (a_p0_limbs, .inl (cJ, 160, .inr (.inl p0_limbs))), (a_p1, .inr (5, [.ref a_p1_limbs, .int p1_size])), (a_p1_limbs, .inl (cJ, 160, .inr (.inl p1_limbs)))]) (rest := []) S hK hN hA hP hD hS (c_X4_trim l D cI cJ a_p0 a_p0_limbs  p0_size p0_limbs u1 hu2) mwX4_trim miX4_trim kmX4_19 [0, 1] rfl (by decide) rfl rfl rfl 0 rfl rfl ⟨Nat.le_of_ble_eq_true rfl, Nat.le_of_ble_eq_true rfl⟩ ⟨Nat.zero_le _, Nat.zero_le _⟩ hl.1 rfl rfl (Nat.le_of_ble_eq_true rfl) dX4_minus_55 (fun H locs hP hD hS => ?_)
    exact hret _ (opE hf) H locs ls 58 dX4_minus_58 hP hD hS
  have keyL5 : ∀ (n : Nat) (v2 : Int64) (v4 : Int32) (p0_size : Int32) (p0_limbs : (Nat → Int64)) (H : Heap) (locs : List Loc) (ls : Array Slot), f_X4_minus_L5 p1_size p1_limbs n v2 v4 p0_size p0_limbs = some u → va_P D vwCl [(a_p0, .inr (5, [.ref a_p0_limbs, .int p0_size])), (a_p0_limbs, .inl (cJ, 160, .inr (.inl p0_limbs))), (a_p1, .inr (5, [.ref a_p1_limbs, .int p1_size])), (a_p1_limbs, .inl (cJ, 160, .inr (.inl p1_limbs)))] H → va_D A [(a_p0, .inr (5, [.ref a_p0_limbs, .int p0_size])), (a_p0_limbs, .inl (cJ, 160, .inr (.inl p0_limbs))), (a_p1, .inr (5, [.ref a_p1_limbs, .int p1_size])), (a_p1_limbs, .inl (cJ, 160, .inr (.inl p1_limbs)))] → va_S A s.heap H locs → lv_has ls 5 [(0, .ref a_p0), (1, .ref a_p1), (2, .long v2), (4, .int v4)] → W p l e (rmz 1 21) s m ar below meth c H locs 0 0 Q (F0 m 5 ls []) := by
    intro n
    induction n with
      | zero =>
        intro v2 v4 p0_size p0_limbs H locs ls hf
        cases hf
      | succ n ih =>
        intro v2 v4 p0_size p0_limbs H locs ls hf hP hD hS hl
        rw [f_X4_minus_L5] at hf
        refine lv_iload hx hb dX4_minus_5 (lv_at hl 3 rfl) ?_
        refine lv_aload_n hx hb dX4_minus_7 rfl (lv_at hl 0 rfl) ?_
        refine va_get (D := D) (ci := 5) (v := .int p0_size) (C := RX4) (T := TX4) (N := 2) hx hb hts uwX4 hown hK hP 0 rfl rfl 1 (by decide) (hts _ kfX4_15) (fun _ h9 => h9) rfl dX4_minus_8 ?_
        refine lv_icmp_ge (tgt := 54) hx hb dX4_minus_11 (by decide) (fun hc6 => ?_) (fun hc6 => ?_)
        · have hf := ifT hc6 hf
          exact keyB54 p0_size p0_limbs H locs ls hf hP hD hS (lv_sub hl [0] rfl)
        · have hf := ifF hc6 hf
          refine lv_lload_n hx hb dX4_minus_14 rfl (lv_at hl 2 rfl) ?_
          refine lv_aload_n hx hb dX4_minus_15 rfl (lv_at hl 0 rfl) ?_
          refine va_get (D := D) (ci := 5) (v := .ref a_p0_limbs) (C := RX4) (T := TX4) (N := 2) hx hb hts uwX4 hown hK hP 0 rfl rfl 0 (by decide) (hts _ kfX4_9) (fun _ h9 => h9) rfl dX4_minus_16 ?_
          refine lv_iload hx hb dX4_minus_19 (lv_at hl 3 rfl) ?_
          obtain ⟨hi3, hf⟩ := gdE hf
          refine va_lald hx hb hK hP 1 1 rfl rfl hi3 dX4_minus_21 ?_
          refine lv_aload_n hx hb dX4_minus_22 rfl (lv_at hl 1 rfl) ?_
          refine lv_iload hx hb dX4_minus_23 (lv_at hl 3 rfl) ?_
          obtain ⟨u4, hu5, hf⟩ := bdE hf
          refine cV_L (ws' := [(a_p0, .inr (5, [.ref a_p0_limbs, .int p0_size])), (a_p0_limbs, .inl (cJ, 160, .inr (.inl p0_limbs))), (a_p1, .inr (5, [.ref a_p1_limbs, .int p1_size])), (a_p1_limbs, .inl (cJ, 160, .inr (.inl p1_limbs)))]) (rest := [.long (p0_limbs v4.toNatClampNeg), .long v2]) S hK hN hA hP hD hS (c_X4_limb l D cI cJ a_p1 a_p1_limbs v4 p1_size p1_limbs u4 hu5) mwX4_limb miX4_limb kmX4_30 [2, 3] rfl (by decide) rfl rfl rfl 0 rfl rfl ⟨Nat.le_of_ble_eq_true rfl, Nat.le_of_ble_eq_true rfl⟩ ⟨Nat.zero_le _, Nat.zero_le _⟩ hl.1 rfl rfl (Nat.le_of_ble_eq_true rfl) dX4_minus_25 (fun H locs hP hD hS => ?_)
          refine lv_lsub hx hb dX4_minus_28 ?_
          refine lv_ladd hx hb dX4_minus_29 ?_
          refine lv_lstore_n (lv' := [(2, .long (v2 + ((p0_limbs v4.toNatClampNeg) - u4))), (0, .ref a_p0), (1, .ref a_p1), (4, .int v4)]) hx hb dX4_minus_30 rfl hl (by decide) rfl (fun ls hl => ?_)
          refine lv_aload_n hx hb dX4_minus_31 rfl (lv_at hl 1 rfl) ?_
          refine va_get (D := D) (ci := 5) (v := .ref a_p0_limbs) (C := RX4) (T := TX4) (N := 2) hx hb hts uwX4 hown hK hP 0 rfl rfl 0 (by decide) (hts _ kfX4_9) (fun _ h9 => h9) rfl dX4_minus_32 ?_
          refine lv_iload hx hb dX4_minus_35 (lv_at hl 3 rfl) ?_
          refine lv_lload_n hx hb dX4_minus_37 rfl (lv_at hl 0 rfl) ?_
          refine lv_ldc2 hx hb hown (hts _ kcX4_13) dX4_minus_38 ?_
          refine lv_land hx hb dX4_minus_41 ?_
          refine va_last hx hb hK hP hD hS 1 1 rfl rfl hi3 dX4_minus_42 (fun H locs hP hD hS => ?_)
          have hP : va_P D vwCl [(a_p0, .inr (5, [.ref a_p0_limbs, .int p0_size])), (a_p0_limbs, .inl (cJ, 160, .inr (.inl (vp_updL p0_limbs v4.toNatClampNeg ((v2 + ((p0_limbs v4.toNatClampNeg) - u4)) &&& (4294967295 : Int64)))))), (a_p1, .inr (5, [.ref a_p1_limbs, .int p1_size])), (a_p1_limbs, .inl (cJ, 160, .inr (.inl p1_limbs)))] H := hP
          have hD : va_D A [(a_p0, .inr (5, [.ref a_p0_limbs, .int p0_size])), (a_p0_limbs, .inl (cJ, 160, .inr (.inl (vp_updL p0_limbs v4.toNatClampNeg ((v2 + ((p0_limbs v4.toNatClampNeg) - u4)) &&& (4294967295 : Int64)))))), (a_p1, .inr (5, [.ref a_p1_limbs, .int p1_size])), (a_p1_limbs, .inl (cJ, 160, .inr (.inl p1_limbs)))] := hD
          refine lv_lload_n hx hb dX4_minus_43 rfl (lv_at hl 0 rfl) ?_
          refine lv_bipush (v := 32) hx hb dX4_minus_44 (by decide) ?_
          refine lv_lshr (v := lsr (v2 + ((p0_limbs v4.toNatClampNeg) - u4)) (32 : Int32)) hx hb dX4_minus_46 rfl ?_
          refine lv_lstore_n (lv' := [(2, .long (lsr (v2 + ((p0_limbs v4.toNatClampNeg) - u4)) (32 : Int32))), (0, .ref a_p0), (1, .ref a_p1), (4, .int v4)]) hx hb dX4_minus_47 rfl hl (by decide) rfl (fun ls hl => ?_)
          refine lv_iinc (v := v4 + (1 : Int32)) (lv' := [(4, .int (v4 + (1 : Int32))), (2, .long (lsr (v2 + ((p0_limbs v4.toNatClampNeg) - u4)) (32 : Int32))), (0, .ref a_p0), (1, .ref a_p1)]) hx hb dX4_minus_48 hl (k := 3) rfl (by rfl) (by decide) rfl (fun ls hl => ?_)
          refine lv_goto (tgt := 5) hx hb dX4_minus_51 (by decide) ?_
          exact ih (lsr (v2 + ((p0_limbs v4.toNatClampNeg) - u4)) (32 : Int32)) (v4 + (1 : Int32)) p0_size (vp_updL p0_limbs v4.toNatClampNeg ((v2 + ((p0_limbs v4.toNatClampNeg) - u4)) &&& (4294967295 : Int64))) H locs ls hf hP hD hS (lv_sub hl [2, 3, 1, 0] rfl)
  unfold f_X4_minus at hf
  refine lv_lconst (v := 0) hx hb dX4_minus_0 (by decide) ?_
  refine lv_lstore_n (lv' := [(2, .long (0 : Int64)), (0, .ref a_p0), (1, .ref a_p1)]) hx hb dX4_minus_1 rfl hl (by decide) rfl (fun ls hl => ?_)
  refine lv_iconst (v := 0) hx hb dX4_minus_2 (by decide) ?_
  refine lv_istore (lv' := [(4, .int (0 : Int32)), (2, .long (0 : Int64)), (0, .ref a_p0), (1, .ref a_p1)]) hx hb dX4_minus_3 hl (by decide) rfl (fun ls hl => ?_)
  exact keyL5 FU (0 : Int64) (0 : Int32) p0_size p0_limbs H locs ls hf hP hD hS (lv_sub hl [2, 3, 1, 0] rfl)
set_option maxRecDepth 100000 in
set_option maxHeartbeats 4000000 in
theorem c_X4_plus (l : Launch) (D : va_G) (cI cJ : ClassId) (a_p0 a_p0_limbs a_p1 a_p1_limbs : Nat) (p0_size : Int32) (p0_limbs : (Nat → Int64)) (p1_size : Int32) (p1_limbs : (Nat → Int64)) (u : Int32 × (Nat → Int64)) (hf : f_X4_plus p1_size p1_limbs p0_size p0_limbs = some u) : CtV l yX4_plus cX4_plus 6 1 21 [.ref a_p0, .ref a_p1] D cI cJ [(a_p0, .inr (5, [.ref a_p0_limbs, .int p0_size])), (a_p0_limbs, .inl (cJ, 160, .inr (.inl p0_limbs))), (a_p1, .inr (5, [.ref a_p1_limbs, .int p1_size])), (a_p1_limbs, .inl (cJ, 160, .inr (.inl p1_limbs)))] [(a_p0, .inr (5, [.ref a_p0_limbs, .int u.1])), (a_p0_limbs, .inl (cJ, 160, .inr (.inl u.2))), (a_p1, .inr (5, [.ref a_p1_limbs, .int p1_size])), (a_p1_limbs, .inl (cJ, 160, .inr (.inl p1_limbs)))] := by
  refine mkV (own := RX4) rfl (by decide +kernel) (Nat.le_of_ble_eq_true rfl) (lv := [(0, .ref a_p0), (1, .ref a_p1)]) rfl ?_
  intro p e s m below meth c Q A ls ar S hA hK hN hret H locs hP hD hS hl
  obtain ⟨hx, hb, hml, hown, hts⟩ := id S
  have hret : ∀ (w : Int32 × (Nat → Int64)), w = u → ∀ (H : Heap) (locs : List Loc) (ls : Array Slot) (pc : Nat), decode cX4_plus pc = .ok (.return_, 1) → va_P D vwCl [(a_p0, .inr (5, [.ref a_p0_limbs, .int w.1])), (a_p0_limbs, .inl (cJ, 160, .inr (.inl w.2))), (a_p1, .inr (5, [.ref a_p1_limbs, .int p1_size])), (a_p1_limbs, .inl (cJ, 160, .inr (.inl p1_limbs)))] H → va_D A [(a_p0, .inr (5, [.ref a_p0_limbs, .int w.1])), (a_p0_limbs, .inl (cJ, 160, .inr (.inl w.2))), (a_p1, .inr (5, [.ref a_p1_limbs, .int p1_size])), (a_p1_limbs, .inl (cJ, 160, .inr (.inl p1_limbs)))] → va_S A s.heap H locs → W p l e (rmz 1 21) s m ar below meth c H locs 0 0 Q (F0 m pc ls []) := fun w hw => hw ▸ hret
  have keyB62 : ∀ (v2 : Int32) (v3 : Int64) (p0_size : Int32) (p0_limbs : (Nat → Int64)) (H : Heap) (locs : List Loc) (ls : Array Slot), f_X4_plus_B62 p1_size p1_limbs v2 v3 p0_size p0_limbs = some u → va_P D vwCl [(a_p0, .inr (5, [.ref a_p0_limbs, .int p0_size])), (a_p0_limbs, .inl (cJ, 160, .inr (.inl p0_limbs))), (a_p1, .inr (5, [.ref a_p1_limbs, .int p1_size])), (a_p1_limbs, .inl (cJ, 160, .inr (.inl p1_limbs)))] H → va_D A [(a_p0, .inr (5, [.ref a_p0_limbs, .int p0_size])), (a_p0_limbs, .inl (cJ, 160, .inr (.inl p0_limbs))), (a_p1, .inr (5, [.ref a_p1_limbs, .int p1_size])), (a_p1_limbs, .inl (cJ, 160, .inr (.inl p1_limbs)))] → va_S A s.heap H locs → lv_has ls 6 [(0, .ref a_p0), (2, .int v2), (3, .long v3)] → W p l e (rmz 1 21) s m ar below meth c H locs 0 0 Q (F0 m 62 ls []) := by
    intro v2 v3 p0_size p0_limbs H locs ls hf hP hD hS hl
    unfold f_X4_plus_B62 at hf
    refine lv_aload_n hx hb dX4_plus_62 rfl (lv_at hl 0 rfl) ?_
    refine lv_iload_n hx hb dX4_plus_63 rfl (lv_at hl 1 rfl) ?_
    refine va_put (D := D) (ci := 5) (v := .int v2) (ty := tyX4 1) (C := RX4) (T := TX4) (N := 2) hx hb hts uwX4 tyX4 tyX4_ok nmX4 hown hK hP hD hS 0 rfl rfl 1 (by decide) (hts _ kfX4_15) (fun _ h9 => h9) rfl (tyX4_ok 1 (by decide)) rfl rfl (Nat.le_of_ble_eq_true rfl) dX4_plus_64 (fun H locs hP hD hS => ?_)
    have hP : va_P D vwCl [(a_p0, .inr (5, [.ref a_p0_limbs, .int v2])), (a_p0_limbs, .inl (cJ, 160, .inr (.inl p0_limbs))), (a_p1, .inr (5, [.ref a_p1_limbs, .int p1_size])), (a_p1_limbs, .inl (cJ, 160, .inr (.inl p1_limbs)))] H := hP
    have hD : va_D A [(a_p0, .inr (5, [.ref a_p0_limbs, .int v2])), (a_p0_limbs, .inl (cJ, 160, .inr (.inl p0_limbs))), (a_p1, .inr (5, [.ref a_p1_limbs, .int p1_size])), (a_p1_limbs, .inl (cJ, 160, .inr (.inl p1_limbs)))] := hD
    refine lv_lload_n hx hb dX4_plus_67 rfl (lv_at hl 2 rfl) ?_
    refine lv_lconst (v := 0) hx hb dX4_plus_68 (by decide) ?_
    refine W.lcmp hx hb dX4_plus_69 ?_
    refine lv_if_eq (tgt := 103) hx hb dX4_plus_70 (by decide) (fun hc5 => ?_) (fun hc5 => ?_)
    · have hf := ifT hc5 hf
      exact hret _ (opE hf) H locs ls 103 dX4_plus_103 hP hD hS
    · have hf := ifF hc5 hf
      refine lv_aload_n hx hb dX4_plus_73 rfl (lv_at hl 0 rfl) ?_
      refine va_get (D := D) (ci := 5) (v := .int v2) (C := RX4) (T := TX4) (N := 2) hx hb hts uwX4 hown hK hP 0 rfl rfl 1 (by decide) (hts _ kfX4_15) (fun _ h9 => h9) rfl dX4_plus_74 ?_
      refine lv_sipush (v := 160) hx hb dX4_plus_77 (by decide) ?_
      refine lv_icmp_ge (tgt := 103) hx hb dX4_plus_80 (by decide) (fun hc4 => ?_) (fun hc4 => ?_)
      · have hf := ifT hc4 hf
        exact hret _ (opE hf) H locs ls 103 dX4_plus_103 hP hD hS
      · have hf := ifF hc4 hf
        refine lv_aload_n hx hb dX4_plus_83 rfl (lv_at hl 0 rfl) ?_
        refine va_get (D := D) (ci := 5) (v := .ref a_p0_limbs) (C := RX4) (T := TX4) (N := 2) hx hb hts uwX4 hown hK hP 0 rfl rfl 0 (by decide) (hts _ kfX4_9) (fun _ h9 => h9) rfl dX4_plus_84 ?_
        refine lv_aload_n hx hb dX4_plus_87 rfl (lv_at hl 0 rfl) ?_
        refine va_get (D := D) (ci := 5) (v := .int v2) (C := RX4) (T := TX4) (N := 2) hx hb hts uwX4 hown hK hP 0 rfl rfl 1 (by decide) (hts _ kfX4_15) (fun _ h9 => h9) rfl dX4_plus_88 ?_
        refine lv_lload_n hx hb dX4_plus_91 rfl (lv_at hl 2 rfl) ?_
        obtain ⟨hi3, hf⟩ := gdE hf
        refine va_last hx hb hK hP hD hS 1 1 rfl rfl hi3 dX4_plus_92 (fun H locs hP hD hS => ?_)
        have hP : va_P D vwCl [(a_p0, .inr (5, [.ref a_p0_limbs, .int v2])), (a_p0_limbs, .inl (cJ, 160, .inr (.inl (vp_updL p0_limbs v2.toNatClampNeg v3)))), (a_p1, .inr (5, [.ref a_p1_limbs, .int p1_size])), (a_p1_limbs, .inl (cJ, 160, .inr (.inl p1_limbs)))] H := hP
        have hD : va_D A [(a_p0, .inr (5, [.ref a_p0_limbs, .int v2])), (a_p0_limbs, .inl (cJ, 160, .inr (.inl (vp_updL p0_limbs v2.toNatClampNeg v3)))), (a_p1, .inr (5, [.ref a_p1_limbs, .int p1_size])), (a_p1_limbs, .inl (cJ, 160, .inr (.inl p1_limbs)))] := hD
        refine lv_aload_n hx hb dX4_plus_93 rfl (lv_at hl 0 rfl) ?_
        refine lv_dup hx hb dX4_plus_94 rfl ?_
        refine va_get (D := D) (ci := 5) (v := .int v2) (C := RX4) (T := TX4) (N := 2) hx hb hts uwX4 hown hK hP 0 rfl rfl 1 (by decide) (hts _ kfX4_15) (fun _ h9 => h9) rfl dX4_plus_95 ?_
        refine lv_iconst (v := 1) hx hb dX4_plus_98 (by decide) ?_
        refine lv_iadd hx hb dX4_plus_99 ?_
        refine va_put (D := D) (ci := 5) (v := .int (v2 + (1 : Int32))) (ty := tyX4 1) (C := RX4) (T := TX4) (N := 2) hx hb hts uwX4 tyX4 tyX4_ok nmX4 hown hK hP hD hS 0 rfl rfl 1 (by decide) (hts _ kfX4_15) (fun _ h9 => h9) rfl (tyX4_ok 1 (by decide)) rfl rfl (Nat.le_of_ble_eq_true rfl) dX4_plus_100 (fun H locs hP hD hS => ?_)
        have hP : va_P D vwCl [(a_p0, .inr (5, [.ref a_p0_limbs, .int (v2 + (1 : Int32))])), (a_p0_limbs, .inl (cJ, 160, .inr (.inl (vp_updL p0_limbs v2.toNatClampNeg v3)))), (a_p1, .inr (5, [.ref a_p1_limbs, .int p1_size])), (a_p1_limbs, .inl (cJ, 160, .inr (.inl p1_limbs)))] H := hP
        have hD : va_D A [(a_p0, .inr (5, [.ref a_p0_limbs, .int (v2 + (1 : Int32))])), (a_p0_limbs, .inl (cJ, 160, .inr (.inl (vp_updL p0_limbs v2.toNatClampNeg v3)))), (a_p1, .inr (5, [.ref a_p1_limbs, .int p1_size])), (a_p1_limbs, .inl (cJ, 160, .inr (.inl p1_limbs)))] := hD
        exact hret _ (opE hf) H locs ls 103 dX4_plus_103 hP hD hS
  have keyL17 : ∀ (n : Nat) (v2 : Int32) (v3 : Int64) (v5 : Int32) (p0_size : Int32) (p0_limbs : (Nat → Int64)) (H : Heap) (locs : List Loc) (ls : Array Slot), f_X4_plus_L17 p1_size p1_limbs n v2 v3 v5 p0_size p0_limbs = some u → va_P D vwCl [(a_p0, .inr (5, [.ref a_p0_limbs, .int p0_size])), (a_p0_limbs, .inl (cJ, 160, .inr (.inl p0_limbs))), (a_p1, .inr (5, [.ref a_p1_limbs, .int p1_size])), (a_p1_limbs, .inl (cJ, 160, .inr (.inl p1_limbs)))] H → va_D A [(a_p0, .inr (5, [.ref a_p0_limbs, .int p0_size])), (a_p0_limbs, .inl (cJ, 160, .inr (.inl p0_limbs))), (a_p1, .inr (5, [.ref a_p1_limbs, .int p1_size])), (a_p1_limbs, .inl (cJ, 160, .inr (.inl p1_limbs)))] → va_S A s.heap H locs → lv_has ls 6 [(0, .ref a_p0), (1, .ref a_p1), (2, .int v2), (3, .long v3), (5, .int v5)] → W p l e (rmz 1 21) s m ar below meth c H locs 0 0 Q (F0 m 17 ls []) := by
    intro n
    induction n with
      | zero =>
        intro v2 v3 v5 p0_size p0_limbs H locs ls hf
        cases hf
      | succ n ih =>
        intro v2 v3 v5 p0_size p0_limbs H locs ls hf hP hD hS hl
        rw [f_X4_plus_L17] at hf
        refine lv_iload hx hb dX4_plus_17 (lv_at hl 4 rfl) ?_
        refine lv_iload_n hx hb dX4_plus_19 rfl (lv_at hl 2 rfl) ?_
        refine lv_icmp_ge (tgt := 62) hx hb dX4_plus_20 (by decide) (fun hc11 => ?_) (fun hc11 => ?_)
        · have hf := ifT hc11 hf
          exact keyB62 v2 v3 p0_size p0_limbs H locs ls hf hP hD hS (lv_sub hl [0, 2, 3] rfl)
        · have hf := ifF hc11 hf
          refine lv_lload_n hx hb dX4_plus_23 rfl (lv_at hl 3 rfl) ?_
          refine lv_aload_n hx hb dX4_plus_24 rfl (lv_at hl 0 rfl) ?_
          refine lv_iload hx hb dX4_plus_25 (lv_at hl 4 rfl) ?_
          obtain ⟨u6, hu7, hf⟩ := bdE hf
          refine cV_L (ws' := [(a_p0, .inr (5, [.ref a_p0_limbs, .int p0_size])), (a_p0_limbs, .inl (cJ, 160, .inr (.inl p0_limbs))), (a_p1, .inr (5, [.ref a_p1_limbs, .int p1_size])), (a_p1_limbs, .inl (cJ, 160, .inr (.inl p1_limbs)))]) (rest := [.long v3]) S hK hN hA hP hD hS (c_X4_limb l D cI cJ a_p0 a_p0_limbs v5 p0_size p0_limbs u6 hu7) mwX4_limb miX4_limb kmX4_30 [0, 1] rfl (by decide) rfl rfl rfl 0 rfl rfl ⟨Nat.le_of_ble_eq_true rfl, Nat.le_of_ble_eq_true rfl⟩ ⟨Nat.zero_le _, Nat.zero_le _⟩ hl.1 rfl rfl (Nat.le_of_ble_eq_true rfl) dX4_plus_27 (fun H locs hP hD hS => ?_)
          refine lv_aload_n hx hb dX4_plus_30 rfl (lv_at hl 1 rfl) ?_
          refine lv_iload hx hb dX4_plus_31 (lv_at hl 4 rfl) ?_
          obtain ⟨u8, hu9, hf⟩ := bdE hf
          refine cV_L (ws' := [(a_p0, .inr (5, [.ref a_p0_limbs, .int p0_size])), (a_p0_limbs, .inl (cJ, 160, .inr (.inl p0_limbs))), (a_p1, .inr (5, [.ref a_p1_limbs, .int p1_size])), (a_p1_limbs, .inl (cJ, 160, .inr (.inl p1_limbs)))]) (rest := [.long u6, .long v3]) S hK hN hA hP hD hS (c_X4_limb l D cI cJ a_p1 a_p1_limbs v5 p1_size p1_limbs u8 hu9) mwX4_limb miX4_limb kmX4_30 [2, 3] rfl (by decide) rfl rfl rfl 0 rfl rfl ⟨Nat.le_of_ble_eq_true rfl, Nat.le_of_ble_eq_true rfl⟩ ⟨Nat.zero_le _, Nat.zero_le _⟩ hl.1 rfl rfl (Nat.le_of_ble_eq_true rfl) dX4_plus_33 (fun H locs hP hD hS => ?_)
          refine lv_ladd hx hb dX4_plus_36 ?_
          refine lv_ladd hx hb dX4_plus_37 ?_
          refine lv_lstore_n (lv' := [(3, .long (v3 + (u6 + u8))), (0, .ref a_p0), (1, .ref a_p1), (2, .int v2), (5, .int v5)]) hx hb dX4_plus_38 rfl hl (by decide) rfl (fun ls hl => ?_)
          refine lv_aload_n hx hb dX4_plus_39 rfl (lv_at hl 1 rfl) ?_
          refine va_get (D := D) (ci := 5) (v := .ref a_p0_limbs) (C := RX4) (T := TX4) (N := 2) hx hb hts uwX4 hown hK hP 0 rfl rfl 0 (by decide) (hts _ kfX4_9) (fun _ h9 => h9) rfl dX4_plus_40 ?_
          refine lv_iload hx hb dX4_plus_43 (lv_at hl 4 rfl) ?_
          refine lv_lload_n hx hb dX4_plus_45 rfl (lv_at hl 0 rfl) ?_
          refine lv_ldc2 hx hb hown (hts _ kcX4_13) dX4_plus_46 ?_
          refine lv_land hx hb dX4_plus_49 ?_
          obtain ⟨hi10, hf⟩ := gdE hf
          refine va_last hx hb hK hP hD hS 1 1 rfl rfl hi10 dX4_plus_50 (fun H locs hP hD hS => ?_)
          have hP : va_P D vwCl [(a_p0, .inr (5, [.ref a_p0_limbs, .int p0_size])), (a_p0_limbs, .inl (cJ, 160, .inr (.inl (vp_updL p0_limbs v5.toNatClampNeg ((v3 + (u6 + u8)) &&& (4294967295 : Int64)))))), (a_p1, .inr (5, [.ref a_p1_limbs, .int p1_size])), (a_p1_limbs, .inl (cJ, 160, .inr (.inl p1_limbs)))] H := hP
          have hD : va_D A [(a_p0, .inr (5, [.ref a_p0_limbs, .int p0_size])), (a_p0_limbs, .inl (cJ, 160, .inr (.inl (vp_updL p0_limbs v5.toNatClampNeg ((v3 + (u6 + u8)) &&& (4294967295 : Int64)))))), (a_p1, .inr (5, [.ref a_p1_limbs, .int p1_size])), (a_p1_limbs, .inl (cJ, 160, .inr (.inl p1_limbs)))] := hD
          refine lv_lload_n hx hb dX4_plus_51 rfl (lv_at hl 0 rfl) ?_
          refine lv_bipush (v := 32) hx hb dX4_plus_52 (by decide) ?_
          refine lv_lushr (v := lus (v3 + (u6 + u8)) (32 : Int32)) hx hb dX4_plus_54 rfl ?_
          refine lv_lstore_n (lv' := [(3, .long (lus (v3 + (u6 + u8)) (32 : Int32))), (0, .ref a_p0), (1, .ref a_p1), (2, .int v2), (5, .int v5)]) hx hb dX4_plus_55 rfl hl (by decide) rfl (fun ls hl => ?_)
          refine lv_iinc (v := v5 + (1 : Int32)) (lv' := [(5, .int (v5 + (1 : Int32))), (3, .long (lus (v3 + (u6 + u8)) (32 : Int32))), (0, .ref a_p0), (1, .ref a_p1), (2, .int v2)]) hx hb dX4_plus_56 hl (k := 4) rfl (by rfl) (by decide) rfl (fun ls hl => ?_)
          refine lv_goto (tgt := 17) hx hb dX4_plus_59 (by decide) ?_
          exact ih v2 (lus (v3 + (u6 + u8)) (32 : Int32)) (v5 + (1 : Int32)) p0_size (vp_updL p0_limbs v5.toNatClampNeg ((v3 + (u6 + u8)) &&& (4294967295 : Int64))) H locs ls hf hP hD hS (lv_sub hl [2, 3, 4, 1, 0] rfl)
  unfold f_X4_plus at hf
  refine lv_aload_n hx hb dX4_plus_0 rfl (lv_at hl 0 rfl) ?_
  refine va_get (D := D) (ci := 5) (v := .int p0_size) (C := RX4) (T := TX4) (N := 2) hx hb hts uwX4 hown hK hP 0 rfl rfl 1 (by decide) (hts _ kfX4_15) (fun _ h9 => h9) rfl dX4_plus_1 ?_
  refine lv_aload_n hx hb dX4_plus_4 rfl (lv_at hl 1 rfl) ?_
  refine va_get (D := D) (ci := 5) (v := .int p1_size) (C := RX4) (T := TX4) (N := 2) hx hb hts uwX4 hown hK hP 2 rfl rfl 1 (by decide) (hts _ kfX4_15) (fun _ h9 => h9) rfl dX4_plus_5 ?_
  obtain ⟨u1, hu2, hf⟩ := bdE hf
  refine cS_I (ws' := [(a_p0, .inr (5, [.ref a_p0_limbs, .int p0_size])), (a_p0_limbs, .inl (cJ, 160, .inr (.inl p0_limbs))), (a_p1, .inr (5, [.ref a_p1_limbs, .int p1_size])), (a_p1_limbs, .inl (cJ, 160, .inr (.inl p1_limbs)))]) (rest := []) S hK hN hA hP hD hS (c_J9_max_7cf53 l D cI cJ  p0_size p1_size  u1 hu2) mwJ9_max_7cf53 msJ9_max_7cf53 kmX4_34 [] rfl (by decide) rfl rfl rfl ⟨Nat.le_of_ble_eq_true rfl, Nat.le_of_ble_eq_true rfl⟩ ⟨Nat.zero_le _, Nat.zero_le _⟩ hl.1 rfl rfl (Nat.le_of_ble_eq_true rfl) dX4_plus_8 (fun H locs hP hD hS => ?_)
  refine lv_istore_n (lv' := [(2, .int u1), (0, .ref a_p0), (1, .ref a_p1)]) hx hb dX4_plus_11 rfl hl (by decide) rfl (fun ls hl => ?_)
  refine lv_lconst (v := 0) hx hb dX4_plus_12 (by decide) ?_
  refine lv_lstore_n (lv' := [(3, .long (0 : Int64)), (2, .int u1), (0, .ref a_p0), (1, .ref a_p1)]) hx hb dX4_plus_13 rfl hl (by decide) rfl (fun ls hl => ?_)
  refine lv_iconst (v := 0) hx hb dX4_plus_14 (by decide) ?_
  refine lv_istore (lv' := [(5, .int (0 : Int32)), (3, .long (0 : Int64)), (2, .int u1), (0, .ref a_p0), (1, .ref a_p1)]) hx hb dX4_plus_15 hl (by decide) rfl (fun ls hl => ?_)
  exact keyL17 FU u1 (0 : Int64) (0 : Int32) p0_size p0_limbs H locs ls hf hP hD hS (lv_sub hl [3, 4, 2, 1, 0] rfl)
set_option maxRecDepth 100000 in
set_option maxHeartbeats 4000000 in
theorem c_X4_shiftUp (l : Launch) (D : va_G) (cI cJ : ClassId) (a_p0 a_p0_limbs : Nat) (p1 : Int32) (p0_size : Int32) (p0_limbs : (Nat → Int64)) (u : Int32 × (Nat → Int64)) (hf : f_X4_shiftUp p1 p0_size p0_limbs = some u) : CtV l yX4_shiftUp cX4_shiftUp 5 1 21 [.ref a_p0, .int p1] D cI cJ [(a_p0, .inr (5, [.ref a_p0_limbs, .int p0_size])), (a_p0_limbs, .inl (cJ, 160, .inr (.inl p0_limbs)))] [(a_p0, .inr (5, [.ref a_p0_limbs, .int u.1])), (a_p0_limbs, .inl (cJ, 160, .inr (.inl u.2)))] := by
  refine mkV (own := RX4) rfl (by decide +kernel) (Nat.le_of_ble_eq_true rfl) (lv := [(0, .ref a_p0), (1, .int p1)]) rfl ?_
  intro p e s m below meth c Q A ls ar S hA hK hN hret H locs hP hD hS hl
  obtain ⟨hx, hb, hml, hown, hts⟩ := id S
  have hret : ∀ (w : Int32 × (Nat → Int64)), w = u → ∀ (H : Heap) (locs : List Loc) (ls : Array Slot) (pc : Nat), decode cX4_shiftUp pc = .ok (.return_, 1) → va_P D vwCl [(a_p0, .inr (5, [.ref a_p0_limbs, .int w.1])), (a_p0_limbs, .inl (cJ, 160, .inr (.inl w.2)))] H → va_D A [(a_p0, .inr (5, [.ref a_p0_limbs, .int w.1])), (a_p0_limbs, .inl (cJ, 160, .inr (.inl w.2)))] → va_S A s.heap H locs → W p l e (rmz 1 21) s m ar below meth c H locs 0 0 Q (F0 m pc ls []) := fun w hw => hw ▸ hret
  have keyB108 : ∀ (v2 : Int32) (p0_size : Int32) (p0_limbs : (Nat → Int64)) (H : Heap) (locs : List Loc) (ls : Array Slot), f_X4_shiftUp_B108 v2 p0_size p0_limbs = some u → va_P D vwCl [(a_p0, .inr (5, [.ref a_p0_limbs, .int p0_size])), (a_p0_limbs, .inl (cJ, 160, .inr (.inl p0_limbs)))] H → va_D A [(a_p0, .inr (5, [.ref a_p0_limbs, .int p0_size])), (a_p0_limbs, .inl (cJ, 160, .inr (.inl p0_limbs)))] → va_S A s.heap H locs → lv_has ls 5 [(0, .ref a_p0), (2, .int v2)] → W p l e (rmz 1 21) s m ar below meth c H locs 0 0 Q (F0 m 108 ls []) := by
    intro v2 p0_size p0_limbs H locs ls hf hP hD hS hl
    unfold f_X4_shiftUp_B108 at hf
    refine lv_aload_n hx hb dX4_shiftUp_108 rfl (lv_at hl 0 rfl) ?_
    refine lv_dup hx hb dX4_shiftUp_109 rfl ?_
    refine va_get (D := D) (ci := 5) (v := .int p0_size) (C := RX4) (T := TX4) (N := 2) hx hb hts uwX4 hown hK hP 0 rfl rfl 1 (by decide) (hts _ kfX4_15) (fun _ h9 => h9) rfl dX4_shiftUp_110 ?_
    refine lv_iload_n hx hb dX4_shiftUp_113 rfl (lv_at hl 1 rfl) ?_
    refine lv_iconst (v := 1) hx hb dX4_shiftUp_114 (by decide) ?_
    refine lv_iadd hx hb dX4_shiftUp_115 ?_
    refine lv_iadd hx hb dX4_shiftUp_116 ?_
    refine va_put (D := D) (ci := 5) (v := .int (p0_size + (v2 + (1 : Int32)))) (ty := tyX4 1) (C := RX4) (T := TX4) (N := 2) hx hb hts uwX4 tyX4 tyX4_ok nmX4 hown hK hP hD hS 0 rfl rfl 1 (by decide) (hts _ kfX4_15) (fun _ h9 => h9) rfl (tyX4_ok 1 (by decide)) rfl rfl (Nat.le_of_ble_eq_true rfl) dX4_shiftUp_117 (fun H locs hP hD hS => ?_)
    have hP : va_P D vwCl [(a_p0, .inr (5, [.ref a_p0_limbs, .int (p0_size + (v2 + (1 : Int32)))])), (a_p0_limbs, .inl (cJ, 160, .inr (.inl p0_limbs)))] H := hP
    have hD : va_D A [(a_p0, .inr (5, [.ref a_p0_limbs, .int (p0_size + (v2 + (1 : Int32)))])), (a_p0_limbs, .inl (cJ, 160, .inr (.inl p0_limbs)))] := hD
    refine lv_aload_n hx hb dX4_shiftUp_120 rfl (lv_at hl 0 rfl) ?_
    obtain ⟨u1, hu2, hf⟩ := bdE hf
    refine cV_V (ws' := [(a_p0, .inr (5, [.ref a_p0_limbs, .int u1])), (a_p0_limbs, .inl (cJ, 160, .inr (.inl p0_limbs)))]) (rest := []) S hK hN hA hP hD hS (c_X4_trim l D cI cJ a_p0 a_p0_limbs  (p0_size + (v2 + (1 : Int32))) p0_limbs u1 hu2) mwX4_trim miX4_trim kmX4_19 [0, 1] rfl (by decide) rfl rfl rfl 0 rfl rfl ⟨Nat.le_of_ble_eq_true rfl, Nat.le_of_ble_eq_true rfl⟩ ⟨Nat.zero_le _, Nat.zero_le _⟩ hl.1 rfl rfl (Nat.le_of_ble_eq_true rfl) dX4_shiftUp_121 (fun H locs hP hD hS => ?_)
    exact hret _ (opE hf) H locs ls 124 dX4_shiftUp_124 hP hD hS
  have keyL88 : ∀ (n : Nat) (v2 : Int32) (v4 : Int32) (p0_size : Int32) (p0_limbs : (Nat → Int64)) (H : Heap) (locs : List Loc) (ls : Array Slot), f_X4_shiftUp_L88 n v2 v4 p0_size p0_limbs = some u → va_P D vwCl [(a_p0, .inr (5, [.ref a_p0_limbs, .int p0_size])), (a_p0_limbs, .inl (cJ, 160, .inr (.inl p0_limbs)))] H → va_D A [(a_p0, .inr (5, [.ref a_p0_limbs, .int p0_size])), (a_p0_limbs, .inl (cJ, 160, .inr (.inl p0_limbs)))] → va_S A s.heap H locs → lv_has ls 5 [(0, .ref a_p0), (2, .int v2), (4, .int v4)] → W p l e (rmz 1 21) s m ar below meth c H locs 0 0 Q (F0 m 88 ls []) := by
    intro n
    induction n with
      | zero =>
        intro v2 v4 p0_size p0_limbs H locs ls hf
        cases hf
      | succ n ih =>
        intro v2 v4 p0_size p0_limbs H locs ls hf hP hD hS hl
        rw [f_X4_shiftUp_L88] at hf
        refine lv_iload hx hb dX4_shiftUp_88 (lv_at hl 2 rfl) ?_
        refine lv_iload_n hx hb dX4_shiftUp_90 rfl (lv_at hl 1 rfl) ?_
        refine lv_icmp_ge (tgt := 108) hx hb dX4_shiftUp_91 (by decide) (fun hc4 => ?_) (fun hc4 => ?_)
        · have hf := ifT hc4 hf
          exact keyB108 v2 p0_size p0_limbs H locs ls hf hP hD hS (lv_sub hl [0, 1] rfl)
        · have hf := ifF hc4 hf
          refine lv_aload_n hx hb dX4_shiftUp_94 rfl (lv_at hl 0 rfl) ?_
          refine va_get (D := D) (ci := 5) (v := .ref a_p0_limbs) (C := RX4) (T := TX4) (N := 2) hx hb hts uwX4 hown hK hP 0 rfl rfl 0 (by decide) (hts _ kfX4_9) (fun _ h9 => h9) rfl dX4_shiftUp_95 ?_
          refine lv_iload hx hb dX4_shiftUp_98 (lv_at hl 2 rfl) ?_
          refine lv_lconst (v := 0) hx hb dX4_shiftUp_100 (by decide) ?_
          obtain ⟨hi3, hf⟩ := gdE hf
          refine va_last hx hb hK hP hD hS 1 1 rfl rfl hi3 dX4_shiftUp_101 (fun H locs hP hD hS => ?_)
          have hP : va_P D vwCl [(a_p0, .inr (5, [.ref a_p0_limbs, .int p0_size])), (a_p0_limbs, .inl (cJ, 160, .inr (.inl (vp_updL p0_limbs v4.toNatClampNeg (0 : Int64)))))] H := hP
          have hD : va_D A [(a_p0, .inr (5, [.ref a_p0_limbs, .int p0_size])), (a_p0_limbs, .inl (cJ, 160, .inr (.inl (vp_updL p0_limbs v4.toNatClampNeg (0 : Int64)))))] := hD
          refine lv_iinc (v := v4 + (1 : Int32)) (lv' := [(4, .int (v4 + (1 : Int32))), (0, .ref a_p0), (2, .int v2)]) hx hb dX4_shiftUp_102 hl (k := 2) rfl (by rfl) (by decide) rfl (fun ls hl => ?_)
          refine lv_goto (tgt := 88) hx hb dX4_shiftUp_105 (by decide) ?_
          exact ih v2 (v4 + (1 : Int32)) p0_size (vp_updL p0_limbs v4.toNatClampNeg (0 : Int64)) H locs ls hf hP hD hS (lv_sub hl [1, 2, 0] rfl)
  have keyL39 : ∀ (n : Nat) (v2 : Int32) (v3 : Int32) (v4 : Int32) (p0_size : Int32) (p0_limbs : (Nat → Int64)) (H : Heap) (locs : List Loc) (ls : Array Slot), f_X4_shiftUp_L39 n v2 v3 v4 p0_size p0_limbs = some u → va_P D vwCl [(a_p0, .inr (5, [.ref a_p0_limbs, .int p0_size])), (a_p0_limbs, .inl (cJ, 160, .inr (.inl p0_limbs)))] H → va_D A [(a_p0, .inr (5, [.ref a_p0_limbs, .int p0_size])), (a_p0_limbs, .inl (cJ, 160, .inr (.inl p0_limbs)))] → va_S A s.heap H locs → lv_has ls 5 [(0, .ref a_p0), (2, .int v2), (3, .int v3), (4, .int v4)] → W p l e (rmz 1 21) s m ar below meth c H locs 0 0 Q (F0 m 39 ls []) := by
    intro n
    induction n with
      | zero =>
        intro v2 v3 v4 p0_size p0_limbs H locs ls hf
        cases hf
      | succ n ih =>
        intro v2 v3 v4 p0_size p0_limbs H locs ls hf hP hD hS hl
        rw [f_X4_shiftUp_L39] at hf
        refine lv_iload hx hb dX4_shiftUp_39 (lv_at hl 3 rfl) ?_
        refine lv_if_lt (tgt := 85) hx hb dX4_shiftUp_41 (by decide) (fun hc10 => ?_) (fun hc10 => ?_)
        · have hf := ifT hc10 hf
          refine lv_iconst (v := 0) hx hb dX4_shiftUp_85 (by decide) ?_
          refine lv_istore (lv' := [(4, .int (0 : Int32)), (0, .ref a_p0), (2, .int v2), (3, .int v3)]) hx hb dX4_shiftUp_86 hl (by decide) rfl (fun ls hl => ?_)
          exact keyL88 FU v2 (0 : Int32) p0_size p0_limbs H locs ls hf hP hD hS (lv_sub hl [1, 2, 0] rfl)
        · have hf := ifF hc10 hf
          refine lv_aload_n hx hb dX4_shiftUp_44 rfl (lv_at hl 0 rfl) ?_
          refine va_get (D := D) (ci := 5) (v := .ref a_p0_limbs) (C := RX4) (T := TX4) (N := 2) hx hb hts uwX4 hown hK hP 0 rfl rfl 0 (by decide) (hts _ kfX4_9) (fun _ h9 => h9) rfl dX4_shiftUp_45 ?_
          refine lv_iload hx hb dX4_shiftUp_48 (lv_at hl 3 rfl) ?_
          refine lv_iload_n hx hb dX4_shiftUp_50 rfl (lv_at hl 1 rfl) ?_
          refine lv_iadd hx hb dX4_shiftUp_51 ?_
          refine lv_aload_n hx hb dX4_shiftUp_52 rfl (lv_at hl 0 rfl) ?_
          refine lv_iload hx hb dX4_shiftUp_53 (lv_at hl 3 rfl) ?_
          obtain ⟨u5, hu6, hf⟩ := bdE hf
          refine cV_L (ws' := [(a_p0, .inr (5, [.ref a_p0_limbs, .int p0_size])), (a_p0_limbs, .inl (cJ, 160, .inr (.inl p0_limbs)))]) (rest := [.int (v4 + v2), .ref a_p0_limbs]) S hK hN hA hP hD hS (c_X4_limb l D cI cJ a_p0 a_p0_limbs v4 p0_size p0_limbs u5 hu6) mwX4_limb miX4_limb kmX4_30 [0, 1] rfl (by decide) rfl rfl rfl 0 rfl rfl ⟨Nat.le_of_ble_eq_true rfl, Nat.le_of_ble_eq_true rfl⟩ ⟨Nat.zero_le _, Nat.zero_le _⟩ hl.1 rfl rfl (Nat.le_of_ble_eq_true rfl) dX4_shiftUp_55 (fun H locs hP hD hS => ?_)
          refine lv_iload_n hx hb dX4_shiftUp_58 rfl (lv_at hl 2 rfl) ?_
          refine lv_lshl (v := lsh u5 v3) hx hb dX4_shiftUp_59 rfl ?_
          refine lv_ldc2 hx hb hown (hts _ kcX4_13) dX4_shiftUp_60 ?_
          refine lv_land hx hb dX4_shiftUp_63 ?_
          refine lv_aload_n hx hb dX4_shiftUp_64 rfl (lv_at hl 0 rfl) ?_
          refine lv_iload hx hb dX4_shiftUp_65 (lv_at hl 3 rfl) ?_
          refine lv_iconst (v := 1) hx hb dX4_shiftUp_67 (by decide) ?_
          refine lv_isub hx hb dX4_shiftUp_68 ?_
          obtain ⟨u7, hu8, hf⟩ := bdE hf
          refine cV_L (ws' := [(a_p0, .inr (5, [.ref a_p0_limbs, .int p0_size])), (a_p0_limbs, .inl (cJ, 160, .inr (.inl p0_limbs)))]) (rest := [.long ((lsh u5 v3) &&& (4294967295 : Int64)), .int (v4 + v2), .ref a_p0_limbs]) S hK hN hA hP hD hS (c_X4_limb l D cI cJ a_p0 a_p0_limbs (v4 - (1 : Int32)) p0_size p0_limbs u7 hu8) mwX4_limb miX4_limb kmX4_30 [0, 1] rfl (by decide) rfl rfl rfl 0 rfl rfl ⟨Nat.le_of_ble_eq_true rfl, Nat.le_of_ble_eq_true rfl⟩ ⟨Nat.zero_le _, Nat.zero_le _⟩ hl.1 rfl rfl (Nat.le_of_ble_eq_true rfl) dX4_shiftUp_69 (fun H locs hP hD hS => ?_)
          refine lv_bipush (v := 32) hx hb dX4_shiftUp_72 (by decide) ?_
          refine lv_iload_n hx hb dX4_shiftUp_74 rfl (lv_at hl 2 rfl) ?_
          refine lv_isub hx hb dX4_shiftUp_75 ?_
          refine lv_lushr (v := lus u7 ((32 : Int32) - v3)) hx hb dX4_shiftUp_76 rfl ?_
          refine lv_lor hx hb dX4_shiftUp_77 ?_
          obtain ⟨hi9, hf⟩ := gdE hf
          refine va_last hx hb hK hP hD hS 1 1 rfl rfl hi9 dX4_shiftUp_78 (fun H locs hP hD hS => ?_)
          have hP : va_P D vwCl [(a_p0, .inr (5, [.ref a_p0_limbs, .int p0_size])), (a_p0_limbs, .inl (cJ, 160, .inr (.inl (vp_updL p0_limbs (v4 + v2).toNatClampNeg (((lsh u5 v3) &&& (4294967295 : Int64)) ||| (lus u7 ((32 : Int32) - v3)))))))] H := hP
          have hD : va_D A [(a_p0, .inr (5, [.ref a_p0_limbs, .int p0_size])), (a_p0_limbs, .inl (cJ, 160, .inr (.inl (vp_updL p0_limbs (v4 + v2).toNatClampNeg (((lsh u5 v3) &&& (4294967295 : Int64)) ||| (lus u7 ((32 : Int32) - v3)))))))] := hD
          refine lv_iinc (v := v4 + (-1 : Int32)) (lv' := [(4, .int (v4 + (-1 : Int32))), (0, .ref a_p0), (2, .int v2), (3, .int v3)]) hx hb dX4_shiftUp_79 hl (k := 3) rfl (by rfl) (by decide) rfl (fun ls hl => ?_)
          refine lv_goto (tgt := 39) hx hb dX4_shiftUp_82 (by decide) ?_
          exact ih v2 v3 (v4 + (-1 : Int32)) p0_size (vp_updL p0_limbs (v4 + v2).toNatClampNeg (((lsh u5 v3) &&& (4294967295 : Int64)) ||| (lus u7 ((32 : Int32) - v3)))) H locs ls hf hP hD hS (lv_sub hl [1, 2, 3, 0] rfl)
  unfold f_X4_shiftUp at hf
  refine lv_iload_n hx hb dX4_shiftUp_0 rfl (lv_at hl 1 rfl) ?_
  refine lv_iconst (v := 5) hx hb dX4_shiftUp_1 (by decide) ?_
  refine lv_ishr hx hb dX4_shiftUp_2 ?_
  refine lv_istore_n (lv' := [(2, .int (isr p1 (5 : Int32))), (0, .ref a_p0), (1, .int p1)]) hx hb dX4_shiftUp_3 rfl hl (by decide) rfl (fun ls hl => ?_)
  refine lv_iload_n hx hb dX4_shiftUp_4 rfl (lv_at hl 2 rfl) ?_
  refine lv_bipush (v := 31) hx hb dX4_shiftUp_5 (by decide) ?_
  refine lv_iand hx hb dX4_shiftUp_7 ?_
  refine lv_istore_n (lv' := [(3, .int (p1 &&& (31 : Int32))), (2, .int (isr p1 (5 : Int32))), (0, .ref a_p0), (1, .int p1)]) hx hb dX4_shiftUp_8 rfl hl (by decide) rfl (fun ls hl => ?_)
  refine lv_iload_n hx hb dX4_shiftUp_9 rfl (lv_at hl 3 rfl) ?_
  refine lv_if_le (tgt := 32) hx hb dX4_shiftUp_10 (by decide) (fun hc13 => ?_) (fun hc13 => ?_)
  · have hf := ifT hc13 hf
    exact hret _ (opE hf) H locs ls 32 dX4_shiftUp_32 hP hD hS
  · have hf := ifF hc13 hf
    refine lv_aload_n hx hb dX4_shiftUp_13 rfl (lv_at hl 2 rfl) ?_
    refine va_get (D := D) (ci := 5) (v := .int p0_size) (C := RX4) (T := TX4) (N := 2) hx hb hts uwX4 hown hK hP 0 rfl rfl 1 (by decide) (hts _ kfX4_15) (fun _ h9 => h9) rfl dX4_shiftUp_14 ?_
    refine lv_if_eq (tgt := 32) hx hb dX4_shiftUp_17 (by decide) (fun hc12 => ?_) (fun hc12 => ?_)
    · have hf := ifT hc12 hf
      exact hret _ (opE hf) H locs ls 32 dX4_shiftUp_32 hP hD hS
    · have hf := ifF hc12 hf
      refine lv_iload_n hx hb dX4_shiftUp_20 rfl (lv_at hl 1 rfl) ?_
      refine lv_sipush (v := 160) hx hb dX4_shiftUp_21 (by decide) ?_
      refine lv_aload_n hx hb dX4_shiftUp_24 rfl (lv_at hl 2 rfl) ?_
      refine va_get (D := D) (ci := 5) (v := .int p0_size) (C := RX4) (T := TX4) (N := 2) hx hb hts uwX4 hown hK hP 0 rfl rfl 1 (by decide) (hts _ kfX4_15) (fun _ h9 => h9) rfl dX4_shiftUp_25 ?_
      refine lv_isub hx hb dX4_shiftUp_28 ?_
      refine lv_icmp_lt (tgt := 33) hx hb dX4_shiftUp_29 (by decide) (fun hc11 => ?_) (fun hc11 => ?_)
      · have hf := ifT hc11 hf
        refine lv_aload_n hx hb dX4_shiftUp_33 rfl (lv_at hl 2 rfl) ?_
        refine va_get (D := D) (ci := 5) (v := .int p0_size) (C := RX4) (T := TX4) (N := 2) hx hb hts uwX4 hown hK hP 0 rfl rfl 1 (by decide) (hts _ kfX4_15) (fun _ h9 => h9) rfl dX4_shiftUp_34 ?_
        refine lv_istore (lv' := [(4, .int p0_size), (3, .int (p1 &&& (31 : Int32))), (2, .int (isr p1 (5 : Int32))), (0, .ref a_p0), (1, .int p1)]) hx hb dX4_shiftUp_37 hl (by decide) rfl (fun ls hl => ?_)
        exact keyL39 FU (isr p1 (5 : Int32)) (p1 &&& (31 : Int32)) p0_size p0_size p0_limbs H locs ls hf hP hD hS (lv_sub hl [3, 2, 1, 0] rfl)
      · have hf := ifF hc11 hf
        exact hret _ (opE hf) H locs ls 32 dX4_shiftUp_32 hP hD hS
set_option maxRecDepth 100000 in
set_option maxHeartbeats 4000000 in
theorem c_X0_leftAnd (l : Launch) (D : va_G) (cI cJ : ClassId) (a_p0 a_p0_left a_p0_right a_p0_left_limbs a_p0_right_limbs a_p4 : Nat) (p1 : Int32) (p2 : Int32) (p3 : Int32) (p5 : Int32) (p6 : Int32) (p0_left_size : Int32) (p0_left_limbs : (Nat → Int64)) (p0_right_size : Int32) (p0_right_limbs : (Nat → Int64)) (p4_kind : Int32) (p4_minus : Int32) (p4_m : Int64) (p4_e : Int32) (p4_narrowBelow : Int32) (u : Int64 × Int32 × (Nat → Int64) × Int32 × (Nat → Int64)) (hf : f_X0_leftAnd p4_kind p4_minus p4_m p4_e p1 p2 p3 p5 p6 p0_left_size p0_left_limbs p0_right_size p0_right_limbs = some u) : CtL l yX0_leftAnd cX0_leftAnd 9 4 101 [.ref a_p0, .int p1, .int p2, .int p3, .ref a_p4, .int p5, .int p6] D cI cJ [(a_p0, .inr (2, [.ref a_p0_left, .ref a_p0_right])), (a_p0_left, .inr (5, [.ref a_p0_left_limbs, .int p0_left_size])), (a_p0_left_limbs, .inl (cJ, 160, .inr (.inl p0_left_limbs))), (a_p0_right, .inr (5, [.ref a_p0_right_limbs, .int p0_right_size])), (a_p0_right_limbs, .inl (cJ, 160, .inr (.inl p0_right_limbs))), (a_p4, .inr (9, [.int p4_kind, .int p4_minus, .long p4_m, .int p4_e, .int p4_narrowBelow]))] [(a_p0, .inr (2, [.ref a_p0_left, .ref a_p0_right])), (a_p0_left, .inr (5, [.ref a_p0_left_limbs, .int u.2.1])), (a_p0_left_limbs, .inl (cJ, 160, .inr (.inl u.2.2.1))), (a_p0_right, .inr (5, [.ref a_p0_right_limbs, .int u.2.2.2.1])), (a_p0_right_limbs, .inl (cJ, 160, .inr (.inl u.2.2.2.2))), (a_p4, .inr (9, [.int p4_kind, .int p4_minus, .long p4_m, .int p4_e, .int p4_narrowBelow]))] u.1 := by
  refine mkL (own := RX0) rfl (by decide +kernel) (Nat.le_of_ble_eq_true rfl) (lv := [(0, .ref a_p0), (1, .int p1), (2, .int p2), (3, .int p3), (4, .ref a_p4), (5, .int p5), (6, .int p6)]) rfl ?_
  intro p e s m below meth c Q A ls ar S hA hK hN hret H locs hP hD hS hl
  obtain ⟨hx, hb, hml, hown, hts⟩ := id S
  have hret : ∀ (w : Int64 × Int32 × (Nat → Int64) × Int32 × (Nat → Int64)), w = u → ∀ (H : Heap) (locs : List Loc) (ls : Array Slot) (pc : Nat), decode cX0_leftAnd pc = .ok (.lreturn, 1) → va_P D vwCl [(a_p0, .inr (2, [.ref a_p0_left, .ref a_p0_right])), (a_p0_left, .inr (5, [.ref a_p0_left_limbs, .int w.2.1])), (a_p0_left_limbs, .inl (cJ, 160, .inr (.inl w.2.2.1))), (a_p0_right, .inr (5, [.ref a_p0_right_limbs, .int w.2.2.2.1])), (a_p0_right_limbs, .inl (cJ, 160, .inr (.inl w.2.2.2.2))), (a_p4, .inr (9, [.int p4_kind, .int p4_minus, .long p4_m, .int p4_e, .int p4_narrowBelow]))] H → va_D A [(a_p0, .inr (2, [.ref a_p0_left, .ref a_p0_right])), (a_p0_left, .inr (5, [.ref a_p0_left_limbs, .int w.2.1])), (a_p0_left_limbs, .inl (cJ, 160, .inr (.inl w.2.2.1))), (a_p0_right, .inr (5, [.ref a_p0_right_limbs, .int w.2.2.2.1])), (a_p0_right_limbs, .inl (cJ, 160, .inr (.inl w.2.2.2.2))), (a_p4, .inr (9, [.int p4_kind, .int p4_minus, .long p4_m, .int p4_e, .int p4_narrowBelow]))] → va_S A s.heap H locs → W p l e (rmz 4 101) s m ar below meth c H locs 0 0 Q (F0 m pc ls [.long w.1]) := fun w hw => hw ▸ hret
  have keyB70 : ∀ (s0 : Int32) (s1 : Int32) (p0_left_size : Int32) (p0_left_limbs : (Nat → Int64)) (p0_right_size : Int32) (p0_right_limbs : (Nat → Int64)) (H : Heap) (locs : List Loc) (ls : Array Slot), f_X0_leftAnd_B70 p4_kind p4_minus p4_m p4_e s0 s1 p0_left_size p0_left_limbs p0_right_size p0_right_limbs = some u → va_P D vwCl [(a_p0, .inr (2, [.ref a_p0_left, .ref a_p0_right])), (a_p0_left, .inr (5, [.ref a_p0_left_limbs, .int p0_left_size])), (a_p0_left_limbs, .inl (cJ, 160, .inr (.inl p0_left_limbs))), (a_p0_right, .inr (5, [.ref a_p0_right_limbs, .int p0_right_size])), (a_p0_right_limbs, .inl (cJ, 160, .inr (.inl p0_right_limbs))), (a_p4, .inr (9, [.int p4_kind, .int p4_minus, .long p4_m, .int p4_e, .int p4_narrowBelow]))] H → va_D A [(a_p0, .inr (2, [.ref a_p0_left, .ref a_p0_right])), (a_p0_left, .inr (5, [.ref a_p0_left_limbs, .int p0_left_size])), (a_p0_left_limbs, .inl (cJ, 160, .inr (.inl p0_left_limbs))), (a_p0_right, .inr (5, [.ref a_p0_right_limbs, .int p0_right_size])), (a_p0_right_limbs, .inl (cJ, 160, .inr (.inl p0_right_limbs))), (a_p4, .inr (9, [.int p4_kind, .int p4_minus, .long p4_m, .int p4_e, .int p4_narrowBelow]))] → va_S A s.heap H locs → lv_has ls 9 [] → W p l e (rmz 4 101) s m ar below meth c H locs 0 0 Q (F0 m 70 ls [.int s1, .int s0]) := by
    intro s0 s1 p0_left_size p0_left_limbs p0_right_size p0_right_limbs H locs ls hf hP hD hS hl
    unfold f_X0_leftAnd_B70 at hf
    obtain ⟨u1, hu2, hf⟩ := bdE hf
    refine cS_L (ws' := [(a_p0, .inr (2, [.ref a_p0_left, .ref a_p0_right])), (a_p0_left, .inr (5, [.ref a_p0_left_limbs, .int p0_left_size])), (a_p0_left_limbs, .inl (cJ, 160, .inr (.inl p0_left_limbs))), (a_p0_right, .inr (5, [.ref a_p0_right_limbs, .int p0_right_size])), (a_p0_right_limbs, .inl (cJ, 160, .inr (.inl p0_right_limbs))), (a_p4, .inr (9, [.int p4_kind, .int p4_minus, .long p4_m, .int p4_e, .int p4_narrowBelow]))]) (rest := []) S hK hN hA hP hD hS (c_X2_endless l D cI cJ  s0 s1  u1 hu2) mwX2_endless msX2_endless kmX0_34 [] rfl (by decide) rfl rfl rfl ⟨Nat.le_of_ble_eq_true rfl, Nat.le_of_ble_eq_true rfl⟩ ⟨Nat.zero_le _, Nat.zero_le _⟩ hl.1 rfl rfl (Nat.le_of_ble_eq_true rfl) dX0_leftAnd_70 (fun H locs hP hD hS => ?_)
    exact hret _ (opE hf) H locs ls 73 dX0_leftAnd_73 hP hD hS
  have keyB40 : ∀ (v1 : Int32) (v2 : Int32) (v5 : Int32) (s0 : Int32) (p0_left_size : Int32) (p0_left_limbs : (Nat → Int64)) (p0_right_size : Int32) (p0_right_limbs : (Nat → Int64)) (H : Heap) (locs : List Loc) (ls : Array Slot), f_X0_leftAnd_B40 p4_kind p4_minus p4_m p4_e v1 v2 v5 s0 p0_left_size p0_left_limbs p0_right_size p0_right_limbs = some u → va_P D vwCl [(a_p0, .inr (2, [.ref a_p0_left, .ref a_p0_right])), (a_p0_left, .inr (5, [.ref a_p0_left_limbs, .int p0_left_size])), (a_p0_left_limbs, .inl (cJ, 160, .inr (.inl p0_left_limbs))), (a_p0_right, .inr (5, [.ref a_p0_right_limbs, .int p0_right_size])), (a_p0_right_limbs, .inl (cJ, 160, .inr (.inl p0_right_limbs))), (a_p4, .inr (9, [.int p4_kind, .int p4_minus, .long p4_m, .int p4_e, .int p4_narrowBelow]))] H → va_D A [(a_p0, .inr (2, [.ref a_p0_left, .ref a_p0_right])), (a_p0_left, .inr (5, [.ref a_p0_left_limbs, .int p0_left_size])), (a_p0_left_limbs, .inl (cJ, 160, .inr (.inl p0_left_limbs))), (a_p0_right, .inr (5, [.ref a_p0_right_limbs, .int p0_right_size])), (a_p0_right_limbs, .inl (cJ, 160, .inr (.inl p0_right_limbs))), (a_p4, .inr (9, [.int p4_kind, .int p4_minus, .long p4_m, .int p4_e, .int p4_narrowBelow]))] → va_S A s.heap H locs → lv_has ls 9 [(1, .int v1), (2, .int v2), (4, .ref a_p4), (5, .int v5)] → W p l e (rmz 4 101) s m ar below meth c H locs 0 0 Q (F0 m 40 ls [.int s0]) := by
    intro v1 v2 v5 s0 p0_left_size p0_left_limbs p0_right_size p0_right_limbs H locs ls hf hP hD hS hl
    unfold f_X0_leftAnd_B40 at hf
    refine lv_istore (lv' := [(7, .int s0), (1, .int v1), (2, .int v2), (4, .ref a_p4), (5, .int v5)]) hx hb dX0_leftAnd_40 hl (by decide) rfl (fun ls hl => ?_)
    refine lv_iload hx hb dX0_leftAnd_42 (lv_at hl 0 rfl) ?_
    refine lv_if_eq (tgt := 55) hx hb dX0_leftAnd_44 (by decide) (fun hc6 => ?_) (fun hc6 => ?_)
    · have hf := ifT hc6 hf
      refine lv_iload hx hb dX0_leftAnd_55 (lv_at hl 4 rfl) ?_
      refine lv_iload_n hx hb dX0_leftAnd_57 rfl (lv_at hl 1 rfl) ?_
      refine lv_if_eq (tgt := 65) hx hb dX0_leftAnd_58 (by decide) (fun hc3 => ?_) (fun hc3 => ?_)
      · have hf := ifT hc3 hf
        refine lv_aload hx hb dX0_leftAnd_65 (lv_at hl 3 rfl) ?_
        refine va_get (D := D) (ci := 9) (v := .int p4_minus) (C := RX8) (T := TX8) (N := 5) hx hb hts uwX8 hown hK hP 5 rfl rfl 1 (by decide) (hts _ kfX0_30) (fun _ h9 => h9) rfl dX0_leftAnd_67 ?_
        exact keyB70 v5 p4_minus p0_left_size p0_left_limbs p0_right_size p0_right_limbs H locs ls hf hP hD hS (lv_sub hl [] rfl)
      · have hf := ifF hc3 hf
        refine lv_iload_n hx hb dX0_leftAnd_61 rfl (lv_at hl 2 rfl) ?_
        refine lv_goto (tgt := 70) hx hb dX0_leftAnd_62 (by decide) ?_
        exact keyB70 v5 v2 p0_left_size p0_left_limbs p0_right_size p0_right_limbs H locs ls hf hP hD hS (lv_sub hl [] rfl)
    · have hf := ifF hc6 hf
      refine lv_iload hx hb dX0_leftAnd_47 (lv_at hl 4 rfl) ?_
      obtain ⟨u4, hu5, hf⟩ := bdE hf
      refine cS_L (ws' := [(a_p0, .inr (2, [.ref a_p0_left, .ref a_p0_right])), (a_p0_left, .inr (5, [.ref a_p0_left_limbs, .int p0_left_size])), (a_p0_left_limbs, .inl (cJ, 160, .inr (.inl p0_left_limbs))), (a_p0_right, .inr (5, [.ref a_p0_right_limbs, .int p0_right_size])), (a_p0_right_limbs, .inl (cJ, 160, .inr (.inl p0_right_limbs))), (a_p4, .inr (9, [.int p4_kind, .int p4_minus, .long p4_m, .int p4_e, .int p4_narrowBelow]))]) (rest := []) S hK hN hA hP hD hS (c_X2_none l D cI cJ  v5  u4 hu5) mwX2_none msX2_none kmX0_24 [] rfl (by decide) rfl rfl rfl ⟨Nat.le_of_ble_eq_true rfl, Nat.le_of_ble_eq_true rfl⟩ ⟨Nat.zero_le _, Nat.zero_le _⟩ hl.1 rfl rfl (Nat.le_of_ble_eq_true rfl) dX0_leftAnd_49 (fun H locs hP hD hS => ?_)
      refine lv_goto (tgt := 73) hx hb dX0_leftAnd_52 (by decide) ?_
      exact hret _ (opE hf) H locs ls 73 dX0_leftAnd_73 hP hD hS
  have keyB39 : ∀ (v1 : Int32) (v2 : Int32) (v5 : Int32) (p0_left_size : Int32) (p0_left_limbs : (Nat → Int64)) (p0_right_size : Int32) (p0_right_limbs : (Nat → Int64)) (H : Heap) (locs : List Loc) (ls : Array Slot), f_X0_leftAnd_B39 p4_kind p4_minus p4_m p4_e v1 v2 v5 p0_left_size p0_left_limbs p0_right_size p0_right_limbs = some u → va_P D vwCl [(a_p0, .inr (2, [.ref a_p0_left, .ref a_p0_right])), (a_p0_left, .inr (5, [.ref a_p0_left_limbs, .int p0_left_size])), (a_p0_left_limbs, .inl (cJ, 160, .inr (.inl p0_left_limbs))), (a_p0_right, .inr (5, [.ref a_p0_right_limbs, .int p0_right_size])), (a_p0_right_limbs, .inl (cJ, 160, .inr (.inl p0_right_limbs))), (a_p4, .inr (9, [.int p4_kind, .int p4_minus, .long p4_m, .int p4_e, .int p4_narrowBelow]))] H → va_D A [(a_p0, .inr (2, [.ref a_p0_left, .ref a_p0_right])), (a_p0_left, .inr (5, [.ref a_p0_left_limbs, .int p0_left_size])), (a_p0_left_limbs, .inl (cJ, 160, .inr (.inl p0_left_limbs))), (a_p0_right, .inr (5, [.ref a_p0_right_limbs, .int p0_right_size])), (a_p0_right_limbs, .inl (cJ, 160, .inr (.inl p0_right_limbs))), (a_p4, .inr (9, [.int p4_kind, .int p4_minus, .long p4_m, .int p4_e, .int p4_narrowBelow]))] → va_S A s.heap H locs → lv_has ls 9 [(1, .int v1), (2, .int v2), (4, .ref a_p4), (5, .int v5)] → W p l e (rmz 4 101) s m ar below meth c H locs 0 0 Q (F0 m 39 ls []) := by
    intro v1 v2 v5 p0_left_size p0_left_limbs p0_right_size p0_right_limbs H locs ls hf hP hD hS hl
    unfold f_X0_leftAnd_B39 at hf
    refine lv_iconst (v := 0) hx hb dX0_leftAnd_39 (by decide) ?_
    exact keyB40 v1 v2 v5 (0 : Int32) p0_left_size p0_left_limbs p0_right_size p0_right_limbs H locs ls hf hP hD hS (lv_sub hl [0, 1, 2, 3] rfl)
  have keyB13 : ∀ (v1 : Int32) (v2 : Int32) (v5 : Int32) (p0_left_size : Int32) (p0_left_limbs : (Nat → Int64)) (p0_right_size : Int32) (p0_right_limbs : (Nat → Int64)) (H : Heap) (locs : List Loc) (ls : Array Slot), f_X0_leftAnd_B13 p4_kind p4_minus p4_m p4_e v1 v2 v5 p0_left_size p0_left_limbs p0_right_size p0_right_limbs = some u → va_P D vwCl [(a_p0, .inr (2, [.ref a_p0_left, .ref a_p0_right])), (a_p0_left, .inr (5, [.ref a_p0_left_limbs, .int p0_left_size])), (a_p0_left_limbs, .inl (cJ, 160, .inr (.inl p0_left_limbs))), (a_p0_right, .inr (5, [.ref a_p0_right_limbs, .int p0_right_size])), (a_p0_right_limbs, .inl (cJ, 160, .inr (.inl p0_right_limbs))), (a_p4, .inr (9, [.int p4_kind, .int p4_minus, .long p4_m, .int p4_e, .int p4_narrowBelow]))] H → va_D A [(a_p0, .inr (2, [.ref a_p0_left, .ref a_p0_right])), (a_p0_left, .inr (5, [.ref a_p0_left_limbs, .int p0_left_size])), (a_p0_left_limbs, .inl (cJ, 160, .inr (.inl p0_left_limbs))), (a_p0_right, .inr (5, [.ref a_p0_right_limbs, .int p0_right_size])), (a_p0_right_limbs, .inl (cJ, 160, .inr (.inl p0_right_limbs))), (a_p4, .inr (9, [.int p4_kind, .int p4_minus, .long p4_m, .int p4_e, .int p4_narrowBelow]))] → va_S A s.heap H locs → lv_has ls 9 [(1, .int v1), (2, .int v2), (4, .ref a_p4), (5, .int v5)] → W p l e (rmz 4 101) s m ar below meth c H locs 0 0 Q (F0 m 13 ls []) := by
    intro v1 v2 v5 p0_left_size p0_left_limbs p0_right_size p0_right_limbs H locs ls hf hP hD hS hl
    unfold f_X0_leftAnd_B13 at hf
    refine lv_iload_n hx hb dX0_leftAnd_13 rfl (lv_at hl 0 rfl) ?_
    refine lv_if_eq (tgt := 39) hx hb dX0_leftAnd_14 (by decide) (fun hc9 => ?_) (fun hc9 => ?_)
    · have hf := ifT hc9 hf
      exact keyB39 v1 v2 v5 p0_left_size p0_left_limbs p0_right_size p0_right_limbs H locs ls hf hP hD hS (lv_sub hl [0, 1, 2, 3] rfl)
    · have hf := ifF hc9 hf
      refine lv_aload hx hb dX0_leftAnd_17 (lv_at hl 2 rfl) ?_
      refine va_get (D := D) (ci := 9) (v := .int p4_kind) (C := RX8) (T := TX8) (N := 5) hx hb hts uwX8 hown hK hP 5 rfl rfl 0 (by decide) (hts _ kfX0_18) (fun _ h9 => h9) rfl dX0_leftAnd_19 ?_
      refine lv_iconst (v := 3) hx hb dX0_leftAnd_22 (by decide) ?_
      refine lv_icmp_ne (tgt := 39) hx hb dX0_leftAnd_23 (by decide) (fun hc8 => ?_) (fun hc8 => ?_)
      · have hf := ifF hc8 hf
        exact keyB39 v1 v2 v5 p0_left_size p0_left_limbs p0_right_size p0_right_limbs H locs ls hf hP hD hS (lv_sub hl [0, 1, 2, 3] rfl)
      · have hf := ifT hc8 hf
        refine lv_iload_n hx hb dX0_leftAnd_26 rfl (lv_at hl 1 rfl) ?_
        refine lv_aload hx hb dX0_leftAnd_27 (lv_at hl 2 rfl) ?_
        refine va_get (D := D) (ci := 9) (v := .int p4_minus) (C := RX8) (T := TX8) (N := 5) hx hb hts uwX8 hown hK hP 5 rfl rfl 1 (by decide) (hts _ kfX0_30) (fun _ h9 => h9) rfl dX0_leftAnd_29 ?_
        refine lv_icmp_eq (tgt := 39) hx hb dX0_leftAnd_32 (by decide) (fun hc7 => ?_) (fun hc7 => ?_)
        · have hf := ifT hc7 hf
          exact keyB39 v1 v2 v5 p0_left_size p0_left_limbs p0_right_size p0_right_limbs H locs ls hf hP hD hS (lv_sub hl [0, 1, 2, 3] rfl)
        · have hf := ifF hc7 hf
          refine lv_iconst (v := 1) hx hb dX0_leftAnd_35 (by decide) ?_
          refine lv_goto (tgt := 40) hx hb dX0_leftAnd_36 (by decide) ?_
          exact keyB40 v1 v2 v5 (1 : Int32) p0_left_size p0_left_limbs p0_right_size p0_right_limbs H locs ls hf hP hD hS (lv_sub hl [0, 1, 2, 3] rfl)
  have keyB190 : ∀ (s0 : Int32) (s1 : Int32) (p0_left_size : Int32) (p0_left_limbs : (Nat → Int64)) (p0_right_size : Int32) (p0_right_limbs : (Nat → Int64)) (H : Heap) (locs : List Loc) (ls : Array Slot), f_X0_leftAnd_B190 p4_kind p4_minus p4_m p4_e s0 s1 p0_left_size p0_left_limbs p0_right_size p0_right_limbs = some u → va_P D vwCl [(a_p0, .inr (2, [.ref a_p0_left, .ref a_p0_right])), (a_p0_left, .inr (5, [.ref a_p0_left_limbs, .int p0_left_size])), (a_p0_left_limbs, .inl (cJ, 160, .inr (.inl p0_left_limbs))), (a_p0_right, .inr (5, [.ref a_p0_right_limbs, .int p0_right_size])), (a_p0_right_limbs, .inl (cJ, 160, .inr (.inl p0_right_limbs))), (a_p4, .inr (9, [.int p4_kind, .int p4_minus, .long p4_m, .int p4_e, .int p4_narrowBelow]))] H → va_D A [(a_p0, .inr (2, [.ref a_p0_left, .ref a_p0_right])), (a_p0_left, .inr (5, [.ref a_p0_left_limbs, .int p0_left_size])), (a_p0_left_limbs, .inl (cJ, 160, .inr (.inl p0_left_limbs))), (a_p0_right, .inr (5, [.ref a_p0_right_limbs, .int p0_right_size])), (a_p0_right_limbs, .inl (cJ, 160, .inr (.inl p0_right_limbs))), (a_p4, .inr (9, [.int p4_kind, .int p4_minus, .long p4_m, .int p4_e, .int p4_narrowBelow]))] → va_S A s.heap H locs → lv_has ls 9 [] → W p l e (rmz 4 101) s m ar below meth c H locs 0 0 Q (F0 m 190 ls [.int s1, .int s0]) := by
    intro s0 s1 p0_left_size p0_left_limbs p0_right_size p0_right_limbs H locs ls hf hP hD hS hl
    unfold f_X0_leftAnd_B190 at hf
    obtain ⟨u29, hu30, hf⟩ := bdE hf
    refine cS_L (ws' := [(a_p0, .inr (2, [.ref a_p0_left, .ref a_p0_right])), (a_p0_left, .inr (5, [.ref a_p0_left_limbs, .int p0_left_size])), (a_p0_left_limbs, .inl (cJ, 160, .inr (.inl p0_left_limbs))), (a_p0_right, .inr (5, [.ref a_p0_right_limbs, .int p0_right_size])), (a_p0_right_limbs, .inl (cJ, 160, .inr (.inl p0_right_limbs))), (a_p4, .inr (9, [.int p4_kind, .int p4_minus, .long p4_m, .int p4_e, .int p4_narrowBelow]))]) (rest := []) S hK hN hA hP hD hS (c_X2_nought l D cI cJ  s0 s1  u29 hu30) mwX2_nought msX2_nought kmX0_67 [] rfl (by decide) rfl rfl rfl ⟨Nat.le_of_ble_eq_true rfl, Nat.le_of_ble_eq_true rfl⟩ ⟨Nat.zero_le _, Nat.zero_le _⟩ hl.1 rfl rfl (Nat.le_of_ble_eq_true rfl) dX0_leftAnd_190 (fun H locs hP hD hS => ?_)
    exact hret _ (opE hf) H locs ls 193 dX0_leftAnd_193 hP hD hS
  unfold f_X0_leftAnd at hf
  refine lv_iload_n hx hb dX0_leftAnd_0 rfl (lv_at hl 1 rfl) ?_
  refine lv_if_ne (tgt := 13) hx hb dX0_leftAnd_1 (by decide) (fun hc39 => ?_) (fun hc39 => ?_)
  · have hf := ifF hc39 hf
    exact keyB13 p1 p2 p5 p0_left_size p0_left_limbs p0_right_size p0_right_limbs H locs ls hf hP hD hS (lv_sub hl [1, 2, 4, 5] rfl)
  · have hf := ifT hc39 hf
    refine lv_aload hx hb dX0_leftAnd_4 (lv_at hl 4 rfl) ?_
    refine va_get (D := D) (ci := 9) (v := .int p4_kind) (C := RX8) (T := TX8) (N := 5) hx hb hts uwX8 hown hK hP 5 rfl rfl 0 (by decide) (hts _ kfX0_18) (fun _ h9 => h9) rfl dX0_leftAnd_6 ?_
    refine lv_iconst (v := 3) hx hb dX0_leftAnd_9 (by decide) ?_
    refine lv_icmp_ne (tgt := 74) hx hb dX0_leftAnd_10 (by decide) (fun hc38 => ?_) (fun hc38 => ?_)
    · have hf := ifF hc38 hf
      refine lv_aload_n hx hb dX0_leftAnd_74 rfl (lv_at hl 0 rfl) ?_
      refine va_get (D := D) (ci := 2) (v := .ref a_p0_right) (C := RX0) (T := TX0) (N := 2) hx hb hts uwX0 hown hK hP 0 rfl rfl 1 (by decide) (hts _ kfX0_15) (fun _ h9 => h9) rfl dX0_leftAnd_75 ?_
      refine lv_aload hx hb dX0_leftAnd_78 (lv_at hl 4 rfl) ?_
      refine va_get (D := D) (ci := 9) (v := .long p4_m) (C := RX8) (T := TX8) (N := 5) hx hb hts uwX8 hown hK hP 5 rfl rfl 2 (by decide) (hts _ kfX0_38) (fun _ h9 => h9) rfl dX0_leftAnd_80 ?_
      obtain ⟨u10, hu11, hf⟩ := bdE hf
      refine cV_V (ws' := [(a_p0, .inr (2, [.ref a_p0_left, .ref a_p0_right])), (a_p0_left, .inr (5, [.ref a_p0_left_limbs, .int p0_left_size])), (a_p0_left_limbs, .inl (cJ, 160, .inr (.inl p0_left_limbs))), (a_p0_right, .inr (5, [.ref a_p0_right_limbs, .int u10.1])), (a_p0_right_limbs, .inl (cJ, 160, .inr (.inl u10.2))), (a_p4, .inr (9, [.int p4_kind, .int p4_minus, .long p4_m, .int p4_e, .int p4_narrowBelow]))]) (rest := []) S hK hN hA hP hD hS (c_X4_take l D cI cJ a_p0_right a_p0_right_limbs p4_m p0_right_size p0_right_limbs u10 hu11) mwX4_take miX4_take kmX0_42 [3, 4] rfl (by decide) rfl rfl rfl 0 rfl rfl ⟨Nat.le_of_ble_eq_true rfl, Nat.le_of_ble_eq_true rfl⟩ ⟨Nat.zero_le _, Nat.zero_le _⟩ hl.1 rfl rfl (Nat.le_of_ble_eq_true rfl) dX0_leftAnd_83 (fun H locs hP hD hS => ?_)
      refine lv_iload_n hx hb dX0_leftAnd_86 rfl (lv_at hl 3 rfl) ?_
      refine lv_aload hx hb dX0_leftAnd_87 (lv_at hl 4 rfl) ?_
      refine va_get (D := D) (ci := 9) (v := .int p4_e) (C := RX8) (T := TX8) (N := 5) hx hb hts uwX8 hown hK hP 5 rfl rfl 3 (by decide) (hts _ kfX0_48) (fun _ h9 => h9) rfl dX0_leftAnd_89 ?_
      obtain ⟨u12, hu13, hf⟩ := bdE hf
      refine cS_I (ws' := [(a_p0, .inr (2, [.ref a_p0_left, .ref a_p0_right])), (a_p0_left, .inr (5, [.ref a_p0_left_limbs, .int p0_left_size])), (a_p0_left_limbs, .inl (cJ, 160, .inr (.inl p0_left_limbs))), (a_p0_right, .inr (5, [.ref a_p0_right_limbs, .int u10.1])), (a_p0_right_limbs, .inl (cJ, 160, .inr (.inl u10.2))), (a_p4, .inr (9, [.int p4_kind, .int p4_minus, .long p4_m, .int p4_e, .int p4_narrowBelow]))]) (rest := []) S hK hN hA hP hD hS (c_J9_min_7cf53 l D cI cJ  p3 p4_e  u12 hu13) mwJ9_min_7cf53 msJ9_min_7cf53 kmX0_123 [] rfl (by decide) rfl rfl rfl ⟨Nat.le_of_ble_eq_true rfl, Nat.le_of_ble_eq_true rfl⟩ ⟨Nat.zero_le _, Nat.zero_le _⟩ hl.1 rfl rfl (Nat.le_of_ble_eq_true rfl) dX0_leftAnd_92 (fun H locs hP hD hS => ?_)
      refine lv_istore (lv' := [(7, .int u12), (0, .ref a_p0), (1, .int p1), (2, .int p2), (3, .int p3), (4, .ref a_p4), (5, .int p5), (6, .int p6)]) hx hb dX0_leftAnd_95 hl (by decide) rfl (fun ls hl => ?_)
      refine lv_aload_n hx hb dX0_leftAnd_97 rfl (lv_at hl 1 rfl) ?_
      refine va_get (D := D) (ci := 2) (v := .ref a_p0_left) (C := RX0) (T := TX0) (N := 2) hx hb hts uwX0 hown hK hP 0 rfl rfl 0 (by decide) (hts _ kfX0_9) (fun _ h9 => h9) rfl dX0_leftAnd_98 ?_
      refine lv_iload_n hx hb dX0_leftAnd_101 rfl (lv_at hl 4 rfl) ?_
      refine lv_iload hx hb dX0_leftAnd_102 (lv_at hl 0 rfl) ?_
      refine lv_isub hx hb dX0_leftAnd_104 ?_
      obtain ⟨u14, hu15, hf⟩ := bdE hf
      refine cV_V (ws' := [(a_p0, .inr (2, [.ref a_p0_left, .ref a_p0_right])), (a_p0_left, .inr (5, [.ref a_p0_left_limbs, .int u14.1])), (a_p0_left_limbs, .inl (cJ, 160, .inr (.inl u14.2))), (a_p0_right, .inr (5, [.ref a_p0_right_limbs, .int u10.1])), (a_p0_right_limbs, .inl (cJ, 160, .inr (.inl u10.2))), (a_p4, .inr (9, [.int p4_kind, .int p4_minus, .long p4_m, .int p4_e, .int p4_narrowBelow]))]) (rest := []) S hK hN hA hP hD hS (c_X4_shiftUp l D cI cJ a_p0_left a_p0_left_limbs (p3 - u12) p0_left_size p0_left_limbs u14 hu15) mwX4_shiftUp miX4_shiftUp kmX0_115 [1, 2] rfl (by decide) rfl rfl rfl 0 rfl rfl ⟨Nat.le_of_ble_eq_true rfl, Nat.le_of_ble_eq_true rfl⟩ ⟨Nat.zero_le _, Nat.zero_le _⟩ hl.1 rfl rfl (Nat.le_of_ble_eq_true rfl) dX0_leftAnd_105 (fun H locs hP hD hS => ?_)
      refine lv_aload_n hx hb dX0_leftAnd_108 rfl (lv_at hl 1 rfl) ?_
      refine va_get (D := D) (ci := 2) (v := .ref a_p0_right) (C := RX0) (T := TX0) (N := 2) hx hb hts uwX0 hown hK hP 0 rfl rfl 1 (by decide) (hts _ kfX0_15) (fun _ h9 => h9) rfl dX0_leftAnd_109 ?_
      refine lv_aload hx hb dX0_leftAnd_112 (lv_at hl 5 rfl) ?_
      refine va_get (D := D) (ci := 9) (v := .int p4_e) (C := RX8) (T := TX8) (N := 5) hx hb hts uwX8 hown hK hP 5 rfl rfl 3 (by decide) (hts _ kfX0_48) (fun _ h9 => h9) rfl dX0_leftAnd_114 ?_
      refine lv_iload hx hb dX0_leftAnd_117 (lv_at hl 0 rfl) ?_
      refine lv_isub hx hb dX0_leftAnd_119 ?_
      obtain ⟨u16, hu17, hf⟩ := bdE hf
      refine cV_V (ws' := [(a_p0, .inr (2, [.ref a_p0_left, .ref a_p0_right])), (a_p0_left, .inr (5, [.ref a_p0_left_limbs, .int u14.1])), (a_p0_left_limbs, .inl (cJ, 160, .inr (.inl u14.2))), (a_p0_right, .inr (5, [.ref a_p0_right_limbs, .int u16.1])), (a_p0_right_limbs, .inl (cJ, 160, .inr (.inl u16.2))), (a_p4, .inr (9, [.int p4_kind, .int p4_minus, .long p4_m, .int p4_e, .int p4_narrowBelow]))]) (rest := []) S hK hN hA hP hD hS (c_X4_shiftUp l D cI cJ a_p0_right a_p0_right_limbs (p4_e - u12) u10.1 u10.2 u16 hu17) mwX4_shiftUp miX4_shiftUp kmX0_115 [3, 4] rfl (by decide) rfl rfl rfl 0 rfl rfl ⟨Nat.le_of_ble_eq_true rfl, Nat.le_of_ble_eq_true rfl⟩ ⟨Nat.zero_le _, Nat.zero_le _⟩ hl.1 rfl rfl (Nat.le_of_ble_eq_true rfl) dX0_leftAnd_120 (fun H locs hP hD hS => ?_)
      refine lv_iload_n hx hb dX0_leftAnd_123 rfl (lv_at hl 3 rfl) ?_
      refine lv_aload hx hb dX0_leftAnd_124 (lv_at hl 5 rfl) ?_
      refine va_get (D := D) (ci := 9) (v := .int p4_minus) (C := RX8) (T := TX8) (N := 5) hx hb hts uwX8 hown hK hP 5 rfl rfl 1 (by decide) (hts _ kfX0_30) (fun _ h9 => h9) rfl dX0_leftAnd_126 ?_
      refine lv_icmp_ne (tgt := 159) hx hb dX0_leftAnd_129 (by decide) (fun hc37 => ?_) (fun hc37 => ?_)
      · have hf := ifF hc37 hf
        refine lv_aload_n hx hb dX0_leftAnd_159 rfl (lv_at hl 1 rfl) ?_
        refine va_get (D := D) (ci := 2) (v := .ref a_p0_left) (C := RX0) (T := TX0) (N := 2) hx hb hts uwX0 hown hK hP 0 rfl rfl 0 (by decide) (hts _ kfX0_9) (fun _ h9 => h9) rfl dX0_leftAnd_160 ?_
        refine lv_aload_n hx hb dX0_leftAnd_163 rfl (lv_at hl 1 rfl) ?_
        refine va_get (D := D) (ci := 2) (v := .ref a_p0_right) (C := RX0) (T := TX0) (N := 2) hx hb hts uwX0 hown hK hP 0 rfl rfl 1 (by decide) (hts _ kfX0_15) (fun _ h9 => h9) rfl dX0_leftAnd_164 ?_
        obtain ⟨u18, hu19, hf⟩ := bdE hf
        refine cV_I (ws' := [(a_p0, .inr (2, [.ref a_p0_left, .ref a_p0_right])), (a_p0_left, .inr (5, [.ref a_p0_left_limbs, .int u14.1])), (a_p0_left_limbs, .inl (cJ, 160, .inr (.inl u14.2))), (a_p0_right, .inr (5, [.ref a_p0_right_limbs, .int u16.1])), (a_p0_right_limbs, .inl (cJ, 160, .inr (.inl u16.2))), (a_p4, .inr (9, [.int p4_kind, .int p4_minus, .long p4_m, .int p4_e, .int p4_narrowBelow]))]) (rest := []) S hK hN hA hP hD hS (c_X4_comparedWith l D cI cJ a_p0_left a_p0_left_limbs a_p0_right a_p0_right_limbs  u14.1 u14.2 u16.1 u16.2 u18 hu19) mwX4_comparedWith miX4_comparedWith kmX0_129 [1, 2, 3, 4] rfl (by decide) rfl rfl rfl 0 rfl rfl ⟨Nat.le_of_ble_eq_true rfl, Nat.le_of_ble_eq_true rfl⟩ ⟨Nat.zero_le _, Nat.zero_le _⟩ hl.1 rfl rfl (Nat.le_of_ble_eq_true rfl) dX0_leftAnd_167 (fun H locs hP hD hS => ?_)
        refine lv_istore (lv' := [(8, .int u18), (7, .int u12), (0, .ref a_p0), (1, .int p1), (2, .int p2), (3, .int p3), (4, .ref a_p4), (5, .int p5), (6, .int p6)]) hx hb dX0_leftAnd_170 hl (by decide) rfl (fun ls hl => ?_)
        refine lv_iload hx hb dX0_leftAnd_172 (lv_at hl 0 rfl) ?_
        refine lv_if_ne (tgt := 194) hx hb dX0_leftAnd_174 (by decide) (fun hc32 => ?_) (fun hc32 => ?_)
        · have hf := ifF hc32 hf
          refine lv_iload hx hb dX0_leftAnd_194 (lv_at hl 0 rfl) ?_
          refine lv_if_le (tgt := 226) hx hb dX0_leftAnd_196 (by decide) (fun hc28 => ?_) (fun hc28 => ?_)
          · have hf := ifT hc28 hf
            refine lv_aload_n hx hb dX0_leftAnd_226 rfl (lv_at hl 2 rfl) ?_
            refine va_get (D := D) (ci := 2) (v := .ref a_p0_right) (C := RX0) (T := TX0) (N := 2) hx hb hts uwX0 hown hK hP 0 rfl rfl 1 (by decide) (hts _ kfX0_15) (fun _ h9 => h9) rfl dX0_leftAnd_227 ?_
            refine lv_aload_n hx hb dX0_leftAnd_230 rfl (lv_at hl 2 rfl) ?_
            refine va_get (D := D) (ci := 2) (v := .ref a_p0_left) (C := RX0) (T := TX0) (N := 2) hx hb hts uwX0 hown hK hP 0 rfl rfl 0 (by decide) (hts _ kfX0_9) (fun _ h9 => h9) rfl dX0_leftAnd_231 ?_
            obtain ⟨u20, hu21, hf⟩ := bdE hf
            refine cV_V (ws' := [(a_p0, .inr (2, [.ref a_p0_left, .ref a_p0_right])), (a_p0_left, .inr (5, [.ref a_p0_left_limbs, .int u14.1])), (a_p0_left_limbs, .inl (cJ, 160, .inr (.inl u14.2))), (a_p0_right, .inr (5, [.ref a_p0_right_limbs, .int u20.1])), (a_p0_right_limbs, .inl (cJ, 160, .inr (.inl u20.2))), (a_p4, .inr (9, [.int p4_kind, .int p4_minus, .long p4_m, .int p4_e, .int p4_narrowBelow]))]) (rest := []) S hK hN hA hP hD hS (c_X4_minus l D cI cJ a_p0_right a_p0_right_limbs a_p0_left a_p0_left_limbs  u16.1 u16.2 u14.1 u14.2 u20 hu21) mwX4_minus miX4_minus kmX0_133 [3, 4, 1, 2] rfl (by decide) rfl rfl rfl 0 rfl rfl ⟨Nat.le_of_ble_eq_true rfl, Nat.le_of_ble_eq_true rfl⟩ ⟨Nat.zero_le _, Nat.zero_le _⟩ hl.1 rfl rfl (Nat.le_of_ble_eq_true rfl) dX0_leftAnd_234 (fun H locs hP hD hS => ?_)
            refine lv_aload hx hb dX0_leftAnd_237 (lv_at hl 6 rfl) ?_
            refine va_get (D := D) (ci := 9) (v := .int p4_minus) (C := RX8) (T := TX8) (N := 5) hx hb hts uwX8 hown hK hP 5 rfl rfl 1 (by decide) (hts _ kfX0_30) (fun _ h9 => h9) rfl dX0_leftAnd_239 ?_
            refine lv_aload_n hx hb dX0_leftAnd_242 rfl (lv_at hl 2 rfl) ?_
            refine va_get (D := D) (ci := 2) (v := .ref a_p0_right) (C := RX0) (T := TX0) (N := 2) hx hb hts uwX0 hown hK hP 0 rfl rfl 1 (by decide) (hts _ kfX0_15) (fun _ h9 => h9) rfl dX0_leftAnd_243 ?_
            refine lv_iload hx hb dX0_leftAnd_246 (lv_at hl 1 rfl) ?_
            refine lv_iconst (v := 0) hx hb dX0_leftAnd_248 (by decide) ?_
            refine lv_iload hx hb dX0_leftAnd_249 (lv_at hl 7 rfl) ?_
            refine lv_iload hx hb dX0_leftAnd_251 (lv_at hl 8 rfl) ?_
            obtain ⟨u22, hu23, hf⟩ := bdE hf
            refine cS_L (ws' := [(a_p0, .inr (2, [.ref a_p0_left, .ref a_p0_right])), (a_p0_left, .inr (5, [.ref a_p0_left_limbs, .int u14.1])), (a_p0_left_limbs, .inl (cJ, 160, .inr (.inl u14.2))), (a_p0_right, .inr (5, [.ref a_p0_right_limbs, .int u20.1])), (a_p0_right_limbs, .inl (cJ, 160, .inr (.inl u20.2))), (a_p4, .inr (9, [.int p4_kind, .int p4_minus, .long p4_m, .int p4_e, .int p4_narrowBelow]))]) (rest := []) S hK hN hA hP hD hS (c_X0_rounded l D cI cJ a_p0_right a_p0_right_limbs p4_minus u12 (0 : Int32) p5 p6 u20.1 u20.2 u22 hu23) mwX0_rounded msX0_rounded kmX0_51 [3, 4] rfl (by decide) rfl rfl rfl ⟨Nat.le_of_ble_eq_true rfl, Nat.le_of_ble_eq_true rfl⟩ ⟨Nat.zero_le _, Nat.zero_le _⟩ hl.1 rfl rfl (Nat.le_of_ble_eq_true rfl) dX0_leftAnd_253 (fun H locs hP hD hS => ?_)
            exact hret _ (opE hf) H locs ls 256 dX0_leftAnd_256 hP hD hS
          · have hf := ifF hc28 hf
            refine lv_aload_n hx hb dX0_leftAnd_199 rfl (lv_at hl 2 rfl) ?_
            refine va_get (D := D) (ci := 2) (v := .ref a_p0_left) (C := RX0) (T := TX0) (N := 2) hx hb hts uwX0 hown hK hP 0 rfl rfl 0 (by decide) (hts _ kfX0_9) (fun _ h9 => h9) rfl dX0_leftAnd_200 ?_
            refine lv_aload_n hx hb dX0_leftAnd_203 rfl (lv_at hl 2 rfl) ?_
            refine va_get (D := D) (ci := 2) (v := .ref a_p0_right) (C := RX0) (T := TX0) (N := 2) hx hb hts uwX0 hown hK hP 0 rfl rfl 1 (by decide) (hts _ kfX0_15) (fun _ h9 => h9) rfl dX0_leftAnd_204 ?_
            obtain ⟨u24, hu25, hf⟩ := bdE hf
            refine cV_V (ws' := [(a_p0, .inr (2, [.ref a_p0_left, .ref a_p0_right])), (a_p0_left, .inr (5, [.ref a_p0_left_limbs, .int u24.1])), (a_p0_left_limbs, .inl (cJ, 160, .inr (.inl u24.2))), (a_p0_right, .inr (5, [.ref a_p0_right_limbs, .int u16.1])), (a_p0_right_limbs, .inl (cJ, 160, .inr (.inl u16.2))), (a_p4, .inr (9, [.int p4_kind, .int p4_minus, .long p4_m, .int p4_e, .int p4_narrowBelow]))]) (rest := []) S hK hN hA hP hD hS (c_X4_minus l D cI cJ a_p0_left a_p0_left_limbs a_p0_right a_p0_right_limbs  u14.1 u14.2 u16.1 u16.2 u24 hu25) mwX4_minus miX4_minus kmX0_133 [1, 2, 3, 4] rfl (by decide) rfl rfl rfl 0 rfl rfl ⟨Nat.le_of_ble_eq_true rfl, Nat.le_of_ble_eq_true rfl⟩ ⟨Nat.zero_le _, Nat.zero_le _⟩ hl.1 rfl rfl (Nat.le_of_ble_eq_true rfl) dX0_leftAnd_207 (fun H locs hP hD hS => ?_)
            refine lv_iload_n hx hb dX0_leftAnd_210 rfl (lv_at hl 4 rfl) ?_
            refine lv_aload_n hx hb dX0_leftAnd_211 rfl (lv_at hl 2 rfl) ?_
            refine va_get (D := D) (ci := 2) (v := .ref a_p0_left) (C := RX0) (T := TX0) (N := 2) hx hb hts uwX0 hown hK hP 0 rfl rfl 0 (by decide) (hts _ kfX0_9) (fun _ h9 => h9) rfl dX0_leftAnd_212 ?_
            refine lv_iload hx hb dX0_leftAnd_215 (lv_at hl 1 rfl) ?_
            refine lv_iconst (v := 0) hx hb dX0_leftAnd_217 (by decide) ?_
            refine lv_iload hx hb dX0_leftAnd_218 (lv_at hl 7 rfl) ?_
            refine lv_iload hx hb dX0_leftAnd_220 (lv_at hl 8 rfl) ?_
            obtain ⟨u26, hu27, hf⟩ := bdE hf
            refine cS_L (ws' := [(a_p0, .inr (2, [.ref a_p0_left, .ref a_p0_right])), (a_p0_left, .inr (5, [.ref a_p0_left_limbs, .int u24.1])), (a_p0_left_limbs, .inl (cJ, 160, .inr (.inl u24.2))), (a_p0_right, .inr (5, [.ref a_p0_right_limbs, .int u16.1])), (a_p0_right_limbs, .inl (cJ, 160, .inr (.inl u16.2))), (a_p4, .inr (9, [.int p4_kind, .int p4_minus, .long p4_m, .int p4_e, .int p4_narrowBelow]))]) (rest := []) S hK hN hA hP hD hS (c_X0_rounded l D cI cJ a_p0_left a_p0_left_limbs p2 u12 (0 : Int32) p5 p6 u24.1 u24.2 u26 hu27) mwX0_rounded msX0_rounded kmX0_51 [1, 2] rfl (by decide) rfl rfl rfl ⟨Nat.le_of_ble_eq_true rfl, Nat.le_of_ble_eq_true rfl⟩ ⟨Nat.zero_le _, Nat.zero_le _⟩ hl.1 rfl rfl (Nat.le_of_ble_eq_true rfl) dX0_leftAnd_222 (fun H locs hP hD hS => ?_)
            exact hret _ (opE hf) H locs ls 225 dX0_leftAnd_225 hP hD hS
        · have hf := ifT hc32 hf
          refine lv_iload hx hb dX0_leftAnd_177 (lv_at hl 7 rfl) ?_
          refine lv_iload hx hb dX0_leftAnd_179 (lv_at hl 8 rfl) ?_
          refine lv_iconst (v := 3) hx hb dX0_leftAnd_181 (by decide) ?_
          refine lv_icmp_ne (tgt := 189) hx hb dX0_leftAnd_182 (by decide) (fun hc31 => ?_) (fun hc31 => ?_)
          · have hf := ifF hc31 hf
            refine lv_iconst (v := 0) hx hb dX0_leftAnd_189 (by decide) ?_
            exact keyB190 p5 (0 : Int32) u14.1 u14.2 u16.1 u16.2 H locs ls hf hP hD hS (lv_sub hl [] rfl)
          · have hf := ifT hc31 hf
            refine lv_iconst (v := 1) hx hb dX0_leftAnd_185 (by decide) ?_
            refine lv_goto (tgt := 190) hx hb dX0_leftAnd_186 (by decide) ?_
            exact keyB190 p5 (1 : Int32) u14.1 u14.2 u16.1 u16.2 H locs ls hf hP hD hS (lv_sub hl [] rfl)
      · have hf := ifT hc37 hf
        refine lv_aload_n hx hb dX0_leftAnd_132 rfl (lv_at hl 1 rfl) ?_
        refine va_get (D := D) (ci := 2) (v := .ref a_p0_left) (C := RX0) (T := TX0) (N := 2) hx hb hts uwX0 hown hK hP 0 rfl rfl 0 (by decide) (hts _ kfX0_9) (fun _ h9 => h9) rfl dX0_leftAnd_133 ?_
        refine lv_aload_n hx hb dX0_leftAnd_136 rfl (lv_at hl 1 rfl) ?_
        refine va_get (D := D) (ci := 2) (v := .ref a_p0_right) (C := RX0) (T := TX0) (N := 2) hx hb hts uwX0 hown hK hP 0 rfl rfl 1 (by decide) (hts _ kfX0_15) (fun _ h9 => h9) rfl dX0_leftAnd_137 ?_
        obtain ⟨u33, hu34, hf⟩ := bdE hf
        refine cV_V (ws' := [(a_p0, .inr (2, [.ref a_p0_left, .ref a_p0_right])), (a_p0_left, .inr (5, [.ref a_p0_left_limbs, .int u33.1])), (a_p0_left_limbs, .inl (cJ, 160, .inr (.inl u33.2))), (a_p0_right, .inr (5, [.ref a_p0_right_limbs, .int u16.1])), (a_p0_right_limbs, .inl (cJ, 160, .inr (.inl u16.2))), (a_p4, .inr (9, [.int p4_kind, .int p4_minus, .long p4_m, .int p4_e, .int p4_narrowBelow]))]) (rest := []) S hK hN hA hP hD hS (c_X4_plus l D cI cJ a_p0_left a_p0_left_limbs a_p0_right a_p0_right_limbs  u14.1 u14.2 u16.1 u16.2 u33 hu34) mwX4_plus miX4_plus kmX0_120 [1, 2, 3, 4] rfl (by decide) rfl rfl rfl 0 rfl rfl ⟨Nat.le_of_ble_eq_true rfl, Nat.le_of_ble_eq_true rfl⟩ ⟨Nat.zero_le _, Nat.zero_le _⟩ hl.1 rfl rfl (Nat.le_of_ble_eq_true rfl) dX0_leftAnd_140 (fun H locs hP hD hS => ?_)
        refine lv_iload_n hx hb dX0_leftAnd_143 rfl (lv_at hl 3 rfl) ?_
        refine lv_aload_n hx hb dX0_leftAnd_144 rfl (lv_at hl 1 rfl) ?_
        refine va_get (D := D) (ci := 2) (v := .ref a_p0_left) (C := RX0) (T := TX0) (N := 2) hx hb hts uwX0 hown hK hP 0 rfl rfl 0 (by decide) (hts _ kfX0_9) (fun _ h9 => h9) rfl dX0_leftAnd_145 ?_
        refine lv_iload hx hb dX0_leftAnd_148 (lv_at hl 0 rfl) ?_
        refine lv_iconst (v := 0) hx hb dX0_leftAnd_150 (by decide) ?_
        refine lv_iload hx hb dX0_leftAnd_151 (lv_at hl 6 rfl) ?_
        refine lv_iload hx hb dX0_leftAnd_153 (lv_at hl 7 rfl) ?_
        obtain ⟨u35, hu36, hf⟩ := bdE hf
        refine cS_L (ws' := [(a_p0, .inr (2, [.ref a_p0_left, .ref a_p0_right])), (a_p0_left, .inr (5, [.ref a_p0_left_limbs, .int u33.1])), (a_p0_left_limbs, .inl (cJ, 160, .inr (.inl u33.2))), (a_p0_right, .inr (5, [.ref a_p0_right_limbs, .int u16.1])), (a_p0_right_limbs, .inl (cJ, 160, .inr (.inl u16.2))), (a_p4, .inr (9, [.int p4_kind, .int p4_minus, .long p4_m, .int p4_e, .int p4_narrowBelow]))]) (rest := []) S hK hN hA hP hD hS (c_X0_rounded l D cI cJ a_p0_left a_p0_left_limbs p2 u12 (0 : Int32) p5 p6 u33.1 u33.2 u35 hu36) mwX0_rounded msX0_rounded kmX0_51 [1, 2] rfl (by decide) rfl rfl rfl ⟨Nat.le_of_ble_eq_true rfl, Nat.le_of_ble_eq_true rfl⟩ ⟨Nat.zero_le _, Nat.zero_le _⟩ hl.1 rfl rfl (Nat.le_of_ble_eq_true rfl) dX0_leftAnd_155 (fun H locs hP hD hS => ?_)
        exact hret _ (opE hf) H locs ls 158 dX0_leftAnd_158 hP hD hS
    · have hf := ifT hc38 hf
      exact keyB13 p1 p2 p5 p0_left_size p0_left_limbs p0_right_size p0_right_limbs H locs ls hf hP hD hS (lv_sub hl [1, 2, 4, 5] rfl)
set_option maxRecDepth 100000 in
set_option maxHeartbeats 4000000 in
theorem c_X0_sum (l : Launch) (D : va_G) (cI cJ : ClassId) (a_p0 a_p0_left a_p0_right a_p0_left_limbs a_p0_right_limbs a_p1 a_p2 : Nat) (p3 : Int32) (p4 : Int32) (p0_left_size : Int32) (p0_left_limbs : (Nat → Int64)) (p0_right_size : Int32) (p0_right_limbs : (Nat → Int64)) (p1_kind : Int32) (p1_minus : Int32) (p1_m : Int64) (p1_e : Int32) (p1_narrowBelow : Int32) (p2_kind : Int32) (p2_minus : Int32) (p2_m : Int64) (p2_e : Int32) (p2_narrowBelow : Int32) (u : Int64 × Int32 × (Nat → Int64) × Int32 × (Nat → Int64)) (hf : f_X0_sum p1_kind p1_minus p1_m p1_e p2_kind p2_minus p2_m p2_e p3 p4 p0_left_size p0_left_limbs p0_right_size p0_right_limbs = some u) : CtL l yX0_sum cX0_sum 5 5 129 [.ref a_p0, .ref a_p1, .ref a_p2, .int p3, .int p4] D cI cJ [(a_p0, .inr (2, [.ref a_p0_left, .ref a_p0_right])), (a_p0_left, .inr (5, [.ref a_p0_left_limbs, .int p0_left_size])), (a_p0_left_limbs, .inl (cJ, 160, .inr (.inl p0_left_limbs))), (a_p0_right, .inr (5, [.ref a_p0_right_limbs, .int p0_right_size])), (a_p0_right_limbs, .inl (cJ, 160, .inr (.inl p0_right_limbs))), (a_p1, .inr (9, [.int p1_kind, .int p1_minus, .long p1_m, .int p1_e, .int p1_narrowBelow])), (a_p2, .inr (9, [.int p2_kind, .int p2_minus, .long p2_m, .int p2_e, .int p2_narrowBelow]))] [(a_p0, .inr (2, [.ref a_p0_left, .ref a_p0_right])), (a_p0_left, .inr (5, [.ref a_p0_left_limbs, .int u.2.1])), (a_p0_left_limbs, .inl (cJ, 160, .inr (.inl u.2.2.1))), (a_p0_right, .inr (5, [.ref a_p0_right_limbs, .int u.2.2.2.1])), (a_p0_right_limbs, .inl (cJ, 160, .inr (.inl u.2.2.2.2))), (a_p1, .inr (9, [.int p1_kind, .int p1_minus, .long p1_m, .int p1_e, .int p1_narrowBelow])), (a_p2, .inr (9, [.int p2_kind, .int p2_minus, .long p2_m, .int p2_e, .int p2_narrowBelow]))] u.1 := by
  refine mkL (own := RX0) rfl (by decide +kernel) (Nat.le_of_ble_eq_true rfl) (lv := [(0, .ref a_p0), (1, .ref a_p1), (2, .ref a_p2), (3, .int p3), (4, .int p4)]) rfl ?_
  intro p e s m below meth c Q A ls ar S hA hK hN hret H locs hP hD hS hl
  obtain ⟨hx, hb, hml, hown, hts⟩ := id S
  have hret : ∀ (w : Int64 × Int32 × (Nat → Int64) × Int32 × (Nat → Int64)), w = u → ∀ (H : Heap) (locs : List Loc) (ls : Array Slot) (pc : Nat), decode cX0_sum pc = .ok (.lreturn, 1) → va_P D vwCl [(a_p0, .inr (2, [.ref a_p0_left, .ref a_p0_right])), (a_p0_left, .inr (5, [.ref a_p0_left_limbs, .int w.2.1])), (a_p0_left_limbs, .inl (cJ, 160, .inr (.inl w.2.2.1))), (a_p0_right, .inr (5, [.ref a_p0_right_limbs, .int w.2.2.2.1])), (a_p0_right_limbs, .inl (cJ, 160, .inr (.inl w.2.2.2.2))), (a_p1, .inr (9, [.int p1_kind, .int p1_minus, .long p1_m, .int p1_e, .int p1_narrowBelow])), (a_p2, .inr (9, [.int p2_kind, .int p2_minus, .long p2_m, .int p2_e, .int p2_narrowBelow]))] H → va_D A [(a_p0, .inr (2, [.ref a_p0_left, .ref a_p0_right])), (a_p0_left, .inr (5, [.ref a_p0_left_limbs, .int w.2.1])), (a_p0_left_limbs, .inl (cJ, 160, .inr (.inl w.2.2.1))), (a_p0_right, .inr (5, [.ref a_p0_right_limbs, .int w.2.2.2.1])), (a_p0_right_limbs, .inl (cJ, 160, .inr (.inl w.2.2.2.2))), (a_p1, .inr (9, [.int p1_kind, .int p1_minus, .long p1_m, .int p1_e, .int p1_narrowBelow])), (a_p2, .inr (9, [.int p2_kind, .int p2_minus, .long p2_m, .int p2_e, .int p2_narrowBelow]))] → va_S A s.heap H locs → W p l e (rmz 5 129) s m ar below meth c H locs 0 0 Q (F0 m pc ls [.long w.1]) := fun w hw => hw ▸ hret
  have keyB16 : ∀ (v3 : Int32) (p0_left_size : Int32) (p0_left_limbs : (Nat → Int64)) (p0_right_size : Int32) (p0_right_limbs : (Nat → Int64)) (H : Heap) (locs : List Loc) (ls : Array Slot), f_X0_sum_B16 p1_kind p1_minus p1_m p1_e p2_kind p2_minus p2_m p2_e v3 p0_left_size p0_left_limbs p0_right_size p0_right_limbs = some u → va_P D vwCl [(a_p0, .inr (2, [.ref a_p0_left, .ref a_p0_right])), (a_p0_left, .inr (5, [.ref a_p0_left_limbs, .int p0_left_size])), (a_p0_left_limbs, .inl (cJ, 160, .inr (.inl p0_left_limbs))), (a_p0_right, .inr (5, [.ref a_p0_right_limbs, .int p0_right_size])), (a_p0_right_limbs, .inl (cJ, 160, .inr (.inl p0_right_limbs))), (a_p1, .inr (9, [.int p1_kind, .int p1_minus, .long p1_m, .int p1_e, .int p1_narrowBelow])), (a_p2, .inr (9, [.int p2_kind, .int p2_minus, .long p2_m, .int p2_e, .int p2_narrowBelow]))] H → va_D A [(a_p0, .inr (2, [.ref a_p0_left, .ref a_p0_right])), (a_p0_left, .inr (5, [.ref a_p0_left_limbs, .int p0_left_size])), (a_p0_left_limbs, .inl (cJ, 160, .inr (.inl p0_left_limbs))), (a_p0_right, .inr (5, [.ref a_p0_right_limbs, .int p0_right_size])), (a_p0_right_limbs, .inl (cJ, 160, .inr (.inl p0_right_limbs))), (a_p1, .inr (9, [.int p1_kind, .int p1_minus, .long p1_m, .int p1_e, .int p1_narrowBelow])), (a_p2, .inr (9, [.int p2_kind, .int p2_minus, .long p2_m, .int p2_e, .int p2_narrowBelow]))] → va_S A s.heap H locs → lv_has ls 5 [(3, .int v3)] → W p l e (rmz 5 129) s m ar below meth c H locs 0 0 Q (F0 m 16 ls []) := by
    intro v3 p0_left_size p0_left_limbs p0_right_size p0_right_limbs H locs ls hf hP hD hS hl
    unfold f_X0_sum_B16 at hf
    refine lv_iload_n hx hb dX0_sum_16 rfl (lv_at hl 0 rfl) ?_
    obtain ⟨u1, hu2, hf⟩ := bdE hf
    refine cS_L (ws' := [(a_p0, .inr (2, [.ref a_p0_left, .ref a_p0_right])), (a_p0_left, .inr (5, [.ref a_p0_left_limbs, .int p0_left_size])), (a_p0_left_limbs, .inl (cJ, 160, .inr (.inl p0_left_limbs))), (a_p0_right, .inr (5, [.ref a_p0_right_limbs, .int p0_right_size])), (a_p0_right_limbs, .inl (cJ, 160, .inr (.inl p0_right_limbs))), (a_p1, .inr (9, [.int p1_kind, .int p1_minus, .long p1_m, .int p1_e, .int p1_narrowBelow])), (a_p2, .inr (9, [.int p2_kind, .int p2_minus, .long p2_m, .int p2_e, .int p2_narrowBelow]))]) (rest := []) S hK hN hA hP hD hS (c_X2_none l D cI cJ  v3  u1 hu2) mwX2_none msX2_none kmX0_24 [] rfl (by decide) rfl rfl rfl ⟨Nat.le_of_ble_eq_true rfl, Nat.le_of_ble_eq_true rfl⟩ ⟨Nat.zero_le _, Nat.zero_le _⟩ hl.1 rfl rfl (Nat.le_of_ble_eq_true rfl) dX0_sum_17 (fun H locs hP hD hS => ?_)
    exact hret _ (opE hf) H locs ls 20 dX0_sum_20 hP hD hS
  have keyB46 : ∀ (v3 : Int32) (v4 : Int32) (s1 : Int32) (p0_left_size : Int32) (p0_left_limbs : (Nat → Int64)) (p0_right_size : Int32) (p0_right_limbs : (Nat → Int64)) (H : Heap) (locs : List Loc) (ls : Array Slot), f_X0_sum_B46 p1_kind p1_minus p1_m p1_e p2_kind p2_minus p2_m p2_e v3 v4 s1 p0_left_size p0_left_limbs p0_right_size p0_right_limbs = some u → va_P D vwCl [(a_p0, .inr (2, [.ref a_p0_left, .ref a_p0_right])), (a_p0_left, .inr (5, [.ref a_p0_left_limbs, .int p0_left_size])), (a_p0_left_limbs, .inl (cJ, 160, .inr (.inl p0_left_limbs))), (a_p0_right, .inr (5, [.ref a_p0_right_limbs, .int p0_right_size])), (a_p0_right_limbs, .inl (cJ, 160, .inr (.inl p0_right_limbs))), (a_p1, .inr (9, [.int p1_kind, .int p1_minus, .long p1_m, .int p1_e, .int p1_narrowBelow])), (a_p2, .inr (9, [.int p2_kind, .int p2_minus, .long p2_m, .int p2_e, .int p2_narrowBelow]))] H → va_D A [(a_p0, .inr (2, [.ref a_p0_left, .ref a_p0_right])), (a_p0_left, .inr (5, [.ref a_p0_left_limbs, .int p0_left_size])), (a_p0_left_limbs, .inl (cJ, 160, .inr (.inl p0_left_limbs))), (a_p0_right, .inr (5, [.ref a_p0_right_limbs, .int p0_right_size])), (a_p0_right_limbs, .inl (cJ, 160, .inr (.inl p0_right_limbs))), (a_p1, .inr (9, [.int p1_kind, .int p1_minus, .long p1_m, .int p1_e, .int p1_narrowBelow])), (a_p2, .inr (9, [.int p2_kind, .int p2_minus, .long p2_m, .int p2_e, .int p2_narrowBelow]))] → va_S A s.heap H locs → lv_has ls 5 [(1, .ref a_p1), (2, .ref a_p2), (3, .int v3), (4, .int v4)] → W p l e (rmz 5 129) s m ar below meth c H locs 0 0 Q (F0 m 46 ls [.int s1, .ref a_p0]) := by
    intro v3 v4 s1 p0_left_size p0_left_limbs p0_right_size p0_right_limbs H locs ls hf hP hD hS hl
    unfold f_X0_sum_B46 at hf
    refine lv_aload_n hx hb dX0_sum_46 rfl (lv_at hl 0 rfl) ?_
    refine va_get (D := D) (ci := 9) (v := .int p1_minus) (C := RX8) (T := TX8) (N := 5) hx hb hts uwX8 hown hK hP 5 rfl rfl 1 (by decide) (hts _ kfX0_30) (fun _ h9 => h9) rfl dX0_sum_47 ?_
    refine lv_aload_n hx hb dX0_sum_50 rfl (lv_at hl 0 rfl) ?_
    refine va_get (D := D) (ci := 9) (v := .int p1_e) (C := RX8) (T := TX8) (N := 5) hx hb hts uwX8 hown hK hP 5 rfl rfl 3 (by decide) (hts _ kfX0_48) (fun _ h9 => h9) rfl dX0_sum_51 ?_
    refine lv_aload_n hx hb dX0_sum_54 rfl (lv_at hl 1 rfl) ?_
    refine lv_iload_n hx hb dX0_sum_55 rfl (lv_at hl 2 rfl) ?_
    refine lv_iload hx hb dX0_sum_56 (lv_at hl 3 rfl) ?_
    obtain ⟨u5, hu6, hf⟩ := bdE hf
    refine cV_L (ws' := [(a_p0, .inr (2, [.ref a_p0_left, .ref a_p0_right])), (a_p0_left, .inr (5, [.ref a_p0_left_limbs, .int u5.2.1])), (a_p0_left_limbs, .inl (cJ, 160, .inr (.inl u5.2.2.1))), (a_p0_right, .inr (5, [.ref a_p0_right_limbs, .int u5.2.2.2.1])), (a_p0_right_limbs, .inl (cJ, 160, .inr (.inl u5.2.2.2.2))), (a_p1, .inr (9, [.int p1_kind, .int p1_minus, .long p1_m, .int p1_e, .int p1_narrowBelow])), (a_p2, .inr (9, [.int p2_kind, .int p2_minus, .long p2_m, .int p2_e, .int p2_narrowBelow]))]) (rest := []) S hK hN hA hP hD hS (c_X0_leftAnd l D cI cJ a_p0 a_p0_left a_p0_right a_p0_left_limbs a_p0_right_limbs a_p2 s1 p1_minus p1_e v3 v4 p0_left_size p0_left_limbs p0_right_size p0_right_limbs p2_kind p2_minus p2_m p2_e p2_narrowBelow u5 hu6) mwX0_leftAnd miX0_leftAnd kmX0_55 [0, 1, 2, 3, 4, 6] rfl (by decide) rfl rfl rfl 0 rfl rfl ⟨Nat.le_of_ble_eq_true rfl, Nat.le_of_ble_eq_true rfl⟩ ⟨Nat.zero_le _, Nat.zero_le _⟩ hl.1 rfl rfl (Nat.le_of_ble_eq_true rfl) dX0_sum_58 (fun H locs hP hD hS => ?_)
    exact hret _ (opE hf) H locs ls 61 dX0_sum_61 hP hD hS
  unfold f_X0_sum at hf
  refine lv_aload_n hx hb dX0_sum_0 rfl (lv_at hl 1 rfl) ?_
  refine va_get (D := D) (ci := 9) (v := .int p1_kind) (C := RX8) (T := TX8) (N := 5) hx hb hts uwX8 hown hK hP 5 rfl rfl 0 (by decide) (hts _ kfX0_18) (fun _ h9 => h9) rfl dX0_sum_1 ?_
  refine lv_iconst (v := 4) hx hb dX0_sum_4 (by decide) ?_
  refine lv_icmp_eq (tgt := 16) hx hb dX0_sum_5 (by decide) (fun hc9 => ?_) (fun hc9 => ?_)
  · have hf := ifT hc9 hf
    exact keyB16 p3 p0_left_size p0_left_limbs p0_right_size p0_right_limbs H locs ls hf hP hD hS (lv_sub hl [3] rfl)
  · have hf := ifF hc9 hf
    refine lv_aload_n hx hb dX0_sum_8 rfl (lv_at hl 2 rfl) ?_
    refine va_get (D := D) (ci := 9) (v := .int p2_kind) (C := RX8) (T := TX8) (N := 5) hx hb hts uwX8 hown hK hP 6 rfl rfl 0 (by decide) (hts _ kfX0_18) (fun _ h9 => h9) rfl dX0_sum_9 ?_
    refine lv_iconst (v := 4) hx hb dX0_sum_12 (by decide) ?_
    refine lv_icmp_ne (tgt := 21) hx hb dX0_sum_13 (by decide) (fun hc8 => ?_) (fun hc8 => ?_)
    · have hf := ifF hc8 hf
      refine lv_aload_n hx hb dX0_sum_21 rfl (lv_at hl 0 rfl) ?_
      refine va_get (D := D) (ci := 2) (v := .ref a_p0_left) (C := RX0) (T := TX0) (N := 2) hx hb hts uwX0 hown hK hP 0 rfl rfl 0 (by decide) (hts _ kfX0_9) (fun _ h9 => h9) rfl dX0_sum_22 ?_
      refine lv_aload_n hx hb dX0_sum_25 rfl (lv_at hl 1 rfl) ?_
      refine va_get (D := D) (ci := 9) (v := .long p1_m) (C := RX8) (T := TX8) (N := 5) hx hb hts uwX8 hown hK hP 5 rfl rfl 2 (by decide) (hts _ kfX0_38) (fun _ h9 => h9) rfl dX0_sum_26 ?_
      obtain ⟨u3, hu4, hf⟩ := bdE hf
      refine cV_V (ws' := [(a_p0, .inr (2, [.ref a_p0_left, .ref a_p0_right])), (a_p0_left, .inr (5, [.ref a_p0_left_limbs, .int u3.1])), (a_p0_left_limbs, .inl (cJ, 160, .inr (.inl u3.2))), (a_p0_right, .inr (5, [.ref a_p0_right_limbs, .int p0_right_size])), (a_p0_right_limbs, .inl (cJ, 160, .inr (.inl p0_right_limbs))), (a_p1, .inr (9, [.int p1_kind, .int p1_minus, .long p1_m, .int p1_e, .int p1_narrowBelow])), (a_p2, .inr (9, [.int p2_kind, .int p2_minus, .long p2_m, .int p2_e, .int p2_narrowBelow]))]) (rest := []) S hK hN hA hP hD hS (c_X4_take l D cI cJ a_p0_left a_p0_left_limbs p1_m p0_left_size p0_left_limbs u3 hu4) mwX4_take miX4_take kmX0_42 [1, 2] rfl (by decide) rfl rfl rfl 0 rfl rfl ⟨Nat.le_of_ble_eq_true rfl, Nat.le_of_ble_eq_true rfl⟩ ⟨Nat.zero_le _, Nat.zero_le _⟩ hl.1 rfl rfl (Nat.le_of_ble_eq_true rfl) dX0_sum_29 (fun H locs hP hD hS => ?_)
      refine lv_aload_n hx hb dX0_sum_32 rfl (lv_at hl 0 rfl) ?_
      refine lv_aload_n hx hb dX0_sum_33 rfl (lv_at hl 1 rfl) ?_
      refine va_get (D := D) (ci := 9) (v := .int p1_kind) (C := RX8) (T := TX8) (N := 5) hx hb hts uwX8 hown hK hP 5 rfl rfl 0 (by decide) (hts _ kfX0_18) (fun _ h9 => h9) rfl dX0_sum_34 ?_
      refine lv_iconst (v := 3) hx hb dX0_sum_37 (by decide) ?_
      refine lv_icmp_ne (tgt := 45) hx hb dX0_sum_38 (by decide) (fun hc7 => ?_) (fun hc7 => ?_)
      · have hf := ifF hc7 hf
        refine lv_iconst (v := 0) hx hb dX0_sum_45 (by decide) ?_
        exact keyB46 p3 p4 (0 : Int32) u3.1 u3.2 p0_right_size p0_right_limbs H locs ls hf hP hD hS (lv_sub hl [1, 2, 3, 4] rfl)
      · have hf := ifT hc7 hf
        refine lv_iconst (v := 1) hx hb dX0_sum_41 (by decide) ?_
        refine lv_goto (tgt := 46) hx hb dX0_sum_42 (by decide) ?_
        exact keyB46 p3 p4 (1 : Int32) u3.1 u3.2 p0_right_size p0_right_limbs H locs ls hf hP hD hS (lv_sub hl [1, 2, 3, 4] rfl)
    · have hf := ifT hc8 hf
      exact keyB16 p3 p0_left_size p0_left_limbs p0_right_size p0_right_limbs H locs ls hf hP hD hS (lv_sub hl [3] rfl)
