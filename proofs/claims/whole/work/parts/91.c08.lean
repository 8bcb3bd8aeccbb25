set_option maxRecDepth 100000 in
set_option maxHeartbeats 4000000 in
theorem c_X7_signLength (l : Launch) (D : va_G) (cI cJ : ClassId) (a_p0 a_p0_bytes : Nat) (p1 : Int32) (p0_length : Int32) (p0_minus : Int32) (p0_kind : Int32) (p0_sixteens : Int32) (p0_behindPoint : Int32) (p0_counting : Int32) (p0_power : Int32) (p0_begin : Int32) (p0_end : Int32) (p0_bytes : (Nat → Int32)) (u : Int32) (hf : f_X7_signLength p0_length p0_bytes p1 = some u) : CtI l yX7_signLength cX7_signLength 2 1 21 .int [.ref a_p0, .int p1] D cI cJ [(a_p0, .inr (8, [.ref a_p0_bytes, .int p0_length, .int p0_minus, .int p0_kind, .int p0_sixteens, .int p0_behindPoint, .int p0_counting, .int p0_power, .int p0_begin, .int p0_end])), (a_p0_bytes, .inl (cI, 1200, .inl p0_bytes))] [(a_p0, .inr (8, [.ref a_p0_bytes, .int p0_length, .int p0_minus, .int p0_kind, .int p0_sixteens, .int p0_behindPoint, .int p0_counting, .int p0_power, .int p0_begin, .int p0_end])), (a_p0_bytes, .inl (cI, 1200, .inl p0_bytes))] u := by
  refine mkI (own := RX7) rfl (by decide +kernel) (Nat.le_of_ble_eq_true rfl) (lv := [(0, .ref a_p0), (1, .int p1)]) rfl ?_
  intro p e s m below meth c Q A ls ar S hA hK hN hret H locs hP hD hS hl
  obtain ⟨hx, hb, hml, hown, hts⟩ := id S
  have hret : ∀ (w : Int32), w = u → ∀ (H : Heap) (locs : List Loc) (ls : Array Slot) (pc : Nat), decode cX7_signLength pc = .ok (.ireturn, 1) → va_P D vwCl [(a_p0, .inr (8, [.ref a_p0_bytes, .int p0_length, .int p0_minus, .int p0_kind, .int p0_sixteens, .int p0_behindPoint, .int p0_counting, .int p0_power, .int p0_begin, .int p0_end])), (a_p0_bytes, .inl (cI, 1200, .inl p0_bytes))] H → va_D A [(a_p0, .inr (8, [.ref a_p0_bytes, .int p0_length, .int p0_minus, .int p0_kind, .int p0_sixteens, .int p0_behindPoint, .int p0_counting, .int p0_power, .int p0_begin, .int p0_end])), (a_p0_bytes, .inl (cI, 1200, .inl p0_bytes))] → va_S A s.heap H locs → W p l e (rmz 1 21) s m ar below meth c H locs 0 0 Q (F0 m pc ls [.int w]) := fun w hw => hw ▸ hret
  unfold f_X7_signLength at hf
  refine lv_aload_n hx hb dX7_signLength_0 rfl (lv_at hl 0 rfl) ?_
  refine lv_iload_n hx hb dX7_signLength_1 rfl (lv_at hl 1 rfl) ?_
  obtain ⟨u1, hu2, hf⟩ := bdE hf
  refine cV_I (ws' := [(a_p0, .inr (8, [.ref a_p0_bytes, .int p0_length, .int p0_minus, .int p0_kind, .int p0_sixteens, .int p0_behindPoint, .int p0_counting, .int p0_power, .int p0_begin, .int p0_end])), (a_p0_bytes, .inl (cI, 1200, .inl p0_bytes))]) (rest := []) S hK hN hA hP hD hS (c_X7_at l D cI cJ a_p0 a_p0_bytes p1 p0_length p0_minus p0_kind p0_sixteens p0_behindPoint p0_counting p0_power p0_begin p0_end p0_bytes u1 hu2) mwX7_at miX7_at kmX7_19 [0, 1] rfl (by decide) rfl rfl rfl 0 rfl rfl ⟨Nat.le_of_ble_eq_true rfl, Nat.le_of_ble_eq_true rfl⟩ ⟨Nat.zero_le _, Nat.zero_le _⟩ hl.1 rfl rfl (Nat.le_of_ble_eq_true rfl) dX7_signLength_2 (fun H locs hP hD hS => ?_)
  refine lv_bipush (v := 45) hx hb dX7_signLength_5 (by decide) ?_
  refine lv_icmp_eq (tgt := 20) hx hb dX7_signLength_7 (by decide) (fun hc6 => ?_) (fun hc6 => ?_)
  · have hf := ifT hc6 hf
    refine lv_iconst (v := 1) hx hb dX7_signLength_20 (by decide) ?_
    refine lv_goto (tgt := 25) hx hb dX7_signLength_21 (by decide) ?_
    exact hret _ (opE hf) H locs ls 25 dX7_signLength_25 hP hD hS
  · have hf := ifF hc6 hf
    refine lv_aload_n hx hb dX7_signLength_10 rfl (lv_at hl 0 rfl) ?_
    refine lv_iload_n hx hb dX7_signLength_11 rfl (lv_at hl 1 rfl) ?_
    obtain ⟨u3, hu4, hf⟩ := bdE hf
    refine cV_I (ws' := [(a_p0, .inr (8, [.ref a_p0_bytes, .int p0_length, .int p0_minus, .int p0_kind, .int p0_sixteens, .int p0_behindPoint, .int p0_counting, .int p0_power, .int p0_begin, .int p0_end])), (a_p0_bytes, .inl (cI, 1200, .inl p0_bytes))]) (rest := []) S hK hN hA hP hD hS (c_X7_at l D cI cJ a_p0 a_p0_bytes p1 p0_length p0_minus p0_kind p0_sixteens p0_behindPoint p0_counting p0_power p0_begin p0_end p0_bytes u3 hu4) mwX7_at miX7_at kmX7_19 [0, 1] rfl (by decide) rfl rfl rfl 0 rfl rfl ⟨Nat.le_of_ble_eq_true rfl, Nat.le_of_ble_eq_true rfl⟩ ⟨Nat.zero_le _, Nat.zero_le _⟩ hl.1 rfl rfl (Nat.le_of_ble_eq_true rfl) dX7_signLength_12 (fun H locs hP hD hS => ?_)
    refine lv_bipush (v := 43) hx hb dX7_signLength_15 (by decide) ?_
    refine lv_icmp_ne (tgt := 24) hx hb dX7_signLength_17 (by decide) (fun hc5 => ?_) (fun hc5 => ?_)
    · have hf := ifF hc5 hf
      refine lv_iconst (v := 0) hx hb dX7_signLength_24 (by decide) ?_
      exact hret _ (opE hf) H locs ls 25 dX7_signLength_25 hP hD hS
    · have hf := ifT hc5 hf
      refine lv_iconst (v := 1) hx hb dX7_signLength_20 (by decide) ?_
      refine lv_goto (tgt := 25) hx hb dX7_signLength_21 (by decide) ?_
      exact hret _ (opE hf) H locs ls 25 dX7_signLength_25 hP hD hS
set_option maxRecDepth 100000 in
set_option maxHeartbeats 4000000 in
theorem c_X7_parsePower (l : Launch) (D : va_G) (cI cJ : ClassId) (a_p0 a_p0_bytes : Nat) (p1 : Int32) (p0_length : Int32) (p0_minus : Int32) (p0_kind : Int32) (p0_sixteens : Int32) (p0_behindPoint : Int32) (p0_counting : Int32) (p0_power : Int32) (p0_begin : Int32) (p0_end : Int32) (p0_bytes : (Nat → Int32)) (u : Int32 × Int32) (hf : f_X7_parsePower p0_length p0_bytes p1 p0_power = some u) : CtI l yX7_parsePower cX7_parsePower 4 2 42 .int [.ref a_p0, .int p1] D cI cJ [(a_p0, .inr (8, [.ref a_p0_bytes, .int p0_length, .int p0_minus, .int p0_kind, .int p0_sixteens, .int p0_behindPoint, .int p0_counting, .int p0_power, .int p0_begin, .int p0_end])), (a_p0_bytes, .inl (cI, 1200, .inl p0_bytes))] [(a_p0, .inr (8, [.ref a_p0_bytes, .int p0_length, .int p0_minus, .int p0_kind, .int p0_sixteens, .int p0_behindPoint, .int p0_counting, .int u.2, .int p0_begin, .int p0_end])), (a_p0_bytes, .inl (cI, 1200, .inl p0_bytes))] u.1 := by
  refine mkI (own := RX7) rfl (by decide +kernel) (Nat.le_of_ble_eq_true rfl) (lv := [(0, .ref a_p0), (1, .int p1)]) rfl ?_
  intro p e s m below meth c Q A ls ar S hA hK hN hret H locs hP hD hS hl
  obtain ⟨hx, hb, hml, hown, hts⟩ := id S
  have hret : ∀ (w : Int32 × Int32), w = u → ∀ (H : Heap) (locs : List Loc) (ls : Array Slot) (pc : Nat), decode cX7_parsePower pc = .ok (.ireturn, 1) → va_P D vwCl [(a_p0, .inr (8, [.ref a_p0_bytes, .int p0_length, .int p0_minus, .int p0_kind, .int p0_sixteens, .int p0_behindPoint, .int p0_counting, .int w.2, .int p0_begin, .int p0_end])), (a_p0_bytes, .inl (cI, 1200, .inl p0_bytes))] H → va_D A [(a_p0, .inr (8, [.ref a_p0_bytes, .int p0_length, .int p0_minus, .int p0_kind, .int p0_sixteens, .int p0_behindPoint, .int p0_counting, .int w.2, .int p0_begin, .int p0_end])), (a_p0_bytes, .inl (cI, 1200, .inl p0_bytes))] → va_S A s.heap H locs → W p l e (rmz 2 42) s m ar below meth c H locs 0 0 Q (F0 m pc ls [.int w.1]) := fun w hw => hw ▸ hret
  have keyB74 : ∀ (v2 : Int32) (v3 : Int32) (p0_power : Int32) (H : Heap) (locs : List Loc) (ls : Array Slot), f_X7_parsePower_B74 p0_length p0_bytes v2 v3 p0_power = some u → va_P D vwCl [(a_p0, .inr (8, [.ref a_p0_bytes, .int p0_length, .int p0_minus, .int p0_kind, .int p0_sixteens, .int p0_behindPoint, .int p0_counting, .int p0_power, .int p0_begin, .int p0_end])), (a_p0_bytes, .inl (cI, 1200, .inl p0_bytes))] H → va_D A [(a_p0, .inr (8, [.ref a_p0_bytes, .int p0_length, .int p0_minus, .int p0_kind, .int p0_sixteens, .int p0_behindPoint, .int p0_counting, .int p0_power, .int p0_begin, .int p0_end])), (a_p0_bytes, .inl (cI, 1200, .inl p0_bytes))] → va_S A s.heap H locs → lv_has ls 4 [(0, .ref a_p0), (2, .int v2), (3, .int v3)] → W p l e (rmz 2 42) s m ar below meth c H locs 0 0 Q (F0 m 74 ls []) := by
    intro v2 v3 p0_power H locs ls hf hP hD hS hl
    unfold f_X7_parsePower_B74 at hf
    refine lv_iload_n hx hb dX7_parsePower_74 rfl (lv_at hl 2 rfl) ?_
    refine lv_iload_n hx hb dX7_parsePower_75 rfl (lv_at hl 1 rfl) ?_
    refine lv_icmp_le (tgt := 91) hx hb dX7_parsePower_76 (by decide) (fun hc6 => ?_) (fun hc6 => ?_)
    · have hf := ifT hc6 hf
      refine lv_iload_n hx hb dX7_parsePower_91 rfl (lv_at hl 2 rfl) ?_
      exact hret _ (opE hf) H locs ls 92 dX7_parsePower_92 hP hD hS
    · have hf := ifF hc6 hf
      refine lv_iload_n hx hb dX7_parsePower_79 rfl (lv_at hl 2 rfl) ?_
      refine lv_aload_n hx hb dX7_parsePower_80 rfl (lv_at hl 0 rfl) ?_
      refine va_get (D := D) (ci := 8) (v := .int p0_length) (C := RX7) (T := TX7) (N := 10) hx hb hts uwX7 hown hK hP 0 rfl rfl 1 (by decide) (hts _ kfX7_15) (fun _ h9 => h9) rfl dX7_parsePower_81 ?_
      refine lv_icmp_ne (tgt := 91) hx hb dX7_parsePower_84 (by decide) (fun hc5 => ?_) (fun hc5 => ?_)
      · have hf := ifF hc5 hf
        refine lv_iload_n hx hb dX7_parsePower_91 rfl (lv_at hl 2 rfl) ?_
        exact hret _ (opE hf) H locs ls 92 dX7_parsePower_92 hP hD hS
      · have hf := ifT hc5 hf
        refine lv_iconst (v := -1) hx hb dX7_parsePower_87 (by decide) ?_
        refine lv_goto (tgt := 92) hx hb dX7_parsePower_88 (by decide) ?_
        exact hret _ (opE hf) H locs ls 92 dX7_parsePower_92 hP hD hS
  have keyB55 : ∀ (v1 : Int32) (v2 : Int32) (v3 : Int32) (p0_power : Int32) (H : Heap) (locs : List Loc) (ls : Array Slot), f_X7_parsePower_B55 p0_length p0_bytes v1 v2 v3 p0_power = some u → va_P D vwCl [(a_p0, .inr (8, [.ref a_p0_bytes, .int p0_length, .int p0_minus, .int p0_kind, .int p0_sixteens, .int p0_behindPoint, .int p0_counting, .int p0_power, .int p0_begin, .int p0_end])), (a_p0_bytes, .inl (cI, 1200, .inl p0_bytes))] H → va_D A [(a_p0, .inr (8, [.ref a_p0_bytes, .int p0_length, .int p0_minus, .int p0_kind, .int p0_sixteens, .int p0_behindPoint, .int p0_counting, .int p0_power, .int p0_begin, .int p0_end])), (a_p0_bytes, .inl (cI, 1200, .inl p0_bytes))] → va_S A s.heap H locs → lv_has ls 4 [(0, .ref a_p0), (1, .int v1), (2, .int v2), (3, .int v3)] → W p l e (rmz 2 42) s m ar below meth c H locs 0 0 Q (F0 m 55 ls []) := by
    intro v1 v2 v3 p0_power H locs ls hf hP hD hS hl
    unfold f_X7_parsePower_B55 at hf
    refine lv_aload_n hx hb dX7_parsePower_55 rfl (lv_at hl 0 rfl) ?_
    refine lv_iload_n hx hb dX7_parsePower_56 rfl (lv_at hl 1 rfl) ?_
    obtain ⟨u3, hu4, hf⟩ := bdE hf
    refine cV_I (ws' := [(a_p0, .inr (8, [.ref a_p0_bytes, .int p0_length, .int p0_minus, .int p0_kind, .int p0_sixteens, .int p0_behindPoint, .int p0_counting, .int p0_power, .int p0_begin, .int p0_end])), (a_p0_bytes, .inl (cI, 1200, .inl p0_bytes))]) (rest := []) S hK hN hA hP hD hS (c_X7_at l D cI cJ a_p0 a_p0_bytes v1 p0_length p0_minus p0_kind p0_sixteens p0_behindPoint p0_counting p0_power p0_begin p0_end p0_bytes u3 hu4) mwX7_at miX7_at kmX7_19 [0, 1] rfl (by decide) rfl rfl rfl 0 rfl rfl ⟨Nat.le_of_ble_eq_true rfl, Nat.le_of_ble_eq_true rfl⟩ ⟨Nat.zero_le _, Nat.zero_le _⟩ hl.1 rfl rfl (Nat.le_of_ble_eq_true rfl) dX7_parsePower_57 (fun H locs hP hD hS => ?_)
    refine lv_bipush (v := 45) hx hb dX7_parsePower_60 (by decide) ?_
    refine lv_icmp_ne (tgt := 74) hx hb dX7_parsePower_62 (by decide) (fun hc7 => ?_) (fun hc7 => ?_)
    · have hf := ifF hc7 hf
      exact keyB74 v2 v3 p0_power H locs ls hf hP hD hS (lv_sub hl [0, 2, 3] rfl)
    · have hf := ifT hc7 hf
      refine lv_aload_n hx hb dX7_parsePower_65 rfl (lv_at hl 0 rfl) ?_
      refine lv_aload_n hx hb dX7_parsePower_66 rfl (lv_at hl 0 rfl) ?_
      refine va_get (D := D) (ci := 8) (v := .int p0_power) (C := RX7) (T := TX7) (N := 10) hx hb hts uwX7 hown hK hP 0 rfl rfl 7 (by decide) (hts _ kfX7_54) (fun _ h9 => h9) rfl dX7_parsePower_67 ?_
      refine lv_ineg hx hb dX7_parsePower_70 ?_
      refine va_put (D := D) (ci := 8) (v := .int (-p0_power)) (ty := tyX7 7) (C := RX7) (T := TX7) (N := 10) hx hb hts uwX7 tyX7 tyX7_ok nmX7 hown hK hP hD hS 0 rfl rfl 7 (by decide) (hts _ kfX7_54) (fun _ h9 => h9) rfl (tyX7_ok 7 (by decide)) rfl rfl (Nat.le_of_ble_eq_true rfl) dX7_parsePower_71 (fun H locs hP hD hS => ?_)
      have hP : va_P D vwCl [(a_p0, .inr (8, [.ref a_p0_bytes, .int p0_length, .int p0_minus, .int p0_kind, .int p0_sixteens, .int p0_behindPoint, .int p0_counting, .int (-p0_power), .int p0_begin, .int p0_end])), (a_p0_bytes, .inl (cI, 1200, .inl p0_bytes))] H := hP
      have hD : va_D A [(a_p0, .inr (8, [.ref a_p0_bytes, .int p0_length, .int p0_minus, .int p0_kind, .int p0_sixteens, .int p0_behindPoint, .int p0_counting, .int (-p0_power), .int p0_begin, .int p0_end])), (a_p0_bytes, .inl (cI, 1200, .inl p0_bytes))] := hD
      exact keyB74 v2 v3 (-p0_power) H locs ls hf hP hD hS (lv_sub hl [0, 2, 3] rfl)
  have keyL10 : ∀ (n : Nat) (v1 : Int32) (v2 : Int32) (v3 : Int32) (p0_power : Int32) (H : Heap) (locs : List Loc) (ls : Array Slot), f_X7_parsePower_L10 p0_length p0_bytes n v1 v2 v3 p0_power = some u → va_P D vwCl [(a_p0, .inr (8, [.ref a_p0_bytes, .int p0_length, .int p0_minus, .int p0_kind, .int p0_sixteens, .int p0_behindPoint, .int p0_counting, .int p0_power, .int p0_begin, .int p0_end])), (a_p0_bytes, .inl (cI, 1200, .inl p0_bytes))] H → va_D A [(a_p0, .inr (8, [.ref a_p0_bytes, .int p0_length, .int p0_minus, .int p0_kind, .int p0_sixteens, .int p0_behindPoint, .int p0_counting, .int p0_power, .int p0_begin, .int p0_end])), (a_p0_bytes, .inl (cI, 1200, .inl p0_bytes))] → va_S A s.heap H locs → lv_has ls 4 [(0, .ref a_p0), (1, .int v1), (2, .int v2), (3, .int v3)] → W p l e (rmz 2 42) s m ar below meth c H locs 0 0 Q (F0 m 10 ls []) := by
    intro n
    induction n with
      | zero =>
        intro v1 v2 v3 p0_power H locs ls hf
        cases hf
      | succ n ih =>
        intro v1 v2 v3 p0_power H locs ls hf hP hD hS hl
        rw [f_X7_parsePower_L10] at hf
        refine lv_iload_n hx hb dX7_parsePower_10 rfl (lv_at hl 3 rfl) ?_
        refine lv_iload_n hx hb dX7_parsePower_11 rfl (lv_at hl 2 rfl) ?_
        refine lv_bipush (v := 6) hx hb dX7_parsePower_12 (by decide) ?_
        refine lv_iadd hx hb dX7_parsePower_14 ?_
        refine lv_icmp_ge (tgt := 55) hx hb dX7_parsePower_15 (by decide) (fun hc15 => ?_) (fun hc15 => ?_)
        · have hf := ifT hc15 hf
          exact keyB55 v1 v2 v3 p0_power H locs ls hf hP hD hS (lv_sub hl [0, 1, 2, 3] rfl)
        · have hf := ifF hc15 hf
          refine lv_aload_n hx hb dX7_parsePower_18 rfl (lv_at hl 0 rfl) ?_
          refine lv_iload_n hx hb dX7_parsePower_19 rfl (lv_at hl 3 rfl) ?_
          obtain ⟨u8, hu9, hf⟩ := bdE hf
          refine cV_I (ws' := [(a_p0, .inr (8, [.ref a_p0_bytes, .int p0_length, .int p0_minus, .int p0_kind, .int p0_sixteens, .int p0_behindPoint, .int p0_counting, .int p0_power, .int p0_begin, .int p0_end])), (a_p0_bytes, .inl (cI, 1200, .inl p0_bytes))]) (rest := []) S hK hN hA hP hD hS (c_X7_at l D cI cJ a_p0 a_p0_bytes v3 p0_length p0_minus p0_kind p0_sixteens p0_behindPoint p0_counting p0_power p0_begin p0_end p0_bytes u8 hu9) mwX7_at miX7_at kmX7_19 [0, 1] rfl (by decide) rfl rfl rfl 0 rfl rfl ⟨Nat.le_of_ble_eq_true rfl, Nat.le_of_ble_eq_true rfl⟩ ⟨Nat.zero_le _, Nat.zero_le _⟩ hl.1 rfl rfl (Nat.le_of_ble_eq_true rfl) dX7_parsePower_20 (fun H locs hP hD hS => ?_)
          obtain ⟨u10, hu11, hf⟩ := bdE hf
          refine cS_I (ws' := [(a_p0, .inr (8, [.ref a_p0_bytes, .int p0_length, .int p0_minus, .int p0_kind, .int p0_sixteens, .int p0_behindPoint, .int p0_counting, .int p0_power, .int p0_begin, .int p0_end])), (a_p0_bytes, .inl (cI, 1200, .inl p0_bytes))]) (rest := []) S hK hN hA hP hD hS (c_X7_isTenFigure l D cI cJ  u8  u10 hu11) mwX7_isTenFigure msX7_isTenFigure kmX7_90 [] rfl (by decide) rfl rfl rfl ⟨Nat.le_of_ble_eq_true rfl, Nat.le_of_ble_eq_true rfl⟩ ⟨Nat.zero_le _, Nat.zero_le _⟩ hl.1 rfl rfl (Nat.le_of_ble_eq_true rfl) dX7_parsePower_23 (fun H locs hP hD hS => ?_)
          refine lv_if_eq (tgt := 55) hx hb dX7_parsePower_26 (by decide) (fun hc14 => ?_) (fun hc14 => ?_)
          · have hf := ifT hc14 hf
            exact keyB55 v1 v2 v3 p0_power H locs ls hf hP hD hS (lv_sub hl [0, 1, 2, 3] rfl)
          · have hf := ifF hc14 hf
            refine lv_aload_n hx hb dX7_parsePower_29 rfl (lv_at hl 0 rfl) ?_
            refine lv_bipush (v := 10) hx hb dX7_parsePower_30 (by decide) ?_
            refine lv_aload_n hx hb dX7_parsePower_32 rfl (lv_at hl 0 rfl) ?_
            refine va_get (D := D) (ci := 8) (v := .int p0_power) (C := RX7) (T := TX7) (N := 10) hx hb hts uwX7 hown hK hP 0 rfl rfl 7 (by decide) (hts _ kfX7_54) (fun _ h9 => h9) rfl dX7_parsePower_33 ?_
            refine lv_imul hx hb dX7_parsePower_36 ?_
            refine lv_aload_n hx hb dX7_parsePower_37 rfl (lv_at hl 0 rfl) ?_
            refine lv_iload_n hx hb dX7_parsePower_38 rfl (lv_at hl 3 rfl) ?_
            obtain ⟨u12, hu13, hf⟩ := bdE hf
            refine cV_I (ws' := [(a_p0, .inr (8, [.ref a_p0_bytes, .int p0_length, .int p0_minus, .int p0_kind, .int p0_sixteens, .int p0_behindPoint, .int p0_counting, .int p0_power, .int p0_begin, .int p0_end])), (a_p0_bytes, .inl (cI, 1200, .inl p0_bytes))]) (rest := [.int ((10 : Int32) * p0_power), .ref a_p0]) S hK hN hA hP hD hS (c_X7_at l D cI cJ a_p0 a_p0_bytes v3 p0_length p0_minus p0_kind p0_sixteens p0_behindPoint p0_counting p0_power p0_begin p0_end p0_bytes u12 hu13) mwX7_at miX7_at kmX7_19 [0, 1] rfl (by decide) rfl rfl rfl 0 rfl rfl ⟨Nat.le_of_ble_eq_true rfl, Nat.le_of_ble_eq_true rfl⟩ ⟨Nat.zero_le _, Nat.zero_le _⟩ hl.1 rfl rfl (Nat.le_of_ble_eq_true rfl) dX7_parsePower_39 (fun H locs hP hD hS => ?_)
            refine lv_iadd hx hb dX7_parsePower_42 ?_
            refine lv_bipush (v := 48) hx hb dX7_parsePower_43 (by decide) ?_
            refine lv_isub hx hb dX7_parsePower_45 ?_
            refine va_put (D := D) (ci := 8) (v := .int ((((10 : Int32) * p0_power) + u12) - (48 : Int32))) (ty := tyX7 7) (C := RX7) (T := TX7) (N := 10) hx hb hts uwX7 tyX7 tyX7_ok nmX7 hown hK hP hD hS 0 rfl rfl 7 (by decide) (hts _ kfX7_54) (fun _ h9 => h9) rfl (tyX7_ok 7 (by decide)) rfl rfl (Nat.le_of_ble_eq_true rfl) dX7_parsePower_46 (fun H locs hP hD hS => ?_)
            have hP : va_P D vwCl [(a_p0, .inr (8, [.ref a_p0_bytes, .int p0_length, .int p0_minus, .int p0_kind, .int p0_sixteens, .int p0_behindPoint, .int p0_counting, .int ((((10 : Int32) * p0_power) + u12) - (48 : Int32)), .int p0_begin, .int p0_end])), (a_p0_bytes, .inl (cI, 1200, .inl p0_bytes))] H := hP
            have hD : va_D A [(a_p0, .inr (8, [.ref a_p0_bytes, .int p0_length, .int p0_minus, .int p0_kind, .int p0_sixteens, .int p0_behindPoint, .int p0_counting, .int ((((10 : Int32) * p0_power) + u12) - (48 : Int32)), .int p0_begin, .int p0_end])), (a_p0_bytes, .inl (cI, 1200, .inl p0_bytes))] := hD
            refine lv_iinc (v := v3 + (1 : Int32)) (lv' := [(3, .int (v3 + (1 : Int32))), (0, .ref a_p0), (1, .int v1), (2, .int v2)]) hx hb dX7_parsePower_49 hl (k := 3) rfl (by rfl) (by decide) rfl (fun ls hl => ?_)
            refine lv_goto (tgt := 10) hx hb dX7_parsePower_52 (by decide) ?_
            exact ih v1 v2 (v3 + (1 : Int32)) ((((10 : Int32) * p0_power) + u12) - (48 : Int32)) H locs ls hf hP hD hS (lv_sub hl [1, 2, 3, 0] rfl)
  unfold f_X7_parsePower at hf
  refine lv_iload_n hx hb dX7_parsePower_0 rfl (lv_at hl 1 rfl) ?_
  refine lv_aload_n hx hb dX7_parsePower_1 rfl (lv_at hl 0 rfl) ?_
  refine lv_iload_n hx hb dX7_parsePower_2 rfl (lv_at hl 1 rfl) ?_
  obtain ⟨u1, hu2, hf⟩ := bdE hf
  refine cV_I (ws' := [(a_p0, .inr (8, [.ref a_p0_bytes, .int p0_length, .int p0_minus, .int p0_kind, .int p0_sixteens, .int p0_behindPoint, .int p0_counting, .int p0_power, .int p0_begin, .int p0_end])), (a_p0_bytes, .inl (cI, 1200, .inl p0_bytes))]) (rest := [.int p1]) S hK hN hA hP hD hS (c_X7_signLength l D cI cJ a_p0 a_p0_bytes p1 p0_length p0_minus p0_kind p0_sixteens p0_behindPoint p0_counting p0_power p0_begin p0_end p0_bytes u1 hu2) mwX7_signLength miX7_signLength kmX7_27 [0, 1] rfl (by decide) rfl rfl rfl 0 rfl rfl ⟨Nat.le_of_ble_eq_true rfl, Nat.le_of_ble_eq_true rfl⟩ ⟨Nat.zero_le _, Nat.zero_le _⟩ hl.1 rfl rfl (Nat.le_of_ble_eq_true rfl) dX7_parsePower_3 (fun H locs hP hD hS => ?_)
  refine lv_iadd hx hb dX7_parsePower_6 ?_
  refine lv_istore_n (lv' := [(2, .int (p1 + u1)), (0, .ref a_p0), (1, .int p1)]) hx hb dX7_parsePower_7 rfl hl (by decide) rfl (fun ls hl => ?_)
  refine lv_iload_n hx hb dX7_parsePower_8 rfl (lv_at hl 0 rfl) ?_
  refine lv_istore_n (lv' := [(3, .int (p1 + u1)), (2, .int (p1 + u1)), (0, .ref a_p0), (1, .int p1)]) hx hb dX7_parsePower_9 rfl hl (by decide) rfl (fun ls hl => ?_)
  exact keyL10 FU p1 (p1 + u1) (p1 + u1) p0_power H locs ls hf hP hD hS (lv_sub hl [2, 3, 1, 0] rfl)
set_option maxRecDepth 100000 in
set_option maxHeartbeats 4000000 in
theorem c_X7_parseWord (l : Launch) (D : va_G) (cI cJ : ClassId) (sa sv : Nat → Nat) (a_p0 a_p0_bytes : Nat) (p1 : Nat) (p2 : Int32) (p0_length : Int32) (p0_minus : Int32) (p0_kind : Int32) (p0_sixteens : Int32) (p0_behindPoint : Int32) (p0_counting : Int32) (p0_power : Int32) (p0_begin : Int32) (p0_end : Int32) (p0_bytes : (Nat → Int32)) (ht_p1 : p1 < strTab.length) (u : Int32) (hf : f_X7_parseWord p0_length p0_bytes p1 p2 = some u) : CeI l yX7_parseWord cX7_parseWord 4 4 85 .int [.ref a_p0, .ref (sa p1), .int p2] D cI cJ sa sv [(a_p0, .inr (8, [.ref a_p0_bytes, .int p0_length, .int p0_minus, .int p0_kind, .int p0_sixteens, .int p0_behindPoint, .int p0_counting, .int p0_power, .int p0_begin, .int p0_end])), (a_p0_bytes, .inl (cI, 1200, .inl p0_bytes))] [(a_p0, .inr (8, [.ref a_p0_bytes, .int p0_length, .int p0_minus, .int p0_kind, .int p0_sixteens, .int p0_behindPoint, .int p0_counting, .int p0_power, .int p0_begin, .int p0_end])), (a_p0_bytes, .inl (cI, 1200, .inl p0_bytes))] u := by
  refine mkEI (own := RX7) rfl (by decide +kernel) (Nat.le_of_ble_eq_true rfl) (lv := [(0, .ref a_p0), (1, .ref (sa p1)), (2, .int p2)]) rfl ?_
  intro p e s m below meth c Q A ls ar S hA hK hN hE hret H locs hP hD hS hl
  obtain ⟨hx, hb, hml, hown, hts⟩ := id S
  have hret : ∀ (w : Int32), w = u → ∀ (H : Heap) (locs : List Loc) (ls : Array Slot) (pc : Nat), decode cX7_parseWord pc = .ok (.ireturn, 1) → va_P D vwCl [(a_p0, .inr (8, [.ref a_p0_bytes, .int p0_length, .int p0_minus, .int p0_kind, .int p0_sixteens, .int p0_behindPoint, .int p0_counting, .int p0_power, .int p0_begin, .int p0_end])), (a_p0_bytes, .inl (cI, 1200, .inl p0_bytes))] H → va_D A [(a_p0, .inr (8, [.ref a_p0_bytes, .int p0_length, .int p0_minus, .int p0_kind, .int p0_sixteens, .int p0_behindPoint, .int p0_counting, .int p0_power, .int p0_begin, .int p0_end])), (a_p0_bytes, .inl (cI, 1200, .inl p0_bytes))] → va_S A s.heap H locs → W p l e (rmz 4 85) s m ar below meth c H locs 0 0 Q (F0 m pc ls [.int w]) := fun w hw => hw ▸ hret
  have keyB35 : ∀ (v2 : Int32) (H : Heap) (locs : List Loc) (ls : Array Slot), f_X7_parseWord_B35 p1 p0_length p0_bytes v2 = some u → va_P D vwCl [(a_p0, .inr (8, [.ref a_p0_bytes, .int p0_length, .int p0_minus, .int p0_kind, .int p0_sixteens, .int p0_behindPoint, .int p0_counting, .int p0_power, .int p0_begin, .int p0_end])), (a_p0_bytes, .inl (cI, 1200, .inl p0_bytes))] H → va_D A [(a_p0, .inr (8, [.ref a_p0_bytes, .int p0_length, .int p0_minus, .int p0_kind, .int p0_sixteens, .int p0_behindPoint, .int p0_counting, .int p0_power, .int p0_begin, .int p0_end])), (a_p0_bytes, .inl (cI, 1200, .inl p0_bytes))] → va_S A s.heap H locs → lv_has ls 4 [(0, .ref a_p0), (1, .ref (sa p1)), (2, .int v2)] → W p l e (rmz 4 85) s m ar below meth c H locs 0 0 Q (F0 m 35 ls []) := by
    intro v2 H locs ls hf hP hD hS hl
    unfold f_X7_parseWord_B35 at hf
    refine lv_iload_n hx hb dX7_parseWord_35 rfl (lv_at hl 2 rfl) ?_
    refine lv_aload_n hx hb dX7_parseWord_36 rfl (lv_at hl 1 rfl) ?_
    refine sV_I (rest := [.int v2]) S hK hN hE hA hP hD hS (c_str_length l D cI cJ sa sv p1 ht_p1) mwJ0_length_8abf5 miJ0_length_8abf5 kmX7_75 (hE.obj ht_p1) ⟨Nat.le_of_ble_eq_true rfl, Nat.le_of_ble_eq_true rfl⟩ ⟨Nat.zero_le _, Nat.zero_le _⟩ hl.1 rfl rfl (Nat.le_of_ble_eq_true rfl) dX7_parseWord_37 (fun H locs hP hS => ?_)
    refine lv_iadd hx hb dX7_parseWord_40 ?_
    refine lv_istore_n (lv' := [(3, .int (v2 + (sLen p1))), (0, .ref a_p0), (1, .ref (sa p1)), (2, .int v2)]) hx hb dX7_parseWord_41 rfl hl (by decide) rfl (fun ls hl => ?_)
    refine lv_iload_n hx hb dX7_parseWord_42 rfl (lv_at hl 0 rfl) ?_
    refine lv_aload_n hx hb dX7_parseWord_43 rfl (lv_at hl 1 rfl) ?_
    refine va_get (D := D) (ci := 8) (v := .int p0_length) (C := RX7) (T := TX7) (N := 10) hx hb hts uwX7 hown hK hP 0 rfl rfl 1 (by decide) (hts _ kfX7_15) (fun _ h9 => h9) rfl dX7_parseWord_44 ?_
    refine lv_icmp_ne (tgt := 54) hx hb dX7_parseWord_47 (by decide) (fun hc1 => ?_) (fun hc1 => ?_)
    · have hf := ifF hc1 hf
      refine lv_iload_n hx hb dX7_parseWord_54 rfl (lv_at hl 0 rfl) ?_
      exact hret _ (opE hf) H locs ls 55 dX7_parseWord_55 hP hD hS
    · have hf := ifT hc1 hf
      refine lv_iconst (v := -1) hx hb dX7_parseWord_50 (by decide) ?_
      refine lv_goto (tgt := 55) hx hb dX7_parseWord_51 (by decide) ?_
      exact hret _ (opE hf) H locs ls 55 dX7_parseWord_55 hP hD hS
  have keyL2 : ∀ (n : Nat) (v2 : Int32) (v3 : Int32) (H : Heap) (locs : List Loc) (ls : Array Slot), f_X7_parseWord_L2 p1 p0_length p0_bytes n v2 v3 = some u → va_P D vwCl [(a_p0, .inr (8, [.ref a_p0_bytes, .int p0_length, .int p0_minus, .int p0_kind, .int p0_sixteens, .int p0_behindPoint, .int p0_counting, .int p0_power, .int p0_begin, .int p0_end])), (a_p0_bytes, .inl (cI, 1200, .inl p0_bytes))] H → va_D A [(a_p0, .inr (8, [.ref a_p0_bytes, .int p0_length, .int p0_minus, .int p0_kind, .int p0_sixteens, .int p0_behindPoint, .int p0_counting, .int p0_power, .int p0_begin, .int p0_end])), (a_p0_bytes, .inl (cI, 1200, .inl p0_bytes))] → va_S A s.heap H locs → lv_has ls 4 [(0, .ref a_p0), (1, .ref (sa p1)), (2, .int v2), (3, .int v3)] → W p l e (rmz 4 85) s m ar below meth c H locs 0 0 Q (F0 m 2 ls []) := by
    intro n
    induction n with
      | zero =>
        intro v2 v3 H locs ls hf
        cases hf
      | succ n ih =>
        intro v2 v3 H locs ls hf hP hD hS hl
        rw [f_X7_parseWord_L2] at hf
        refine lv_iload_n hx hb dX7_parseWord_2 rfl (lv_at hl 3 rfl) ?_
        refine lv_aload_n hx hb dX7_parseWord_3 rfl (lv_at hl 1 rfl) ?_
        refine sV_I (rest := [.int v3]) S hK hN hE hA hP hD hS (c_str_length l D cI cJ sa sv p1 ht_p1) mwJ0_length_8abf5 miJ0_length_8abf5 kmX7_75 (hE.obj ht_p1) ⟨Nat.le_of_ble_eq_true rfl, Nat.le_of_ble_eq_true rfl⟩ ⟨Nat.zero_le _, Nat.zero_le _⟩ hl.1 rfl rfl (Nat.le_of_ble_eq_true rfl) dX7_parseWord_4 (fun H locs hP hS => ?_)
        refine lv_icmp_ge (tgt := 35) hx hb dX7_parseWord_7 (by decide) (fun hc6 => ?_) (fun hc6 => ?_)
        · have hf := ifT hc6 hf
          exact keyB35 v2 H locs ls hf hP hD hS (lv_sub hl [0, 1, 2] rfl)
        · have hf := ifF hc6 hf
          refine lv_aload_n hx hb dX7_parseWord_10 rfl (lv_at hl 0 rfl) ?_
          refine lv_iload_n hx hb dX7_parseWord_11 rfl (lv_at hl 2 rfl) ?_
          refine lv_iload_n hx hb dX7_parseWord_12 rfl (lv_at hl 3 rfl) ?_
          refine lv_iadd hx hb dX7_parseWord_13 ?_
          obtain ⟨u2, hu3, hf⟩ := bdE hf
          refine cV_I (ws' := [(a_p0, .inr (8, [.ref a_p0_bytes, .int p0_length, .int p0_minus, .int p0_kind, .int p0_sixteens, .int p0_behindPoint, .int p0_counting, .int p0_power, .int p0_begin, .int p0_end])), (a_p0_bytes, .inl (cI, 1200, .inl p0_bytes))]) (rest := []) S hK hN hA hP hD hS (c_X7_at l D cI cJ a_p0 a_p0_bytes (v2 + v3) p0_length p0_minus p0_kind p0_sixteens p0_behindPoint p0_counting p0_power p0_begin p0_end p0_bytes u2 hu3) mwX7_at miX7_at kmX7_19 [0, 1] rfl (by decide) rfl rfl rfl 0 rfl rfl ⟨Nat.le_of_ble_eq_true rfl, Nat.le_of_ble_eq_true rfl⟩ ⟨Nat.zero_le _, Nat.zero_le _⟩ hl.1 rfl rfl (Nat.le_of_ble_eq_true rfl) dX7_parseWord_14 (fun H locs hP hD hS => ?_)
          refine lv_aload_n hx hb dX7_parseWord_17 rfl (lv_at hl 1 rfl) ?_
          refine lv_iload_n hx hb dX7_parseWord_18 rfl (lv_at hl 3 rfl) ?_
          obtain ⟨hi4, hf⟩ := gdE hf
          refine sV_I (rest := [.int u2]) S hK hN hE hA hP hD hS (c_str_charAt l D cI cJ sa sv p1 ht_p1 v3 hi4 (str_lt ht_p1 hi4)) mwJ0_charAt_5068e miJ0_charAt_5068e kmX7_80 (hE.obj ht_p1) ⟨Nat.le_of_ble_eq_true rfl, Nat.le_of_ble_eq_true rfl⟩ ⟨Nat.zero_le _, Nat.zero_le _⟩ hl.1 rfl rfl (Nat.le_of_ble_eq_true rfl) dX7_parseWord_19 (fun H locs hP hS => ?_)
          refine lv_icmp_eq (tgt := 29) hx hb dX7_parseWord_22 (by decide) (fun hc5 => ?_) (fun hc5 => ?_)
          · have hf := ifT hc5 hf
            refine lv_iinc (v := v3 + (1 : Int32)) (lv' := [(3, .int (v3 + (1 : Int32))), (0, .ref a_p0), (1, .ref (sa p1)), (2, .int v2)]) hx hb dX7_parseWord_29 hl (k := 3) rfl (by rfl) (by decide) rfl (fun ls hl => ?_)
            refine lv_goto (tgt := 2) hx hb dX7_parseWord_32 (by decide) ?_
            exact ih v2 (v3 + (1 : Int32)) H locs ls hf hP hD hS (lv_sub hl [1, 2, 3, 0] rfl)
          · have hf := ifF hc5 hf
            refine lv_iload_n hx hb dX7_parseWord_25 rfl (lv_at hl 2 rfl) ?_
            refine lv_iload_n hx hb dX7_parseWord_26 rfl (lv_at hl 3 rfl) ?_
            refine lv_iadd hx hb dX7_parseWord_27 ?_
            exact hret _ (opE hf) H locs ls 28 dX7_parseWord_28 hP hD hS
  unfold f_X7_parseWord at hf
  refine lv_iconst (v := 0) hx hb dX7_parseWord_0 (by decide) ?_
  refine lv_istore_n (lv' := [(3, .int (0 : Int32)), (0, .ref a_p0), (1, .ref (sa p1)), (2, .int p2)]) hx hb dX7_parseWord_1 rfl hl (by decide) rfl (fun ls hl => ?_)
  exact keyL2 FU p2 (0 : Int32) H locs ls hf hP hD hS (lv_sub hl [1, 2, 3, 0] rfl)
set_option maxRecDepth 100000 in
set_option maxHeartbeats 4000000 in
theorem c_X7_parse (l : Launch) (D : va_G) (cI cJ : ClassId) (sa sv : Nat → Nat) (a_p0 a_p0_bytes : Nat) (p0_length : Int32) (p0_minus : Int32) (p0_kind : Int32) (p0_sixteens : Int32) (p0_behindPoint : Int32) (p0_counting : Int32) (p0_power : Int32) (p0_begin : Int32) (p0_end : Int32) (p0_bytes : (Nat → Int32)) (u : Int32 × Int32 × Int32 × Int32 × Int32 × Int32 × Int32 × Int32 × Int32) (hf : f_X7_parse p0_length p0_bytes p0_minus p0_kind p0_sixteens p0_behindPoint p0_counting p0_power p0_begin p0_end = some u) : CeI l yX7_parse cX7_parse 2 5 108 .int [.ref a_p0] D cI cJ sa sv [(a_p0, .inr (8, [.ref a_p0_bytes, .int p0_length, .int p0_minus, .int p0_kind, .int p0_sixteens, .int p0_behindPoint, .int p0_counting, .int p0_power, .int p0_begin, .int p0_end])), (a_p0_bytes, .inl (cI, 1200, .inl p0_bytes))] [(a_p0, .inr (8, [.ref a_p0_bytes, .int p0_length, .int u.2.1, .int u.2.2.1, .int u.2.2.2.1, .int u.2.2.2.2.1, .int u.2.2.2.2.2.1, .int u.2.2.2.2.2.2.1, .int u.2.2.2.2.2.2.2.1, .int u.2.2.2.2.2.2.2.2])), (a_p0_bytes, .inl (cI, 1200, .inl p0_bytes))] u.1 := by
  refine mkEI (own := RX7) rfl (by decide +kernel) (Nat.le_of_ble_eq_true rfl) (lv := [(0, .ref a_p0)]) rfl ?_
  intro p e s m below meth c Q A ls ar S hA hK hN hE hret H locs hP hD hS hl
  obtain ⟨hx, hb, hml, hown, hts⟩ := id S
  have hret : ∀ (w : Int32 × Int32 × Int32 × Int32 × Int32 × Int32 × Int32 × Int32 × Int32), w = u → ∀ (H : Heap) (locs : List Loc) (ls : Array Slot) (pc : Nat), decode cX7_parse pc = .ok (.ireturn, 1) → va_P D vwCl [(a_p0, .inr (8, [.ref a_p0_bytes, .int p0_length, .int w.2.1, .int w.2.2.1, .int w.2.2.2.1, .int w.2.2.2.2.1, .int w.2.2.2.2.2.1, .int w.2.2.2.2.2.2.1, .int w.2.2.2.2.2.2.2.1, .int w.2.2.2.2.2.2.2.2])), (a_p0_bytes, .inl (cI, 1200, .inl p0_bytes))] H → va_D A [(a_p0, .inr (8, [.ref a_p0_bytes, .int p0_length, .int w.2.1, .int w.2.2.1, .int w.2.2.2.1, .int w.2.2.2.2.1, .int w.2.2.2.2.2.1, .int w.2.2.2.2.2.2.1, .int w.2.2.2.2.2.2.2.1, .int w.2.2.2.2.2.2.2.2])), (a_p0_bytes, .inl (cI, 1200, .inl p0_bytes))] → va_S A s.heap H locs → W p l e (rmz 5 108) s m ar below meth c H locs 0 0 Q (F0 m pc ls [.int w.1]) := fun w hw => hw ▸ hret
  have keyB177 : ∀ (s0 : Int32) (s1 : Int32) (p0_minus : Int32) (p0_kind : Int32) (p0_sixteens : Int32) (p0_behindPoint : Int32) (p0_counting : Int32) (p0_power : Int32) (p0_begin : Int32) (p0_end : Int32) (H : Heap) (locs : List Loc) (ls : Array Slot), f_X7_parse_B177 p0_length p0_bytes s0 s1 p0_minus p0_kind p0_sixteens p0_behindPoint p0_counting p0_power p0_begin p0_end = some u → va_P D vwCl [(a_p0, .inr (8, [.ref a_p0_bytes, .int p0_length, .int p0_minus, .int p0_kind, .int p0_sixteens, .int p0_behindPoint, .int p0_counting, .int p0_power, .int p0_begin, .int p0_end])), (a_p0_bytes, .inl (cI, 1200, .inl p0_bytes))] H → va_D A [(a_p0, .inr (8, [.ref a_p0_bytes, .int p0_length, .int p0_minus, .int p0_kind, .int p0_sixteens, .int p0_behindPoint, .int p0_counting, .int p0_power, .int p0_begin, .int p0_end])), (a_p0_bytes, .inl (cI, 1200, .inl p0_bytes))] → va_S A s.heap H locs → lv_has ls 2 [(0, .ref a_p0)] → W p l e (rmz 5 108) s m ar below meth c H locs 0 0 Q (F0 m 177 ls [.int s1, .int s0]) := by
    intro s0 s1 p0_minus p0_kind p0_sixteens p0_behindPoint p0_counting p0_power p0_begin p0_end H locs ls hf hP hD hS hl
    unfold f_X7_parse_B177 at hf
    refine lv_icmp_ne (tgt := 193) hx hb dX7_parse_177 (by decide) (fun hc19 => ?_) (fun hc19 => ?_)
    · have hf := ifF hc19 hf
      refine lv_aload_n hx hb dX7_parse_193 rfl (lv_at hl 0 rfl) ?_
      refine va_get (D := D) (ci := 8) (v := .int p0_end) (C := RX7) (T := TX7) (N := 10) hx hb hts uwX7 hown hK hP 0 rfl rfl 9 (by decide) (hts _ kfX7_51) (fun _ h9 => h9) rfl dX7_parse_194 ?_
      exact hret _ (opE hf) H locs ls 197 dX7_parse_197 hP hD hS
    · have hf := ifT hc19 hf
      refine lv_aload_n hx hb dX7_parse_180 rfl (lv_at hl 0 rfl) ?_
      refine lv_aload_n hx hb dX7_parse_181 rfl (lv_at hl 0 rfl) ?_
      refine va_get (D := D) (ci := 8) (v := .int p0_end) (C := RX7) (T := TX7) (N := 10) hx hb hts uwX7 hown hK hP 0 rfl rfl 9 (by decide) (hts _ kfX7_51) (fun _ h9 => h9) rfl dX7_parse_182 ?_
      refine lv_iconst (v := 1) hx hb dX7_parse_185 (by decide) ?_
      refine lv_iadd hx hb dX7_parse_186 ?_
      obtain ⟨u17, hu18, hf⟩ := bdE hf
      refine cV_I (ws' := [(a_p0, .inr (8, [.ref a_p0_bytes, .int p0_length, .int p0_minus, .int p0_kind, .int p0_sixteens, .int p0_behindPoint, .int p0_counting, .int u17.2, .int p0_begin, .int p0_end])), (a_p0_bytes, .inl (cI, 1200, .inl p0_bytes))]) (rest := []) S hK hN hA hP hD hS (c_X7_parsePower l D cI cJ a_p0 a_p0_bytes (p0_end + (1 : Int32)) p0_length p0_minus p0_kind p0_sixteens p0_behindPoint p0_counting p0_power p0_begin p0_end p0_bytes u17 hu18) mwX7_parsePower miX7_parsePower kmX7_57 [0, 1] rfl (by decide) rfl rfl rfl 0 rfl rfl ⟨Nat.le_of_ble_eq_true rfl, Nat.le_of_ble_eq_true rfl⟩ ⟨Nat.zero_le _, Nat.zero_le _⟩ hl.1 rfl rfl (Nat.le_of_ble_eq_true rfl) dX7_parse_187 (fun H locs hP hD hS => ?_)
      refine lv_goto (tgt := 197) hx hb dX7_parse_190 (by decide) ?_
      exact hret _ (opE hf) H locs ls 197 dX7_parse_197 hP hD hS
  have keyB122 : ∀ (s1 : Int32) (p0_minus : Int32) (p0_kind : Int32) (p0_sixteens : Int32) (p0_behindPoint : Int32) (p0_counting : Int32) (p0_power : Int32) (p0_begin : Int32) (p0_end : Int32) (H : Heap) (locs : List Loc) (ls : Array Slot), f_X7_parse_B122 p0_length p0_bytes s1 p0_minus p0_kind p0_sixteens p0_behindPoint p0_counting p0_power p0_begin p0_end = some u → va_P D vwCl [(a_p0, .inr (8, [.ref a_p0_bytes, .int p0_length, .int p0_minus, .int p0_kind, .int p0_sixteens, .int p0_behindPoint, .int p0_counting, .int p0_power, .int p0_begin, .int p0_end])), (a_p0_bytes, .inl (cI, 1200, .inl p0_bytes))] H → va_D A [(a_p0, .inr (8, [.ref a_p0_bytes, .int p0_length, .int p0_minus, .int p0_kind, .int p0_sixteens, .int p0_behindPoint, .int p0_counting, .int p0_power, .int p0_begin, .int p0_end])), (a_p0_bytes, .inl (cI, 1200, .inl p0_bytes))] → va_S A s.heap H locs → lv_has ls 2 [(0, .ref a_p0)] → W p l e (rmz 5 108) s m ar below meth c H locs 0 0 Q (F0 m 122 ls [.int s1, .ref a_p0]) := by
    intro s1 p0_minus p0_kind p0_sixteens p0_behindPoint p0_counting p0_power p0_begin p0_end H locs ls hf hP hD hS hl
    unfold f_X7_parse_B122 at hf
    refine va_put (D := D) (ci := 8) (v := .int s1) (ty := tyX7 8) (C := RX7) (T := TX7) (N := 10) hx hb hts uwX7 tyX7 tyX7_ok nmX7 hown hK hP hD hS 0 rfl rfl 8 (by decide) (hts _ kfX7_44) (fun _ h9 => h9) rfl (tyX7_ok 8 (by decide)) rfl rfl (Nat.le_of_ble_eq_true rfl) dX7_parse_122 (fun H locs hP hD hS => ?_)
    have hP : va_P D vwCl [(a_p0, .inr (8, [.ref a_p0_bytes, .int p0_length, .int p0_minus, .int p0_kind, .int p0_sixteens, .int p0_behindPoint, .int p0_counting, .int p0_power, .int s1, .int p0_end])), (a_p0_bytes, .inl (cI, 1200, .inl p0_bytes))] H := hP
    have hD : va_D A [(a_p0, .inr (8, [.ref a_p0_bytes, .int p0_length, .int p0_minus, .int p0_kind, .int p0_sixteens, .int p0_behindPoint, .int p0_counting, .int p0_power, .int s1, .int p0_end])), (a_p0_bytes, .inl (cI, 1200, .inl p0_bytes))] := hD
    refine lv_aload_n hx hb dX7_parse_125 rfl (lv_at hl 0 rfl) ?_
    obtain ⟨u13, hu14, hf⟩ := bdE hf
    refine cV_I (ws' := [(a_p0, .inr (8, [.ref a_p0_bytes, .int p0_length, .int p0_minus, .int p0_kind, .int p0_sixteens, .int u13.2.1, .int u13.2.2.1, .int p0_power, .int s1, .int u13.2.2.2])), (a_p0_bytes, .inl (cI, 1200, .inl p0_bytes))]) (rest := []) S hK hN hA hP hD hS (c_X7_parseFigures l D cI cJ a_p0 a_p0_bytes  p0_length p0_minus p0_kind p0_sixteens p0_behindPoint p0_counting p0_power s1 p0_end p0_bytes u13 hu14) mwX7_parseFigures miX7_parseFigures kmX7_47 [0, 1] rfl (by decide) rfl rfl rfl 0 rfl rfl ⟨Nat.le_of_ble_eq_true rfl, Nat.le_of_ble_eq_true rfl⟩ ⟨Nat.zero_le _, Nat.zero_le _⟩ hl.1 rfl rfl (Nat.le_of_ble_eq_true rfl) dX7_parse_126 (fun H locs hP hD hS => ?_)
    refine lv_if_ne (tgt := 137) hx hb dX7_parse_129 (by decide) (fun hc22 => ?_) (fun hc22 => ?_)
    · have hf := ifF hc22 hf
      refine lv_aload_n hx hb dX7_parse_137 rfl (lv_at hl 0 rfl) ?_
      refine lv_iconst (v := 0) hx hb dX7_parse_138 (by decide) ?_
      refine va_put (D := D) (ci := 8) (v := .int (0 : Int32)) (ty := tyX7 7) (C := RX7) (T := TX7) (N := 10) hx hb hts uwX7 tyX7 tyX7_ok nmX7 hown hK hP hD hS 0 rfl rfl 7 (by decide) (hts _ kfX7_54) (fun _ h9 => h9) rfl (tyX7_ok 7 (by decide)) rfl rfl (Nat.le_of_ble_eq_true rfl) dX7_parse_139 (fun H locs hP hD hS => ?_)
      have hP : va_P D vwCl [(a_p0, .inr (8, [.ref a_p0_bytes, .int p0_length, .int p0_minus, .int p0_kind, .int p0_sixteens, .int u13.2.1, .int u13.2.2.1, .int (0 : Int32), .int s1, .int u13.2.2.2])), (a_p0_bytes, .inl (cI, 1200, .inl p0_bytes))] H := hP
      have hD : va_D A [(a_p0, .inr (8, [.ref a_p0_bytes, .int p0_length, .int p0_minus, .int p0_kind, .int p0_sixteens, .int u13.2.1, .int u13.2.2.1, .int (0 : Int32), .int s1, .int u13.2.2.2])), (a_p0_bytes, .inl (cI, 1200, .inl p0_bytes))] := hD
      refine lv_aload_n hx hb dX7_parse_142 rfl (lv_at hl 0 rfl) ?_
      refine va_get (D := D) (ci := 8) (v := .int u13.2.2.2) (C := RX7) (T := TX7) (N := 10) hx hb hts uwX7 hown hK hP 0 rfl rfl 9 (by decide) (hts _ kfX7_51) (fun _ h9 => h9) rfl dX7_parse_143 ?_
      refine lv_aload_n hx hb dX7_parse_146 rfl (lv_at hl 0 rfl) ?_
      refine va_get (D := D) (ci := 8) (v := .int p0_length) (C := RX7) (T := TX7) (N := 10) hx hb hts uwX7 hown hK hP 0 rfl rfl 1 (by decide) (hts _ kfX7_15) (fun _ h9 => h9) rfl dX7_parse_147 ?_
      refine lv_icmp_ne (tgt := 155) hx hb dX7_parse_150 (by decide) (fun hc21 => ?_) (fun hc21 => ?_)
      · have hf := ifF hc21 hf
        refine lv_aload_n hx hb dX7_parse_155 rfl (lv_at hl 0 rfl) ?_
        refine lv_aload_n hx hb dX7_parse_156 rfl (lv_at hl 0 rfl) ?_
        refine va_get (D := D) (ci := 8) (v := .int u13.2.2.2) (C := RX7) (T := TX7) (N := 10) hx hb hts uwX7 hown hK hP 0 rfl rfl 9 (by decide) (hts _ kfX7_51) (fun _ h9 => h9) rfl dX7_parse_157 ?_
        obtain ⟨u15, hu16, hf⟩ := bdE hf
        refine cV_I (ws' := [(a_p0, .inr (8, [.ref a_p0_bytes, .int p0_length, .int p0_minus, .int p0_kind, .int p0_sixteens, .int u13.2.1, .int u13.2.2.1, .int (0 : Int32), .int s1, .int u13.2.2.2])), (a_p0_bytes, .inl (cI, 1200, .inl p0_bytes))]) (rest := []) S hK hN hA hP hD hS (c_X7_at l D cI cJ a_p0 a_p0_bytes u13.2.2.2 p0_length p0_minus p0_kind p0_sixteens u13.2.1 u13.2.2.1 (0 : Int32) s1 u13.2.2.2 p0_bytes u15 hu16) mwX7_at miX7_at kmX7_19 [0, 1] rfl (by decide) rfl rfl rfl 0 rfl rfl ⟨Nat.le_of_ble_eq_true rfl, Nat.le_of_ble_eq_true rfl⟩ ⟨Nat.zero_le _, Nat.zero_le _⟩ hl.1 rfl rfl (Nat.le_of_ble_eq_true rfl) dX7_parse_160 (fun H locs hP hD hS => ?_)
        refine lv_aload_n hx hb dX7_parse_163 rfl (lv_at hl 0 rfl) ?_
        refine va_get (D := D) (ci := 8) (v := .int p0_sixteens) (C := RX7) (T := TX7) (N := 10) hx hb hts uwX7 hown hK hP 0 rfl rfl 4 (by decide) (hts _ kfX7_41) (fun _ h9 => h9) rfl dX7_parse_164 ?_
        refine lv_if_eq (tgt := 175) hx hb dX7_parse_167 (by decide) (fun hc20 => ?_) (fun hc20 => ?_)
        · have hf := ifT hc20 hf
          refine lv_bipush (v := 101) hx hb dX7_parse_175 (by decide) ?_
          exact keyB177 u15 (101 : Int32) p0_minus p0_kind p0_sixteens u13.2.1 u13.2.2.1 (0 : Int32) s1 u13.2.2.2 H locs ls hf hP hD hS (lv_sub hl [0] rfl)
        · have hf := ifF hc20 hf
          refine lv_bipush (v := 112) hx hb dX7_parse_170 (by decide) ?_
          refine lv_goto (tgt := 177) hx hb dX7_parse_172 (by decide) ?_
          exact keyB177 u15 (112 : Int32) p0_minus p0_kind p0_sixteens u13.2.1 u13.2.2.1 (0 : Int32) s1 u13.2.2.2 H locs ls hf hP hD hS (lv_sub hl [0] rfl)
      · have hf := ifT hc21 hf
        refine lv_iconst (v := -1) hx hb dX7_parse_153 (by decide) ?_
        exact hret _ (opE hf) H locs ls 154 dX7_parse_154 hP hD hS
    · have hf := ifT hc22 hf
      refine lv_aload_n hx hb dX7_parse_132 rfl (lv_at hl 0 rfl) ?_
      refine va_get (D := D) (ci := 8) (v := .int u13.2.2.2) (C := RX7) (T := TX7) (N := 10) hx hb hts uwX7 hown hK hP 0 rfl rfl 9 (by decide) (hts _ kfX7_51) (fun _ h9 => h9) rfl dX7_parse_133 ?_
      exact hret _ (opE hf) H locs ls 136 dX7_parse_136 hP hD hS
  have keyB104 : ∀ (v1 : Int32) (s1 : Int32) (p0_minus : Int32) (p0_kind : Int32) (p0_sixteens : Int32) (p0_behindPoint : Int32) (p0_counting : Int32) (p0_power : Int32) (p0_begin : Int32) (p0_end : Int32) (H : Heap) (locs : List Loc) (ls : Array Slot), f_X7_parse_B104 p0_length p0_bytes v1 s1 p0_minus p0_kind p0_sixteens p0_behindPoint p0_counting p0_power p0_begin p0_end = some u → va_P D vwCl [(a_p0, .inr (8, [.ref a_p0_bytes, .int p0_length, .int p0_minus, .int p0_kind, .int p0_sixteens, .int p0_behindPoint, .int p0_counting, .int p0_power, .int p0_begin, .int p0_end])), (a_p0_bytes, .inl (cI, 1200, .inl p0_bytes))] H → va_D A [(a_p0, .inr (8, [.ref a_p0_bytes, .int p0_length, .int p0_minus, .int p0_kind, .int p0_sixteens, .int p0_behindPoint, .int p0_counting, .int p0_power, .int p0_begin, .int p0_end])), (a_p0_bytes, .inl (cI, 1200, .inl p0_bytes))] → va_S A s.heap H locs → lv_has ls 2 [(0, .ref a_p0), (1, .int v1)] → W p l e (rmz 5 108) s m ar below meth c H locs 0 0 Q (F0 m 104 ls [.int s1, .ref a_p0]) := by
    intro v1 s1 p0_minus p0_kind p0_sixteens p0_behindPoint p0_counting p0_power p0_begin p0_end H locs ls hf hP hD hS hl
    unfold f_X7_parse_B104 at hf
    obtain ⟨hb12, hf⟩ := blE hf
    refine va_put (D := D) (ci := 8) (v := .int s1) (ty := tyX7 4) (C := RX7) (T := TX7) (N := 10) hx hb hts uwX7 tyX7 tyX7_ok nmX7 hown hK hP hD hS 0 rfl rfl 4 (by decide) (hts _ kfX7_41) (fun _ h9 => h9) rfl (tyX7_ok 4 (by decide)) (nar_bool hb12) (fit_bool hb12) (Nat.le_of_ble_eq_true rfl) dX7_parse_104 (fun H locs hP hD hS => ?_)
    have hP : va_P D vwCl [(a_p0, .inr (8, [.ref a_p0_bytes, .int p0_length, .int p0_minus, .int p0_kind, .int s1, .int p0_behindPoint, .int p0_counting, .int p0_power, .int p0_begin, .int p0_end])), (a_p0_bytes, .inl (cI, 1200, .inl p0_bytes))] H := hP
    have hD : va_D A [(a_p0, .inr (8, [.ref a_p0_bytes, .int p0_length, .int p0_minus, .int p0_kind, .int s1, .int p0_behindPoint, .int p0_counting, .int p0_power, .int p0_begin, .int p0_end])), (a_p0_bytes, .inl (cI, 1200, .inl p0_bytes))] := hD
    refine lv_aload_n hx hb dX7_parse_107 rfl (lv_at hl 0 rfl) ?_
    refine lv_aload_n hx hb dX7_parse_108 rfl (lv_at hl 0 rfl) ?_
    refine va_get (D := D) (ci := 8) (v := .int s1) (C := RX7) (T := TX7) (N := 10) hx hb hts uwX7 hown hK hP 0 rfl rfl 4 (by decide) (hts _ kfX7_41) (fun _ h9 => h9) rfl dX7_parse_109 ?_
    refine lv_if_eq (tgt := 121) hx hb dX7_parse_112 (by decide) (fun hc23 => ?_) (fun hc23 => ?_)
    · have hf := ifT hc23 hf
      refine lv_iload_n hx hb dX7_parse_121 rfl (lv_at hl 1 rfl) ?_
      exact keyB122 v1 p0_minus p0_kind s1 p0_behindPoint p0_counting p0_power p0_begin p0_end H locs ls hf hP hD hS (lv_sub hl [0] rfl)
    · have hf := ifF hc23 hf
      refine lv_iload_n hx hb dX7_parse_115 rfl (lv_at hl 1 rfl) ?_
      refine lv_iconst (v := 2) hx hb dX7_parse_116 (by decide) ?_
      refine lv_iadd hx hb dX7_parse_117 ?_
      refine lv_goto (tgt := 122) hx hb dX7_parse_118 (by decide) ?_
      exact keyB122 (v1 + (2 : Int32)) p0_minus p0_kind s1 p0_behindPoint p0_counting p0_power p0_begin p0_end H locs ls hf hP hD hS (lv_sub hl [0] rfl)
  have keyB103 : ∀ (v1 : Int32) (p0_minus : Int32) (p0_kind : Int32) (p0_sixteens : Int32) (p0_behindPoint : Int32) (p0_counting : Int32) (p0_power : Int32) (p0_begin : Int32) (p0_end : Int32) (H : Heap) (locs : List Loc) (ls : Array Slot), f_X7_parse_B103 p0_length p0_bytes v1 p0_minus p0_kind p0_sixteens p0_behindPoint p0_counting p0_power p0_begin p0_end = some u → va_P D vwCl [(a_p0, .inr (8, [.ref a_p0_bytes, .int p0_length, .int p0_minus, .int p0_kind, .int p0_sixteens, .int p0_behindPoint, .int p0_counting, .int p0_power, .int p0_begin, .int p0_end])), (a_p0_bytes, .inl (cI, 1200, .inl p0_bytes))] H → va_D A [(a_p0, .inr (8, [.ref a_p0_bytes, .int p0_length, .int p0_minus, .int p0_kind, .int p0_sixteens, .int p0_behindPoint, .int p0_counting, .int p0_power, .int p0_begin, .int p0_end])), (a_p0_bytes, .inl (cI, 1200, .inl p0_bytes))] → va_S A s.heap H locs → lv_has ls 2 [(0, .ref a_p0), (1, .int v1)] → W p l e (rmz 5 108) s m ar below meth c H locs 0 0 Q (F0 m 103 ls [.ref a_p0]) := by
    intro v1 p0_minus p0_kind p0_sixteens p0_behindPoint p0_counting p0_power p0_begin p0_end H locs ls hf hP hD hS hl
    unfold f_X7_parse_B103 at hf
    refine lv_iconst (v := 0) hx hb dX7_parse_103 (by decide) ?_
    exact keyB104 v1 (0 : Int32) p0_minus p0_kind p0_sixteens p0_behindPoint p0_counting p0_power p0_begin p0_end H locs ls hf hP hD hS (lv_sub hl [0, 1] rfl)
  have keyB16 : ∀ (s1 : Int32) (p0_minus : Int32) (p0_kind : Int32) (p0_sixteens : Int32) (p0_behindPoint : Int32) (p0_counting : Int32) (p0_power : Int32) (p0_begin : Int32) (p0_end : Int32) (H : Heap) (locs : List Loc) (ls : Array Slot), f_X7_parse_B16 p0_length p0_bytes s1 p0_minus p0_kind p0_sixteens p0_behindPoint p0_counting p0_power p0_begin p0_end = some u → va_P D vwCl [(a_p0, .inr (8, [.ref a_p0_bytes, .int p0_length, .int p0_minus, .int p0_kind, .int p0_sixteens, .int p0_behindPoint, .int p0_counting, .int p0_power, .int p0_begin, .int p0_end])), (a_p0_bytes, .inl (cI, 1200, .inl p0_bytes))] H → va_D A [(a_p0, .inr (8, [.ref a_p0_bytes, .int p0_length, .int p0_minus, .int p0_kind, .int p0_sixteens, .int p0_behindPoint, .int p0_counting, .int p0_power, .int p0_begin, .int p0_end])), (a_p0_bytes, .inl (cI, 1200, .inl p0_bytes))] → va_S A s.heap H locs → lv_has ls 2 [(0, .ref a_p0)] → W p l e (rmz 5 108) s m ar below meth c H locs 0 0 Q (F0 m 16 ls [.int s1, .ref a_p0]) := by
    intro s1 p0_minus p0_kind p0_sixteens p0_behindPoint p0_counting p0_power p0_begin p0_end H locs ls hf hP hD hS hl
    unfold f_X7_parse_B16 at hf
    obtain ⟨hb3, hf⟩ := blE hf
    refine va_put (D := D) (ci := 8) (v := .int s1) (ty := tyX7 2) (C := RX7) (T := TX7) (N := 10) hx hb hts uwX7 tyX7 tyX7_ok nmX7 hown hK hP hD hS 0 rfl rfl 2 (by decide) (hts _ kfX7_23) (fun _ h9 => h9) rfl (tyX7_ok 2 (by decide)) (nar_bool hb3) (fit_bool hb3) (Nat.le_of_ble_eq_true rfl) dX7_parse_16 (fun H locs hP hD hS => ?_)
    have hP : va_P D vwCl [(a_p0, .inr (8, [.ref a_p0_bytes, .int p0_length, .int s1, .int p0_kind, .int p0_sixteens, .int p0_behindPoint, .int p0_counting, .int p0_power, .int p0_begin, .int p0_end])), (a_p0_bytes, .inl (cI, 1200, .inl p0_bytes))] H := hP
    have hD : va_D A [(a_p0, .inr (8, [.ref a_p0_bytes, .int p0_length, .int s1, .int p0_kind, .int p0_sixteens, .int p0_behindPoint, .int p0_counting, .int p0_power, .int p0_begin, .int p0_end])), (a_p0_bytes, .inl (cI, 1200, .inl p0_bytes))] := hD
    refine lv_aload_n hx hb dX7_parse_19 rfl (lv_at hl 0 rfl) ?_
    refine lv_iconst (v := 0) hx hb dX7_parse_20 (by decide) ?_
    obtain ⟨u4, hu5, hf⟩ := bdE hf
    refine cV_I (ws' := [(a_p0, .inr (8, [.ref a_p0_bytes, .int p0_length, .int s1, .int p0_kind, .int p0_sixteens, .int p0_behindPoint, .int p0_counting, .int p0_power, .int p0_begin, .int p0_end])), (a_p0_bytes, .inl (cI, 1200, .inl p0_bytes))]) (rest := []) S hK hN hA hP hD hS (c_X7_signLength l D cI cJ a_p0 a_p0_bytes (0 : Int32) p0_length s1 p0_kind p0_sixteens p0_behindPoint p0_counting p0_power p0_begin p0_end p0_bytes u4 hu5) mwX7_signLength miX7_signLength kmX7_27 [0, 1] rfl (by decide) rfl rfl rfl 0 rfl rfl ⟨Nat.le_of_ble_eq_true rfl, Nat.le_of_ble_eq_true rfl⟩ ⟨Nat.zero_le _, Nat.zero_le _⟩ hl.1 rfl rfl (Nat.le_of_ble_eq_true rfl) dX7_parse_21 (fun H locs hP hD hS => ?_)
    refine lv_istore_n (lv' := [(1, .int u4), (0, .ref a_p0)]) hx hb dX7_parse_24 rfl hl (by decide) rfl (fun ls hl => ?_)
    refine lv_aload_n hx hb dX7_parse_25 rfl (lv_at hl 1 rfl) ?_
    refine lv_iload_n hx hb dX7_parse_26 rfl (lv_at hl 0 rfl) ?_
    obtain ⟨u6, hu7, hf⟩ := bdE hf
    refine cV_I (ws' := [(a_p0, .inr (8, [.ref a_p0_bytes, .int p0_length, .int s1, .int p0_kind, .int p0_sixteens, .int p0_behindPoint, .int p0_counting, .int p0_power, .int p0_begin, .int p0_end])), (a_p0_bytes, .inl (cI, 1200, .inl p0_bytes))]) (rest := []) S hK hN hA hP hD hS (c_X7_at l D cI cJ a_p0 a_p0_bytes u4 p0_length s1 p0_kind p0_sixteens p0_behindPoint p0_counting p0_power p0_begin p0_end p0_bytes u6 hu7) mwX7_at miX7_at kmX7_19 [0, 1] rfl (by decide) rfl rfl rfl 0 rfl rfl ⟨Nat.le_of_ble_eq_true rfl, Nat.le_of_ble_eq_true rfl⟩ ⟨Nat.zero_le _, Nat.zero_le _⟩ hl.1 rfl rfl (Nat.le_of_ble_eq_true rfl) dX7_parse_27 (fun H locs hP hD hS => ?_)
    refine lv_bipush (v := 105) hx hb dX7_parse_30 (by decide) ?_
    refine lv_icmp_ne (tgt := 48) hx hb dX7_parse_32 (by decide) (fun hc33 => ?_) (fun hc33 => ?_)
    · have hf := ifF hc33 hf
      refine lv_aload_n hx hb dX7_parse_48 rfl (lv_at hl 1 rfl) ?_
      refine lv_iload_n hx hb dX7_parse_49 rfl (lv_at hl 0 rfl) ?_
      obtain ⟨u8, hu9, hf⟩ := bdE hf
      refine cV_I (ws' := [(a_p0, .inr (8, [.ref a_p0_bytes, .int p0_length, .int s1, .int p0_kind, .int p0_sixteens, .int p0_behindPoint, .int p0_counting, .int p0_power, .int p0_begin, .int p0_end])), (a_p0_bytes, .inl (cI, 1200, .inl p0_bytes))]) (rest := []) S hK hN hA hP hD hS (c_X7_at l D cI cJ a_p0 a_p0_bytes u4 p0_length s1 p0_kind p0_sixteens p0_behindPoint p0_counting p0_power p0_begin p0_end p0_bytes u8 hu9) mwX7_at miX7_at kmX7_19 [0, 1] rfl (by decide) rfl rfl rfl 0 rfl rfl ⟨Nat.le_of_ble_eq_true rfl, Nat.le_of_ble_eq_true rfl⟩ ⟨Nat.zero_le _, Nat.zero_le _⟩ hl.1 rfl rfl (Nat.le_of_ble_eq_true rfl) dX7_parse_50 (fun H locs hP hD hS => ?_)
      refine lv_bipush (v := 110) hx hb dX7_parse_53 (by decide) ?_
      refine lv_icmp_ne (tgt := 71) hx hb dX7_parse_55 (by decide) (fun hc30 => ?_) (fun hc30 => ?_)
      · have hf := ifF hc30 hf
        refine lv_aload_n hx hb dX7_parse_71 rfl (lv_at hl 1 rfl) ?_
        refine lv_iconst (v := 2) hx hb dX7_parse_72 (by decide) ?_
        refine va_put (D := D) (ci := 8) (v := .int (2 : Int32)) (ty := tyX7 3) (C := RX7) (T := TX7) (N := 10) hx hb hts uwX7 tyX7 tyX7_ok nmX7 hown hK hP hD hS 0 rfl rfl 3 (by decide) (hts _ kfX7_30) (fun _ h9 => h9) rfl (tyX7_ok 3 (by decide)) rfl rfl (Nat.le_of_ble_eq_true rfl) dX7_parse_73 (fun H locs hP hD hS => ?_)
        have hP : va_P D vwCl [(a_p0, .inr (8, [.ref a_p0_bytes, .int p0_length, .int s1, .int (2 : Int32), .int p0_sixteens, .int p0_behindPoint, .int p0_counting, .int p0_power, .int p0_begin, .int p0_end])), (a_p0_bytes, .inl (cI, 1200, .inl p0_bytes))] H := hP
        have hD : va_D A [(a_p0, .inr (8, [.ref a_p0_bytes, .int p0_length, .int s1, .int (2 : Int32), .int p0_sixteens, .int p0_behindPoint, .int p0_counting, .int p0_power, .int p0_begin, .int p0_end])), (a_p0_bytes, .inl (cI, 1200, .inl p0_bytes))] := hD
        refine lv_aload_n hx hb dX7_parse_76 rfl (lv_at hl 1 rfl) ?_
        refine lv_aload_n hx hb dX7_parse_77 rfl (lv_at hl 1 rfl) ?_
        refine lv_iload_n hx hb dX7_parse_78 rfl (lv_at hl 0 rfl) ?_
        obtain ⟨u10, hu11, hf⟩ := bdE hf
        refine cV_I (ws' := [(a_p0, .inr (8, [.ref a_p0_bytes, .int p0_length, .int s1, .int (2 : Int32), .int p0_sixteens, .int p0_behindPoint, .int p0_counting, .int p0_power, .int p0_begin, .int p0_end])), (a_p0_bytes, .inl (cI, 1200, .inl p0_bytes))]) (rest := [.ref a_p0]) S hK hN hA hP hD hS (c_X7_at l D cI cJ a_p0 a_p0_bytes u4 p0_length s1 (2 : Int32) p0_sixteens p0_behindPoint p0_counting p0_power p0_begin p0_end p0_bytes u10 hu11) mwX7_at miX7_at kmX7_19 [0, 1] rfl (by decide) rfl rfl rfl 0 rfl rfl ⟨Nat.le_of_ble_eq_true rfl, Nat.le_of_ble_eq_true rfl⟩ ⟨Nat.zero_le _, Nat.zero_le _⟩ hl.1 rfl rfl (Nat.le_of_ble_eq_true rfl) dX7_parse_79 (fun H locs hP hD hS => ?_)
        refine lv_bipush (v := 48) hx hb dX7_parse_82 (by decide) ?_
        refine lv_icmp_ne (tgt := 103) hx hb dX7_parse_84 (by decide) (fun hc27 => ?_) (fun hc27 => ?_)
        · have hf := ifF hc27 hf
          exact keyB103 u4 s1 (2 : Int32) p0_sixteens p0_behindPoint p0_counting p0_power p0_begin p0_end H locs ls hf hP hD hS (lv_sub hl [1, 0] rfl)
        · have hf := ifT hc27 hf
          refine lv_aload_n hx hb dX7_parse_87 rfl (lv_at hl 1 rfl) ?_
          refine lv_iload_n hx hb dX7_parse_88 rfl (lv_at hl 0 rfl) ?_
          refine lv_iconst (v := 1) hx hb dX7_parse_89 (by decide) ?_
          refine lv_iadd hx hb dX7_parse_90 ?_
          obtain ⟨u24, hu25, hf⟩ := bdE hf
          refine cV_I (ws' := [(a_p0, .inr (8, [.ref a_p0_bytes, .int p0_length, .int s1, .int (2 : Int32), .int p0_sixteens, .int p0_behindPoint, .int p0_counting, .int p0_power, .int p0_begin, .int p0_end])), (a_p0_bytes, .inl (cI, 1200, .inl p0_bytes))]) (rest := [.ref a_p0]) S hK hN hA hP hD hS (c_X7_at l D cI cJ a_p0 a_p0_bytes (u4 + (1 : Int32)) p0_length s1 (2 : Int32) p0_sixteens p0_behindPoint p0_counting p0_power p0_begin p0_end p0_bytes u24 hu25) mwX7_at miX7_at kmX7_19 [0, 1] rfl (by decide) rfl rfl rfl 0 rfl rfl ⟨Nat.le_of_ble_eq_true rfl, Nat.le_of_ble_eq_true rfl⟩ ⟨Nat.zero_le _, Nat.zero_le _⟩ hl.1 rfl rfl (Nat.le_of_ble_eq_true rfl) dX7_parse_91 (fun H locs hP hD hS => ?_)
          refine lv_bipush (v := 120) hx hb dX7_parse_94 (by decide) ?_
          refine lv_icmp_ne (tgt := 103) hx hb dX7_parse_96 (by decide) (fun hc26 => ?_) (fun hc26 => ?_)
          · have hf := ifF hc26 hf
            exact keyB103 u4 s1 (2 : Int32) p0_sixteens p0_behindPoint p0_counting p0_power p0_begin p0_end H locs ls hf hP hD hS (lv_sub hl [1, 0] rfl)
          · have hf := ifT hc26 hf
            refine lv_iconst (v := 1) hx hb dX7_parse_99 (by decide) ?_
            refine lv_goto (tgt := 104) hx hb dX7_parse_100 (by decide) ?_
            exact keyB104 u4 (1 : Int32) s1 (2 : Int32) p0_sixteens p0_behindPoint p0_counting p0_power p0_begin p0_end H locs ls hf hP hD hS (lv_sub hl [1, 0] rfl)
      · have hf := ifT hc30 hf
        refine lv_aload_n hx hb dX7_parse_58 rfl (lv_at hl 1 rfl) ?_
        refine lv_iconst (v := 4) hx hb dX7_parse_59 (by decide) ?_
        refine va_put (D := D) (ci := 8) (v := .int (4 : Int32)) (ty := tyX7 3) (C := RX7) (T := TX7) (N := 10) hx hb hts uwX7 tyX7 tyX7_ok nmX7 hown hK hP hD hS 0 rfl rfl 3 (by decide) (hts _ kfX7_30) (fun _ h9 => h9) rfl (tyX7_ok 3 (by decide)) rfl rfl (Nat.le_of_ble_eq_true rfl) dX7_parse_60 (fun H locs hP hD hS => ?_)
        have hP : va_P D vwCl [(a_p0, .inr (8, [.ref a_p0_bytes, .int p0_length, .int s1, .int (4 : Int32), .int p0_sixteens, .int p0_behindPoint, .int p0_counting, .int p0_power, .int p0_begin, .int p0_end])), (a_p0_bytes, .inl (cI, 1200, .inl p0_bytes))] H := hP
        have hD : va_D A [(a_p0, .inr (8, [.ref a_p0_bytes, .int p0_length, .int s1, .int (4 : Int32), .int p0_sixteens, .int p0_behindPoint, .int p0_counting, .int p0_power, .int p0_begin, .int p0_end])), (a_p0_bytes, .inl (cI, 1200, .inl p0_bytes))] := hD
        refine lv_aload_n hx hb dX7_parse_63 rfl (lv_at hl 1 rfl) ?_
        refine va_ldcS hx hb hown hE.s7 dX7_parse_64 ?_
        refine lv_iload_n hx hb dX7_parse_66 rfl (lv_at hl 0 rfl) ?_
        obtain ⟨u28, hu29, hf⟩ := bdE hf
        refine eV_I (ws' := [(a_p0, .inr (8, [.ref a_p0_bytes, .int p0_length, .int s1, .int (4 : Int32), .int p0_sixteens, .int p0_behindPoint, .int p0_counting, .int p0_power, .int p0_begin, .int p0_end])), (a_p0_bytes, .inl (cI, 1200, .inl p0_bytes))]) (rest := []) S hK hN hE hA hP hD hS (c_X7_parseWord l D cI cJ sa sv a_p0 a_p0_bytes 7 u4 p0_length s1 (4 : Int32) p0_sixteens p0_behindPoint p0_counting p0_power p0_begin p0_end p0_bytes sl7 u28 hu29) mwX7_parseWord miX7_parseWord kmX7_35 [0, 1] rfl (by decide) rfl rfl rfl 0 rfl rfl ⟨Nat.le_of_ble_eq_true rfl, Nat.le_of_ble_eq_true rfl⟩ ⟨Nat.zero_le _, Nat.zero_le _⟩ hl.1 rfl rfl (Nat.le_of_ble_eq_true rfl) dX7_parse_67 (fun H locs hP hD hS => ?_)
        exact hret _ (opE hf) H locs ls 70 dX7_parse_70 hP hD hS
    · have hf := ifT hc33 hf
      refine lv_aload_n hx hb dX7_parse_35 rfl (lv_at hl 1 rfl) ?_
      refine lv_iconst (v := 3) hx hb dX7_parse_36 (by decide) ?_
      refine va_put (D := D) (ci := 8) (v := .int (3 : Int32)) (ty := tyX7 3) (C := RX7) (T := TX7) (N := 10) hx hb hts uwX7 tyX7 tyX7_ok nmX7 hown hK hP hD hS 0 rfl rfl 3 (by decide) (hts _ kfX7_30) (fun _ h9 => h9) rfl (tyX7_ok 3 (by decide)) rfl rfl (Nat.le_of_ble_eq_true rfl) dX7_parse_37 (fun H locs hP hD hS => ?_)
      have hP : va_P D vwCl [(a_p0, .inr (8, [.ref a_p0_bytes, .int p0_length, .int s1, .int (3 : Int32), .int p0_sixteens, .int p0_behindPoint, .int p0_counting, .int p0_power, .int p0_begin, .int p0_end])), (a_p0_bytes, .inl (cI, 1200, .inl p0_bytes))] H := hP
      have hD : va_D A [(a_p0, .inr (8, [.ref a_p0_bytes, .int p0_length, .int s1, .int (3 : Int32), .int p0_sixteens, .int p0_behindPoint, .int p0_counting, .int p0_power, .int p0_begin, .int p0_end])), (a_p0_bytes, .inl (cI, 1200, .inl p0_bytes))] := hD
      refine lv_aload_n hx hb dX7_parse_40 rfl (lv_at hl 1 rfl) ?_
      refine va_ldcS hx hb hown hE.s6 dX7_parse_41 ?_
      refine lv_iload_n hx hb dX7_parse_43 rfl (lv_at hl 0 rfl) ?_
      obtain ⟨u31, hu32, hf⟩ := bdE hf
      refine eV_I (ws' := [(a_p0, .inr (8, [.ref a_p0_bytes, .int p0_length, .int s1, .int (3 : Int32), .int p0_sixteens, .int p0_behindPoint, .int p0_counting, .int p0_power, .int p0_begin, .int p0_end])), (a_p0_bytes, .inl (cI, 1200, .inl p0_bytes))]) (rest := []) S hK hN hE hA hP hD hS (c_X7_parseWord l D cI cJ sa sv a_p0 a_p0_bytes 6 u4 p0_length s1 (3 : Int32) p0_sixteens p0_behindPoint p0_counting p0_power p0_begin p0_end p0_bytes sl6 u31 hu32) mwX7_parseWord miX7_parseWord kmX7_35 [0, 1] rfl (by decide) rfl rfl rfl 0 rfl rfl ⟨Nat.le_of_ble_eq_true rfl, Nat.le_of_ble_eq_true rfl⟩ ⟨Nat.zero_le _, Nat.zero_le _⟩ hl.1 rfl rfl (Nat.le_of_ble_eq_true rfl) dX7_parse_44 (fun H locs hP hD hS => ?_)
      exact hret _ (opE hf) H locs ls 47 dX7_parse_47 hP hD hS
  unfold f_X7_parse at hf
  refine lv_aload_n hx hb dX7_parse_0 rfl (lv_at hl 0 rfl) ?_
  refine lv_aload_n hx hb dX7_parse_1 rfl (lv_at hl 0 rfl) ?_
  refine lv_iconst (v := 0) hx hb dX7_parse_2 (by decide) ?_
  obtain ⟨u1, hu2, hf⟩ := bdE hf
  refine cV_I (ws' := [(a_p0, .inr (8, [.ref a_p0_bytes, .int p0_length, .int p0_minus, .int p0_kind, .int p0_sixteens, .int p0_behindPoint, .int p0_counting, .int p0_power, .int p0_begin, .int p0_end])), (a_p0_bytes, .inl (cI, 1200, .inl p0_bytes))]) (rest := [.ref a_p0]) S hK hN hA hP hD hS (c_X7_at l D cI cJ a_p0 a_p0_bytes (0 : Int32) p0_length p0_minus p0_kind p0_sixteens p0_behindPoint p0_counting p0_power p0_begin p0_end p0_bytes u1 hu2) mwX7_at miX7_at kmX7_19 [0, 1] rfl (by decide) rfl rfl rfl 0 rfl rfl ⟨Nat.le_of_ble_eq_true rfl, Nat.le_of_ble_eq_true rfl⟩ ⟨Nat.zero_le _, Nat.zero_le _⟩ hl.1 rfl rfl (Nat.le_of_ble_eq_true rfl) dX7_parse_3 (fun H locs hP hD hS => ?_)
  refine lv_bipush (v := 45) hx hb dX7_parse_6 (by decide) ?_
  refine lv_icmp_ne (tgt := 15) hx hb dX7_parse_8 (by decide) (fun hc34 => ?_) (fun hc34 => ?_)
  · have hf := ifF hc34 hf
    refine lv_iconst (v := 0) hx hb dX7_parse_15 (by decide) ?_
    exact keyB16 (0 : Int32) p0_minus p0_kind p0_sixteens p0_behindPoint p0_counting p0_power p0_begin p0_end H locs ls hf hP hD hS (lv_sub hl [0] rfl)
  · have hf := ifT hc34 hf
    refine lv_iconst (v := 1) hx hb dX7_parse_11 (by decide) ?_
    refine lv_goto (tgt := 16) hx hb dX7_parse_12 (by decide) ?_
    exact keyB16 (1 : Int32) p0_minus p0_kind p0_sixteens p0_behindPoint p0_counting p0_power p0_begin p0_end H locs ls hf hP hD hS (lv_sub hl [0] rfl)
set_option maxRecDepth 100000 in
set_option maxHeartbeats 4000000 in
theorem c_X8_unpack (l : Launch) (D : va_G) (cI cJ : ClassId) (a_p0 : Nat) (p1 : Int32) (p2 : Int64) (p0_kind : Int32) (p0_minus : Int32) (p0_m : Int64) (p0_e : Int32) (p0_narrowBelow : Int32) (u : Int32 × Int32 × Int64 × Int32 × Int32) (hf : f_X8_unpack p1 p2 p0_kind p0_minus p0_m p0_e p0_narrowBelow = some u) : CtV l yX8_unpack cX8_unpack 10 1 20 [.ref a_p0, .int p1, .long p2] D cI cJ [(a_p0, .inr (9, [.int p0_kind, .int p0_minus, .long p0_m, .int p0_e, .int p0_narrowBelow]))] [(a_p0, .inr (9, [.int u.1, .int u.2.1, .long u.2.2.1, .int u.2.2.2.1, .int u.2.2.2.2]))] := by
  refine mkV (own := RX8) rfl (by decide +kernel) (Nat.le_of_ble_eq_true rfl) (lv := [(0, .ref a_p0), (1, .int p1), (2, .long p2)]) rfl ?_
  intro p e s m below meth c Q A ls ar S hA hK hN hret H locs hP hD hS hl
  obtain ⟨hx, hb, hml, hown, hts⟩ := id S
  have hret : ∀ (w : Int32 × Int32 × Int64 × Int32 × Int32), w = u → ∀ (H : Heap) (locs : List Loc) (ls : Array Slot) (pc : Nat), decode cX8_unpack pc = .ok (.return_, 1) → va_P D vwCl [(a_p0, .inr (9, [.int w.1, .int w.2.1, .long w.2.2.1, .int w.2.2.2.1, .int w.2.2.2.2]))] H → va_D A [(a_p0, .inr (9, [.int w.1, .int w.2.1, .long w.2.2.1, .int w.2.2.2.1, .int w.2.2.2.2]))] → va_S A s.heap H locs → W p l e (rmz 1 20) s m ar below meth c H locs 0 0 Q (F0 m pc ls []) := fun w hw => hw ▸ hret
  have keyB117 : ∀ (v1 : Int32) (v7 : Int64) (s1 : Int32) (p0_kind : Int32) (p0_minus : Int32) (p0_m : Int64) (p0_e : Int32) (p0_narrowBelow : Int32) (H : Heap) (locs : List Loc) (ls : Array Slot), f_X8_unpack_B117 v1 v7 s1 p0_kind p0_minus p0_m p0_e p0_narrowBelow = some u → va_P D vwCl [(a_p0, .inr (9, [.int p0_kind, .int p0_minus, .long p0_m, .int p0_e, .int p0_narrowBelow]))] H → va_D A [(a_p0, .inr (9, [.int p0_kind, .int p0_minus, .long p0_m, .int p0_e, .int p0_narrowBelow]))] → va_S A s.heap H locs → lv_has ls 10 [(0, .ref a_p0), (1, .int v1), (7, .long v7)] → W p l e (rmz 1 20) s m ar below meth c H locs 0 0 Q (F0 m 117 ls [.int s1, .ref a_p0]) := by
    intro v1 v7 s1 p0_kind p0_minus p0_m p0_e p0_narrowBelow H locs ls hf hP hD hS hl
    unfold f_X8_unpack_B117 at hf
    refine va_put (D := D) (ci := 9) (v := .int s1) (ty := tyX8 0) (C := RX8) (T := TX8) (N := 5) hx hb hts uwX8 tyX8 tyX8_ok nmX8 hown hK hP hD hS 0 rfl rfl 0 (by decide) (hts _ kfX8_41) (fun _ h9 => h9) rfl (tyX8_ok 0 (by decide)) rfl rfl (Nat.le_of_ble_eq_true rfl) dX8_unpack_117 (fun H locs hP hD hS => ?_)
    have hP : va_P D vwCl [(a_p0, .inr (9, [.int s1, .int p0_minus, .long p0_m, .int p0_e, .int p0_narrowBelow]))] H := hP
    have hD : va_D A [(a_p0, .inr (9, [.int s1, .int p0_minus, .long p0_m, .int p0_e, .int p0_narrowBelow]))] := hD
    refine lv_aload_n hx hb dX8_unpack_120 rfl (lv_at hl 0 rfl) ?_
    refine lv_lload hx hb dX8_unpack_121 (lv_at hl 2 rfl) ?_
    refine va_put (D := D) (ci := 9) (v := .long v7) (ty := tyX8 2) (C := RX8) (T := TX8) (N := 5) hx hb hts uwX8 tyX8 tyX8_ok nmX8 hown hK hP hD hS 0 rfl rfl 2 (by decide) (hts _ kfX8_27) (fun _ h9 => h9) rfl (tyX8_ok 2 (by decide)) rfl rfl (Nat.le_of_ble_eq_true rfl) dX8_unpack_123 (fun H locs hP hD hS => ?_)
    have hP : va_P D vwCl [(a_p0, .inr (9, [.int s1, .int p0_minus, .long v7, .int p0_e, .int p0_narrowBelow]))] H := hP
    have hD : va_D A [(a_p0, .inr (9, [.int s1, .int p0_minus, .long v7, .int p0_e, .int p0_narrowBelow]))] := hD
    refine lv_aload_n hx hb dX8_unpack_126 rfl (lv_at hl 0 rfl) ?_
    refine lv_iload_n hx hb dX8_unpack_127 rfl (lv_at hl 1 rfl) ?_
    obtain ⟨u12, hu13, hf⟩ := bdE hf
    refine cS_I (ws' := [(a_p0, .inr (9, [.int s1, .int p0_minus, .long v7, .int p0_e, .int p0_narrowBelow]))]) (rest := [.ref a_p0]) S hK hN hA hP hD hS (c_X2_lowest l D cI cJ  v1  u12 hu13) mwX2_lowest msX2_lowest kmX8_44 [] rfl (by decide) rfl rfl rfl ⟨Nat.le_of_ble_eq_true rfl, Nat.le_of_ble_eq_true rfl⟩ ⟨Nat.zero_le _, Nat.zero_le _⟩ hl.1 rfl rfl (Nat.le_of_ble_eq_true rfl) dX8_unpack_128 (fun H locs hP hD hS => ?_)
    refine va_put (D := D) (ci := 9) (v := .int u12) (ty := tyX8 3) (C := RX8) (T := TX8) (N := 5) hx hb hts uwX8 tyX8 tyX8_ok nmX8 hown hK hP hD hS 0 rfl rfl 3 (by decide) (hts _ kfX8_31) (fun _ h9 => h9) rfl (tyX8_ok 3 (by decide)) rfl rfl (Nat.le_of_ble_eq_true rfl) dX8_unpack_131 (fun H locs hP hD hS => ?_)
    have hP : va_P D vwCl [(a_p0, .inr (9, [.int s1, .int p0_minus, .long v7, .int u12, .int p0_narrowBelow]))] H := hP
    have hD : va_D A [(a_p0, .inr (9, [.int s1, .int p0_minus, .long v7, .int u12, .int p0_narrowBelow]))] := hD
    refine lv_goto (tgt := 188) hx hb dX8_unpack_134 (by decide) ?_
    exact hret _ (opE hf) H locs ls 188 dX8_unpack_188 hP hD hS
  have keyB52 : ∀ (v1 : Int32) (v4 : Int32) (v5 : Int64) (v7 : Int64) (v9 : Int32) (s1 : Int32) (p0_kind : Int32) (p0_minus : Int32) (p0_m : Int64) (p0_e : Int32) (p0_narrowBelow : Int32) (H : Heap) (locs : List Loc) (ls : Array Slot), f_X8_unpack_B52 v1 v4 v5 v7 v9 s1 p0_kind p0_minus p0_m p0_e p0_narrowBelow = some u → va_P D vwCl [(a_p0, .inr (9, [.int p0_kind, .int p0_minus, .long p0_m, .int p0_e, .int p0_narrowBelow]))] H → va_D A [(a_p0, .inr (9, [.int p0_kind, .int p0_minus, .long p0_m, .int p0_e, .int p0_narrowBelow]))] → va_S A s.heap H locs → lv_has ls 10 [(0, .ref a_p0), (1, .int v1), (4, .int v4), (5, .long v5), (7, .long v7), (9, .int v9)] → W p l e (rmz 1 20) s m ar below meth c H locs 0 0 Q (F0 m 52 ls [.int s1, .ref a_p0]) := by
    intro v1 v4 v5 v7 v9 s1 p0_kind p0_minus p0_m p0_e p0_narrowBelow H locs ls hf hP hD hS hl
    unfold f_X8_unpack_B52 at hf
    obtain ⟨hb5, hf⟩ := blE hf
    refine va_put (D := D) (ci := 9) (v := .int s1) (ty := tyX8 1) (C := RX8) (T := TX8) (N := 5) hx hb hts uwX8 tyX8 tyX8_ok nmX8 hown hK hP hD hS 0 rfl rfl 1 (by decide) (hts _ kfX8_21) (fun _ h9 => h9) rfl (tyX8_ok 1 (by decide)) (nar_bool hb5) (fit_bool hb5) (Nat.le_of_ble_eq_true rfl) dX8_unpack_52 (fun H locs hP hD hS => ?_)
    have hP : va_P D vwCl [(a_p0, .inr (9, [.int p0_kind, .int s1, .long p0_m, .int p0_e, .int p0_narrowBelow]))] H := hP
    have hD : va_D A [(a_p0, .inr (9, [.int p0_kind, .int s1, .long p0_m, .int p0_e, .int p0_narrowBelow]))] := hD
    refine lv_aload_n hx hb dX8_unpack_55 rfl (lv_at hl 0 rfl) ?_
    refine lv_lconst (v := 0) hx hb dX8_unpack_56 (by decide) ?_
    refine va_put (D := D) (ci := 9) (v := .long (0 : Int64)) (ty := tyX8 2) (C := RX8) (T := TX8) (N := 5) hx hb hts uwX8 tyX8 tyX8_ok nmX8 hown hK hP hD hS 0 rfl rfl 2 (by decide) (hts _ kfX8_27) (fun _ h9 => h9) rfl (tyX8_ok 2 (by decide)) rfl rfl (Nat.le_of_ble_eq_true rfl) dX8_unpack_57 (fun H locs hP hD hS => ?_)
    have hP : va_P D vwCl [(a_p0, .inr (9, [.int p0_kind, .int s1, .long (0 : Int64), .int p0_e, .int p0_narrowBelow]))] H := hP
    have hD : va_D A [(a_p0, .inr (9, [.int p0_kind, .int s1, .long (0 : Int64), .int p0_e, .int p0_narrowBelow]))] := hD
    refine lv_aload_n hx hb dX8_unpack_60 rfl (lv_at hl 0 rfl) ?_
    refine lv_iconst (v := 0) hx hb dX8_unpack_61 (by decide) ?_
    refine va_put (D := D) (ci := 9) (v := .int (0 : Int32)) (ty := tyX8 3) (C := RX8) (T := TX8) (N := 5) hx hb hts uwX8 tyX8 tyX8_ok nmX8 hown hK hP hD hS 0 rfl rfl 3 (by decide) (hts _ kfX8_31) (fun _ h9 => h9) rfl (tyX8_ok 3 (by decide)) rfl rfl (Nat.le_of_ble_eq_true rfl) dX8_unpack_62 (fun H locs hP hD hS => ?_)
    have hP : va_P D vwCl [(a_p0, .inr (9, [.int p0_kind, .int s1, .long (0 : Int64), .int (0 : Int32), .int p0_narrowBelow]))] H := hP
    have hD : va_D A [(a_p0, .inr (9, [.int p0_kind, .int s1, .long (0 : Int64), .int (0 : Int32), .int p0_narrowBelow]))] := hD
    refine lv_aload_n hx hb dX8_unpack_65 rfl (lv_at hl 0 rfl) ?_
    refine lv_iconst (v := 0) hx hb dX8_unpack_66 (by decide) ?_
    refine va_put (D := D) (ci := 9) (v := .int (0 : Int32)) (ty := tyX8 4) (C := RX8) (T := TX8) (N := 5) hx hb hts uwX8 tyX8 tyX8_ok nmX8 hown hK hP hD hS 0 rfl rfl 4 (by decide) (hts _ kfX8_35) (fun _ h9 => h9) rfl (tyX8_ok 4 (by decide)) rfl rfl (Nat.le_of_ble_eq_true rfl) dX8_unpack_67 (fun H locs hP hD hS => ?_)
    have hP : va_P D vwCl [(a_p0, .inr (9, [.int p0_kind, .int s1, .long (0 : Int64), .int (0 : Int32), .int (0 : Int32)]))] H := hP
    have hD : va_D A [(a_p0, .inr (9, [.int p0_kind, .int s1, .long (0 : Int64), .int (0 : Int32), .int (0 : Int32)]))] := hD
    refine lv_lload hx hb dX8_unpack_70 (lv_at hl 3 rfl) ?_
    refine lv_iload_n hx hb dX8_unpack_72 rfl (lv_at hl 1 rfl) ?_
    obtain ⟨u6, hu7, hf⟩ := bdE hf
    refine cS_L (ws' := [(a_p0, .inr (9, [.int p0_kind, .int s1, .long (0 : Int64), .int (0 : Int32), .int (0 : Int32)]))]) (rest := [.long v5]) S hK hN hA hP hD hS (c_X2_endlessSize l D cI cJ  v1  u6 hu7) mwX2_endlessSize msX2_endlessSize kmX8_38 [] rfl (by decide) rfl rfl rfl ⟨Nat.le_of_ble_eq_true rfl, Nat.le_of_ble_eq_true rfl⟩ ⟨Nat.zero_le _, Nat.zero_le _⟩ hl.1 rfl rfl (Nat.le_of_ble_eq_true rfl) dX8_unpack_73 (fun H locs hP hD hS => ?_)
    refine W.lcmp hx hb dX8_unpack_76 ?_
    refine lv_if_lt (tgt := 99) hx hb dX8_unpack_77 (by decide) (fun hc17 => ?_) (fun hc17 => ?_)
    · have hf := ifT hc17 hf
      refine lv_iload hx hb dX8_unpack_99 (lv_at hl 5 rfl) ?_
      refine lv_if_ne (tgt := 137) hx hb dX8_unpack_101 (by decide) (fun hc15 => ?_) (fun hc15 => ?_)
      · have hf := ifF hc15 hf
        refine lv_aload_n hx hb dX8_unpack_137 rfl (lv_at hl 0 rfl) ?_
        refine lv_iconst (v := 2) hx hb dX8_unpack_138 (by decide) ?_
        refine va_put (D := D) (ci := 9) (v := .int (2 : Int32)) (ty := tyX8 0) (C := RX8) (T := TX8) (N := 5) hx hb hts uwX8 tyX8 tyX8_ok nmX8 hown hK hP hD hS 0 rfl rfl 0 (by decide) (hts _ kfX8_41) (fun _ h9 => h9) rfl (tyX8_ok 0 (by decide)) rfl rfl (Nat.le_of_ble_eq_true rfl) dX8_unpack_139 (fun H locs hP hD hS => ?_)
        have hP : va_P D vwCl [(a_p0, .inr (9, [.int (2 : Int32), .int s1, .long (0 : Int64), .int (0 : Int32), .int (0 : Int32)]))] H := hP
        have hD : va_D A [(a_p0, .inr (9, [.int (2 : Int32), .int s1, .long (0 : Int64), .int (0 : Int32), .int (0 : Int32)]))] := hD
        refine lv_aload_n hx hb dX8_unpack_142 rfl (lv_at hl 0 rfl) ?_
        refine lv_lload hx hb dX8_unpack_143 (lv_at hl 4 rfl) ?_
        refine lv_lconst (v := 1) hx hb dX8_unpack_145 (by decide) ?_
        refine lv_iload hx hb dX8_unpack_146 (lv_at hl 2 rfl) ?_
        refine lv_lshl (v := lsh (1 : Int64) v4) hx hb dX8_unpack_148 rfl ?_
        refine lv_lor hx hb dX8_unpack_149 ?_
        refine va_put (D := D) (ci := 9) (v := .long (v7 ||| (lsh (1 : Int64) v4))) (ty := tyX8 2) (C := RX8) (T := TX8) (N := 5) hx hb hts uwX8 tyX8 tyX8_ok nmX8 hown hK hP hD hS 0 rfl rfl 2 (by decide) (hts _ kfX8_27) (fun _ h9 => h9) rfl (tyX8_ok 2 (by decide)) rfl rfl (Nat.le_of_ble_eq_true rfl) dX8_unpack_150 (fun H locs hP hD hS => ?_)
        have hP : va_P D vwCl [(a_p0, .inr (9, [.int (2 : Int32), .int s1, .long (v7 ||| (lsh (1 : Int64) v4)), .int (0 : Int32), .int (0 : Int32)]))] H := hP
        have hD : va_D A [(a_p0, .inr (9, [.int (2 : Int32), .int s1, .long (v7 ||| (lsh (1 : Int64) v4)), .int (0 : Int32), .int (0 : Int32)]))] := hD
        refine lv_aload_n hx hb dX8_unpack_153 rfl (lv_at hl 0 rfl) ?_
        refine lv_iload_n hx hb dX8_unpack_154 rfl (lv_at hl 1 rfl) ?_
        obtain ⟨u8, hu9, hf⟩ := bdE hf
        refine cS_I (ws' := [(a_p0, .inr (9, [.int (2 : Int32), .int s1, .long (v7 ||| (lsh (1 : Int64) v4)), .int (0 : Int32), .int (0 : Int32)]))]) (rest := [.ref a_p0]) S hK hN hA hP hD hS (c_X2_lowest l D cI cJ  v1  u8 hu9) mwX2_lowest msX2_lowest kmX8_44 [] rfl (by decide) rfl rfl rfl ⟨Nat.le_of_ble_eq_true rfl, Nat.le_of_ble_eq_true rfl⟩ ⟨Nat.zero_le _, Nat.zero_le _⟩ hl.1 rfl rfl (Nat.le_of_ble_eq_true rfl) dX8_unpack_155 (fun H locs hP hD hS => ?_)
        refine lv_iconst (v := 1) hx hb dX8_unpack_158 (by decide) ?_
        refine lv_isub hx hb dX8_unpack_159 ?_
        refine lv_iload hx hb dX8_unpack_160 (lv_at hl 5 rfl) ?_
        refine lv_iadd hx hb dX8_unpack_162 ?_
        refine va_put (D := D) (ci := 9) (v := .int ((u8 - (1 : Int32)) + v9)) (ty := tyX8 3) (C := RX8) (T := TX8) (N := 5) hx hb hts uwX8 tyX8 tyX8_ok nmX8 hown hK hP hD hS 0 rfl rfl 3 (by decide) (hts _ kfX8_31) (fun _ h9 => h9) rfl (tyX8_ok 3 (by decide)) rfl rfl (Nat.le_of_ble_eq_true rfl) dX8_unpack_163 (fun H locs hP hD hS => ?_)
        have hP : va_P D vwCl [(a_p0, .inr (9, [.int (2 : Int32), .int s1, .long (v7 ||| (lsh (1 : Int64) v4)), .int ((u8 - (1 : Int32)) + v9), .int (0 : Int32)]))] H := hP
        have hD : va_D A [(a_p0, .inr (9, [.int (2 : Int32), .int s1, .long (v7 ||| (lsh (1 : Int64) v4)), .int ((u8 - (1 : Int32)) + v9), .int (0 : Int32)]))] := hD
        refine lv_aload_n hx hb dX8_unpack_166 rfl (lv_at hl 0 rfl) ?_
        refine lv_lload hx hb dX8_unpack_167 (lv_at hl 4 rfl) ?_
        refine lv_lconst (v := 0) hx hb dX8_unpack_169 (by decide) ?_
        refine W.lcmp hx hb dX8_unpack_170 ?_
        refine lv_if_ne (tgt := 184) hx hb dX8_unpack_171 (by decide) (fun hc11 => ?_) (fun hc11 => ?_)
        · have hf := ifF hc11 hf
          refine lv_iconst (v := 0) hx hb dX8_unpack_184 (by decide) ?_
          refine va_put (D := D) (ci := 9) (v := .int (0 : Int32)) (ty := tyX8 4) (C := RX8) (T := TX8) (N := 5) hx hb hts uwX8 tyX8 tyX8_ok nmX8 hown hK hP hD hS 0 rfl rfl 4 (by decide) (hts _ kfX8_35) (fun _ h9 => h9) rfl (tyX8_ok 4 (by decide)) rfl rfl (Nat.le_of_ble_eq_true rfl) dX8_unpack_185 (fun H locs hP hD hS => ?_)
          have hP : va_P D vwCl [(a_p0, .inr (9, [.int (2 : Int32), .int s1, .long (v7 ||| (lsh (1 : Int64) v4)), .int ((u8 - (1 : Int32)) + v9), .int (0 : Int32)]))] H := hP
          have hD : va_D A [(a_p0, .inr (9, [.int (2 : Int32), .int s1, .long (v7 ||| (lsh (1 : Int64) v4)), .int ((u8 - (1 : Int32)) + v9), .int (0 : Int32)]))] := hD
          exact hret _ (opE hf) H locs ls 188 dX8_unpack_188 hP hD hS
        · have hf := ifT hc11 hf
          refine lv_iload hx hb dX8_unpack_174 (lv_at hl 5 rfl) ?_
          refine lv_iconst (v := 1) hx hb dX8_unpack_176 (by decide) ?_
          refine lv_icmp_le (tgt := 184) hx hb dX8_unpack_177 (by decide) (fun hc10 => ?_) (fun hc10 => ?_)
          · have hf := ifT hc10 hf
            refine lv_iconst (v := 0) hx hb dX8_unpack_184 (by decide) ?_
            refine va_put (D := D) (ci := 9) (v := .int (0 : Int32)) (ty := tyX8 4) (C := RX8) (T := TX8) (N := 5) hx hb hts uwX8 tyX8 tyX8_ok nmX8 hown hK hP hD hS 0 rfl rfl 4 (by decide) (hts _ kfX8_35) (fun _ h9 => h9) rfl (tyX8_ok 4 (by decide)) rfl rfl (Nat.le_of_ble_eq_true rfl) dX8_unpack_185 (fun H locs hP hD hS => ?_)
            have hP : va_P D vwCl [(a_p0, .inr (9, [.int (2 : Int32), .int s1, .long (v7 ||| (lsh (1 : Int64) v4)), .int ((u8 - (1 : Int32)) + v9), .int (0 : Int32)]))] H := hP
            have hD : va_D A [(a_p0, .inr (9, [.int (2 : Int32), .int s1, .long (v7 ||| (lsh (1 : Int64) v4)), .int ((u8 - (1 : Int32)) + v9), .int (0 : Int32)]))] := hD
            exact hret _ (opE hf) H locs ls 188 dX8_unpack_188 hP hD hS
          · have hf := ifF hc10 hf
            refine lv_iconst (v := 1) hx hb dX8_unpack_180 (by decide) ?_
            refine lv_goto (tgt := 185) hx hb dX8_unpack_181 (by decide) ?_
            refine va_put (D := D) (ci := 9) (v := .int (1 : Int32)) (ty := tyX8 4) (C := RX8) (T := TX8) (N := 5) hx hb hts uwX8 tyX8 tyX8_ok nmX8 hown hK hP hD hS 0 rfl rfl 4 (by decide) (hts _ kfX8_35) (fun _ h9 => h9) rfl (tyX8_ok 4 (by decide)) rfl rfl (Nat.le_of_ble_eq_true rfl) dX8_unpack_185 (fun H locs hP hD hS => ?_)
            have hP : va_P D vwCl [(a_p0, .inr (9, [.int (2 : Int32), .int s1, .long (v7 ||| (lsh (1 : Int64) v4)), .int ((u8 - (1 : Int32)) + v9), .int (1 : Int32)]))] H := hP
            have hD : va_D A [(a_p0, .inr (9, [.int (2 : Int32), .int s1, .long (v7 ||| (lsh (1 : Int64) v4)), .int ((u8 - (1 : Int32)) + v9), .int (1 : Int32)]))] := hD
            exact hret _ (opE hf) H locs ls 188 dX8_unpack_188 hP hD hS
      · have hf := ifT hc15 hf
        refine lv_aload_n hx hb dX8_unpack_104 rfl (lv_at hl 0 rfl) ?_
        refine lv_lload hx hb dX8_unpack_105 (lv_at hl 4 rfl) ?_
        refine lv_lconst (v := 0) hx hb dX8_unpack_107 (by decide) ?_
        refine W.lcmp hx hb dX8_unpack_108 ?_
        refine lv_if_ne (tgt := 116) hx hb dX8_unpack_109 (by decide) (fun hc14 => ?_) (fun hc14 => ?_)
        · have hf := ifF hc14 hf
          refine lv_iconst (v := 1) hx hb dX8_unpack_116 (by decide) ?_
          exact keyB117 v1 v7 (1 : Int32) p0_kind s1 (0 : Int64) (0 : Int32) (0 : Int32) H locs ls hf hP hD hS (lv_sub hl [0, 1, 4] rfl)
        · have hf := ifT hc14 hf
          refine lv_iconst (v := 0) hx hb dX8_unpack_112 (by decide) ?_
          refine lv_goto (tgt := 117) hx hb dX8_unpack_113 (by decide) ?_
          exact keyB117 v1 v7 (0 : Int32) p0_kind s1 (0 : Int64) (0 : Int32) (0 : Int32) H locs ls hf hP hD hS (lv_sub hl [0, 1, 4] rfl)
    · have hf := ifF hc17 hf
      refine lv_aload_n hx hb dX8_unpack_80 rfl (lv_at hl 0 rfl) ?_
      refine lv_lload hx hb dX8_unpack_81 (lv_at hl 4 rfl) ?_
      refine lv_lconst (v := 0) hx hb dX8_unpack_83 (by decide) ?_
      refine W.lcmp hx hb dX8_unpack_84 ?_
      refine lv_if_ne (tgt := 92) hx hb dX8_unpack_85 (by decide) (fun hc16 => ?_) (fun hc16 => ?_)
      · have hf := ifF hc16 hf
        refine lv_iconst (v := 4) hx hb dX8_unpack_92 (by decide) ?_
        refine va_put (D := D) (ci := 9) (v := .int (4 : Int32)) (ty := tyX8 0) (C := RX8) (T := TX8) (N := 5) hx hb hts uwX8 tyX8 tyX8_ok nmX8 hown hK hP hD hS 0 rfl rfl 0 (by decide) (hts _ kfX8_41) (fun _ h9 => h9) rfl (tyX8_ok 0 (by decide)) rfl rfl (Nat.le_of_ble_eq_true rfl) dX8_unpack_93 (fun H locs hP hD hS => ?_)
        have hP : va_P D vwCl [(a_p0, .inr (9, [.int (4 : Int32), .int s1, .long (0 : Int64), .int (0 : Int32), .int (0 : Int32)]))] H := hP
        have hD : va_D A [(a_p0, .inr (9, [.int (4 : Int32), .int s1, .long (0 : Int64), .int (0 : Int32), .int (0 : Int32)]))] := hD
        refine lv_goto (tgt := 188) hx hb dX8_unpack_96 (by decide) ?_
        exact hret _ (opE hf) H locs ls 188 dX8_unpack_188 hP hD hS
      · have hf := ifT hc16 hf
        refine lv_iconst (v := 3) hx hb dX8_unpack_88 (by decide) ?_
        refine lv_goto (tgt := 93) hx hb dX8_unpack_89 (by decide) ?_
        refine va_put (D := D) (ci := 9) (v := .int (3 : Int32)) (ty := tyX8 0) (C := RX8) (T := TX8) (N := 5) hx hb hts uwX8 tyX8 tyX8_ok nmX8 hown hK hP hD hS 0 rfl rfl 0 (by decide) (hts _ kfX8_41) (fun _ h9 => h9) rfl (tyX8_ok 0 (by decide)) rfl rfl (Nat.le_of_ble_eq_true rfl) dX8_unpack_93 (fun H locs hP hD hS => ?_)
        have hP : va_P D vwCl [(a_p0, .inr (9, [.int (3 : Int32), .int s1, .long (0 : Int64), .int (0 : Int32), .int (0 : Int32)]))] H := hP
        have hD : va_D A [(a_p0, .inr (9, [.int (3 : Int32), .int s1, .long (0 : Int64), .int (0 : Int32), .int (0 : Int32)]))] := hD
        refine lv_goto (tgt := 188) hx hb dX8_unpack_96 (by decide) ?_
        exact hret _ (opE hf) H locs ls 188 dX8_unpack_188 hP hD hS
  unfold f_X8_unpack at hf
  refine lv_iload_n hx hb dX8_unpack_0 rfl (lv_at hl 1 rfl) ?_
  obtain ⟨u1, hu2, hf⟩ := bdE hf
  refine cS_I (ws' := [(a_p0, .inr (9, [.int p0_kind, .int p0_minus, .long p0_m, .int p0_e, .int p0_narrowBelow]))]) (rest := []) S hK hN hA hP hD hS (c_X2_precision l D cI cJ  p1  u1 hu2) mwX2_precision msX2_precision kmX8_9 [] rfl (by decide) rfl rfl rfl ⟨Nat.le_of_ble_eq_true rfl, Nat.le_of_ble_eq_true rfl⟩ ⟨Nat.zero_le _, Nat.zero_le _⟩ hl.1 rfl rfl (Nat.le_of_ble_eq_true rfl) dX8_unpack_1 (fun H locs hP hD hS => ?_)
  refine lv_iconst (v := 1) hx hb dX8_unpack_4 (by decide) ?_
  refine lv_isub hx hb dX8_unpack_5 ?_
  refine lv_istore (lv' := [(4, .int (u1 - (1 : Int32))), (0, .ref a_p0), (1, .int p1), (2, .long p2)]) hx hb dX8_unpack_6 hl (by decide) rfl (fun ls hl => ?_)
  refine lv_lload_n hx hb dX8_unpack_8 rfl (lv_at hl 3 rfl) ?_
  refine lv_iload_n hx hb dX8_unpack_9 rfl (lv_at hl 2 rfl) ?_
  obtain ⟨u3, hu4, hf⟩ := bdE hf
  refine cS_L (ws' := [(a_p0, .inr (9, [.int p0_kind, .int p0_minus, .long p0_m, .int p0_e, .int p0_narrowBelow]))]) (rest := [.long p2]) S hK hN hA hP hD hS (c_X2_signBit l D cI cJ  p1  u3 hu4) mwX2_signBit msX2_signBit kmX8_15 [] rfl (by decide) rfl rfl rfl ⟨Nat.le_of_ble_eq_true rfl, Nat.le_of_ble_eq_true rfl⟩ ⟨Nat.zero_le _, Nat.zero_le _⟩ hl.1 rfl rfl (Nat.le_of_ble_eq_true rfl) dX8_unpack_10 (fun H locs hP hD hS => ?_)
  refine lv_ldc2 hx hb hown (hts _ kcX8_19) dX8_unpack_13 ?_
  refine lv_lxor hx hb dX8_unpack_16 ?_
  refine lv_land hx hb dX8_unpack_17 ?_
  refine lv_lstore (lv' := [(5, .long (p2 &&& (u3 ^^^ (-1 : Int64)))), (4, .int (u1 - (1 : Int32))), (0, .ref a_p0), (1, .int p1), (2, .long p2)]) hx hb dX8_unpack_18 hl (by decide) rfl (fun ls hl => ?_)
  refine lv_lload hx hb dX8_unpack_20 (lv_at hl 0 rfl) ?_
  refine lv_lconst (v := 1) hx hb dX8_unpack_22 (by decide) ?_
  refine lv_iload hx hb dX8_unpack_23 (lv_at hl 1 rfl) ?_
  refine lv_lshl (v := lsh (1 : Int64) (u1 - (1 : Int32))) hx hb dX8_unpack_25 rfl ?_
  refine lv_lconst (v := 1) hx hb dX8_unpack_26 (by decide) ?_
  refine lv_lsub hx hb dX8_unpack_27 ?_
  refine lv_land hx hb dX8_unpack_28 ?_
  refine lv_lstore (lv' := [(7, .long ((p2 &&& (u3 ^^^ (-1 : Int64))) &&& ((lsh (1 : Int64) (u1 - (1 : Int32))) - (1 : Int64)))), (5, .long (p2 &&& (u3 ^^^ (-1 : Int64)))), (4, .int (u1 - (1 : Int32))), (0, .ref a_p0), (1, .int p1), (2, .long p2)]) hx hb dX8_unpack_29 hl (by decide) rfl (fun ls hl => ?_)
  refine lv_lload hx hb dX8_unpack_31 (lv_at hl 1 rfl) ?_
  refine lv_iload hx hb dX8_unpack_33 (lv_at hl 2 rfl) ?_
  refine lv_lushr (v := lus (p2 &&& (u3 ^^^ (-1 : Int64))) (u1 - (1 : Int32))) hx hb dX8_unpack_35 rfl ?_
  refine lv_l2i (v := (lus (p2 &&& (u3 ^^^ (-1 : Int64))) (u1 - (1 : Int32))).toInt32) hx hb dX8_unpack_36 rfl ?_
  refine lv_istore (lv' := [(9, .int ((lus (p2 &&& (u3 ^^^ (-1 : Int64))) (u1 - (1 : Int32))).toInt32)), (7, .long ((p2 &&& (u3 ^^^ (-1 : Int64))) &&& ((lsh (1 : Int64) (u1 - (1 : Int32))) - (1 : Int64)))), (5, .long (p2 &&& (u3 ^^^ (-1 : Int64)))), (4, .int (u1 - (1 : Int32))), (0, .ref a_p0), (1, .int p1), (2, .long p2)]) hx hb dX8_unpack_37 hl (by decide) rfl (fun ls hl => ?_)
  refine lv_aload_n hx hb dX8_unpack_39 rfl (lv_at hl 4 rfl) ?_
  refine lv_lload hx hb dX8_unpack_40 (lv_at hl 2 rfl) ?_
  refine lv_lload_n hx hb dX8_unpack_42 rfl (lv_at hl 6 rfl) ?_
  refine W.lcmp hx hb dX8_unpack_43 ?_
  refine lv_if_eq (tgt := 51) hx hb dX8_unpack_44 (by decide) (fun hc18 => ?_) (fun hc18 => ?_)
  · have hf := ifT hc18 hf
    refine lv_iconst (v := 0) hx hb dX8_unpack_51 (by decide) ?_
    exact keyB52 p1 (u1 - (1 : Int32)) (p2 &&& (u3 ^^^ (-1 : Int64))) ((p2 &&& (u3 ^^^ (-1 : Int64))) &&& ((lsh (1 : Int64) (u1 - (1 : Int32))) - (1 : Int64))) ((lus (p2 &&& (u3 ^^^ (-1 : Int64))) (u1 - (1 : Int32))).toInt32) (0 : Int32) p0_kind p0_minus p0_m p0_e p0_narrowBelow H locs ls hf hP hD hS (lv_sub hl [4, 5, 3, 2, 1, 0] rfl)
  · have hf := ifF hc18 hf
    refine lv_iconst (v := 1) hx hb dX8_unpack_47 (by decide) ?_
    refine lv_goto (tgt := 52) hx hb dX8_unpack_48 (by decide) ?_
    exact keyB52 p1 (u1 - (1 : Int32)) (p2 &&& (u3 ^^^ (-1 : Int64))) ((p2 &&& (u3 ^^^ (-1 : Int64))) &&& ((lsh (1 : Int64) (u1 - (1 : Int32))) - (1 : Int64))) ((lus (p2 &&& (u3 ^^^ (-1 : Int64))) (u1 - (1 : Int32))).toInt32) (1 : Int32) p0_kind p0_minus p0_m p0_e p0_narrowBelow H locs ls hf hP hD hS (lv_sub hl [4, 5, 3, 2, 1, 0] rfl)
set_option maxRecDepth 100000 in
set_option maxHeartbeats 4000000 in
theorem c_X8_isNumber (l : Launch) (D : va_G) (cI cJ : ClassId) (a_p0 : Nat) (p0_kind : Int32) (p0_minus : Int32) (p0_m : Int64) (p0_e : Int32) (p0_narrowBelow : Int32) (u : Int32) (hf : f_X8_isNumber p0_kind = some u) : CtI l yX8_isNumber cX8_isNumber 1 0 0 .boolean [.ref a_p0] D cI cJ [(a_p0, .inr (9, [.int p0_kind, .int p0_minus, .long p0_m, .int p0_e, .int p0_narrowBelow]))] [(a_p0, .inr (9, [.int p0_kind, .int p0_minus, .long p0_m, .int p0_e, .int p0_narrowBelow]))] u := by
  refine mkZ (own := RX8) rfl (by decide +kernel) (Nat.le_of_ble_eq_true rfl) (lv := [(0, .ref a_p0)]) rfl ?_
  intro p e s m below meth c Q A ls ar S hA hK hN hret H locs hP hD hS hl
  obtain ⟨hx, hb, hml, hown, hts⟩ := id S
  have hret : ∀ (w : Int32), w = u → ∀ (H : Heap) (locs : List Loc) (ls : Array Slot) (pc : Nat), decode cX8_isNumber pc = .ok (.ireturn, 1) → (w = 0 ∨ w = 1) → va_P D vwCl [(a_p0, .inr (9, [.int p0_kind, .int p0_minus, .long p0_m, .int p0_e, .int p0_narrowBelow]))] H → va_D A [(a_p0, .inr (9, [.int p0_kind, .int p0_minus, .long p0_m, .int p0_e, .int p0_narrowBelow]))] → va_S A s.heap H locs → W p l e (rmz 0 0) s m ar below meth c H locs 0 0 Q (F0 m pc ls [.int w]) := fun w hw => hw ▸ hret
  unfold f_X8_isNumber at hf
  refine lv_aload_n hx hb dX8_isNumber_0 rfl (lv_at hl 0 rfl) ?_
  refine va_get (D := D) (ci := 9) (v := .int p0_kind) (C := RX8) (T := TX8) (N := 5) hx hb hts uwX8 hown hK hP 0 rfl rfl 0 (by decide) (hts _ kfX8_41) (fun _ h9 => h9) rfl dX8_isNumber_1 ?_
  refine lv_iconst (v := 3) hx hb dX8_isNumber_4 (by decide) ?_
  refine lv_icmp_ge (tgt := 12) hx hb dX8_isNumber_5 (by decide) (fun hc1 => ?_) (fun hc1 => ?_)
  · have hf := ifT hc1 hf
    refine lv_iconst (v := 0) hx hb dX8_isNumber_12 (by decide) ?_
    exact hret _ (opE hf) H locs ls 13 dX8_isNumber_13 (Or.inl rfl) hP hD hS
  · have hf := ifF hc1 hf
    refine lv_iconst (v := 1) hx hb dX8_isNumber_8 (by decide) ?_
    refine lv_goto (tgt := 13) hx hb dX8_isNumber_9 (by decide) ?_
    exact hret _ (opE hf) H locs ls 13 dX8_isNumber_13 (Or.inr rfl) hP hD hS
set_option maxRecDepth 100000 in
set_option maxHeartbeats 4000000 in
theorem c_J13_bitCount_95d88 (l : Launch) (D : va_G) (cI cJ : ClassId) (p0 : Int64)  (u : Int32) (hf : f_J13_bitCount_95d88 p0 = some u) : CtI l yJ13_bitCount_95d88 cJ13_bitCount_95d88 2 0 0 .int [.long p0] D cI cJ [] [] u := by
  refine mkI (own := RJ13) rfl (by decide +kernel) (Nat.le_of_ble_eq_true rfl) (lv := [(0, .long p0)]) rfl ?_
  intro p e s m below meth c Q A ls ar S hA hK hN hret H locs hP hD hS hl
  obtain ⟨hx, hb, hml, hown, hts⟩ := id S
  have hret : ∀ (w : Int32), w = u → ∀ (H : Heap) (locs : List Loc) (ls : Array Slot) (pc : Nat), decode cJ13_bitCount_95d88 pc = .ok (.ireturn, 1) → va_P D vwCl [] H → va_D A [] → va_S A s.heap H locs → W p l e (rmz 0 0) s m ar below meth c H locs 0 0 Q (F0 m pc ls [.int w]) := fun w hw => hw ▸ hret
  unfold f_J13_bitCount_95d88 at hf
  refine lv_lload_n hx hb dJ13_bitCount_95d88_0 rfl (lv_at hl 0 rfl) ?_
  refine lv_lload_n hx hb dJ13_bitCount_95d88_1 rfl (lv_at hl 0 rfl) ?_
  refine lv_iconst (v := 1) hx hb dJ13_bitCount_95d88_2 (by decide) ?_
  refine lv_lushr (v := lus p0 (1 : Int32)) hx hb dJ13_bitCount_95d88_3 rfl ?_
  refine lv_ldc2 hx hb hown (hts _ kcJ13_314) dJ13_bitCount_95d88_4 ?_
  refine lv_land hx hb dJ13_bitCount_95d88_7 ?_
  refine lv_lsub hx hb dJ13_bitCount_95d88_8 ?_
  refine lv_lstore_n (lv' := [(0, .long (p0 - ((lus p0 (1 : Int32)) &&& (6148914691236517205 : Int64))))]) hx hb dJ13_bitCount_95d88_9 rfl hl (by decide) rfl (fun ls hl => ?_)
  refine lv_lload_n hx hb dJ13_bitCount_95d88_10 rfl (lv_at hl 0 rfl) ?_
  refine lv_ldc2 hx hb hown (hts _ kcJ13_316) dJ13_bitCount_95d88_11 ?_
  refine lv_land hx hb dJ13_bitCount_95d88_14 ?_
  refine lv_lload_n hx hb dJ13_bitCount_95d88_15 rfl (lv_at hl 0 rfl) ?_
  refine lv_iconst (v := 2) hx hb dJ13_bitCount_95d88_16 (by decide) ?_
  refine lv_lushr (v := lus (p0 - ((lus p0 (1 : Int32)) &&& (6148914691236517205 : Int64))) (2 : Int32)) hx hb dJ13_bitCount_95d88_17 rfl ?_
  refine lv_ldc2 hx hb hown (hts _ kcJ13_316) dJ13_bitCount_95d88_18 ?_
  refine lv_land hx hb dJ13_bitCount_95d88_21 ?_
  refine lv_ladd hx hb dJ13_bitCount_95d88_22 ?_
  refine lv_lstore_n (lv' := [(0, .long (((p0 - ((lus p0 (1 : Int32)) &&& (6148914691236517205 : Int64))) &&& (3689348814741910323 : Int64)) + ((lus (p0 - ((lus p0 (1 : Int32)) &&& (6148914691236517205 : Int64))) (2 : Int32)) &&& (3689348814741910323 : Int64))))]) hx hb dJ13_bitCount_95d88_23 rfl hl (by decide) rfl (fun ls hl => ?_)
  refine lv_lload_n hx hb dJ13_bitCount_95d88_24 rfl (lv_at hl 0 rfl) ?_
  refine lv_lload_n hx hb dJ13_bitCount_95d88_25 rfl (lv_at hl 0 rfl) ?_
  refine lv_iconst (v := 4) hx hb dJ13_bitCount_95d88_26 (by decide) ?_
  refine lv_lushr (v := lus (((p0 - ((lus p0 (1 : Int32)) &&& (6148914691236517205 : Int64))) &&& (3689348814741910323 : Int64)) + ((lus (p0 - ((lus p0 (1 : Int32)) &&& (6148914691236517205 : Int64))) (2 : Int32)) &&& (3689348814741910323 : Int64))) (4 : Int32)) hx hb dJ13_bitCount_95d88_27 rfl ?_
  refine lv_ladd hx hb dJ13_bitCount_95d88_28 ?_
  refine lv_ldc2 hx hb hown (hts _ kcJ13_318) dJ13_bitCount_95d88_29 ?_
  refine lv_land hx hb dJ13_bitCount_95d88_32 ?_
  refine lv_lstore_n (lv' := [(0, .long (((((p0 - ((lus p0 (1 : Int32)) &&& (6148914691236517205 : Int64))) &&& (3689348814741910323 : Int64)) + ((lus (p0 - ((lus p0 (1 : Int32)) &&& (6148914691236517205 : Int64))) (2 : Int32)) &&& (3689348814741910323 : Int64))) + (lus (((p0 - ((lus p0 (1 : Int32)) &&& (6148914691236517205 : Int64))) &&& (3689348814741910323 : Int64)) + ((lus (p0 - ((lus p0 (1 : Int32)) &&& (6148914691236517205 : Int64))) (2 : Int32)) &&& (3689348814741910323 : Int64))) (4 : Int32))) &&& (1085102592571150095 : Int64)))]) hx hb dJ13_bitCount_95d88_33 rfl hl (by decide) rfl (fun ls hl => ?_)
  refine lv_lload_n hx hb dJ13_bitCount_95d88_34 rfl (lv_at hl 0 rfl) ?_
  refine lv_lload_n hx hb dJ13_bitCount_95d88_35 rfl (lv_at hl 0 rfl) ?_
  refine lv_bipush (v := 8) hx hb dJ13_bitCount_95d88_36 (by decide) ?_
  refine lv_lushr (v := lus (((((p0 - ((lus p0 (1 : Int32)) &&& (6148914691236517205 : Int64))) &&& (3689348814741910323 : Int64)) + ((lus (p0 - ((lus p0 (1 : Int32)) &&& (6148914691236517205 : Int64))) (2 : Int32)) &&& (3689348814741910323 : Int64))) + (lus (((p0 - ((lus p0 (1 : Int32)) &&& (6148914691236517205 : Int64))) &&& (3689348814741910323 : Int64)) + ((lus (p0 - ((lus p0 (1 : Int32)) &&& (6148914691236517205 : Int64))) (2 : Int32)) &&& (3689348814741910323 : Int64))) (4 : Int32))) &&& (1085102592571150095 : Int64)) (8 : Int32)) hx hb dJ13_bitCount_95d88_38 rfl ?_
  refine lv_ladd hx hb dJ13_bitCount_95d88_39 ?_
  refine lv_lstore_n (lv' := [(0, .long ((((((p0 - ((lus p0 (1 : Int32)) &&& (6148914691236517205 : Int64))) &&& (3689348814741910323 : Int64)) + ((lus (p0 - ((lus p0 (1 : Int32)) &&& (6148914691236517205 : Int64))) (2 : Int32)) &&& (3689348814741910323 : Int64))) + (lus (((p0 - ((lus p0 (1 : Int32)) &&& (6148914691236517205 : Int64))) &&& (3689348814741910323 : Int64)) + ((lus (p0 - ((lus p0 (1 : Int32)) &&& (6148914691236517205 : Int64))) (2 : Int32)) &&& (3689348814741910323 : Int64))) (4 : Int32))) &&& (1085102592571150095 : Int64)) + (lus (((((p0 - ((lus p0 (1 : Int32)) &&& (6148914691236517205 : Int64))) &&& (3689348814741910323 : Int64)) + ((lus (p0 - ((lus p0 (1 : Int32)) &&& (6148914691236517205 : Int64))) (2 : Int32)) &&& (3689348814741910323 : Int64))) + (lus (((p0 - ((lus p0 (1 : Int32)) &&& (6148914691236517205 : Int64))) &&& (3689348814741910323 : Int64)) + ((lus (p0 - ((lus p0 (1 : Int32)) &&& (6148914691236517205 : Int64))) (2 : Int32)) &&& (3689348814741910323 : Int64))) (4 : Int32))) &&& (1085102592571150095 : Int64)) (8 : Int32))))]) hx hb dJ13_bitCount_95d88_40 rfl hl (by decide) rfl (fun ls hl => ?_)
  refine lv_lload_n hx hb dJ13_bitCount_95d88_41 rfl (lv_at hl 0 rfl) ?_
  refine lv_lload_n hx hb dJ13_bitCount_95d88_42 rfl (lv_at hl 0 rfl) ?_
  refine lv_bipush (v := 16) hx hb dJ13_bitCount_95d88_43 (by decide) ?_
  refine lv_lushr (v := lus ((((((p0 - ((lus p0 (1 : Int32)) &&& (6148914691236517205 : Int64))) &&& (3689348814741910323 : Int64)) + ((lus (p0 - ((lus p0 (1 : Int32)) &&& (6148914691236517205 : Int64))) (2 : Int32)) &&& (3689348814741910323 : Int64))) + (lus (((p0 - ((lus p0 (1 : Int32)) &&& (6148914691236517205 : Int64))) &&& (3689348814741910323 : Int64)) + ((lus (p0 - ((lus p0 (1 : Int32)) &&& (6148914691236517205 : Int64))) (2 : Int32)) &&& (3689348814741910323 : Int64))) (4 : Int32))) &&& (1085102592571150095 : Int64)) + (lus (((((p0 - ((lus p0 (1 : Int32)) &&& (6148914691236517205 : Int64))) &&& (3689348814741910323 : Int64)) + ((lus (p0 - ((lus p0 (1 : Int32)) &&& (6148914691236517205 : Int64))) (2 : Int32)) &&& (3689348814741910323 : Int64))) + (lus (((p0 - ((lus p0 (1 : Int32)) &&& (6148914691236517205 : Int64))) &&& (3689348814741910323 : Int64)) + ((lus (p0 - ((lus p0 (1 : Int32)) &&& (6148914691236517205 : Int64))) (2 : Int32)) &&& (3689348814741910323 : Int64))) (4 : Int32))) &&& (1085102592571150095 : Int64)) (8 : Int32))) (16 : Int32)) hx hb dJ13_bitCount_95d88_45 rfl ?_
  refine lv_ladd hx hb dJ13_bitCount_95d88_46 ?_
  refine lv_lstore_n (lv' := [(0, .long (((((((p0 - ((lus p0 (1 : Int32)) &&& (6148914691236517205 : Int64))) &&& (3689348814741910323 : Int64)) + ((lus (p0 - ((lus p0 (1 : Int32)) &&& (6148914691236517205 : Int64))) (2 : Int32)) &&& (3689348814741910323 : Int64))) + (lus (((p0 - ((lus p0 (1 : Int32)) &&& (6148914691236517205 : Int64))) &&& (3689348814741910323 : Int64)) + ((lus (p0 - ((lus p0 (1 : Int32)) &&& (6148914691236517205 : Int64))) (2 : Int32)) &&& (3689348814741910323 : Int64))) (4 : Int32))) &&& (1085102592571150095 : Int64)) + (lus (((((p0 - ((lus p0 (1 : Int32)) &&& (6148914691236517205 : Int64))) &&& (3689348814741910323 : Int64)) + ((lus (p0 - ((lus p0 (1 : Int32)) &&& (6148914691236517205 : Int64))) (2 : Int32)) &&& (3689348814741910323 : Int64))) + (lus (((p0 - ((lus p0 (1 : Int32)) &&& (6148914691236517205 : Int64))) &&& (3689348814741910323 : Int64)) + ((lus (p0 - ((lus p0 (1 : Int32)) &&& (6148914691236517205 : Int64))) (2 : Int32)) &&& (3689348814741910323 : Int64))) (4 : Int32))) &&& (1085102592571150095 : Int64)) (8 : Int32))) + (lus ((((((p0 - ((lus p0 (1 : Int32)) &&& (6148914691236517205 : Int64))) &&& (3689348814741910323 : Int64)) + ((lus (p0 - ((lus p0 (1 : Int32)) &&& (6148914691236517205 : Int64))) (2 : Int32)) &&& (3689348814741910323 : Int64))) + (lus (((p0 - ((lus p0 (1 : Int32)) &&& (6148914691236517205 : Int64))) &&& (3689348814741910323 : Int64)) + ((lus (p0 - ((lus p0 (1 : Int32)) &&& (6148914691236517205 : Int64))) (2 : Int32)) &&& (3689348814741910323 : Int64))) (4 : Int32))) &&& (1085102592571150095 : Int64)) + (lus (((((p0 - ((lus p0 (1 : Int32)) &&& (6148914691236517205 : Int64))) &&& (3689348814741910323 : Int64)) + ((lus (p0 - ((lus p0 (1 : Int32)) &&& (6148914691236517205 : Int64))) (2 : Int32)) &&& (3689348814741910323 : Int64))) + (lus (((p0 - ((lus p0 (1 : Int32)) &&& (6148914691236517205 : Int64))) &&& (3689348814741910323 : Int64)) + ((lus (p0 - ((lus p0 (1 : Int32)) &&& (6148914691236517205 : Int64))) (2 : Int32)) &&& (3689348814741910323 : Int64))) (4 : Int32))) &&& (1085102592571150095 : Int64)) (8 : Int32))) (16 : Int32))))]) hx hb dJ13_bitCount_95d88_47 rfl hl (by decide) rfl (fun ls hl => ?_)
  refine lv_lload_n hx hb dJ13_bitCount_95d88_48 rfl (lv_at hl 0 rfl) ?_
  refine lv_lload_n hx hb dJ13_bitCount_95d88_49 rfl (lv_at hl 0 rfl) ?_
  refine lv_bipush (v := 32) hx hb dJ13_bitCount_95d88_50 (by decide) ?_
  refine lv_lushr (v := lus (((((((p0 - ((lus p0 (1 : Int32)) &&& (6148914691236517205 : Int64))) &&& (3689348814741910323 : Int64)) + ((lus (p0 - ((lus p0 (1 : Int32)) &&& (6148914691236517205 : Int64))) (2 : Int32)) &&& (3689348814741910323 : Int64))) + (lus (((p0 - ((lus p0 (1 : Int32)) &&& (6148914691236517205 : Int64))) &&& (3689348814741910323 : Int64)) + ((lus (p0 - ((lus p0 (1 : Int32)) &&& (6148914691236517205 : Int64))) (2 : Int32)) &&& (3689348814741910323 : Int64))) (4 : Int32))) &&& (1085102592571150095 : Int64)) + (lus (((((p0 - ((lus p0 (1 : Int32)) &&& (6148914691236517205 : Int64))) &&& (3689348814741910323 : Int64)) + ((lus (p0 - ((lus p0 (1 : Int32)) &&& (6148914691236517205 : Int64))) (2 : Int32)) &&& (3689348814741910323 : Int64))) + (lus (((p0 - ((lus p0 (1 : Int32)) &&& (6148914691236517205 : Int64))) &&& (3689348814741910323 : Int64)) + ((lus (p0 - ((lus p0 (1 : Int32)) &&& (6148914691236517205 : Int64))) (2 : Int32)) &&& (3689348814741910323 : Int64))) (4 : Int32))) &&& (1085102592571150095 : Int64)) (8 : Int32))) + (lus ((((((p0 - ((lus p0 (1 : Int32)) &&& (6148914691236517205 : Int64))) &&& (3689348814741910323 : Int64)) + ((lus (p0 - ((lus p0 (1 : Int32)) &&& (6148914691236517205 : Int64))) (2 : Int32)) &&& (3689348814741910323 : Int64))) + (lus (((p0 - ((lus p0 (1 : Int32)) &&& (6148914691236517205 : Int64))) &&& (3689348814741910323 : Int64)) + ((lus (p0 - ((lus p0 (1 : Int32)) &&& (6148914691236517205 : Int64))) (2 : Int32)) &&& (3689348814741910323 : Int64))) (4 : Int32))) &&& (1085102592571150095 : Int64)) + (lus (((((p0 - ((lus p0 (1 : Int32)) &&& (6148914691236517205 : Int64))) &&& (3689348814741910323 : Int64)) + ((lus (p0 - ((lus p0 (1 : Int32)) &&& (6148914691236517205 : Int64))) (2 : Int32)) &&& (3689348814741910323 : Int64))) + (lus (((p0 - ((lus p0 (1 : Int32)) &&& (6148914691236517205 : Int64))) &&& (3689348814741910323 : Int64)) + ((lus (p0 - ((lus p0 (1 : Int32)) &&& (6148914691236517205 : Int64))) (2 : Int32)) &&& (3689348814741910323 : Int64))) (4 : Int32))) &&& (1085102592571150095 : Int64)) (8 : Int32))) (16 : Int32))) (32 : Int32)) hx hb dJ13_bitCount_95d88_52 rfl ?_
  refine lv_ladd hx hb dJ13_bitCount_95d88_53 ?_
  refine lv_lstore_n (lv' := [(0, .long ((((((((p0 - ((lus p0 (1 : Int32)) &&& (6148914691236517205 : Int64))) &&& (3689348814741910323 : Int64)) + ((lus (p0 - ((lus p0 (1 : Int32)) &&& (6148914691236517205 : Int64))) (2 : Int32)) &&& (3689348814741910323 : Int64))) + (lus (((p0 - ((lus p0 (1 : Int32)) &&& (6148914691236517205 : Int64))) &&& (3689348814741910323 : Int64)) + ((lus (p0 - ((lus p0 (1 : Int32)) &&& (6148914691236517205 : Int64))) (2 : Int32)) &&& (3689348814741910323 : Int64))) (4 : Int32))) &&& (1085102592571150095 : Int64)) + (lus (((((p0 - ((lus p0 (1 : Int32)) &&& (6148914691236517205 : Int64))) &&& (3689348814741910323 : Int64)) + ((lus (p0 - ((lus p0 (1 : Int32)) &&& (6148914691236517205 : Int64))) (2 : Int32)) &&& (3689348814741910323 : Int64))) + (lus (((p0 - ((lus p0 (1 : Int32)) &&& (6148914691236517205 : Int64))) &&& (3689348814741910323 : Int64)) + ((lus (p0 - ((lus p0 (1 : Int32)) &&& (6148914691236517205 : Int64))) (2 : Int32)) &&& (3689348814741910323 : Int64))) (4 : Int32))) &&& (1085102592571150095 : Int64)) (8 : Int32))) + (lus ((((((p0 - ((lus p0 (1 : Int32)) &&& (6148914691236517205 : Int64))) &&& (3689348814741910323 : Int64)) + ((lus (p0 - ((lus p0 (1 : Int32)) &&& (6148914691236517205 : Int64))) (2 : Int32)) &&& (3689348814741910323 : Int64))) + (lus (((p0 - ((lus p0 (1 : Int32)) &&& (6148914691236517205 : Int64))) &&& (3689348814741910323 : Int64)) + ((lus (p0 - ((lus p0 (1 : Int32)) &&& (6148914691236517205 : Int64))) (2 : Int32)) &&& (3689348814741910323 : Int64))) (4 : Int32))) &&& (1085102592571150095 : Int64)) + (lus (((((p0 - ((lus p0 (1 : Int32)) &&& (6148914691236517205 : Int64))) &&& (3689348814741910323 : Int64)) + ((lus (p0 - ((lus p0 (1 : Int32)) &&& (6148914691236517205 : Int64))) (2 : Int32)) &&& (3689348814741910323 : Int64))) + (lus (((p0 - ((lus p0 (1 : Int32)) &&& (6148914691236517205 : Int64))) &&& (3689348814741910323 : Int64)) + ((lus (p0 - ((lus p0 (1 : Int32)) &&& (6148914691236517205 : Int64))) (2 : Int32)) &&& (3689348814741910323 : Int64))) (4 : Int32))) &&& (1085102592571150095 : Int64)) (8 : Int32))) (16 : Int32))) + (lus (((((((p0 - ((lus p0 (1 : Int32)) &&& (6148914691236517205 : Int64))) &&& (3689348814741910323 : Int64)) + ((lus (p0 - ((lus p0 (1 : Int32)) &&& (6148914691236517205 : Int64))) (2 : Int32)) &&& (3689348814741910323 : Int64))) + (lus (((p0 - ((lus p0 (1 : Int32)) &&& (6148914691236517205 : Int64))) &&& (3689348814741910323 : Int64)) + ((lus (p0 - ((lus p0 (1 : Int32)) &&& (6148914691236517205 : Int64))) (2 : Int32)) &&& (3689348814741910323 : Int64))) (4 : Int32))) &&& (1085102592571150095 : Int64)) + (lus (((((p0 - ((lus p0 (1 : Int32)) &&& (6148914691236517205 : Int64))) &&& (3689348814741910323 : Int64)) + ((lus (p0 - ((lus p0 (1 : Int32)) &&& (6148914691236517205 : Int64))) (2 : Int32)) &&& (3689348814741910323 : Int64))) + (lus (((p0 - ((lus p0 (1 : Int32)) &&& (6148914691236517205 : Int64))) &&& (3689348814741910323 : Int64)) + ((lus (p0 - ((lus p0 (1 : Int32)) &&& (6148914691236517205 : Int64))) (2 : Int32)) &&& (3689348814741910323 : Int64))) (4 : Int32))) &&& (1085102592571150095 : Int64)) (8 : Int32))) + (lus ((((((p0 - ((lus p0 (1 : Int32)) &&& (6148914691236517205 : Int64))) &&& (3689348814741910323 : Int64)) + ((lus (p0 - ((lus p0 (1 : Int32)) &&& (6148914691236517205 : Int64))) (2 : Int32)) &&& (3689348814741910323 : Int64))) + (lus (((p0 - ((lus p0 (1 : Int32)) &&& (6148914691236517205 : Int64))) &&& (3689348814741910323 : Int64)) + ((lus (p0 - ((lus p0 (1 : Int32)) &&& (6148914691236517205 : Int64))) (2 : Int32)) &&& (3689348814741910323 : Int64))) (4 : Int32))) &&& (1085102592571150095 : Int64)) + (lus (((((p0 - ((lus p0 (1 : Int32)) &&& (6148914691236517205 : Int64))) &&& (3689348814741910323 : Int64)) + ((lus (p0 - ((lus p0 (1 : Int32)) &&& (6148914691236517205 : Int64))) (2 : Int32)) &&& (3689348814741910323 : Int64))) + (lus (((p0 - ((lus p0 (1 : Int32)) &&& (6148914691236517205 : Int64))) &&& (3689348814741910323 : Int64)) + ((lus (p0 - ((lus p0 (1 : Int32)) &&& (6148914691236517205 : Int64))) (2 : Int32)) &&& (3689348814741910323 : Int64))) (4 : Int32))) &&& (1085102592571150095 : Int64)) (8 : Int32))) (16 : Int32))) (32 : Int32))))]) hx hb dJ13_bitCount_95d88_54 rfl hl (by decide) rfl (fun ls hl => ?_)
  refine lv_lload_n hx hb dJ13_bitCount_95d88_55 rfl (lv_at hl 0 rfl) ?_
  refine lv_l2i (v := ((((((((p0 - ((lus p0 (1 : Int32)) &&& (6148914691236517205 : Int64))) &&& (3689348814741910323 : Int64)) + ((lus (p0 - ((lus p0 (1 : Int32)) &&& (6148914691236517205 : Int64))) (2 : Int32)) &&& (3689348814741910323 : Int64))) + (lus (((p0 - ((lus p0 (1 : Int32)) &&& (6148914691236517205 : Int64))) &&& (3689348814741910323 : Int64)) + ((lus (p0 - ((lus p0 (1 : Int32)) &&& (6148914691236517205 : Int64))) (2 : Int32)) &&& (3689348814741910323 : Int64))) (4 : Int32))) &&& (1085102592571150095 : Int64)) + (lus (((((p0 - ((lus p0 (1 : Int32)) &&& (6148914691236517205 : Int64))) &&& (3689348814741910323 : Int64)) + ((lus (p0 - ((lus p0 (1 : Int32)) &&& (6148914691236517205 : Int64))) (2 : Int32)) &&& (3689348814741910323 : Int64))) + (lus (((p0 - ((lus p0 (1 : Int32)) &&& (6148914691236517205 : Int64))) &&& (3689348814741910323 : Int64)) + ((lus (p0 - ((lus p0 (1 : Int32)) &&& (6148914691236517205 : Int64))) (2 : Int32)) &&& (3689348814741910323 : Int64))) (4 : Int32))) &&& (1085102592571150095 : Int64)) (8 : Int32))) + (lus ((((((p0 - ((lus p0 (1 : Int32)) &&& (6148914691236517205 : Int64))) &&& (3689348814741910323 : Int64)) + ((lus (p0 - ((lus p0 (1 : Int32)) &&& (6148914691236517205 : Int64))) (2 : Int32)) &&& (3689348814741910323 : Int64))) + (lus (((p0 - ((lus p0 (1 : Int32)) &&& (6148914691236517205 : Int64))) &&& (3689348814741910323 : Int64)) + ((lus (p0 - ((lus p0 (1 : Int32)) &&& (6148914691236517205 : Int64))) (2 : Int32)) &&& (3689348814741910323 : Int64))) (4 : Int32))) &&& (1085102592571150095 : Int64)) + (lus (((((p0 - ((lus p0 (1 : Int32)) &&& (6148914691236517205 : Int64))) &&& (3689348814741910323 : Int64)) + ((lus (p0 - ((lus p0 (1 : Int32)) &&& (6148914691236517205 : Int64))) (2 : Int32)) &&& (3689348814741910323 : Int64))) + (lus (((p0 - ((lus p0 (1 : Int32)) &&& (6148914691236517205 : Int64))) &&& (3689348814741910323 : Int64)) + ((lus (p0 - ((lus p0 (1 : Int32)) &&& (6148914691236517205 : Int64))) (2 : Int32)) &&& (3689348814741910323 : Int64))) (4 : Int32))) &&& (1085102592571150095 : Int64)) (8 : Int32))) (16 : Int32))) + (lus (((((((p0 - ((lus p0 (1 : Int32)) &&& (6148914691236517205 : Int64))) &&& (3689348814741910323 : Int64)) + ((lus (p0 - ((lus p0 (1 : Int32)) &&& (6148914691236517205 : Int64))) (2 : Int32)) &&& (3689348814741910323 : Int64))) + (lus (((p0 - ((lus p0 (1 : Int32)) &&& (6148914691236517205 : Int64))) &&& (3689348814741910323 : Int64)) + ((lus (p0 - ((lus p0 (1 : Int32)) &&& (6148914691236517205 : Int64))) (2 : Int32)) &&& (3689348814741910323 : Int64))) (4 : Int32))) &&& (1085102592571150095 : Int64)) + (lus (((((p0 - ((lus p0 (1 : Int32)) &&& (6148914691236517205 : Int64))) &&& (3689348814741910323 : Int64)) + ((lus (p0 - ((lus p0 (1 : Int32)) &&& (6148914691236517205 : Int64))) (2 : Int32)) &&& (3689348814741910323 : Int64))) + (lus (((p0 - ((lus p0 (1 : Int32)) &&& (6148914691236517205 : Int64))) &&& (3689348814741910323 : Int64)) + ((lus (p0 - ((lus p0 (1 : Int32)) &&& (6148914691236517205 : Int64))) (2 : Int32)) &&& (3689348814741910323 : Int64))) (4 : Int32))) &&& (1085102592571150095 : Int64)) (8 : Int32))) + (lus ((((((p0 - ((lus p0 (1 : Int32)) &&& (6148914691236517205 : Int64))) &&& (3689348814741910323 : Int64)) + ((lus (p0 - ((lus p0 (1 : Int32)) &&& (6148914691236517205 : Int64))) (2 : Int32)) &&& (3689348814741910323 : Int64))) + (lus (((p0 - ((lus p0 (1 : Int32)) &&& (6148914691236517205 : Int64))) &&& (3689348814741910323 : Int64)) + ((lus (p0 - ((lus p0 (1 : Int32)) &&& (6148914691236517205 : Int64))) (2 : Int32)) &&& (3689348814741910323 : Int64))) (4 : Int32))) &&& (1085102592571150095 : Int64)) + (lus (((((p0 - ((lus p0 (1 : Int32)) &&& (6148914691236517205 : Int64))) &&& (3689348814741910323 : Int64)) + ((lus (p0 - ((lus p0 (1 : Int32)) &&& (6148914691236517205 : Int64))) (2 : Int32)) &&& (3689348814741910323 : Int64))) + (lus (((p0 - ((lus p0 (1 : Int32)) &&& (6148914691236517205 : Int64))) &&& (3689348814741910323 : Int64)) + ((lus (p0 - ((lus p0 (1 : Int32)) &&& (6148914691236517205 : Int64))) (2 : Int32)) &&& (3689348814741910323 : Int64))) (4 : Int32))) &&& (1085102592571150095 : Int64)) (8 : Int32))) (16 : Int32))) (32 : Int32))).toInt32) hx hb dJ13_bitCount_95d88_56 rfl ?_
  refine lv_bipush (v := 127) hx hb dJ13_bitCount_95d88_57 (by decide) ?_
  refine lv_iand hx hb dJ13_bitCount_95d88_59 ?_
  exact hret _ (opE hf) H locs ls 60 dJ13_bitCount_95d88_60 hP hD hS
