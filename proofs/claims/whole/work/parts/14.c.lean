set_option maxRecDepth 100000 in
set_option maxHeartbeats 4000000 in
theorem c_X4_limb (l : Launch) (D : va_G) (cI cJ : ClassId) (a_p0 a_p0_limbs : Nat) (p1 : Int32) (p0_size : Int32) (p0_limbs : (Nat → Int64)) (u : Int64) (hf : f_X4_limb p0_size p0_limbs p1 = some u) : CtL l yX4_limb cX4_limb 2 0 0 [.ref a_p0, .int p1] D cI cJ [(a_p0, .inr (5, [.ref a_p0_limbs, .int p0_size])), (a_p0_limbs, .inl (cJ, 160, .inr (.inl p0_limbs)))] [(a_p0, .inr (5, [.ref a_p0_limbs, .int p0_size])), (a_p0_limbs, .inl (cJ, 160, .inr (.inl p0_limbs)))] u := by
  refine mkL (own := RX4) rfl (by decide) (Nat.le_of_ble_eq_true rfl) (lv := [(0, .ref a_p0), (1, .int p1)]) rfl ?_
  intro p e s m below meth c Q A ls ar S hA hK hN hret H locs hP hD hS hl
  obtain ⟨hx, hb, hml, hown, hts⟩ := id S
  unfold f_X4_limb at hf
  refine lv_iload_n hx hb dX4_limb_0 rfl (lv_at hl 1 rfl) ?_
  refine lv_if_lt (tgt := 21) hx hb dX4_limb_1 (by decide) (fun hc3 => ?_) (fun hc3 => ?_)
  · have hf := ifT hc3 hf
    refine lv_lconst (v := 0) hx hb dX4_limb_21 (by decide) ?_
    obtain rfl := opE hf
    exact hret H locs ls 22 dX4_limb_22 hP hD hS
  · have hf := ifF hc3 hf
    refine lv_iload_n hx hb dX4_limb_4 rfl (lv_at hl 1 rfl) ?_
    refine lv_aload_n hx hb dX4_limb_5 rfl (lv_at hl 0 rfl) ?_
    refine va_get (D := D) (ci := 5) (v := .int p0_size) (C := RX4) (T := TX4) (N := 2) hx hb hts uwX4 hown hK hP 0 rfl rfl 1 (by decide) (hts _ kfX4_15) (fun _ h9 => h9) rfl dX4_limb_6 ?_
    refine lv_icmp_ge (tgt := 21) hx hb dX4_limb_9 (by decide) (fun hc2 => ?_) (fun hc2 => ?_)
    · have hf := ifT hc2 hf
      refine lv_lconst (v := 0) hx hb dX4_limb_21 (by decide) ?_
      obtain rfl := opE hf
      exact hret H locs ls 22 dX4_limb_22 hP hD hS
    · have hf := ifF hc2 hf
      refine lv_aload_n hx hb dX4_limb_12 rfl (lv_at hl 0 rfl) ?_
      refine va_get (D := D) (ci := 5) (v := .ref a_p0_limbs) (C := RX4) (T := TX4) (N := 2) hx hb hts uwX4 hown hK hP 0 rfl rfl 0 (by decide) (hts _ kfX4_9) (fun _ h9 => h9) rfl dX4_limb_13 ?_
      refine lv_iload_n hx hb dX4_limb_16 rfl (lv_at hl 1 rfl) ?_
      obtain ⟨hi1, hf⟩ := gdE hf
      refine va_lald hx hb hK hP 1 1 rfl rfl hi1 dX4_limb_17 ?_
      refine lv_goto (tgt := 22) hx hb dX4_limb_18 (by decide) ?_
      obtain rfl := opE hf
      exact hret H locs ls 22 dX4_limb_22 hP hD hS
set_option maxRecDepth 100000 in
set_option maxHeartbeats 4000000 in
theorem c_X4_trim (l : Launch) (D : va_G) (cI cJ : ClassId) (a_p0 a_p0_limbs : Nat) (p0_size : Int32) (p0_limbs : (Nat → Int64)) (u : Int32) (hf : f_X4_trim p0_limbs p0_size = some u) : CtV l yX4_trim cX4_trim 1 0 0 [.ref a_p0] D cI cJ [(a_p0, .inr (5, [.ref a_p0_limbs, .int p0_size])), (a_p0_limbs, .inl (cJ, 160, .inr (.inl p0_limbs)))] [(a_p0, .inr (5, [.ref a_p0_limbs, .int u])), (a_p0_limbs, .inl (cJ, 160, .inr (.inl p0_limbs)))] := by
  refine mkV (own := RX4) rfl (by decide) (Nat.le_of_ble_eq_true rfl) (lv := [(0, .ref a_p0)]) rfl ?_
  intro p e s m below meth c Q A ls ar S hA hK hN hret H locs hP hD hS hl
  obtain ⟨hx, hb, hml, hown, hts⟩ := id S
  have keyL0 : ∀ (n : Nat) (p0_size : Int32) (H : Heap) (locs : List Loc) (ls : Array Slot), f_X4_trim_L0 p0_limbs n p0_size = some u → va_P D vwCl [(a_p0, .inr (5, [.ref a_p0_limbs, .int p0_size])), (a_p0_limbs, .inl (cJ, 160, .inr (.inl p0_limbs)))] H → va_D A [(a_p0, .inr (5, [.ref a_p0_limbs, .int p0_size])), (a_p0_limbs, .inl (cJ, 160, .inr (.inl p0_limbs)))] → va_S A s.heap H locs → lv_has ls 1 [(0, .ref a_p0)] → W p l e (rmz 0 0) s m ar below meth c H locs 0 0 Q (F0 m 0 ls []) := by
    intro n
    induction n with
      | zero =>
        intro p0_size H locs ls hf
        cases hf
      | succ n ih =>
        intro p0_size H locs ls hf hP hD hS hl
        rw [f_X4_trim_L0] at hf
        refine lv_aload_n hx hb dX4_trim_0 rfl (lv_at hl 0 rfl) ?_
        refine va_get (D := D) (ci := 5) (v := .int p0_size) (C := RX4) (T := TX4) (N := 2) hx hb hts uwX4 hown hK hP 0 rfl rfl 1 (by decide) (hts _ kfX4_15) (fun _ h9 => h9) rfl dX4_trim_1 ?_
        refine lv_if_le (tgt := 36) hx hb dX4_trim_4 (by decide) (fun hc3 => ?_) (fun hc3 => ?_)
        · have hf := ifT hc3 hf
          obtain rfl := opE hf
          exact hret H locs ls 36 dX4_trim_36 hP hD hS
        · have hf := ifF hc3 hf
          refine lv_aload_n hx hb dX4_trim_7 rfl (lv_at hl 0 rfl) ?_
          refine va_get (D := D) (ci := 5) (v := .ref a_p0_limbs) (C := RX4) (T := TX4) (N := 2) hx hb hts uwX4 hown hK hP 0 rfl rfl 0 (by decide) (hts _ kfX4_9) (fun _ h9 => h9) rfl dX4_trim_8 ?_
          refine lv_aload_n hx hb dX4_trim_11 rfl (lv_at hl 0 rfl) ?_
          refine va_get (D := D) (ci := 5) (v := .int p0_size) (C := RX4) (T := TX4) (N := 2) hx hb hts uwX4 hown hK hP 0 rfl rfl 1 (by decide) (hts _ kfX4_15) (fun _ h9 => h9) rfl dX4_trim_12 ?_
          refine lv_iconst (v := 1) hx hb dX4_trim_15 (by decide) ?_
          refine lv_isub hx hb dX4_trim_16 ?_
          obtain ⟨hi1, hf⟩ := gdE hf
          refine va_lald hx hb hK hP 1 1 rfl rfl hi1 dX4_trim_17 ?_
          refine lv_lconst (v := 0) hx hb dX4_trim_18 (by decide) ?_
          refine W.lcmp hx hb dX4_trim_19 ?_
          refine lv_if_ne (tgt := 36) hx hb dX4_trim_20 (by decide) (fun hc2 => ?_) (fun hc2 => ?_)
          · have hf := ifF hc2 hf
            obtain rfl := opE hf
            exact hret H locs ls 36 dX4_trim_36 hP hD hS
          · have hf := ifT hc2 hf
            refine lv_aload_n hx hb dX4_trim_23 rfl (lv_at hl 0 rfl) ?_
            refine lv_dup hx hb dX4_trim_24 rfl ?_
            refine va_get (D := D) (ci := 5) (v := .int p0_size) (C := RX4) (T := TX4) (N := 2) hx hb hts uwX4 hown hK hP 0 rfl rfl 1 (by decide) (hts _ kfX4_15) (fun _ h9 => h9) rfl dX4_trim_25 ?_
            refine lv_iconst (v := 1) hx hb dX4_trim_28 (by decide) ?_
            refine lv_isub hx hb dX4_trim_29 ?_
            refine va_put (D := D) (ci := 5) (v := .int (p0_size - (1 : Int32))) (ty := tyX4 1) (C := RX4) (T := TX4) (N := 2) hx hb hts uwX4 tyX4 tyX4_ok nmX4 hown hK hP hD hS 0 rfl rfl 1 (by decide) (hts _ kfX4_15) (fun _ h9 => h9) rfl (tyX4_ok 1 (by decide)) rfl rfl (Nat.le_of_ble_eq_true rfl) dX4_trim_30 (fun H locs hP hD hS => ?_)
            have hP : va_P D vwCl [(a_p0, .inr (5, [.ref a_p0_limbs, .int (p0_size - (1 : Int32))])), (a_p0_limbs, .inl (cJ, 160, .inr (.inl p0_limbs)))] H := hP
            have hD : va_D A [(a_p0, .inr (5, [.ref a_p0_limbs, .int (p0_size - (1 : Int32))])), (a_p0_limbs, .inl (cJ, 160, .inr (.inl p0_limbs)))] := hD
            refine lv_goto (tgt := 0) hx hb dX4_trim_33 (by decide) ?_
            exact ih (p0_size - (1 : Int32)) H locs ls hf hP hD hS (lv_sub hl [0] rfl)
  unfold f_X4_trim at hf
  exact keyL0 FU p0_size H locs ls hf hP hD hS (lv_sub hl [0] rfl)
set_option maxRecDepth 100000 in
set_option maxHeartbeats 4000000 in
theorem c_X4_take (l : Launch) (D : va_G) (cI cJ : ClassId) (a_p0 a_p0_limbs : Nat) (p1 : Int64) (p0_size : Int32) (p0_limbs : (Nat → Int64)) (u : Int32 × (Nat → Int64)) (hf : f_X4_take p1 p0_size p0_limbs = some u) : CtV l yX4_take cX4_take 3 1 20 [.ref a_p0, .long p1] D cI cJ [(a_p0, .inr (5, [.ref a_p0_limbs, .int p0_size])), (a_p0_limbs, .inl (cJ, 160, .inr (.inl p0_limbs)))] [(a_p0, .inr (5, [.ref a_p0_limbs, .int u.1])), (a_p0_limbs, .inl (cJ, 160, .inr (.inl u.2)))] := by
  refine mkV (own := RX4) rfl (by decide) (Nat.le_of_ble_eq_true rfl) (lv := [(0, .ref a_p0), (1, .long p1)]) rfl ?_
  intro p e s m below meth c Q A ls ar S hA hK hN hret H locs hP hD hS hl
  obtain ⟨hx, hb, hml, hown, hts⟩ := id S
  unfold f_X4_take at hf
  refine lv_aload_n hx hb dX4_take_0 rfl (lv_at hl 0 rfl) ?_
  refine va_get (D := D) (ci := 5) (v := .ref a_p0_limbs) (C := RX4) (T := TX4) (N := 2) hx hb hts uwX4 hown hK hP 0 rfl rfl 0 (by decide) (hts _ kfX4_9) (fun _ h9 => h9) rfl dX4_take_1 ?_
  refine lv_iconst (v := 0) hx hb dX4_take_4 (by decide) ?_
  refine lv_lload_n hx hb dX4_take_5 rfl (lv_at hl 1 rfl) ?_
  refine lv_ldc2 hx hb hown (hts _ kcX4_13) dX4_take_6 ?_
  refine lv_land hx hb dX4_take_9 ?_
  refine va_last hx hb hK hP hD hS 1 1 rfl rfl (vin_lit rfl) dX4_take_10 (fun H locs hP hD hS => ?_)
  have hP : va_P D vwCl [(a_p0, .inr (5, [.ref a_p0_limbs, .int p0_size])), (a_p0_limbs, .inl (cJ, 160, .inr (.inl (vp_updL p0_limbs 0 (p1 &&& (4294967295 : Int64))))))] H := hP
  have hD : va_D A [(a_p0, .inr (5, [.ref a_p0_limbs, .int p0_size])), (a_p0_limbs, .inl (cJ, 160, .inr (.inl (vp_updL p0_limbs 0 (p1 &&& (4294967295 : Int64))))))] := hD
  refine lv_aload_n hx hb dX4_take_11 rfl (lv_at hl 0 rfl) ?_
  refine va_get (D := D) (ci := 5) (v := .ref a_p0_limbs) (C := RX4) (T := TX4) (N := 2) hx hb hts uwX4 hown hK hP 0 rfl rfl 0 (by decide) (hts _ kfX4_9) (fun _ h9 => h9) rfl dX4_take_12 ?_
  refine lv_iconst (v := 1) hx hb dX4_take_15 (by decide) ?_
  refine lv_lload_n hx hb dX4_take_16 rfl (lv_at hl 1 rfl) ?_
  refine lv_bipush (v := 32) hx hb dX4_take_17 (by decide) ?_
  refine lv_lushr (v := lus p1 (32 : Int32)) hx hb dX4_take_19 rfl ?_
  refine va_last hx hb hK hP hD hS 1 1 rfl rfl (vin_lit rfl) dX4_take_20 (fun H locs hP hD hS => ?_)
  have hP : va_P D vwCl [(a_p0, .inr (5, [.ref a_p0_limbs, .int p0_size])), (a_p0_limbs, .inl (cJ, 160, .inr (.inl (vp_updL (vp_updL p0_limbs 0 (p1 &&& (4294967295 : Int64))) 1 (lus p1 (32 : Int32))))))] H := hP
  have hD : va_D A [(a_p0, .inr (5, [.ref a_p0_limbs, .int p0_size])), (a_p0_limbs, .inl (cJ, 160, .inr (.inl (vp_updL (vp_updL p0_limbs 0 (p1 &&& (4294967295 : Int64))) 1 (lus p1 (32 : Int32))))))] := hD
  refine lv_aload_n hx hb dX4_take_21 rfl (lv_at hl 0 rfl) ?_
  refine lv_iconst (v := 2) hx hb dX4_take_22 (by decide) ?_
  refine va_put (D := D) (ci := 5) (v := .int (2 : Int32)) (ty := tyX4 1) (C := RX4) (T := TX4) (N := 2) hx hb hts uwX4 tyX4 tyX4_ok nmX4 hown hK hP hD hS 0 rfl rfl 1 (by decide) (hts _ kfX4_15) (fun _ h9 => h9) rfl (tyX4_ok 1 (by decide)) rfl rfl (Nat.le_of_ble_eq_true rfl) dX4_take_23 (fun H locs hP hD hS => ?_)
  have hP : va_P D vwCl [(a_p0, .inr (5, [.ref a_p0_limbs, .int (2 : Int32)])), (a_p0_limbs, .inl (cJ, 160, .inr (.inl (vp_updL (vp_updL p0_limbs 0 (p1 &&& (4294967295 : Int64))) 1 (lus p1 (32 : Int32))))))] H := hP
  have hD : va_D A [(a_p0, .inr (5, [.ref a_p0_limbs, .int (2 : Int32)])), (a_p0_limbs, .inl (cJ, 160, .inr (.inl (vp_updL (vp_updL p0_limbs 0 (p1 &&& (4294967295 : Int64))) 1 (lus p1 (32 : Int32))))))] := hD
  refine lv_aload_n hx hb dX4_take_26 rfl (lv_at hl 0 rfl) ?_
  obtain ⟨u1, hu2, hf⟩ := bdE hf
  refine cV_V (ws' := [(a_p0, .inr (5, [.ref a_p0_limbs, .int u1])), (a_p0_limbs, .inl (cJ, 160, .inr (.inl (vp_updL (vp_updL p0_limbs 0 (p1 &&& (4294967295 : Int64))) 1 (lus p1 (32 : Int32))))))]) (rest := []) S hK hN hA hP hD hS (c_X4_trim l D cI cJ a_p0 a_p0_limbs  (2 : Int32) (vp_updL (vp_updL p0_limbs 0 (p1 &&& (4294967295 : Int64))) 1 (lus p1 (32 : Int32))) u1 hu2) mwX4_trim miX4_trim kmX4_19 [0, 1] rfl (by decide) rfl rfl rfl 0 rfl rfl ⟨Nat.le_of_ble_eq_true rfl, Nat.le_of_ble_eq_true rfl⟩ ⟨Nat.zero_le _, Nat.zero_le _⟩ hl.1 rfl rfl (Nat.le_of_ble_eq_true rfl) dX4_take_27 (fun H locs hP hD hS => ?_)
  obtain rfl := opE hf
  exact hret H locs ls 30 dX4_take_30 hP hD hS
