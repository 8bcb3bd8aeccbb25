set_option maxRecDepth 100000 in
set_option maxHeartbeats 4000000 in
theorem c_X4_trim (l : Launch) (D : va_G) (cI cJ : ClassId) (a_p0 a_p0_limbs : Nat) (p0_size : Int32) (p0_limbs : (Nat → Int64)) (u : Int32) (hf : f_X4_trim p0_limbs p0_size = some u) : CtV l yX4_trim cX4_trim 1 0 0 [.ref a_p0] D cI cJ [(a_p0, .inr (5, [.ref a_p0_limbs, .int p0_size])), (a_p0_limbs, .inl (cJ, 160, .inr (.inl p0_limbs)))] [(a_p0, .inr (5, [.ref a_p0_limbs, .int u])), (a_p0_limbs, .inl (cJ, 160, .inr (.inl p0_limbs)))] := by
  refine mkV (own := RX4) rfl (by decide +kernel) (Nat.le_of_ble_eq_true rfl) (lv := [(0, .ref a_p0)]) rfl ?_
  intro p e s m below meth c Q A ls ar S hA hK hN hret H locs hP hD hS hl
  obtain ⟨hx, hb, hml, hown, hts⟩ := id S
  have keyL0 : ∀ (n : Nat) (p0_size : Int32) (H : Heap) (locs : List Loc) (ls : Array Slot), f_X4_trim_L0 p0_limbs n p0_size = some u → va_P D vwCl [(a_p0, .inr (5, [.ref a_p0_limbs, .int p0_size])), (a_p0_limbs, .inl (cJ, 160, .inr (.inl p0_limbs)))] H → va_D A [(a_p0, .inr (5, [.ref a_p0_limbs, .int p0_size])), (a_p0_limbs, .inl (cJ, 160, .inr (.inl p0_limbs)))] → va_S A s.heap H locs → lv_has ls 1 [(0, .ref a_p0)] → W p l e (rmz 0 0) s m ar below meth c H locs 0 0 Q (F0 m 0 ls []) := by
    intro n
    induction n with
      | zero =>
        intro p0_size H locs ls hf
        cases hf
      | succ n ih =>
        intro p0_size H locs ls hf hP hD hS hl
        rw [f_X4_trim_L0] at hf
        refine lv_aload_n hx hb dX4_trim_0 rfl (lv_at hl 0 rfl) ?_
        refine va_get (D := D) (ci := 5) (v := .int p0_size) (C := RX4) (T := TX4) (N := 2) hx hb hts uwX4 hown hK hP 0 rfl rfl 1 (by decide) (hts _ kfX4_15) (fun _ h9 => h9) rfl dX4_trim_1 ?_
        refine lv_if_le (tgt := 36) hx hb dX4_trim_4 (by decide) (fun hc3 => ?_) (fun hc3 => ?_)
        · have hf := ifT hc3 hf
          obtain rfl := opE hf
          exact hret H locs ls 36 dX4_trim_36 hP hD hS
        · have hf := ifF hc3 hf
          refine lv_aload_n hx hb dX4_trim_7 rfl (lv_at hl 0 rfl) ?_
          refine va_get (D := D) (ci := 5) (v := .ref a_p0_limbs) (C := RX4) (T := TX4) (N := 2) hx hb hts uwX4 hown hK hP 0 rfl rfl 0 (by decide) (hts _ kfX4_9) (fun _ h9 => h9) rfl dX4_trim_8 ?_
          refine lv_aload_n hx hb dX4_trim_11 rfl (lv_at hl 0 rfl) ?_
          refine va_get (D := D) (ci := 5) (v := .int p0_size) (C := RX4) (T := TX4) (N := 2) hx hb hts uwX4 hown hK hP 0 rfl rfl 1 (by decide) (hts _ kfX4_15) (fun _ h9 => h9) rfl dX4_trim_12 ?_
          refine lv_iconst (v := 1) hx hb dX4_trim_15 (by decide) ?_
          refine lv_isub hx hb dX4_trim_16 ?_
          obtain ⟨hi1, hf⟩ := gdE hf
          refine va_lald hx hb hK hP 1 1 rfl rfl hi1 dX4_trim_17 ?_
          refine lv_lconst (v := 0) hx hb dX4_trim_18 (by decide) ?_
          refine W.lcmp hx hb dX4_trim_19 ?_
          refine lv_if_ne (tgt := 36) hx hb dX4_trim_20 (by decide) (fun hc2 => ?_) (fun hc2 => ?_)
          · have hf := ifF hc2 hf
            obtain rfl := opE hf
            exact hret H locs ls 36 dX4_trim_36 hP hD hS
          · have hf := ifT hc2 hf
            refine lv_aload_n hx hb dX4_trim_23 rfl (lv_at hl 0 rfl) ?_
            refine lv_dup hx hb dX4_trim_24 rfl ?_
            refine va_get (D := D) (ci := 5) (v := .int p0_size) (C := RX4) (T := TX4) (N := 2) hx hb hts uwX4 hown hK hP 0 rfl rfl 1 (by decide) (hts _ kfX4_15) (fun _ h9 => h9) rfl dX4_trim_25 ?_
            refine lv_iconst (v := 1) hx hb dX4_trim_28 (by decide) ?_
            refine lv_isub hx hb dX4_trim_29 ?_
            refine va_put (D := D) (ci := 5) (v := .int (p0_size - (1 : Int32))) (ty := tyX4 1) (C := RX4) (T := TX4) (N := 2) hx hb hts uwX4 tyX4 tyX4_ok nmX4 hown hK hP hD hS 0 rfl rfl 1 (by decide) (hts _ kfX4_15) (fun _ h9 => h9) rfl (tyX4_ok 1 (by decide)) rfl rfl (Nat.le_of_ble_eq_true rfl) dX4_trim_30 (fun H locs hP hD hS => ?_)
            have hP : va_P D vwCl [(a_p0, .inr (5, [.ref a_p0_limbs, .int (p0_size - (1 : Int32))])), (a_p0_limbs, .inl (cJ, 160, .inr (.inl p0_limbs)))] H := hP
            have hD : va_D A [(a_p0, .inr (5, [.ref a_p0_limbs, .int (p0_size - (1 : Int32))])), (a_p0_limbs, .inl (cJ, 160, .inr (.inl p0_limbs)))] := hD
            refine lv_goto (tgt := 0) hx hb dX4_trim_33 (by decide) ?_
            exact ih (p0_size - (1 : Int32)) H locs ls hf hP hD hS (lv_sub hl [0] rfl)
  unfold f_X4_trim at hf
  exact keyL0 FU p0_size H locs ls hf hP hD hS (lv_sub hl [0] rfl)
set_option maxRecDepth 100000 in
set_option maxHeartbeats 4000000 in
theorem c_X4_take (l : Launch) (D : va_G) (cI cJ : ClassId) (a_p0 a_p0_limbs : Nat) (p1 : Int64) (p0_size : Int32) (p0_limbs : (Nat → Int64)) (u : Int32 × (Nat → Int64)) (hf : f_X4_take p1 p0_size p0_limbs = some u) : CtV l yX4_take cX4_take 3 1 20 [.ref a_p0, .long p1] D cI cJ [(a_p0, .inr (5, [.ref a_p0_limbs, .int p0_size])), (a_p0_limbs, .inl (cJ, 160, .inr (.inl p0_limbs)))] [(a_p0, .inr (5, [.ref a_p0_limbs, .int u.1])), (a_p0_limbs, .inl (cJ, 160, .inr (.inl u.2)))] := by
  refine mkV (own := RX4) rfl (by decide +kernel) (Nat.le_of_ble_eq_true rfl) (lv := [(0, .ref a_p0), (1, .long p1)]) rfl ?_
  intro p e s m below meth c Q A ls ar S hA hK hN hret H locs hP hD hS hl
  obtain ⟨hx, hb, hml, hown, hts⟩ := id S
  unfold f_X4_take at hf
  refine lv_aload_n hx hb dX4_take_0 rfl (lv_at hl 0 rfl) ?_
  refine va_get (D := D) (ci := 5) (v := .ref a_p0_limbs) (C := RX4) (T := TX4) (N := 2) hx hb hts uwX4 hown hK hP 0 rfl rfl 0 (by decide) (hts _ kfX4_9) (fun _ h9 => h9) rfl dX4_take_1 ?_
  refine lv_iconst (v := 0) hx hb dX4_take_4 (by decide) ?_
  refine lv_lload_n hx hb dX4_take_5 rfl (lv_at hl 1 rfl) ?_
  refine lv_ldc2 hx hb hown (hts _ kcX4_13) dX4_take_6 ?_
  refine lv_land hx hb dX4_take_9 ?_
  refine va_last hx hb hK hP hD hS 1 1 rfl rfl (vin_lit rfl) dX4_take_10 (fun H locs hP hD hS => ?_)
  have hP : va_P D vwCl [(a_p0, .inr (5, [.ref a_p0_limbs, .int p0_size])), (a_p0_limbs, .inl (cJ, 160, .inr (.inl (vp_updL p0_limbs 0 (p1 &&& (4294967295 : Int64))))))] H := hP
  have hD : va_D A [(a_p0, .inr (5, [.ref a_p0_limbs, .int p0_size])), (a_p0_limbs, .inl (cJ, 160, .inr (.inl (vp_updL p0_limbs 0 (p1 &&& (4294967295 : Int64))))))] := hD
  refine lv_aload_n hx hb dX4_take_11 rfl (lv_at hl 0 rfl) ?_
  refine va_get (D := D) (ci := 5) (v := .ref a_p0_limbs) (C := RX4) (T := TX4) (N := 2) hx hb hts uwX4 hown hK hP 0 rfl rfl 0 (by decide) (hts _ kfX4_9) (fun _ h9 => h9) rfl dX4_take_12 ?_
  refine lv_iconst (v := 1) hx hb dX4_take_15 (by decide) ?_
  refine lv_lload_n hx hb dX4_take_16 rfl (lv_at hl 1 rfl) ?_
  refine lv_bipush (v := 32) hx hb dX4_take_17 (by decide) ?_
  refine lv_lushr (v := lus p1 (32 : Int32)) hx hb dX4_take_19 rfl ?_
  refine va_last hx hb hK hP hD hS 1 1 rfl rfl (vin_lit rfl) dX4_take_20 (fun H locs hP hD hS => ?_)
  have hP : va_P D vwCl [(a_p0, .inr (5, [.ref a_p0_limbs, .int p0_size])), (a_p0_limbs, .inl (cJ, 160, .inr (.inl (vp_updL (vp_updL p0_limbs 0 (p1 &&& (4294967295 : Int64))) 1 (lus p1 (32 : Int32))))))] H := hP
  have hD : va_D A [(a_p0, .inr (5, [.ref a_p0_limbs, .int p0_size])), (a_p0_limbs, .inl (cJ, 160, .inr (.inl (vp_updL (vp_updL p0_limbs 0 (p1 &&& (4294967295 : Int64))) 1 (lus p1 (32 : Int32))))))] := hD
  refine lv_aload_n hx hb dX4_take_21 rfl (lv_at hl 0 rfl) ?_
  refine lv_iconst (v := 2) hx hb dX4_take_22 (by decide) ?_
  refine va_put (D := D) (ci := 5) (v := .int (2 : Int32)) (ty := tyX4 1) (C := RX4) (T := TX4) (N := 2) hx hb hts uwX4 tyX4 tyX4_ok nmX4 hown hK hP hD hS 0 rfl rfl 1 (by decide) (hts _ kfX4_15) (fun _ h9 => h9) rfl (tyX4_ok 1 (by decide)) rfl rfl (Nat.le_of_ble_eq_true rfl) dX4_take_23 (fun H locs hP hD hS => ?_)
  have hP : va_P D vwCl [(a_p0, .inr (5, [.ref a_p0_limbs, .int (2 : Int32)])), (a_p0_limbs, .inl (cJ, 160, .inr (.inl (vp_updL (vp_updL p0_limbs 0 (p1 &&& (4294967295 : Int64))) 1 (lus p1 (32 : Int32))))))] H := hP
  have hD : va_D A [(a_p0, .inr (5, [.ref a_p0_limbs, .int (2 : Int32)])), (a_p0_limbs, .inl (cJ, 160, .inr (.inl (vp_updL (vp_updL p0_limbs 0 (p1 &&& (4294967295 : Int64))) 1 (lus p1 (32 : Int32))))))] := hD
  refine lv_aload_n hx hb dX4_take_26 rfl (lv_at hl 0 rfl) ?_
  obtain ⟨u1, hu2, hf⟩ := bdE hf
  refine cV_V (ws' := [(a_p0, .inr (5, [.ref a_p0_limbs, .int u1])), (a_p0_limbs, .inl (cJ, 160, .inr (.inl (vp_updL (vp_updL p0_limbs 0 (p1 &&& (4294967295 : Int64))) 1 (lus p1 (32 : Int32))))))]) (rest := []) S hK hN hA hP hD hS (c_X4_trim l D cI cJ a_p0 a_p0_limbs  (2 : Int32) (vp_updL (vp_updL p0_limbs 0 (p1 &&& (4294967295 : Int64))) 1 (lus p1 (32 : Int32))) u1 hu2) mwX4_trim miX4_trim kmX4_19 [0, 1] rfl (by decide) rfl rfl rfl 0 rfl rfl ⟨Nat.le_of_ble_eq_true rfl, Nat.le_of_ble_eq_true rfl⟩ ⟨Nat.zero_le _, Nat.zero_le _⟩ hl.1 rfl rfl (Nat.le_of_ble_eq_true rfl) dX4_take_27 (fun H locs hP hD hS => ?_)
  obtain rfl := opE hf
  exact hret H locs ls 30 dX4_take_30 hP hD hS
set_option maxRecDepth 100000 in
set_option maxHeartbeats 4000000 in
theorem c_X4_copy (l : Launch) (D : va_G) (cI cJ : ClassId) (a_p0 a_p0_limbs a_p1 a_p1_limbs : Nat) (p0_size : Int32) (p0_limbs : (Nat → Int64)) (p1_size : Int32) (p1_limbs : (Nat → Int64)) (u : Int32 × (Nat → Int64)) (hf : f_X4_copy p1_size p1_limbs p0_size p0_limbs = some u) : CtV l yX4_copy cX4_copy 3 0 0 [.ref a_p0, .ref a_p1] D cI cJ [(a_p0, .inr (5, [.ref a_p0_limbs, .int p0_size])), (a_p0_limbs, .inl (cJ, 160, .inr (.inl p0_limbs))), (a_p1, .inr (5, [.ref a_p1_limbs, .int p1_size])), (a_p1_limbs, .inl (cJ, 160, .inr (.inl p1_limbs)))] [(a_p0, .inr (5, [.ref a_p0_limbs, .int u.1])), (a_p0_limbs, .inl (cJ, 160, .inr (.inl u.2))), (a_p1, .inr (5, [.ref a_p1_limbs, .int p1_size])), (a_p1_limbs, .inl (cJ, 160, .inr (.inl p1_limbs)))] := by
  refine mkV (own := RX4) rfl (by decide +kernel) (Nat.le_of_ble_eq_true rfl) (lv := [(0, .ref a_p0), (1, .ref a_p1)]) rfl ?_
  intro p e s m below meth c Q A ls ar S hA hK hN hret H locs hP hD hS hl
  obtain ⟨hx, hb, hml, hown, hts⟩ := id S
  have keyL2 : ∀ (n : Nat) (v2 : Int32) (p0_size : Int32) (p0_limbs : (Nat → Int64)) (H : Heap) (locs : List Loc) (ls : Array Slot), f_X4_copy_L2 p1_size p1_limbs n v2 p0_size p0_limbs = some u → va_P D vwCl [(a_p0, .inr (5, [.ref a_p0_limbs, .int p0_size])), (a_p0_limbs, .inl (cJ, 160, .inr (.inl p0_limbs))), (a_p1, .inr (5, [.ref a_p1_limbs, .int p1_size])), (a_p1_limbs, .inl (cJ, 160, .inr (.inl p1_limbs)))] H → va_D A [(a_p0, .inr (5, [.ref a_p0_limbs, .int p0_size])), (a_p0_limbs, .inl (cJ, 160, .inr (.inl p0_limbs))), (a_p1, .inr (5, [.ref a_p1_limbs, .int p1_size])), (a_p1_limbs, .inl (cJ, 160, .inr (.inl p1_limbs)))] → va_S A s.heap H locs → lv_has ls 3 [(0, .ref a_p0), (1, .ref a_p1), (2, .int v2)] → W p l e (rmz 0 0) s m ar below meth c H locs 0 0 Q (F0 m 2 ls []) := by
    intro n
    induction n with
      | zero =>
        intro v2 p0_size p0_limbs H locs ls hf
        cases hf
      | succ n ih =>
        intro v2 p0_size p0_limbs H locs ls hf hP hD hS hl
        rw [f_X4_copy_L2] at hf
        refine lv_iload_n hx hb dX4_copy_2 rfl (lv_at hl 2 rfl) ?_
        refine lv_aload_n hx hb dX4_copy_3 rfl (lv_at hl 1 rfl) ?_
        refine va_get (D := D) (ci := 5) (v := .int p1_size) (C := RX4) (T := TX4) (N := 2) hx hb hts uwX4 hown hK hP 2 rfl rfl 1 (by decide) (hts _ kfX4_15) (fun _ h9 => h9) rfl dX4_copy_4 ?_
        refine lv_icmp_ge (tgt := 28) hx hb dX4_copy_7 (by decide) (fun hc2 => ?_) (fun hc2 => ?_)
        · have hf := ifT hc2 hf
          refine lv_aload_n hx hb dX4_copy_28 rfl (lv_at hl 0 rfl) ?_
          refine lv_aload_n hx hb dX4_copy_29 rfl (lv_at hl 1 rfl) ?_
          refine va_get (D := D) (ci := 5) (v := .int p1_size) (C := RX4) (T := TX4) (N := 2) hx hb hts uwX4 hown hK hP 2 rfl rfl 1 (by decide) (hts _ kfX4_15) (fun _ h9 => h9) rfl dX4_copy_30 ?_
          refine va_put (D := D) (ci := 5) (v := .int p1_size) (ty := tyX4 1) (C := RX4) (T := TX4) (N := 2) hx hb hts uwX4 tyX4 tyX4_ok nmX4 hown hK hP hD hS 0 rfl rfl 1 (by decide) (hts _ kfX4_15) (fun _ h9 => h9) rfl (tyX4_ok 1 (by decide)) rfl rfl (Nat.le_of_ble_eq_true rfl) dX4_copy_33 (fun H locs hP hD hS => ?_)
          have hP : va_P D vwCl [(a_p0, .inr (5, [.ref a_p0_limbs, .int p1_size])), (a_p0_limbs, .inl (cJ, 160, .inr (.inl p0_limbs))), (a_p1, .inr (5, [.ref a_p1_limbs, .int p1_size])), (a_p1_limbs, .inl (cJ, 160, .inr (.inl p1_limbs)))] H := hP
          have hD : va_D A [(a_p0, .inr (5, [.ref a_p0_limbs, .int p1_size])), (a_p0_limbs, .inl (cJ, 160, .inr (.inl p0_limbs))), (a_p1, .inr (5, [.ref a_p1_limbs, .int p1_size])), (a_p1_limbs, .inl (cJ, 160, .inr (.inl p1_limbs)))] := hD
          obtain rfl := opE hf
          exact hret H locs ls 36 dX4_copy_36 hP hD hS
        · have hf := ifF hc2 hf
          refine lv_aload_n hx hb dX4_copy_10 rfl (lv_at hl 0 rfl) ?_
          refine va_get (D := D) (ci := 5) (v := .ref a_p0_limbs) (C := RX4) (T := TX4) (N := 2) hx hb hts uwX4 hown hK hP 0 rfl rfl 0 (by decide) (hts _ kfX4_9) (fun _ h9 => h9) rfl dX4_copy_11 ?_
          refine lv_iload_n hx hb dX4_copy_14 rfl (lv_at hl 2 rfl) ?_
          refine lv_aload_n hx hb dX4_copy_15 rfl (lv_at hl 1 rfl) ?_
          refine va_get (D := D) (ci := 5) (v := .ref a_p1_limbs) (C := RX4) (T := TX4) (N := 2) hx hb hts uwX4 hown hK hP 2 rfl rfl 0 (by decide) (hts _ kfX4_9) (fun _ h9 => h9) rfl dX4_copy_16 ?_
          refine lv_iload_n hx hb dX4_copy_19 rfl (lv_at hl 2 rfl) ?_
          obtain ⟨hi1, hf⟩ := gdE hf
          refine va_lald hx hb hK hP 3 1 rfl rfl hi1 dX4_copy_20 ?_
          refine va_last hx hb hK hP hD hS 1 1 rfl rfl hi1 dX4_copy_21 (fun H locs hP hD hS => ?_)
          have hP : va_P D vwCl [(a_p0, .inr (5, [.ref a_p0_limbs, .int p0_size])), (a_p0_limbs, .inl (cJ, 160, .inr (.inl (vp_updL p0_limbs v2.toNatClampNeg (p1_limbs v2.toNatClampNeg))))), (a_p1, .inr (5, [.ref a_p1_limbs, .int p1_size])), (a_p1_limbs, .inl (cJ, 160, .inr (.inl p1_limbs)))] H := hP
          have hD : va_D A [(a_p0, .inr (5, [.ref a_p0_limbs, .int p0_size])), (a_p0_limbs, .inl (cJ, 160, .inr (.inl (vp_updL p0_limbs v2.toNatClampNeg (p1_limbs v2.toNatClampNeg))))), (a_p1, .inr (5, [.ref a_p1_limbs, .int p1_size])), (a_p1_limbs, .inl (cJ, 160, .inr (.inl p1_limbs)))] := hD
          refine lv_iinc (v := v2 + (1 : Int32)) (lv' := [(2, .int (v2 + (1 : Int32))), (0, .ref a_p0), (1, .ref a_p1)]) hx hb dX4_copy_22 hl (k := 2) rfl (by rfl) (by decide) rfl (fun ls hl => ?_)
          refine lv_goto (tgt := 2) hx hb dX4_copy_25 (by decide) ?_
          exact ih (v2 + (1 : Int32)) p0_size (vp_updL p0_limbs v2.toNatClampNeg (p1_limbs v2.toNatClampNeg)) H locs ls hf hP hD hS (lv_sub hl [1, 2, 0] rfl)
  unfold f_X4_copy at hf
  refine lv_iconst (v := 0) hx hb dX4_copy_0 (by decide) ?_
  refine lv_istore_n (lv' := [(2, .int (0 : Int32)), (0, .ref a_p0), (1, .ref a_p1)]) hx hb dX4_copy_1 rfl hl (by decide) rfl (fun ls hl => ?_)
  exact keyL2 FU (0 : Int32) p0_size p0_limbs H locs ls hf hP hD hS (lv_sub hl [1, 2, 0] rfl)
set_option maxRecDepth 100000 in
set_option maxHeartbeats 4000000 in
theorem c_X4_isNought (l : Launch) (D : va_G) (cI cJ : ClassId) (a_p0 a_p0_limbs : Nat) (p0_size : Int32) (u : Int32) (hf : f_X4_isNought p0_size = some u) : CtI l yX4_isNought cX4_isNought 1 0 0 .boolean [.ref a_p0] D cI cJ [(a_p0, .inr (5, [.ref a_p0_limbs, .int p0_size]))] [(a_p0, .inr (5, [.ref a_p0_limbs, .int p0_size]))] u := by
  refine mkZ (own := RX4) rfl (by decide +kernel) (Nat.le_of_ble_eq_true rfl) (lv := [(0, .ref a_p0)]) rfl ?_
  intro p e s m below meth c Q A ls ar S hA hK hN hret H locs hP hD hS hl
  obtain ⟨hx, hb, hml, hown, hts⟩ := id S
  unfold f_X4_isNought at hf
  refine lv_aload_n hx hb dX4_isNought_0 rfl (lv_at hl 0 rfl) ?_
  refine va_get (D := D) (ci := 5) (v := .int p0_size) (C := RX4) (T := TX4) (N := 2) hx hb hts uwX4 hown hK hP 0 rfl rfl 1 (by decide) (hts _ kfX4_15) (fun _ h9 => h9) rfl dX4_isNought_1 ?_
  refine lv_if_ne (tgt := 11) hx hb dX4_isNought_4 (by decide) (fun hc1 => ?_) (fun hc1 => ?_)
  · have hf := ifF hc1 hf
    refine lv_iconst (v := 0) hx hb dX4_isNought_11 (by decide) ?_
    obtain rfl := opE hf
    exact hret H locs ls 12 dX4_isNought_12 (Or.inl rfl) hP hD hS
  · have hf := ifT hc1 hf
    refine lv_iconst (v := 1) hx hb dX4_isNought_7 (by decide) ?_
    refine lv_goto (tgt := 12) hx hb dX4_isNought_8 (by decide) ?_
    obtain rfl := opE hf
    exact hret H locs ls 12 dX4_isNought_12 (Or.inr rfl) hP hD hS
set_option maxRecDepth 100000 in
set_option maxHeartbeats 4000000 in
theorem c_X4_scale (l : Launch) (D : va_G) (cI cJ : ClassId) (a_p0 a_p0_limbs : Nat) (p1 : Int64) (p2 : Int64) (p0_size : Int32) (p0_limbs : (Nat → Int64)) (u : Int32 × (Nat → Int64)) (hf : f_X4_scale p1 p2 p0_size p0_limbs = some u) : CtV l yX4_scale cX4_scale 8 0 0 [.ref a_p0, .long p1, .long p2] D cI cJ [(a_p0, .inr (5, [.ref a_p0_limbs, .int p0_size])), (a_p0_limbs, .inl (cJ, 160, .inr (.inl p0_limbs)))] [(a_p0, .inr (5, [.ref a_p0_limbs, .int u.1])), (a_p0_limbs, .inl (cJ, 160, .inr (.inl u.2)))] := by
  refine mkV (own := RX4) rfl (by decide +kernel) (Nat.le_of_ble_eq_true rfl) (lv := [(0, .ref a_p0), (1, .long p1), (3, .long p2)]) rfl ?_
  intro p e s m below meth c Q A ls ar S hA hK hN hret H locs hP hD hS hl
  obtain ⟨hx, hb, hml, hown, hts⟩ := id S
  have keyB66 : ∀ (v5 : Int64) (p0_size : Int32) (p0_limbs : (Nat → Int64)) (H : Heap) (locs : List Loc) (ls : Array Slot), f_X4_scale_B66 v5 p0_size p0_limbs = some u → va_P D vwCl [(a_p0, .inr (5, [.ref a_p0_limbs, .int p0_size])), (a_p0_limbs, .inl (cJ, 160, .inr (.inl p0_limbs)))] H → va_D A [(a_p0, .inr (5, [.ref a_p0_limbs, .int p0_size])), (a_p0_limbs, .inl (cJ, 160, .inr (.inl p0_limbs)))] → va_S A s.heap H locs → lv_has ls 8 [(0, .ref a_p0), (5, .long v5)] → W p l e (rmz 0 0) s m ar below meth c H locs 0 0 Q (F0 m 66 ls []) := by
    intro v5 p0_size p0_limbs H locs ls hf hP hD hS hl
    unfold f_X4_scale_B66 at hf
    refine lv_lload hx hb dX4_scale_66 (lv_at hl 1 rfl) ?_
    refine lv_lconst (v := 0) hx hb dX4_scale_68 (by decide) ?_
    refine W.lcmp hx hb dX4_scale_69 ?_
    refine lv_if_eq (tgt := 104) hx hb dX4_scale_70 (by decide) (fun hc3 => ?_) (fun hc3 => ?_)
    · have hf := ifT hc3 hf
      obtain rfl := opE hf
      exact hret H locs ls 104 dX4_scale_104 hP hD hS
    · have hf := ifF hc3 hf
      refine lv_aload_n hx hb dX4_scale_73 rfl (lv_at hl 0 rfl) ?_
      refine va_get (D := D) (ci := 5) (v := .int p0_size) (C := RX4) (T := TX4) (N := 2) hx hb hts uwX4 hown hK hP 0 rfl rfl 1 (by decide) (hts _ kfX4_15) (fun _ h9 => h9) rfl dX4_scale_74 ?_
      refine lv_sipush (v := 160) hx hb dX4_scale_77 (by decide) ?_
      refine lv_icmp_ge (tgt := 104) hx hb dX4_scale_80 (by decide) (fun hc2 => ?_) (fun hc2 => ?_)
      · have hf := ifT hc2 hf
        obtain rfl := opE hf
        exact hret H locs ls 104 dX4_scale_104 hP hD hS
      · have hf := ifF hc2 hf
        refine lv_aload_n hx hb dX4_scale_83 rfl (lv_at hl 0 rfl) ?_
        refine va_get (D := D) (ci := 5) (v := .ref a_p0_limbs) (C := RX4) (T := TX4) (N := 2) hx hb hts uwX4 hown hK hP 0 rfl rfl 0 (by decide) (hts _ kfX4_9) (fun _ h9 => h9) rfl dX4_scale_84 ?_
        refine lv_aload_n hx hb dX4_scale_87 rfl (lv_at hl 0 rfl) ?_
        refine va_get (D := D) (ci := 5) (v := .int p0_size) (C := RX4) (T := TX4) (N := 2) hx hb hts uwX4 hown hK hP 0 rfl rfl 1 (by decide) (hts _ kfX4_15) (fun _ h9 => h9) rfl dX4_scale_88 ?_
        refine lv_lload hx hb dX4_scale_91 (lv_at hl 1 rfl) ?_
        obtain ⟨hi1, hf⟩ := gdE hf
        refine va_last hx hb hK hP hD hS 1 1 rfl rfl hi1 dX4_scale_93 (fun H locs hP hD hS => ?_)
        have hP : va_P D vwCl [(a_p0, .inr (5, [.ref a_p0_limbs, .int p0_size])), (a_p0_limbs, .inl (cJ, 160, .inr (.inl (vp_updL p0_limbs p0_size.toNatClampNeg v5))))] H := hP
        have hD : va_D A [(a_p0, .inr (5, [.ref a_p0_limbs, .int p0_size])), (a_p0_limbs, .inl (cJ, 160, .inr (.inl (vp_updL p0_limbs p0_size.toNatClampNeg v5))))] := hD
        refine lv_aload_n hx hb dX4_scale_94 rfl (lv_at hl 0 rfl) ?_
        refine lv_dup hx hb dX4_scale_95 rfl ?_
        refine va_get (D := D) (ci := 5) (v := .int p0_size) (C := RX4) (T := TX4) (N := 2) hx hb hts uwX4 hown hK hP 0 rfl rfl 1 (by decide) (hts _ kfX4_15) (fun _ h9 => h9) rfl dX4_scale_96 ?_
        refine lv_iconst (v := 1) hx hb dX4_scale_99 (by decide) ?_
        refine lv_iadd hx hb dX4_scale_100 ?_
        refine va_put (D := D) (ci := 5) (v := .int (p0_size + (1 : Int32))) (ty := tyX4 1) (C := RX4) (T := TX4) (N := 2) hx hb hts uwX4 tyX4 tyX4_ok nmX4 hown hK hP hD hS 0 rfl rfl 1 (by decide) (hts _ kfX4_15) (fun _ h9 => h9) rfl (tyX4_ok 1 (by decide)) rfl rfl (Nat.le_of_ble_eq_true rfl) dX4_scale_101 (fun H locs hP hD hS => ?_)
        have hP : va_P D vwCl [(a_p0, .inr (5, [.ref a_p0_limbs, .int (p0_size + (1 : Int32))])), (a_p0_limbs, .inl (cJ, 160, .inr (.inl (vp_updL p0_limbs p0_size.toNatClampNeg v5))))] H := hP
        have hD : va_D A [(a_p0, .inr (5, [.ref a_p0_limbs, .int (p0_size + (1 : Int32))])), (a_p0_limbs, .inl (cJ, 160, .inr (.inl (vp_updL p0_limbs p0_size.toNatClampNeg v5))))] := hD
        obtain rfl := opE hf
        exact hret H locs ls 104 dX4_scale_104 hP hD hS
  have keyL17 : ∀ (n : Nat) (v1 : Int64) (v5 : Int64) (v7 : Int32) (p0_size : Int32) (p0_limbs : (Nat → Int64)) (H : Heap) (locs : List Loc) (ls : Array Slot), f_X4_scale_L17 n v1 v5 v7 p0_size p0_limbs = some u → va_P D vwCl [(a_p0, .inr (5, [.ref a_p0_limbs, .int p0_size])), (a_p0_limbs, .inl (cJ, 160, .inr (.inl p0_limbs)))] H → va_D A [(a_p0, .inr (5, [.ref a_p0_limbs, .int p0_size])), (a_p0_limbs, .inl (cJ, 160, .inr (.inl p0_limbs)))] → va_S A s.heap H locs → lv_has ls 8 [(0, .ref a_p0), (1, .long v1), (5, .long v5), (7, .int v7)] → W p l e (rmz 0 0) s m ar below meth c H locs 0 0 Q (F0 m 17 ls []) := by
    intro n
    induction n with
      | zero =>
        intro v1 v5 v7 p0_size p0_limbs H locs ls hf
        cases hf
      | succ n ih =>
        intro v1 v5 v7 p0_size p0_limbs H locs ls hf hP hD hS hl
        rw [f_X4_scale_L17] at hf
        refine lv_iload hx hb dX4_scale_17 (lv_at hl 3 rfl) ?_
        refine lv_aload_n hx hb dX4_scale_19 rfl (lv_at hl 0 rfl) ?_
        refine va_get (D := D) (ci := 5) (v := .int p0_size) (C := RX4) (T := TX4) (N := 2) hx hb hts uwX4 hown hK hP 0 rfl rfl 1 (by decide) (hts _ kfX4_15) (fun _ h9 => h9) rfl dX4_scale_20 ?_
        refine lv_icmp_ge (tgt := 66) hx hb dX4_scale_23 (by decide) (fun hc5 => ?_) (fun hc5 => ?_)
        · have hf := ifT hc5 hf
          exact keyB66 v5 p0_size p0_limbs H locs ls hf hP hD hS (lv_sub hl [0, 2] rfl)
        · have hf := ifF hc5 hf
          refine lv_lload hx hb dX4_scale_26 (lv_at hl 2 rfl) ?_
          refine lv_aload_n hx hb dX4_scale_28 rfl (lv_at hl 0 rfl) ?_
          refine va_get (D := D) (ci := 5) (v := .ref a_p0_limbs) (C := RX4) (T := TX4) (N := 2) hx hb hts uwX4 hown hK hP 0 rfl rfl 0 (by decide) (hts _ kfX4_9) (fun _ h9 => h9) rfl dX4_scale_29 ?_
          refine lv_iload hx hb dX4_scale_32 (lv_at hl 3 rfl) ?_
          obtain ⟨hi4, hf⟩ := gdE hf
          refine va_lald hx hb hK hP 1 1 rfl rfl hi4 dX4_scale_34 ?_
          refine lv_lload_n hx hb dX4_scale_35 rfl (lv_at hl 1 rfl) ?_
          refine lv_lmul hx hb dX4_scale_36 ?_
          refine lv_ladd hx hb dX4_scale_37 ?_
          refine lv_lstore (lv' := [(5, .long (v5 + ((p0_limbs v7.toNatClampNeg) * v1))), (0, .ref a_p0), (1, .long v1), (7, .int v7)]) hx hb dX4_scale_38 hl (by decide) rfl (fun ls hl => ?_)
          refine lv_aload_n hx hb dX4_scale_40 rfl (lv_at hl 1 rfl) ?_
          refine va_get (D := D) (ci := 5) (v := .ref a_p0_limbs) (C := RX4) (T := TX4) (N := 2) hx hb hts uwX4 hown hK hP 0 rfl rfl 0 (by decide) (hts _ kfX4_9) (fun _ h9 => h9) rfl dX4_scale_41 ?_
          refine lv_iload hx hb dX4_scale_44 (lv_at hl 3 rfl) ?_
          refine lv_lload hx hb dX4_scale_46 (lv_at hl 0 rfl) ?_
          refine lv_ldc2 hx hb hown (hts _ kcX4_13) dX4_scale_48 ?_
          refine lv_land hx hb dX4_scale_51 ?_
          refine va_last hx hb hK hP hD hS 1 1 rfl rfl hi4 dX4_scale_52 (fun H locs hP hD hS => ?_)
          have hP : va_P D vwCl [(a_p0, .inr (5, [.ref a_p0_limbs, .int p0_size])), (a_p0_limbs, .inl (cJ, 160, .inr (.inl (vp_updL p0_limbs v7.toNatClampNeg ((v5 + ((p0_limbs v7.toNatClampNeg) * v1)) &&& (4294967295 : Int64))))))] H := hP
          have hD : va_D A [(a_p0, .inr (5, [.ref a_p0_limbs, .int p0_size])), (a_p0_limbs, .inl (cJ, 160, .inr (.inl (vp_updL p0_limbs v7.toNatClampNeg ((v5 + ((p0_limbs v7.toNatClampNeg) * v1)) &&& (4294967295 : Int64))))))] := hD
          refine lv_lload hx hb dX4_scale_53 (lv_at hl 0 rfl) ?_
          refine lv_bipush (v := 32) hx hb dX4_scale_55 (by decide) ?_
          refine lv_lushr (v := lus (v5 + ((p0_limbs v7.toNatClampNeg) * v1)) (32 : Int32)) hx hb dX4_scale_57 rfl ?_
          refine lv_lstore (lv' := [(5, .long (lus (v5 + ((p0_limbs v7.toNatClampNeg) * v1)) (32 : Int32))), (0, .ref a_p0), (1, .long v1), (7, .int v7)]) hx hb dX4_scale_58 hl (by decide) rfl (fun ls hl => ?_)
          refine lv_iinc (v := v7 + (1 : Int32)) (lv' := [(7, .int (v7 + (1 : Int32))), (5, .long (lus (v5 + ((p0_limbs v7.toNatClampNeg) * v1)) (32 : Int32))), (0, .ref a_p0), (1, .long v1)]) hx hb dX4_scale_60 hl (k := 3) rfl (by rfl) (by decide) rfl (fun ls hl => ?_)
          refine lv_goto (tgt := 17) hx hb dX4_scale_63 (by decide) ?_
          exact ih v1 (lus (v5 + ((p0_limbs v7.toNatClampNeg) * v1)) (32 : Int32)) (v7 + (1 : Int32)) p0_size (vp_updL p0_limbs v7.toNatClampNeg ((v5 + ((p0_limbs v7.toNatClampNeg) * v1)) &&& (4294967295 : Int64))) H locs ls hf hP hD hS (lv_sub hl [2, 3, 1, 0] rfl)
  unfold f_X4_scale at hf
  refine lv_lload_n hx hb dX4_scale_0 rfl (lv_at hl 2 rfl) ?_
  refine lv_lstore (lv' := [(5, .long p2), (0, .ref a_p0), (1, .long p1), (3, .long p2)]) hx hb dX4_scale_1 hl (by decide) rfl (fun ls hl => ?_)
  refine lv_lload_n hx hb dX4_scale_3 rfl (lv_at hl 2 rfl) ?_
  refine lv_lconst (v := 0) hx hb dX4_scale_4 (by decide) ?_
  refine W.lcmp hx hb dX4_scale_5 ?_
  refine lv_if_ne (tgt := 14) hx hb dX4_scale_6 (by decide) (fun hc6 => ?_) (fun hc6 => ?_)
  · have hf := ifF hc6 hf
    refine lv_iconst (v := 0) hx hb dX4_scale_14 (by decide) ?_
    refine lv_istore (lv' := [(7, .int (0 : Int32)), (5, .long p2), (0, .ref a_p0), (1, .long p1), (3, .long p2)]) hx hb dX4_scale_15 hl (by decide) rfl (fun ls hl => ?_)
    exact keyL17 FU p1 p2 (0 : Int32) p0_size p0_limbs H locs ls hf hP hD hS (lv_sub hl [2, 3, 1, 0] rfl)
  · have hf := ifT hc6 hf
    refine lv_aload_n hx hb dX4_scale_9 rfl (lv_at hl 1 rfl) ?_
    refine lv_iconst (v := 0) hx hb dX4_scale_10 (by decide) ?_
    refine va_put (D := D) (ci := 5) (v := .int (0 : Int32)) (ty := tyX4 1) (C := RX4) (T := TX4) (N := 2) hx hb hts uwX4 tyX4 tyX4_ok nmX4 hown hK hP hD hS 0 rfl rfl 1 (by decide) (hts _ kfX4_15) (fun _ h9 => h9) rfl (tyX4_ok 1 (by decide)) rfl rfl (Nat.le_of_ble_eq_true rfl) dX4_scale_11 (fun H locs hP hD hS => ?_)
    have hP : va_P D vwCl [(a_p0, .inr (5, [.ref a_p0_limbs, .int (0 : Int32)])), (a_p0_limbs, .inl (cJ, 160, .inr (.inl p0_limbs)))] H := hP
    have hD : va_D A [(a_p0, .inr (5, [.ref a_p0_limbs, .int (0 : Int32)])), (a_p0_limbs, .inl (cJ, 160, .inr (.inl p0_limbs)))] := hD
    refine lv_iconst (v := 0) hx hb dX4_scale_14 (by decide) ?_
    refine lv_istore (lv' := [(7, .int (0 : Int32)), (5, .long p2), (0, .ref a_p0), (1, .long p1), (3, .long p2)]) hx hb dX4_scale_15 hl (by decide) rfl (fun ls hl => ?_)
    exact keyL17 FU p1 p2 (0 : Int32) (0 : Int32) p0_limbs H locs ls hf hP hD hS (lv_sub hl [2, 3, 1, 0] rfl)
set_option maxRecDepth 100000 in
set_option maxHeartbeats 4000000 in
theorem c_X4_scaleByFives (l : Launch) (D : va_G) (cI cJ : ClassId) (a_p0 a_p0_limbs : Nat) (p1 : Int32) (p0_size : Int32) (p0_limbs : (Nat → Int64)) (u : Int32 × (Nat → Int64)) (hf : f_X4_scaleByFives p1 p0_size p0_limbs = some u) : CtV l yX4_scaleByFives cX4_scaleByFives 5 1 27 [.ref a_p0, .int p1] D cI cJ [(a_p0, .inr (5, [.ref a_p0_limbs, .int p0_size])), (a_p0_limbs, .inl (cJ, 160, .inr (.inl p0_limbs)))] [(a_p0, .inr (5, [.ref a_p0_limbs, .int u.1])), (a_p0_limbs, .inl (cJ, 160, .inr (.inl u.2)))] := by
  refine mkV (own := RX4) rfl (by decide +kernel) (Nat.le_of_ble_eq_true rfl) (lv := [(0, .ref a_p0), (1, .int p1)]) rfl ?_
  intro p e s m below meth c Q A ls ar S hA hK hN hret H locs hP hD hS hl
  obtain ⟨hx, hb, hml, hown, hts⟩ := id S
  have keyB40 : ∀ (v3 : Int64) (p0_size : Int32) (p0_limbs : (Nat → Int64)) (H : Heap) (locs : List Loc) (ls : Array Slot), f_X4_scaleByFives_B40 v3 p0_size p0_limbs = some u → va_P D vwCl [(a_p0, .inr (5, [.ref a_p0_limbs, .int p0_size])), (a_p0_limbs, .inl (cJ, 160, .inr (.inl p0_limbs)))] H → va_D A [(a_p0, .inr (5, [.ref a_p0_limbs, .int p0_size])), (a_p0_limbs, .inl (cJ, 160, .inr (.inl p0_limbs)))] → va_S A s.heap H locs → lv_has ls 5 [(0, .ref a_p0), (3, .long v3)] → W p l e (rmz 1 27) s m ar below meth c H locs 0 0 Q (F0 m 40 ls []) := by
    intro v3 p0_size p0_limbs H locs ls hf hP hD hS hl
    unfold f_X4_scaleByFives_B40 at hf
    refine lv_aload_n hx hb dX4_scaleByFives_40 rfl (lv_at hl 0 rfl) ?_
    refine lv_lload_n hx hb dX4_scaleByFives_41 rfl (lv_at hl 1 rfl) ?_
    refine lv_lconst (v := 0) hx hb dX4_scaleByFives_42 (by decide) ?_
    obtain ⟨u1, hu2, hf⟩ := bdE hf
    refine cV_V (ws' := [(a_p0, .inr (5, [.ref a_p0_limbs, .int u1.1])), (a_p0_limbs, .inl (cJ, 160, .inr (.inl u1.2)))]) (rest := []) S hK hN hA hP hD hS (c_X4_scale l D cI cJ a_p0 a_p0_limbs v3 (0 : Int64) p0_size p0_limbs u1 hu2) mwX4_scale miX4_scale kmX4_24 [0, 1] rfl (by decide) rfl rfl rfl 0 rfl rfl ⟨Nat.le_of_ble_eq_true rfl, Nat.le_of_ble_eq_true rfl⟩ ⟨Nat.zero_le _, Nat.zero_le _⟩ hl.1 rfl rfl (Nat.le_of_ble_eq_true rfl) dX4_scaleByFives_43 (fun H locs hP hD hS => ?_)
    obtain rfl := opE hf
    exact hret H locs ls 46 dX4_scaleByFives_46 hP hD hS
  have keyL24 : ∀ (n : Nat) (v2 : Int32) (v3 : Int64) (p0_size : Int32) (p0_limbs : (Nat → Int64)) (H : Heap) (locs : List Loc) (ls : Array Slot), f_X4_scaleByFives_L24 n v2 v3 p0_size p0_limbs = some u → va_P D vwCl [(a_p0, .inr (5, [.ref a_p0_limbs, .int p0_size])), (a_p0_limbs, .inl (cJ, 160, .inr (.inl p0_limbs)))] H → va_D A [(a_p0, .inr (5, [.ref a_p0_limbs, .int p0_size])), (a_p0_limbs, .inl (cJ, 160, .inr (.inl p0_limbs)))] → va_S A s.heap H locs → lv_has ls 5 [(0, .ref a_p0), (2, .int v2), (3, .long v3)] → W p l e (rmz 1 27) s m ar below meth c H locs 0 0 Q (F0 m 24 ls []) := by
    intro n
    induction n with
      | zero =>
        intro v2 v3 p0_size p0_limbs H locs ls hf
        cases hf
      | succ n ih =>
        intro v2 v3 p0_size p0_limbs H locs ls hf hP hD hS hl
        rw [f_X4_scaleByFives_L24] at hf
        refine lv_iload_n hx hb dX4_scaleByFives_24 rfl (lv_at hl 1 rfl) ?_
        refine lv_if_le (tgt := 40) hx hb dX4_scaleByFives_25 (by decide) (fun hc3 => ?_) (fun hc3 => ?_)
        · have hf := ifT hc3 hf
          exact keyB40 v3 p0_size p0_limbs H locs ls hf hP hD hS (lv_sub hl [0, 2] rfl)
        · have hf := ifF hc3 hf
          refine lv_lload_n hx hb dX4_scaleByFives_28 rfl (lv_at hl 2 rfl) ?_
          refine lv_ldc2 hx hb hown (hts _ kcX4_28) dX4_scaleByFives_29 ?_
          refine lv_lmul hx hb dX4_scaleByFives_32 ?_
          refine lv_lstore_n (lv' := [(3, .long (v3 * (5 : Int64))), (0, .ref a_p0), (2, .int v2)]) hx hb dX4_scaleByFives_33 rfl hl (by decide) rfl (fun ls hl => ?_)
          refine lv_iinc (v := v2 + (-1 : Int32)) (lv' := [(2, .int (v2 + (-1 : Int32))), (3, .long (v3 * (5 : Int64))), (0, .ref a_p0)]) hx hb dX4_scaleByFives_34 hl (k := 2) rfl (by rfl) (by decide) rfl (fun ls hl => ?_)
          refine lv_goto (tgt := 24) hx hb dX4_scaleByFives_37 (by decide) ?_
          exact ih (v2 + (-1 : Int32)) (v3 * (5 : Int64)) p0_size p0_limbs H locs ls hf hP hD hS (lv_sub hl [2, 0, 1] rfl)
  have keyL2 : ∀ (n : Nat) (v2 : Int32) (p0_size : Int32) (p0_limbs : (Nat → Int64)) (H : Heap) (locs : List Loc) (ls : Array Slot), f_X4_scaleByFives_L2 n v2 p0_size p0_limbs = some u → va_P D vwCl [(a_p0, .inr (5, [.ref a_p0_limbs, .int p0_size])), (a_p0_limbs, .inl (cJ, 160, .inr (.inl p0_limbs)))] H → va_D A [(a_p0, .inr (5, [.ref a_p0_limbs, .int p0_size])), (a_p0_limbs, .inl (cJ, 160, .inr (.inl p0_limbs)))] → va_S A s.heap H locs → lv_has ls 5 [(0, .ref a_p0), (2, .int v2)] → W p l e (rmz 1 27) s m ar below meth c H locs 0 0 Q (F0 m 2 ls []) := by
    intro n
    induction n with
      | zero =>
        intro v2 p0_size p0_limbs H locs ls hf
        cases hf
      | succ n ih =>
        intro v2 p0_size p0_limbs H locs ls hf hP hD hS hl
        rw [f_X4_scaleByFives_L2] at hf
        refine lv_iload_n hx hb dX4_scaleByFives_2 rfl (lv_at hl 1 rfl) ?_
        refine lv_bipush (v := 13) hx hb dX4_scaleByFives_3 (by decide) ?_
        refine lv_icmp_lt (tgt := 22) hx hb dX4_scaleByFives_5 (by decide) (fun hc6 => ?_) (fun hc6 => ?_)
        · have hf := ifT hc6 hf
          refine lv_lconst (v := 1) hx hb dX4_scaleByFives_22 (by decide) ?_
          refine lv_lstore_n (lv' := [(3, .long (1 : Int64)), (0, .ref a_p0), (2, .int v2)]) hx hb dX4_scaleByFives_23 rfl hl (by decide) rfl (fun ls hl => ?_)
          exact keyL24 FU v2 (1 : Int64) p0_size p0_limbs H locs ls hf hP hD hS (lv_sub hl [1, 2, 0] rfl)
        · have hf := ifF hc6 hf
          refine lv_aload_n hx hb dX4_scaleByFives_8 rfl (lv_at hl 0 rfl) ?_
          refine lv_ldc2 hx hb hown (hts _ kcX4_22) dX4_scaleByFives_9 ?_
          refine lv_lconst (v := 0) hx hb dX4_scaleByFives_12 (by decide) ?_
          obtain ⟨u4, hu5, hf⟩ := bdE hf
          refine cV_V (ws' := [(a_p0, .inr (5, [.ref a_p0_limbs, .int u4.1])), (a_p0_limbs, .inl (cJ, 160, .inr (.inl u4.2)))]) (rest := []) S hK hN hA hP hD hS (c_X4_scale l D cI cJ a_p0 a_p0_limbs (1220703125 : Int64) (0 : Int64) p0_size p0_limbs u4 hu5) mwX4_scale miX4_scale kmX4_24 [0, 1] rfl (by decide) rfl rfl rfl 0 rfl rfl ⟨Nat.le_of_ble_eq_true rfl, Nat.le_of_ble_eq_true rfl⟩ ⟨Nat.zero_le _, Nat.zero_le _⟩ hl.1 rfl rfl (Nat.le_of_ble_eq_true rfl) dX4_scaleByFives_13 (fun H locs hP hD hS => ?_)
          refine lv_iinc (v := v2 + (-13 : Int32)) (lv' := [(2, .int (v2 + (-13 : Int32))), (0, .ref a_p0)]) hx hb dX4_scaleByFives_16 hl (k := 1) rfl (by rfl) (by decide) rfl (fun ls hl => ?_)
          refine lv_goto (tgt := 2) hx hb dX4_scaleByFives_19 (by decide) ?_
          exact ih (v2 + (-13 : Int32)) u4.1 u4.2 H locs ls hf hP hD hS (lv_sub hl [1, 0] rfl)
  unfold f_X4_scaleByFives at hf
  refine lv_iload_n hx hb dX4_scaleByFives_0 rfl (lv_at hl 1 rfl) ?_
  refine lv_istore_n (lv' := [(2, .int p1), (0, .ref a_p0), (1, .int p1)]) hx hb dX4_scaleByFives_1 rfl hl (by decide) rfl (fun ls hl => ?_)
  exact keyL2 FU p1 p0_size p0_limbs H locs ls hf hP hD hS (lv_sub hl [1, 0] rfl)
set_option maxRecDepth 100000 in
set_option maxHeartbeats 4000000 in
theorem c_X4_limb (l : Launch) (D : va_G) (cI cJ : ClassId) (a_p0 a_p0_limbs : Nat) (p1 : Int32) (p0_size : Int32) (p0_limbs : (Nat → Int64)) (u : Int64) (hf : f_X4_limb p0_size p0_limbs p1 = some u) : CtL l yX4_limb cX4_limb 2 0 0 [.ref a_p0, .int p1] D cI cJ [(a_p0, .inr (5, [.ref a_p0_limbs, .int p0_size])), (a_p0_limbs, .inl (cJ, 160, .inr (.inl p0_limbs)))] [(a_p0, .inr (5, [.ref a_p0_limbs, .int p0_size])), (a_p0_limbs, .inl (cJ, 160, .inr (.inl p0_limbs)))] u := by
  refine mkL (own := RX4) rfl (by decide +kernel) (Nat.le_of_ble_eq_true rfl) (lv := [(0, .ref a_p0), (1, .int p1)]) rfl ?_
  intro p e s m below meth c Q A ls ar S hA hK hN hret H locs hP hD hS hl
  obtain ⟨hx, hb, hml, hown, hts⟩ := id S
  unfold f_X4_limb at hf
  refine lv_iload_n hx hb dX4_limb_0 rfl (lv_at hl 1 rfl) ?_
  refine lv_if_lt (tgt := 21) hx hb dX4_limb_1 (by decide) (fun hc3 => ?_) (fun hc3 => ?_)
  · have hf := ifT hc3 hf
    refine lv_lconst (v := 0) hx hb dX4_limb_21 (by decide) ?_
    obtain rfl := opE hf
    exact hret H locs ls 22 dX4_limb_22 hP hD hS
  · have hf := ifF hc3 hf
    refine lv_iload_n hx hb dX4_limb_4 rfl (lv_at hl 1 rfl) ?_
    refine lv_aload_n hx hb dX4_limb_5 rfl (lv_at hl 0 rfl) ?_
    refine va_get (D := D) (ci := 5) (v := .int p0_size) (C := RX4) (T := TX4) (N := 2) hx hb hts uwX4 hown hK hP 0 rfl rfl 1 (by decide) (hts _ kfX4_15) (fun _ h9 => h9) rfl dX4_limb_6 ?_
    refine lv_icmp_ge (tgt := 21) hx hb dX4_limb_9 (by decide) (fun hc2 => ?_) (fun hc2 => ?_)
    · have hf := ifT hc2 hf
      refine lv_lconst (v := 0) hx hb dX4_limb_21 (by decide) ?_
      obtain rfl := opE hf
      exact hret H locs ls 22 dX4_limb_22 hP hD hS
    · have hf := ifF hc2 hf
      refine lv_aload_n hx hb dX4_limb_12 rfl (lv_at hl 0 rfl) ?_
      refine va_get (D := D) (ci := 5) (v := .ref a_p0_limbs) (C := RX4) (T := TX4) (N := 2) hx hb hts uwX4 hown hK hP 0 rfl rfl 0 (by decide) (hts _ kfX4_9) (fun _ h9 => h9) rfl dX4_limb_13 ?_
      refine lv_iload_n hx hb dX4_limb_16 rfl (lv_at hl 1 rfl) ?_
      obtain ⟨hi1, hf⟩ := gdE hf
      refine va_lald hx hb hK hP 1 1 rfl rfl hi1 dX4_limb_17 ?_
      refine lv_goto (tgt := 22) hx hb dX4_limb_18 (by decide) ?_
      obtain rfl := opE hf
      exact hret H locs ls 22 dX4_limb_22 hP hD hS
set_option maxRecDepth 100000 in
set_option maxHeartbeats 4000000 in
theorem c_X4_shiftUp (l : Launch) (D : va_G) (cI cJ : ClassId) (a_p0 a_p0_limbs : Nat) (p1 : Int32) (p0_size : Int32) (p0_limbs : (Nat → Int64)) (u : Int32 × (Nat → Int64)) (hf : f_X4_shiftUp p1 p0_size p0_limbs = some u) : CtV l yX4_shiftUp cX4_shiftUp 5 1 21 [.ref a_p0, .int p1] D cI cJ [(a_p0, .inr (5, [.ref a_p0_limbs, .int p0_size])), (a_p0_limbs, .inl (cJ, 160, .inr (.inl p0_limbs)))] [(a_p0, .inr (5, [.ref a_p0_limbs, .int u.1])), (a_p0_limbs, .inl (cJ, 160, .inr (.inl u.2)))] := by
  refine mkV (own := RX4) rfl (by decide +kernel) (Nat.le_of_ble_eq_true rfl) (lv := [(0, .ref a_p0), (1, .int p1)]) rfl ?_
  intro p e s m below meth c Q A ls ar S hA hK hN hret H locs hP hD hS hl
  obtain ⟨hx, hb, hml, hown, hts⟩ := id S
  have keyB108 : ∀ (v2 : Int32) (p0_size : Int32) (p0_limbs : (Nat → Int64)) (H : Heap) (locs : List Loc) (ls : Array Slot), f_X4_shiftUp_B108 v2 p0_size p0_limbs = some u → va_P D vwCl [(a_p0, .inr (5, [.ref a_p0_limbs, .int p0_size])), (a_p0_limbs, .inl (cJ, 160, .inr (.inl p0_limbs)))] H → va_D A [(a_p0, .inr (5, [.ref a_p0_limbs, .int p0_size])), (a_p0_limbs, .inl (cJ, 160, .inr (.inl p0_limbs)))] → va_S A s.heap H locs → lv_has ls 5 [(0, .ref a_p0), (2, .int v2)] → W p l e (rmz 1 21) s m ar below meth c H locs 0 0 Q (F0 m 108 ls []) := by
    intro v2 p0_size p0_limbs H locs ls hf hP hD hS hl
    unfold f_X4_shiftUp_B108 at hf
    refine lv_aload_n hx hb dX4_shiftUp_108 rfl (lv_at hl 0 rfl) ?_
    refine lv_dup hx hb dX4_shiftUp_109 rfl ?_
    refine va_get (D := D) (ci := 5) (v := .int p0_size) (C := RX4) (T := TX4) (N := 2) hx hb hts uwX4 hown hK hP 0 rfl rfl 1 (by decide) (hts _ kfX4_15) (fun _ h9 => h9) rfl dX4_shiftUp_110 ?_
    refine lv_iload_n hx hb dX4_shiftUp_113 rfl (lv_at hl 1 rfl) ?_
    refine lv_iconst (v := 1) hx hb dX4_shiftUp_114 (by decide) ?_
    refine lv_iadd hx hb dX4_shiftUp_115 ?_
    refine lv_iadd hx hb dX4_shiftUp_116 ?_
    refine va_put (D := D) (ci := 5) (v := .int (p0_size + (v2 + (1 : Int32)))) (ty := tyX4 1) (C := RX4) (T := TX4) (N := 2) hx hb hts uwX4 tyX4 tyX4_ok nmX4 hown hK hP hD hS 0 rfl rfl 1 (by decide) (hts _ kfX4_15) (fun _ h9 => h9) rfl (tyX4_ok 1 (by decide)) rfl rfl (Nat.le_of_ble_eq_true rfl) dX4_shiftUp_117 (fun H locs hP hD hS => ?_)
    have hP : va_P D vwCl [(a_p0, .inr (5, [.ref a_p0_limbs, .int (p0_size + (v2 + (1 : Int32)))])), (a_p0_limbs, .inl (cJ, 160, .inr (.inl p0_limbs)))] H := hP
    have hD : va_D A [(a_p0, .inr (5, [.ref a_p0_limbs, .int (p0_size + (v2 + (1 : Int32)))])), (a_p0_limbs, .inl (cJ, 160, .inr (.inl p0_limbs)))] := hD
    refine lv_aload_n hx hb dX4_shiftUp_120 rfl (lv_at hl 0 rfl) ?_
    obtain ⟨u1, hu2, hf⟩ := bdE hf
    refine cV_V (ws' := [(a_p0, .inr (5, [.ref a_p0_limbs, .int u1])), (a_p0_limbs, .inl (cJ, 160, .inr (.inl p0_limbs)))]) (rest := []) S hK hN hA hP hD hS (c_X4_trim l D cI cJ a_p0 a_p0_limbs  (p0_size + (v2 + (1 : Int32))) p0_limbs u1 hu2) mwX4_trim miX4_trim kmX4_19 [0, 1] rfl (by decide) rfl rfl rfl 0 rfl rfl ⟨Nat.le_of_ble_eq_true rfl, Nat.le_of_ble_eq_true rfl⟩ ⟨Nat.zero_le _, Nat.zero_le _⟩ hl.1 rfl rfl (Nat.le_of_ble_eq_true rfl) dX4_shiftUp_121 (fun H locs hP hD hS => ?_)
    obtain rfl := opE hf
    exact hret H locs ls 124 dX4_shiftUp_124 hP hD hS
  have keyL88 : ∀ (n : Nat) (v2 : Int32) (v4 : Int32) (p0_size : Int32) (p0_limbs : (Nat → Int64)) (H : Heap) (locs : List Loc) (ls : Array Slot), f_X4_shiftUp_L88 n v2 v4 p0_size p0_limbs = some u → va_P D vwCl [(a_p0, .inr (5, [.ref a_p0_limbs, .int p0_size])), (a_p0_limbs, .inl (cJ, 160, .inr (.inl p0_limbs)))] H → va_D A [(a_p0, .inr (5, [.ref a_p0_limbs, .int p0_size])), (a_p0_limbs, .inl (cJ, 160, .inr (.inl p0_limbs)))] → va_S A s.heap H locs → lv_has ls 5 [(0, .ref a_p0), (2, .int v2), (4, .int v4)] → W p l e (rmz 1 21) s m ar below meth c H locs 0 0 Q (F0 m 88 ls []) := by
    intro n
    induction n with
      | zero =>
        intro v2 v4 p0_size p0_limbs H locs ls hf
        cases hf
      | succ n ih =>
        intro v2 v4 p0_size p0_limbs H locs ls hf hP hD hS hl
        rw [f_X4_shiftUp_L88] at hf
        refine lv_iload hx hb dX4_shiftUp_88 (lv_at hl 2 rfl) ?_
        refine lv_iload_n hx hb dX4_shiftUp_90 rfl (lv_at hl 1 rfl) ?_
        refine lv_icmp_ge (tgt := 108) hx hb dX4_shiftUp_91 (by decide) (fun hc4 => ?_) (fun hc4 => ?_)
        · have hf := ifT hc4 hf
          exact keyB108 v2 p0_size p0_limbs H locs ls hf hP hD hS (lv_sub hl [0, 1] rfl)
        · have hf := ifF hc4 hf
          refine lv_aload_n hx hb dX4_shiftUp_94 rfl (lv_at hl 0 rfl) ?_
          refine va_get (D := D) (ci := 5) (v := .ref a_p0_limbs) (C := RX4) (T := TX4) (N := 2) hx hb hts uwX4 hown hK hP 0 rfl rfl 0 (by decide) (hts _ kfX4_9) (fun _ h9 => h9) rfl dX4_shiftUp_95 ?_
          refine lv_iload hx hb dX4_shiftUp_98 (lv_at hl 2 rfl) ?_
          refine lv_lconst (v := 0) hx hb dX4_shiftUp_100 (by decide) ?_
          obtain ⟨hi3, hf⟩ := gdE hf
          refine va_last hx hb hK hP hD hS 1 1 rfl rfl hi3 dX4_shiftUp_101 (fun H locs hP hD hS => ?_)
          have hP : va_P D vwCl [(a_p0, .inr (5, [.ref a_p0_limbs, .int p0_size])), (a_p0_limbs, .inl (cJ, 160, .inr (.inl (vp_updL p0_limbs v4.toNatClampNeg (0 : Int64)))))] H := hP
          have hD : va_D A [(a_p0, .inr (5, [.ref a_p0_limbs, .int p0_size])), (a_p0_limbs, .inl (cJ, 160, .inr (.inl (vp_updL p0_limbs v4.toNatClampNeg (0 : Int64)))))] := hD
          refine lv_iinc (v := v4 + (1 : Int32)) (lv' := [(4, .int (v4 + (1 : Int32))), (0, .ref a_p0), (2, .int v2)]) hx hb dX4_shiftUp_102 hl (k := 2) rfl (by rfl) (by decide) rfl (fun ls hl => ?_)
          refine lv_goto (tgt := 88) hx hb dX4_shiftUp_105 (by decide) ?_
          exact ih v2 (v4 + (1 : Int32)) p0_size (vp_updL p0_limbs v4.toNatClampNeg (0 : Int64)) H locs ls hf hP hD hS (lv_sub hl [1, 2, 0] rfl)
  have keyL39 : ∀ (n : Nat) (v2 : Int32) (v3 : Int32) (v4 : Int32) (p0_size : Int32) (p0_limbs : (Nat → Int64)) (H : Heap) (locs : List Loc) (ls : Array Slot), f_X4_shiftUp_L39 n v2 v3 v4 p0_size p0_limbs = some u → va_P D vwCl [(a_p0, .inr (5, [.ref a_p0_limbs, .int p0_size])), (a_p0_limbs, .inl (cJ, 160, .inr (.inl p0_limbs)))] H → va_D A [(a_p0, .inr (5, [.ref a_p0_limbs, .int p0_size])), (a_p0_limbs, .inl (cJ, 160, .inr (.inl p0_limbs)))] → va_S A s.heap H locs → lv_has ls 5 [(0, .ref a_p0), (2, .int v2), (3, .int v3), (4, .int v4)] → W p l e (rmz 1 21) s m ar below meth c H locs 0 0 Q (F0 m 39 ls []) := by
    intro n
    induction n with
      | zero =>
        intro v2 v3 v4 p0_size p0_limbs H locs ls hf
        cases hf
      | succ n ih =>
        intro v2 v3 v4 p0_size p0_limbs H locs ls hf hP hD hS hl
        rw [f_X4_shiftUp_L39] at hf
        refine lv_iload hx hb dX4_shiftUp_39 (lv_at hl 3 rfl) ?_
        refine lv_if_lt (tgt := 85) hx hb dX4_shiftUp_41 (by decide) (fun hc10 => ?_) (fun hc10 => ?_)
        · have hf := ifT hc10 hf
          refine lv_iconst (v := 0) hx hb dX4_shiftUp_85 (by decide) ?_
          refine lv_istore (lv' := [(4, .int (0 : Int32)), (0, .ref a_p0), (2, .int v2), (3, .int v3)]) hx hb dX4_shiftUp_86 hl (by decide) rfl (fun ls hl => ?_)
          exact keyL88 FU v2 (0 : Int32) p0_size p0_limbs H locs ls hf hP hD hS (lv_sub hl [1, 2, 0] rfl)
        · have hf := ifF hc10 hf
          refine lv_aload_n hx hb dX4_shiftUp_44 rfl (lv_at hl 0 rfl) ?_
          refine va_get (D := D) (ci := 5) (v := .ref a_p0_limbs) (C := RX4) (T := TX4) (N := 2) hx hb hts uwX4 hown hK hP 0 rfl rfl 0 (by decide) (hts _ kfX4_9) (fun _ h9 => h9) rfl dX4_shiftUp_45 ?_
          refine lv_iload hx hb dX4_shiftUp_48 (lv_at hl 3 rfl) ?_
          refine lv_iload_n hx hb dX4_shiftUp_50 rfl (lv_at hl 1 rfl) ?_
          refine lv_iadd hx hb dX4_shiftUp_51 ?_
          refine lv_aload_n hx hb dX4_shiftUp_52 rfl (lv_at hl 0 rfl) ?_
          refine lv_iload hx hb dX4_shiftUp_53 (lv_at hl 3 rfl) ?_
          obtain ⟨u5, hu6, hf⟩ := bdE hf
          refine cV_L (ws' := [(a_p0, .inr (5, [.ref a_p0_limbs, .int p0_size])), (a_p0_limbs, .inl (cJ, 160, .inr (.inl p0_limbs)))]) (rest := [.int (v4 + v2), .ref a_p0_limbs]) S hK hN hA hP hD hS (c_X4_limb l D cI cJ a_p0 a_p0_limbs v4 p0_size p0_limbs u5 hu6) mwX4_limb miX4_limb kmX4_30 [0, 1] rfl (by decide) rfl rfl rfl 0 rfl rfl ⟨Nat.le_of_ble_eq_true rfl, Nat.le_of_ble_eq_true rfl⟩ ⟨Nat.zero_le _, Nat.zero_le _⟩ hl.1 rfl rfl (Nat.le_of_ble_eq_true rfl) dX4_shiftUp_55 (fun H locs hP hD hS => ?_)
          refine lv_iload_n hx hb dX4_shiftUp_58 rfl (lv_at hl 2 rfl) ?_
          refine lv_lshl (v := lsh u5 v3) hx hb dX4_shiftUp_59 rfl ?_
          refine lv_ldc2 hx hb hown (hts _ kcX4_13) dX4_shiftUp_60 ?_
          refine lv_land hx hb dX4_shiftUp_63 ?_
          refine lv_aload_n hx hb dX4_shiftUp_64 rfl (lv_at hl 0 rfl) ?_
          refine lv_iload hx hb dX4_shiftUp_65 (lv_at hl 3 rfl) ?_
          refine lv_iconst (v := 1) hx hb dX4_shiftUp_67 (by decide) ?_
          refine lv_isub hx hb dX4_shiftUp_68 ?_
          obtain ⟨u7, hu8, hf⟩ := bdE hf
          refine cV_L (ws' := [(a_p0, .inr (5, [.ref a_p0_limbs, .int p0_size])), (a_p0_limbs, .inl (cJ, 160, .inr (.inl p0_limbs)))]) (rest := [.long ((lsh u5 v3) &&& (4294967295 : Int64)), .int (v4 + v2), .ref a_p0_limbs]) S hK hN hA hP hD hS (c_X4_limb l D cI cJ a_p0 a_p0_limbs (v4 - (1 : Int32)) p0_size p0_limbs u7 hu8) mwX4_limb miX4_limb kmX4_30 [0, 1] rfl (by decide) rfl rfl rfl 0 rfl rfl ⟨Nat.le_of_ble_eq_true rfl, Nat.le_of_ble_eq_true rfl⟩ ⟨Nat.zero_le _, Nat.zero_le _⟩ hl.1 rfl rfl (Nat.le_of_ble_eq_true rfl) dX4_shiftUp_69 (fun H locs hP hD hS => ?_)
          refine lv_bipush (v := 32) hx hb dX4_shiftUp_72 (by decide) ?_
          refine lv_iload_n hx hb dX4_shiftUp_74 rfl (lv_at hl 2 rfl) ?_
          refine lv_isub hx hb dX4_shiftUp_75 ?_
          refine lv_lushr (v := lus u7 ((32 : Int32) - v3)) hx hb dX4_shiftUp_76 rfl ?_
          refine lv_lor hx hb dX4_shiftUp_77 ?_
          obtain ⟨hi9, hf⟩ := gdE hf
          refine va_last hx hb hK hP hD hS 1 1 rfl rfl hi9 dX4_shiftUp_78 (fun H locs hP hD hS => ?_)
          have hP : va_P D vwCl [(a_p0, .inr (5, [.ref a_p0_limbs, .int p0_size])), (a_p0_limbs, .inl (cJ, 160, .inr (.inl (vp_updL p0_limbs (v4 + v2).toNatClampNeg (((lsh u5 v3) &&& (4294967295 : Int64)) ||| (lus u7 ((32 : Int32) - v3)))))))] H := hP
          have hD : va_D A [(a_p0, .inr (5, [.ref a_p0_limbs, .int p0_size])), (a_p0_limbs, .inl (cJ, 160, .inr (.inl (vp_updL p0_limbs (v4 + v2).toNatClampNeg (((lsh u5 v3) &&& (4294967295 : Int64)) ||| (lus u7 ((32 : Int32) - v3)))))))] := hD
          refine lv_iinc (v := v4 + (-1 : Int32)) (lv' := [(4, .int (v4 + (-1 : Int32))), (0, .ref a_p0), (2, .int v2), (3, .int v3)]) hx hb dX4_shiftUp_79 hl (k := 3) rfl (by rfl) (by decide) rfl (fun ls hl => ?_)
          refine lv_goto (tgt := 39) hx hb dX4_shiftUp_82 (by decide) ?_
          exact ih v2 v3 (v4 + (-1 : Int32)) p0_size (vp_updL p0_limbs (v4 + v2).toNatClampNeg (((lsh u5 v3) &&& (4294967295 : Int64)) ||| (lus u7 ((32 : Int32) - v3)))) H locs ls hf hP hD hS (lv_sub hl [1, 2, 3, 0] rfl)
  unfold f_X4_shiftUp at hf
  refine lv_iload_n hx hb dX4_shiftUp_0 rfl (lv_at hl 1 rfl) ?_
  refine lv_iconst (v := 5) hx hb dX4_shiftUp_1 (by decide) ?_
  refine lv_ishr hx hb dX4_shiftUp_2 ?_
  refine lv_istore_n (lv' := [(2, .int (isr p1 (5 : Int32))), (0, .ref a_p0), (1, .int p1)]) hx hb dX4_shiftUp_3 rfl hl (by decide) rfl (fun ls hl => ?_)
  refine lv_iload_n hx hb dX4_shiftUp_4 rfl (lv_at hl 2 rfl) ?_
  refine lv_bipush (v := 31) hx hb dX4_shiftUp_5 (by decide) ?_
  refine lv_iand hx hb dX4_shiftUp_7 ?_
  refine lv_istore_n (lv' := [(3, .int (p1 &&& (31 : Int32))), (2, .int (isr p1 (5 : Int32))), (0, .ref a_p0), (1, .int p1)]) hx hb dX4_shiftUp_8 rfl hl (by decide) rfl (fun ls hl => ?_)
  refine lv_iload_n hx hb dX4_shiftUp_9 rfl (lv_at hl 3 rfl) ?_
  refine lv_if_le (tgt := 32) hx hb dX4_shiftUp_10 (by decide) (fun hc13 => ?_) (fun hc13 => ?_)
  · have hf := ifT hc13 hf
    obtain rfl := opE hf
    exact hret H locs ls 32 dX4_shiftUp_32 hP hD hS
  · have hf := ifF hc13 hf
    refine lv_aload_n hx hb dX4_shiftUp_13 rfl (lv_at hl 2 rfl) ?_
    refine va_get (D := D) (ci := 5) (v := .int p0_size) (C := RX4) (T := TX4) (N := 2) hx hb hts uwX4 hown hK hP 0 rfl rfl 1 (by decide) (hts _ kfX4_15) (fun _ h9 => h9) rfl dX4_shiftUp_14 ?_
    refine lv_if_eq (tgt := 32) hx hb dX4_shiftUp_17 (by decide) (fun hc12 => ?_) (fun hc12 => ?_)
    · have hf := ifT hc12 hf
      obtain rfl := opE hf
      exact hret H locs ls 32 dX4_shiftUp_32 hP hD hS
    · have hf := ifF hc12 hf
      refine lv_iload_n hx hb dX4_shiftUp_20 rfl (lv_at hl 1 rfl) ?_
      refine lv_sipush (v := 160) hx hb dX4_shiftUp_21 (by decide) ?_
      refine lv_aload_n hx hb dX4_shiftUp_24 rfl (lv_at hl 2 rfl) ?_
      refine va_get (D := D) (ci := 5) (v := .int p0_size) (C := RX4) (T := TX4) (N := 2) hx hb hts uwX4 hown hK hP 0 rfl rfl 1 (by decide) (hts _ kfX4_15) (fun _ h9 => h9) rfl dX4_shiftUp_25 ?_
      refine lv_isub hx hb dX4_shiftUp_28 ?_
      refine lv_icmp_lt (tgt := 33) hx hb dX4_shiftUp_29 (by decide) (fun hc11 => ?_) (fun hc11 => ?_)
      · have hf := ifT hc11 hf
        refine lv_aload_n hx hb dX4_shiftUp_33 rfl (lv_at hl 2 rfl) ?_
        refine va_get (D := D) (ci := 5) (v := .int p0_size) (C := RX4) (T := TX4) (N := 2) hx hb hts uwX4 hown hK hP 0 rfl rfl 1 (by decide) (hts _ kfX4_15) (fun _ h9 => h9) rfl dX4_shiftUp_34 ?_
        refine lv_istore (lv' := [(4, .int p0_size), (3, .int (p1 &&& (31 : Int32))), (2, .int (isr p1 (5 : Int32))), (0, .ref a_p0), (1, .int p1)]) hx hb dX4_shiftUp_37 hl (by decide) rfl (fun ls hl => ?_)
        exact keyL39 FU (isr p1 (5 : Int32)) (p1 &&& (31 : Int32)) p0_size p0_size p0_limbs H locs ls hf hP hD hS (lv_sub hl [3, 2, 1, 0] rfl)
      · have hf := ifF hc11 hf
        obtain rfl := opE hf
        exact hret H locs ls 32 dX4_shiftUp_32 hP hD hS
set_option maxRecDepth 100000 in
set_option maxHeartbeats 4000000 in
theorem c_J9_max_7cf53 (l : Launch) (D : va_G) (cI cJ : ClassId) (p0 : Int32) (p1 : Int32)  (u : Int32) (hf : f_J9_max_7cf53 p0 p1 = some u) : CtI l yJ9_max_7cf53 cJ9_max_7cf53 2 0 0 .int [.int p0, .int p1] D cI cJ [] [] u := by
  refine mkI (own := RJ9) rfl (by decide +kernel) (Nat.le_of_ble_eq_true rfl) (lv := [(0, .int p0), (1, .int p1)]) rfl ?_
  intro p e s m below meth c Q A ls ar S hA hK hN hret H locs hP hD hS hl
  obtain ⟨hx, hb, hml, hown, hts⟩ := id S
  unfold f_J9_max_7cf53 at hf
  refine lv_iload_n hx hb dJ9_max_7cf53_0 rfl (lv_at hl 0 rfl) ?_
  refine lv_iload_n hx hb dJ9_max_7cf53_1 rfl (lv_at hl 1 rfl) ?_
  refine lv_icmp_lt (tgt := 9) hx hb dJ9_max_7cf53_2 (by decide) (fun hc1 => ?_) (fun hc1 => ?_)
  · have hf := ifT hc1 hf
    refine lv_iload_n hx hb dJ9_max_7cf53_9 rfl (lv_at hl 1 rfl) ?_
    obtain rfl := opE hf
    exact hret H locs ls 10 dJ9_max_7cf53_10 hP hD hS
  · have hf := ifF hc1 hf
    refine lv_iload_n hx hb dJ9_max_7cf53_5 rfl (lv_at hl 0 rfl) ?_
    refine lv_goto (tgt := 10) hx hb dJ9_max_7cf53_6 (by decide) ?_
    obtain rfl := opE hf
    exact hret H locs ls 10 dJ9_max_7cf53_10 hP hD hS
set_option maxRecDepth 100000 in
set_option maxHeartbeats 4000000 in
theorem c_X4_plus (l : Launch) (D : va_G) (cI cJ : ClassId) (a_p0 a_p0_limbs a_p1 a_p1_limbs : Nat) (p0_size : Int32) (p0_limbs : (Nat → Int64)) (p1_size : Int32) (p1_limbs : (Nat → Int64)) (u : Int32 × (Nat → Int64)) (hf : f_X4_plus p1_size p1_limbs p0_size p0_limbs = some u) : CtV l yX4_plus cX4_plus 6 1 21 [.ref a_p0, .ref a_p1] D cI cJ [(a_p0, .inr (5, [.ref a_p0_limbs, .int p0_size])), (a_p0_limbs, .inl (cJ, 160, .inr (.inl p0_limbs))), (a_p1, .inr (5, [.ref a_p1_limbs, .int p1_size])), (a_p1_limbs, .inl (cJ, 160, .inr (.inl p1_limbs)))] [(a_p0, .inr (5, [.ref a_p0_limbs, .int u.1])), (a_p0_limbs, .inl (cJ, 160, .inr (.inl u.2))), (a_p1, .inr (5, [.ref a_p1_limbs, .int p1_size])), (a_p1_limbs, .inl (cJ, 160, .inr (.inl p1_limbs)))] := by
  refine mkV (own := RX4) rfl (by decide +kernel) (Nat.le_of_ble_eq_true rfl) (lv := [(0, .ref a_p0), (1, .ref a_p1)]) rfl ?_
  intro p e s m below meth c Q A ls ar S hA hK hN hret H locs hP hD hS hl
  obtain ⟨hx, hb, hml, hown, hts⟩ := id S
  have keyB62 : ∀ (v2 : Int32) (v3 : Int64) (p0_size : Int32) (p0_limbs : (Nat → Int64)) (H : Heap) (locs : List Loc) (ls : Array Slot), f_X4_plus_B62 p1_size p1_limbs v2 v3 p0_size p0_limbs = some u → va_P D vwCl [(a_p0, .inr (5, [.ref a_p0_limbs, .int p0_size])), (a_p0_limbs, .inl (cJ, 160, .inr (.inl p0_limbs))), (a_p1, .inr (5, [.ref a_p1_limbs, .int p1_size])), (a_p1_limbs, .inl (cJ, 160, .inr (.inl p1_limbs)))] H → va_D A [(a_p0, .inr (5, [.ref a_p0_limbs, .int p0_size])), (a_p0_limbs, .inl (cJ, 160, .inr (.inl p0_limbs))), (a_p1, .inr (5, [.ref a_p1_limbs, .int p1_size])), (a_p1_limbs, .inl (cJ, 160, .inr (.inl p1_limbs)))] → va_S A s.heap H locs → lv_has ls 6 [(0, .ref a_p0), (2, .int v2), (3, .long v3)] → W p l e (rmz 1 21) s m ar below meth c H locs 0 0 Q (F0 m 62 ls []) := by
    intro v2 v3 p0_size p0_limbs H locs ls hf hP hD hS hl
    unfold f_X4_plus_B62 at hf
    refine lv_aload_n hx hb dX4_plus_62 rfl (lv_at hl 0 rfl) ?_
    refine lv_iload_n hx hb dX4_plus_63 rfl (lv_at hl 1 rfl) ?_
    refine va_put (D := D) (ci := 5) (v := .int v2) (ty := tyX4 1) (C := RX4) (T := TX4) (N := 2) hx hb hts uwX4 tyX4 tyX4_ok nmX4 hown hK hP hD hS 0 rfl rfl 1 (by decide) (hts _ kfX4_15) (fun _ h9 => h9) rfl (tyX4_ok 1 (by decide)) rfl rfl (Nat.le_of_ble_eq_true rfl) dX4_plus_64 (fun H locs hP hD hS => ?_)
    have hP : va_P D vwCl [(a_p0, .inr (5, [.ref a_p0_limbs, .int v2])), (a_p0_limbs, .inl (cJ, 160, .inr (.inl p0_limbs))), (a_p1, .inr (5, [.ref a_p1_limbs, .int p1_size])), (a_p1_limbs, .inl (cJ, 160, .inr (.inl p1_limbs)))] H := hP
    have hD : va_D A [(a_p0, .inr (5, [.ref a_p0_limbs, .int v2])), (a_p0_limbs, .inl (cJ, 160, .inr (.inl p0_limbs))), (a_p1, .inr (5, [.ref a_p1_limbs, .int p1_size])), (a_p1_limbs, .inl (cJ, 160, .inr (.inl p1_limbs)))] := hD
    refine lv_lload_n hx hb dX4_plus_67 rfl (lv_at hl 2 rfl) ?_
    refine lv_lconst (v := 0) hx hb dX4_plus_68 (by decide) ?_
    refine W.lcmp hx hb dX4_plus_69 ?_
    refine lv_if_eq (tgt := 103) hx hb dX4_plus_70 (by decide) (fun hc5 => ?_) (fun hc5 => ?_)
    · have hf := ifT hc5 hf
      obtain rfl := opE hf
      exact hret H locs ls 103 dX4_plus_103 hP hD hS
    · have hf := ifF hc5 hf
      refine lv_aload_n hx hb dX4_plus_73 rfl (lv_at hl 0 rfl) ?_
      refine va_get (D := D) (ci := 5) (v := .int v2) (C := RX4) (T := TX4) (N := 2) hx hb hts uwX4 hown hK hP 0 rfl rfl 1 (by decide) (hts _ kfX4_15) (fun _ h9 => h9) rfl dX4_plus_74 ?_
      refine lv_sipush (v := 160) hx hb dX4_plus_77 (by decide) ?_
      refine lv_icmp_ge (tgt := 103) hx hb dX4_plus_80 (by decide) (fun hc4 => ?_) (fun hc4 => ?_)
      · have hf := ifT hc4 hf
        obtain rfl := opE hf
        exact hret H locs ls 103 dX4_plus_103 hP hD hS
      · have hf := ifF hc4 hf
        refine lv_aload_n hx hb dX4_plus_83 rfl (lv_at hl 0 rfl) ?_
        refine va_get (D := D) (ci := 5) (v := .ref a_p0_limbs) (C := RX4) (T := TX4) (N := 2) hx hb hts uwX4 hown hK hP 0 rfl rfl 0 (by decide) (hts _ kfX4_9) (fun _ h9 => h9) rfl dX4_plus_84 ?_
        refine lv_aload_n hx hb dX4_plus_87 rfl (lv_at hl 0 rfl) ?_
        refine va_get (D := D) (ci := 5) (v := .int v2) (C := RX4) (T := TX4) (N := 2) hx hb hts uwX4 hown hK hP 0 rfl rfl 1 (by decide) (hts _ kfX4_15) (fun _ h9 => h9) rfl dX4_plus_88 ?_
        refine lv_lload_n hx hb dX4_plus_91 rfl (lv_at hl 2 rfl) ?_
        obtain ⟨hi3, hf⟩ := gdE hf
        refine va_last hx hb hK hP hD hS 1 1 rfl rfl hi3 dX4_plus_92 (fun H locs hP hD hS => ?_)
        have hP : va_P D vwCl [(a_p0, .inr (5, [.ref a_p0_limbs, .int v2])), (a_p0_limbs, .inl (cJ, 160, .inr (.inl (vp_updL p0_limbs v2.toNatClampNeg v3)))), (a_p1, .inr (5, [.ref a_p1_limbs, .int p1_size])), (a_p1_limbs, .inl (cJ, 160, .inr (.inl p1_limbs)))] H := hP
        have hD : va_D A [(a_p0, .inr (5, [.ref a_p0_limbs, .int v2])), (a_p0_limbs, .inl (cJ, 160, .inr (.inl (vp_updL p0_limbs v2.toNatClampNeg v3)))), (a_p1, .inr (5, [.ref a_p1_limbs, .int p1_size])), (a_p1_limbs, .inl (cJ, 160, .inr (.inl p1_limbs)))] := hD
        refine lv_aload_n hx hb dX4_plus_93 rfl (lv_at hl 0 rfl) ?_
        refine lv_dup hx hb dX4_plus_94 rfl ?_
        refine va_get (D := D) (ci := 5) (v := .int v2) (C := RX4) (T := TX4) (N := 2) hx hb hts uwX4 hown hK hP 0 rfl rfl 1 (by decide) (hts _ kfX4_15) (fun _ h9 => h9) rfl dX4_plus_95 ?_
        refine lv_iconst (v := 1) hx hb dX4_plus_98 (by decide) ?_
        refine lv_iadd hx hb dX4_plus_99 ?_
        refine va_put (D := D) (ci := 5) (v := .int (v2 + (1 : Int32))) (ty := tyX4 1) (C := RX4) (T := TX4) (N := 2) hx hb hts uwX4 tyX4 tyX4_ok nmX4 hown hK hP hD hS 0 rfl rfl 1 (by decide) (hts _ kfX4_15) (fun _ h9 => h9) rfl (tyX4_ok 1 (by decide)) rfl rfl (Nat.le_of_ble_eq_true rfl) dX4_plus_100 (fun H locs hP hD hS => ?_)
        have hP : va_P D vwCl [(a_p0, .inr (5, [.ref a_p0_limbs, .int (v2 + (1 : Int32))])), (a_p0_limbs, .inl (cJ, 160, .inr (.inl (vp_updL p0_limbs v2.toNatClampNeg v3)))), (a_p1, .inr (5, [.ref a_p1_limbs, .int p1_size])), (a_p1_limbs, .inl (cJ, 160, .inr (.inl p1_limbs)))] H := hP
        have hD : va_D A [(a_p0, .inr (5, [.ref a_p0_limbs, .int (v2 + (1 : Int32))])), (a_p0_limbs, .inl (cJ, 160, .inr (.inl (vp_updL p0_limbs v2.toNatClampNeg v3)))), (a_p1, .inr (5, [.ref a_p1_limbs, .int p1_size])), (a_p1_limbs, .inl (cJ, 160, .inr (.inl p1_limbs)))] := hD
        obtain rfl := opE hf
        exact hret H locs ls 103 dX4_plus_103 hP hD hS
  have keyL17 : ∀ (n : Nat) (v2 : Int32) (v3 : Int64) (v5 : Int32) (p0_size : Int32) (p0_limbs : (Nat → Int64)) (H : Heap) (locs : List Loc) (ls : Array Slot), f_X4_plus_L17 p1_size p1_limbs n v2 v3 v5 p0_size p0_limbs = some u → va_P D vwCl [(a_p0, .inr (5, [.ref a_p0_limbs, .int p0_size])), (a_p0_limbs, .inl (cJ, 160, .inr (.inl p0_limbs))), (a_p1, .inr (5, [.ref a_p1_limbs, .int p1_size])), (a_p1_limbs, .inl (cJ, 160, .inr (.inl p1_limbs)))] H → va_D A [(a_p0, .inr (5, [.ref a_p0_limbs, .int p0_size])), (a_p0_limbs, .inl (cJ, 160, .inr (.inl p0_limbs))), (a_p1, .inr (5, [.ref a_p1_limbs, .int p1_size])), (a_p1_limbs, .inl (cJ, 160, .inr (.inl p1_limbs)))] → va_S A s.heap H locs → lv_has ls 6 [(0, .ref a_p0), (1, .ref a_p1), (2, .int v2), (3, .long v3), (5, .int v5)] → W p l e (rmz 1 21) s m ar below meth c H locs 0 0 Q (F0 m 17 ls []) := by
    intro n
    induction n with
      | zero =>
        intro v2 v3 v5 p0_size p0_limbs H locs ls hf
        cases hf
      | succ n ih =>
        intro v2 v3 v5 p0_size p0_limbs H locs ls hf hP hD hS hl
        rw [f_X4_plus_L17] at hf
        refine lv_iload hx hb dX4_plus_17 (lv_at hl 4 rfl) ?_
        refine lv_iload_n hx hb dX4_plus_19 rfl (lv_at hl 2 rfl) ?_
        refine lv_icmp_ge (tgt := 62) hx hb dX4_plus_20 (by decide) (fun hc11 => ?_) (fun hc11 => ?_)
        · have hf := ifT hc11 hf
          exact keyB62 v2 v3 p0_size p0_limbs H locs ls hf hP hD hS (lv_sub hl [0, 2, 3] rfl)
        · have hf := ifF hc11 hf
          refine lv_lload_n hx hb dX4_plus_23 rfl (lv_at hl 3 rfl) ?_
          refine lv_aload_n hx hb dX4_plus_24 rfl (lv_at hl 0 rfl) ?_
          refine lv_iload hx hb dX4_plus_25 (lv_at hl 4 rfl) ?_
          obtain ⟨u6, hu7, hf⟩ := bdE hf
          refine cV_L (ws' := [(a_p0, .inr (5, [.ref a_p0_limbs, .int p0_size])), (a_p0_limbs, .inl (cJ, 160, .inr (.inl p0_limbs))), (a_p1, .inr (5, [.ref a_p1_limbs, .int p1_size])), (a_p1_limbs, .inl (cJ, 160, .inr (.inl p1_limbs)))]) (rest := [.long v3]) S hK hN hA hP hD hS (c_X4_limb l D cI cJ a_p0 a_p0_limbs v5 p0_size p0_limbs u6 hu7) mwX4_limb miX4_limb kmX4_30 [0, 1] rfl (by decide) rfl rfl rfl 0 rfl rfl ⟨Nat.le_of_ble_eq_true rfl, Nat.le_of_ble_eq_true rfl⟩ ⟨Nat.zero_le _, Nat.zero_le _⟩ hl.1 rfl rfl (Nat.le_of_ble_eq_true rfl) dX4_plus_27 (fun H locs hP hD hS => ?_)
          refine lv_aload_n hx hb dX4_plus_30 rfl (lv_at hl 1 rfl) ?_
          refine lv_iload hx hb dX4_plus_31 (lv_at hl 4 rfl) ?_
          obtain ⟨u8, hu9, hf⟩ := bdE hf
          refine cV_L (ws' := [(a_p0, .inr (5, [.ref a_p0_limbs, .int p0_size])), (a_p0_limbs, .inl (cJ, 160, .inr (.inl p0_limbs))), (a_p1, .inr (5, [.ref a_p1_limbs, .int p1_size])), (a_p1_limbs, .inl (cJ, 160, .inr (.inl p1_limbs)))]) (rest := [.long u6, .long v3]) S hK hN hA hP hD hS (c_X4_limb l D cI cJ a_p1 a_p1_limbs v5 p1_size p1_limbs u8 hu9) mwX4_limb miX4_limb kmX4_30 [2, 3] rfl (by decide) rfl rfl rfl 0 rfl rfl ⟨Nat.le_of_ble_eq_true rfl, Nat.le_of_ble_eq_true rfl⟩ ⟨Nat.zero_le _, Nat.zero_le _⟩ hl.1 rfl rfl (Nat.le_of_ble_eq_true rfl) dX4_plus_33 (fun H locs hP hD hS => ?_)
          refine lv_ladd hx hb dX4_plus_36 ?_
          refine lv_ladd hx hb dX4_plus_37 ?_
          refine lv_lstore_n (lv' := [(3, .long (v3 + (u6 + u8))), (0, .ref a_p0), (1, .ref a_p1), (2, .int v2), (5, .int v5)]) hx hb dX4_plus_38 rfl hl (by decide) rfl (fun ls hl => ?_)
          refine lv_aload_n hx hb dX4_plus_39 rfl (lv_at hl 1 rfl) ?_
          refine va_get (D := D) (ci := 5) (v := .ref a_p0_limbs) (C := RX4) (T := TX4) (N := 2) hx hb hts uwX4 hown hK hP 0 rfl rfl 0 (by decide) (hts _ kfX4_9) (fun _ h9 => h9) rfl dX4_plus_40 ?_
          refine lv_iload hx hb dX4_plus_43 (lv_at hl 4 rfl) ?_
          refine lv_lload_n hx hb dX4_plus_45 rfl (lv_at hl 0 rfl) ?_
          refine lv_ldc2 hx hb hown (hts _ kcX4_13) dX4_plus_46 ?_
          refine lv_land hx hb dX4_plus_49 ?_
          obtain ⟨hi10, hf⟩ := gdE hf
          refine va_last hx hb hK hP hD hS 1 1 rfl rfl hi10 dX4_plus_50 (fun H locs hP hD hS => ?_)
          have hP : va_P D vwCl [(a_p0, .inr (5, [.ref a_p0_limbs, .int p0_size])), (a_p0_limbs, .inl (cJ, 160, .inr (.inl (vp_updL p0_limbs v5.toNatClampNeg ((v3 + (u6 + u8)) &&& (4294967295 : Int64)))))), (a_p1, .inr (5, [.ref a_p1_limbs, .int p1_size])), (a_p1_limbs, .inl (cJ, 160, .inr (.inl p1_limbs)))] H := hP
          have hD : va_D A [(a_p0, .inr (5, [.ref a_p0_limbs, .int p0_size])), (a_p0_limbs, .inl (cJ, 160, .inr (.inl (vp_updL p0_limbs v5.toNatClampNeg ((v3 + (u6 + u8)) &&& (4294967295 : Int64)))))), (a_p1, .inr (5, [.ref a_p1_limbs, .int p1_size])), (a_p1_limbs, .inl (cJ, 160, .inr (.inl p1_limbs)))] := hD
          refine lv_lload_n hx hb dX4_plus_51 rfl (lv_at hl 0 rfl) ?_
          refine lv_bipush (v := 32) hx hb dX4_plus_52 (by decide) ?_
          refine lv_lushr (v := lus (v3 + (u6 + u8)) (32 : Int32)) hx hb dX4_plus_54 rfl ?_
          refine lv_lstore_n (lv' := [(3, .long (lus (v3 + (u6 + u8)) (32 : Int32))), (0, .ref a_p0), (1, .ref a_p1), (2, .int v2), (5, .int v5)]) hx hb dX4_plus_55 rfl hl (by decide) rfl (fun ls hl => ?_)
          refine lv_iinc (v := v5 + (1 : Int32)) (lv' := [(5, .int (v5 + (1 : Int32))), (3, .long (lus (v3 + (u6 + u8)) (32 : Int32))), (0, .ref a_p0), (1, .ref a_p1), (2, .int v2)]) hx hb dX4_plus_56 hl (k := 4) rfl (by rfl) (by decide) rfl (fun ls hl => ?_)
          refine lv_goto (tgt := 17) hx hb dX4_plus_59 (by decide) ?_
          exact ih v2 (lus (v3 + (u6 + u8)) (32 : Int32)) (v5 + (1 : Int32)) p0_size (vp_updL p0_limbs v5.toNatClampNeg ((v3 + (u6 + u8)) &&& (4294967295 : Int64))) H locs ls hf hP hD hS (lv_sub hl [2, 3, 4, 1, 0] rfl)
  unfold f_X4_plus at hf
  refine lv_aload_n hx hb dX4_plus_0 rfl (lv_at hl 0 rfl) ?_
  refine va_get (D := D) (ci := 5) (v := .int p0_size) (C := RX4) (T := TX4) (N := 2) hx hb hts uwX4 hown hK hP 0 rfl rfl 1 (by decide) (hts _ kfX4_15) (fun _ h9 => h9) rfl dX4_plus_1 ?_
  refine lv_aload_n hx hb dX4_plus_4 rfl (lv_at hl 1 rfl) ?_
  refine va_get (D := D) (ci := 5) (v := .int p1_size) (C := RX4) (T := TX4) (N := 2) hx hb hts uwX4 hown hK hP 2 rfl rfl 1 (by decide) (hts _ kfX4_15) (fun _ h9 => h9) rfl dX4_plus_5 ?_
  obtain ⟨u1, hu2, hf⟩ := bdE hf
  refine cS_I (ws' := [(a_p0, .inr (5, [.ref a_p0_limbs, .int p0_size])), (a_p0_limbs, .inl (cJ, 160, .inr (.inl p0_limbs))), (a_p1, .inr (5, [.ref a_p1_limbs, .int p1_size])), (a_p1_limbs, .inl (cJ, 160, .inr (.inl p1_limbs)))]) (rest := []) S hK hN hA hP hD hS (c_J9_max_7cf53 l D cI cJ  p0_size p1_size  u1 hu2) mwJ9_max_7cf53 msJ9_max_7cf53 kmX4_34 [] rfl (by decide) rfl rfl rfl ⟨Nat.le_of_ble_eq_true rfl, Nat.le_of_ble_eq_true rfl⟩ ⟨Nat.zero_le _, Nat.zero_le _⟩ hl.1 rfl rfl (Nat.le_of_ble_eq_true rfl) dX4_plus_8 (fun H locs hP hD hS => ?_)
  refine lv_istore_n (lv' := [(2, .int u1), (0, .ref a_p0), (1, .ref a_p1)]) hx hb dX4_plus_11 rfl hl (by decide) rfl (fun ls hl => ?_)
  refine lv_lconst (v := 0) hx hb dX4_plus_12 (by decide) ?_
  refine lv_lstore_n (lv' := [(3, .long (0 : Int64)), (2, .int u1), (0, .ref a_p0), (1, .ref a_p1)]) hx hb dX4_plus_13 rfl hl (by decide) rfl (fun ls hl => ?_)
  refine lv_iconst (v := 0) hx hb dX4_plus_14 (by decide) ?_
  refine lv_istore (lv' := [(5, .int (0 : Int32)), (3, .long (0 : Int64)), (2, .int u1), (0, .ref a_p0), (1, .ref a_p1)]) hx hb dX4_plus_15 hl (by decide) rfl (fun ls hl => ?_)
  exact keyL17 FU u1 (0 : Int64) (0 : Int32) p0_size p0_limbs H locs ls hf hP hD hS (lv_sub hl [3, 4, 2, 1, 0] rfl)
set_option maxRecDepth 100000 in
set_option maxHeartbeats 4000000 in
theorem c_X4_minus (l : Launch) (D : va_G) (cI cJ : ClassId) (a_p0 a_p0_limbs a_p1 a_p1_limbs : Nat) (p0_size : Int32) (p0_limbs : (Nat → Int64)) (p1_size : Int32) (p1_limbs : (Nat → Int64)) (u : Int32 × (Nat → Int64)) (hf : f_X4_minus p1_size p1_limbs p0_size p0_limbs = some u) : CtV l yX4_minus cX4_minus 5 1 21 [.ref a_p0, .ref a_p1] D cI cJ [(a_p0, .inr (5, [.ref a_p0_limbs, .int p0_size])), (a_p0_limbs, .inl (cJ, 160, .inr (.inl p0_limbs))), (a_p1, .inr (5, [.ref a_p1_limbs, .int p1_size])), (a_p1_limbs, .inl (cJ, 160, .inr (.inl p1_limbs)))] [(a_p0, .inr (5, [.ref a_p0_limbs, .int u.1])), (a_p0_limbs, .inl (cJ, 160, .inr (.inl u.2))), (a_p1, .inr (5, [.ref a_p1_limbs, .int p1_size])), (a_p1_limbs, .inl (cJ, 160, .inr (.inl p1_limbs)))] := by
  refine mkV (own := RX4) rfl (by decide +kernel) (Nat.le_of_ble_eq_true rfl) (lv := [(0, .ref a_p0), (1, .ref a_p1)]) rfl ?_
  intro p e s m below meth c Q A ls ar S hA hK hN hret H locs hP hD hS hl
  obtain ⟨hx, hb, hml, hown, hts⟩ := id S
  have keyB54 : ∀ (p0_size : Int32) (p0_limbs : (Nat → Int64)) (H : Heap) (locs : List Loc) (ls : Array Slot), f_X4_minus_B54 p1_size p1_limbs p0_size p0_limbs = some u → va_P D vwCl [(a_p0, .inr (5, [.ref a_p0_limbs, .int p0_size])), (a_p0_limbs, .inl (cJ, 160, .inr (.inl p0_limbs))), (a_p1, .inr (5, [.ref a_p1_limbs, .int p1_size])), (a_p1_limbs, .inl (cJ, 160, .inr (.inl p1_limbs)))] H → va_D A [(a_p0, .inr (5, [.ref a_p0_limbs, .int p0_size])), (a_p0_limbs, .inl (cJ, 160, .inr (.inl p0_limbs))), (a_p1, .inr (5, [.ref a_p1_limbs, .int p1_size])), (a_p1_limbs, .inl (cJ, 160, .inr (.inl p1_limbs)))] → va_S A s.heap H locs → lv_has ls 5 [(0, .ref a_p0)] → W p l e (rmz 1 21) s m ar below meth c H locs 0 0 Q (F0 m 54 ls []) := by
    intro p0_size p0_limbs H locs ls hf hP hD hS hl
    unfold f_X4_minus_B54 at hf
    refine lv_aload_n hx hb dX4_minus_54 rfl (lv_at hl 0 rfl) ?_
    obtain ⟨u1, hu2, hf⟩ := bdE hf
    refine cV_V (ws' := [(a_p0, .inr (5, [.ref a_p0_limbs, .int u1])), (a_p0_limbs, .inl (cJ, 160, .inr (.inl p0_limbs))), (a_p1, .inr (5, [.ref a_p1_limbs, .int p1_size])), (a_p1_limbs, .inl (cJ, 160, .inr (.inl p1_limbs)))]) (rest := []) S hK hN hA hP hD hS (c_X4_trim l D cI cJ a_p0 a_p0_limbs  p0_size p0_limbs u1 hu2) mwX4_trim miX4_trim kmX4_19 [0, 1] rfl (by decide) rfl rfl rfl 0 rfl rfl ⟨Nat.le_of_ble_eq_true rfl, Nat.le_of_ble_eq_true rfl⟩ ⟨Nat.zero_le _, Nat.zero_le _⟩ hl.1 rfl rfl (Nat.le_of_ble_eq_true rfl) dX4_minus_55 (fun H locs hP hD hS => ?_)
    obtain rfl := opE hf
    exact hret H locs ls 58 dX4_minus_58 hP hD hS
  have keyL5 : ∀ (n : Nat) (v2 : Int64) (v4 : Int32) (p0_size : Int32) (p0_limbs : (Nat → Int64)) (H : Heap) (locs : List Loc) (ls : Array Slot), f_X4_minus_L5 p1_size p1_limbs n v2 v4 p0_size p0_limbs = some u → va_P D vwCl [(a_p0, .inr (5, [.ref a_p0_limbs, .int p0_size])), (a_p0_limbs, .inl (cJ, 160, .inr (.inl p0_limbs))), (a_p1, .inr (5, [.ref a_p1_limbs, .int p1_size])), (a_p1_limbs, .inl (cJ, 160, .inr (.inl p1_limbs)))] H → va_D A [(a_p0, .inr (5, [.ref a_p0_limbs, .int p0_size])), (a_p0_limbs, .inl (cJ, 160, .inr (.inl p0_limbs))), (a_p1, .inr (5, [.ref a_p1_limbs, .int p1_size])), (a_p1_limbs, .inl (cJ, 160, .inr (.inl p1_limbs)))] → va_S A s.heap H locs → lv_has ls 5 [(0, .ref a_p0), (1, .ref a_p1), (2, .long v2), (4, .int v4)] → W p l e (rmz 1 21) s m ar below meth c H locs 0 0 Q (F0 m 5 ls []) := by
    intro n
    induction n with
      | zero =>
        intro v2 v4 p0_size p0_limbs H locs ls hf
        cases hf
      | succ n ih =>
        intro v2 v4 p0_size p0_limbs H locs ls hf hP hD hS hl
        rw [f_X4_minus_L5] at hf
        refine lv_iload hx hb dX4_minus_5 (lv_at hl 3 rfl) ?_
        refine lv_aload_n hx hb dX4_minus_7 rfl (lv_at hl 0 rfl) ?_
        refine va_get (D := D) (ci := 5) (v := .int p0_size) (C := RX4) (T := TX4) (N := 2) hx hb hts uwX4 hown hK hP 0 rfl rfl 1 (by decide) (hts _ kfX4_15) (fun _ h9 => h9) rfl dX4_minus_8 ?_
        refine lv_icmp_ge (tgt := 54) hx hb dX4_minus_11 (by decide) (fun hc6 => ?_) (fun hc6 => ?_)
        · have hf := ifT hc6 hf
          exact keyB54 p0_size p0_limbs H locs ls hf hP hD hS (lv_sub hl [0] rfl)
        · have hf := ifF hc6 hf
          refine lv_lload_n hx hb dX4_minus_14 rfl (lv_at hl 2 rfl) ?_
          refine lv_aload_n hx hb dX4_minus_15 rfl (lv_at hl 0 rfl) ?_
          refine va_get (D := D) (ci := 5) (v := .ref a_p0_limbs) (C := RX4) (T := TX4) (N := 2) hx hb hts uwX4 hown hK hP 0 rfl rfl 0 (by decide) (hts _ kfX4_9) (fun _ h9 => h9) rfl dX4_minus_16 ?_
          refine lv_iload hx hb dX4_minus_19 (lv_at hl 3 rfl) ?_
          obtain ⟨hi3, hf⟩ := gdE hf
          refine va_lald hx hb hK hP 1 1 rfl rfl hi3 dX4_minus_21 ?_
          refine lv_aload_n hx hb dX4_minus_22 rfl (lv_at hl 1 rfl) ?_
          refine lv_iload hx hb dX4_minus_23 (lv_at hl 3 rfl) ?_
          obtain ⟨u4, hu5, hf⟩ := bdE hf
          refine cV_L (ws' := [(a_p0, .inr (5, [.ref a_p0_limbs, .int p0_size])), (a_p0_limbs, .inl (cJ, 160, .inr (.inl p0_limbs))), (a_p1, .inr (5, [.ref a_p1_limbs, .int p1_size])), (a_p1_limbs, .inl (cJ, 160, .inr (.inl p1_limbs)))]) (rest := [.long (p0_limbs v4.toNatClampNeg), .long v2]) S hK hN hA hP hD hS (c_X4_limb l D cI cJ a_p1 a_p1_limbs v4 p1_size p1_limbs u4 hu5) mwX4_limb miX4_limb kmX4_30 [2, 3] rfl (by decide) rfl rfl rfl 0 rfl rfl ⟨Nat.le_of_ble_eq_true rfl, Nat.le_of_ble_eq_true rfl⟩ ⟨Nat.zero_le _, Nat.zero_le _⟩ hl.1 rfl rfl (Nat.le_of_ble_eq_true rfl) dX4_minus_25 (fun H locs hP hD hS => ?_)
          refine lv_lsub hx hb dX4_minus_28 ?_
          refine lv_ladd hx hb dX4_minus_29 ?_
          refine lv_lstore_n (lv' := [(2, .long (v2 + ((p0_limbs v4.toNatClampNeg) - u4))), (0, .ref a_p0), (1, .ref a_p1), (4, .int v4)]) hx hb dX4_minus_30 rfl hl (by decide) rfl (fun ls hl => ?_)
          refine lv_aload_n hx hb dX4_minus_31 rfl (lv_at hl 1 rfl) ?_
          refine va_get (D := D) (ci := 5) (v := .ref a_p0_limbs) (C := RX4) (T := TX4) (N := 2) hx hb hts uwX4 hown hK hP 0 rfl rfl 0 (by decide) (hts _ kfX4_9) (fun _ h9 => h9) rfl dX4_minus_32 ?_
          refine lv_iload hx hb dX4_minus_35 (lv_at hl 3 rfl) ?_
          refine lv_lload_n hx hb dX4_minus_37 rfl (lv_at hl 0 rfl) ?_
          refine lv_ldc2 hx hb hown (hts _ kcX4_13) dX4_minus_38 ?_
          refine lv_land hx hb dX4_minus_41 ?_
          refine va_last hx hb hK hP hD hS 1 1 rfl rfl hi3 dX4_minus_42 (fun H locs hP hD hS => ?_)
          have hP : va_P D vwCl [(a_p0, .inr (5, [.ref a_p0_limbs, .int p0_size])), (a_p0_limbs, .inl (cJ, 160, .inr (.inl (vp_updL p0_limbs v4.toNatClampNeg ((v2 + ((p0_limbs v4.toNatClampNeg) - u4)) &&& (4294967295 : Int64)))))), (a_p1, .inr (5, [.ref a_p1_limbs, .int p1_size])), (a_p1_limbs, .inl (cJ, 160, .inr (.inl p1_limbs)))] H := hP
          have hD : va_D A [(a_p0, .inr (5, [.ref a_p0_limbs, .int p0_size])), (a_p0_limbs, .inl (cJ, 160, .inr (.inl (vp_updL p0_limbs v4.toNatClampNeg ((v2 + ((p0_limbs v4.toNatClampNeg) - u4)) &&& (4294967295 : Int64)))))), (a_p1, .inr (5, [.ref a_p1_limbs, .int p1_size])), (a_p1_limbs, .inl (cJ, 160, .inr (.inl p1_limbs)))] := hD
          refine lv_lload_n hx hb dX4_minus_43 rfl (lv_at hl 0 rfl) ?_
          refine lv_bipush (v := 32) hx hb dX4_minus_44 (by decide) ?_
          refine lv_lshr (v := lsr (v2 + ((p0_limbs v4.toNatClampNeg) - u4)) (32 : Int32)) hx hb dX4_minus_46 rfl ?_
          refine lv_lstore_n (lv' := [(2, .long (lsr (v2 + ((p0_limbs v4.toNatClampNeg) - u4)) (32 : Int32))), (0, .ref a_p0), (1, .ref a_p1), (4, .int v4)]) hx hb dX4_minus_47 rfl hl (by decide) rfl (fun ls hl => ?_)
          refine lv_iinc (v := v4 + (1 : Int32)) (lv' := [(4, .int (v4 + (1 : Int32))), (2, .long (lsr (v2 + ((p0_limbs v4.toNatClampNeg) - u4)) (32 : Int32))), (0, .ref a_p0), (1, .ref a_p1)]) hx hb dX4_minus_48 hl (k := 3) rfl (by rfl) (by decide) rfl (fun ls hl => ?_)
          refine lv_goto (tgt := 5) hx hb dX4_minus_51 (by decide) ?_
          exact ih (lsr (v2 + ((p0_limbs v4.toNatClampNeg) - u4)) (32 : Int32)) (v4 + (1 : Int32)) p0_size (vp_updL p0_limbs v4.toNatClampNeg ((v2 + ((p0_limbs v4.toNatClampNeg) - u4)) &&& (4294967295 : Int64))) H locs ls hf hP hD hS (lv_sub hl [2, 3, 1, 0] rfl)
  unfold f_X4_minus at hf
  refine lv_lconst (v := 0) hx hb dX4_minus_0 (by decide) ?_
  refine lv_lstore_n (lv' := [(2, .long (0 : Int64)), (0, .ref a_p0), (1, .ref a_p1)]) hx hb dX4_minus_1 rfl hl (by decide) rfl (fun ls hl => ?_)
  refine lv_iconst (v := 0) hx hb dX4_minus_2 (by decide) ?_
  refine lv_istore (lv' := [(4, .int (0 : Int32)), (2, .long (0 : Int64)), (0, .ref a_p0), (1, .ref a_p1)]) hx hb dX4_minus_3 hl (by decide) rfl (fun ls hl => ?_)
  exact keyL5 FU (0 : Int64) (0 : Int32) p0_size p0_limbs H locs ls hf hP hD hS (lv_sub hl [2, 3, 1, 0] rfl)
set_option maxRecDepth 100000 in
set_option maxHeartbeats 4000000 in
theorem c_X4_comparedWith (l : Launch) (D : va_G) (cI cJ : ClassId) (a_p0 a_p0_limbs a_p1 a_p1_limbs : Nat) (p0_size : Int32) (p0_limbs : (Nat → Int64)) (p1_size : Int32) (p1_limbs : (Nat → Int64)) (u : Int32) (hf : f_X4_comparedWith p0_size p0_limbs p1_size p1_limbs = some u) : CtI l yX4_comparedWith cX4_comparedWith 3 0 0 .int [.ref a_p0, .ref a_p1] D cI cJ [(a_p0, .inr (5, [.ref a_p0_limbs, .int p0_size])), (a_p0_limbs, .inl (cJ, 160, .inr (.inl p0_limbs))), (a_p1, .inr (5, [.ref a_p1_limbs, .int p1_size])), (a_p1_limbs, .inl (cJ, 160, .inr (.inl p1_limbs)))] [(a_p0, .inr (5, [.ref a_p0_limbs, .int p0_size])), (a_p0_limbs, .inl (cJ, 160, .inr (.inl p0_limbs))), (a_p1, .inr (5, [.ref a_p1_limbs, .int p1_size])), (a_p1_limbs, .inl (cJ, 160, .inr (.inl p1_limbs)))] u := by
  refine mkI (own := RX4) rfl (by decide +kernel) (Nat.le_of_ble_eq_true rfl) (lv := [(0, .ref a_p0), (1, .ref a_p1)]) rfl ?_
  intro p e s m below meth c Q A ls ar S hA hK hN hret H locs hP hD hS hl
  obtain ⟨hx, hb, hml, hown, hts⟩ := id S
  have keyB55 : ∀ (v2 : Int32) (H : Heap) (locs : List Loc) (ls : Array Slot), f_X4_comparedWith_B55 p0_size p0_limbs p1_size p1_limbs v2 = some u → va_P D vwCl [(a_p0, .inr (5, [.ref a_p0_limbs, .int p0_size])), (a_p0_limbs, .inl (cJ, 160, .inr (.inl p0_limbs))), (a_p1, .inr (5, [.ref a_p1_limbs, .int p1_size])), (a_p1_limbs, .inl (cJ, 160, .inr (.inl p1_limbs)))] H → va_D A [(a_p0, .inr (5, [.ref a_p0_limbs, .int p0_size])), (a_p0_limbs, .inl (cJ, 160, .inr (.inl p0_limbs))), (a_p1, .inr (5, [.ref a_p1_limbs, .int p1_size])), (a_p1_limbs, .inl (cJ, 160, .inr (.inl p1_limbs)))] → va_S A s.heap H locs → lv_has ls 3 [(0, .ref a_p0), (1, .ref a_p1), (2, .int v2)] → W p l e (rmz 0 0) s m ar below meth c H locs 0 0 Q (F0 m 55 ls []) := by
    intro v2 H locs ls hf hP hD hS hl
    unfold f_X4_comparedWith_B55 at hf
    refine lv_aload_n hx hb dX4_comparedWith_55 rfl (lv_at hl 0 rfl) ?_
    refine va_get (D := D) (ci := 5) (v := .ref a_p0_limbs) (C := RX4) (T := TX4) (N := 2) hx hb hts uwX4 hown hK hP 0 rfl rfl 0 (by decide) (hts _ kfX4_9) (fun _ h9 => h9) rfl dX4_comparedWith_56 ?_
    refine lv_iload_n hx hb dX4_comparedWith_59 rfl (lv_at hl 2 rfl) ?_
    obtain ⟨hi2, hf⟩ := gdE hf
    refine va_lald hx hb hK hP 1 1 rfl rfl hi2 dX4_comparedWith_60 ?_
    refine lv_aload_n hx hb dX4_comparedWith_61 rfl (lv_at hl 1 rfl) ?_
    refine va_get (D := D) (ci := 5) (v := .ref a_p1_limbs) (C := RX4) (T := TX4) (N := 2) hx hb hts uwX4 hown hK hP 2 rfl rfl 0 (by decide) (hts _ kfX4_9) (fun _ h9 => h9) rfl dX4_comparedWith_62 ?_
    refine lv_iload_n hx hb dX4_comparedWith_65 rfl (lv_at hl 2 rfl) ?_
    refine va_lald hx hb hK hP 3 1 rfl rfl hi2 dX4_comparedWith_66 ?_
    refine W.lcmp hx hb dX4_comparedWith_67 ?_
    refine lv_if_ge (tgt := 75) hx hb dX4_comparedWith_68 (by decide) (fun hc3 => ?_) (fun hc3 => ?_)
    · have hf := ifT hc3 hf
      refine lv_iconst (v := 1) hx hb dX4_comparedWith_75 (by decide) ?_
      obtain rfl := opE hf
      exact hret H locs ls 76 dX4_comparedWith_76 hP hD hS
    · have hf := ifF hc3 hf
      refine lv_iconst (v := -1) hx hb dX4_comparedWith_71 (by decide) ?_
      refine lv_goto (tgt := 76) hx hb dX4_comparedWith_72 (by decide) ?_
      obtain rfl := opE hf
      exact hret H locs ls 76 dX4_comparedWith_76 hP hD hS
  have keyL35 : ∀ (n : Nat) (v2 : Int32) (H : Heap) (locs : List Loc) (ls : Array Slot), f_X4_comparedWith_L35 p0_size p0_limbs p1_size p1_limbs n v2 = some u → va_P D vwCl [(a_p0, .inr (5, [.ref a_p0_limbs, .int p0_size])), (a_p0_limbs, .inl (cJ, 160, .inr (.inl p0_limbs))), (a_p1, .inr (5, [.ref a_p1_limbs, .int p1_size])), (a_p1_limbs, .inl (cJ, 160, .inr (.inl p1_limbs)))] H → va_D A [(a_p0, .inr (5, [.ref a_p0_limbs, .int p0_size])), (a_p0_limbs, .inl (cJ, 160, .inr (.inl p0_limbs))), (a_p1, .inr (5, [.ref a_p1_limbs, .int p1_size])), (a_p1_limbs, .inl (cJ, 160, .inr (.inl p1_limbs)))] → va_S A s.heap H locs → lv_has ls 3 [(0, .ref a_p0), (1, .ref a_p1), (2, .int v2)] → W p l e (rmz 0 0) s m ar below meth c H locs 0 0 Q (F0 m 35 ls []) := by
    intro n
    induction n with
      | zero =>
        intro v2 H locs ls hf
        cases hf
      | succ n ih =>
        intro v2 H locs ls hf hP hD hS hl
        rw [f_X4_comparedWith_L35] at hf
        refine lv_iload_n hx hb dX4_comparedWith_35 rfl (lv_at hl 2 rfl) ?_
        refine lv_if_lt (tgt := 83) hx hb dX4_comparedWith_36 (by decide) (fun hc5 => ?_) (fun hc5 => ?_)
        · have hf := ifT hc5 hf
          refine lv_iconst (v := 0) hx hb dX4_comparedWith_83 (by decide) ?_
          obtain rfl := opE hf
          exact hret H locs ls 84 dX4_comparedWith_84 hP hD hS
        · have hf := ifF hc5 hf
          refine lv_aload_n hx hb dX4_comparedWith_39 rfl (lv_at hl 0 rfl) ?_
          refine va_get (D := D) (ci := 5) (v := .ref a_p0_limbs) (C := RX4) (T := TX4) (N := 2) hx hb hts uwX4 hown hK hP 0 rfl rfl 0 (by decide) (hts _ kfX4_9) (fun _ h9 => h9) rfl dX4_comparedWith_40 ?_
          refine lv_iload_n hx hb dX4_comparedWith_43 rfl (lv_at hl 2 rfl) ?_
          obtain ⟨hi1, hf⟩ := gdE hf
          refine va_lald hx hb hK hP 1 1 rfl rfl hi1 dX4_comparedWith_44 ?_
          refine lv_aload_n hx hb dX4_comparedWith_45 rfl (lv_at hl 1 rfl) ?_
          refine va_get (D := D) (ci := 5) (v := .ref a_p1_limbs) (C := RX4) (T := TX4) (N := 2) hx hb hts uwX4 hown hK hP 2 rfl rfl 0 (by decide) (hts _ kfX4_9) (fun _ h9 => h9) rfl dX4_comparedWith_46 ?_
          refine lv_iload_n hx hb dX4_comparedWith_49 rfl (lv_at hl 2 rfl) ?_
          refine va_lald hx hb hK hP 3 1 rfl rfl hi1 dX4_comparedWith_50 ?_
          refine W.lcmp hx hb dX4_comparedWith_51 ?_
          refine lv_if_eq (tgt := 77) hx hb dX4_comparedWith_52 (by decide) (fun hc4 => ?_) (fun hc4 => ?_)
          · have hf := ifT hc4 hf
            refine lv_iinc (v := v2 + (-1 : Int32)) (lv' := [(2, .int (v2 + (-1 : Int32))), (0, .ref a_p0), (1, .ref a_p1)]) hx hb dX4_comparedWith_77 hl (k := 2) rfl (by rfl) (by decide) rfl (fun ls hl => ?_)
            refine lv_goto (tgt := 35) hx hb dX4_comparedWith_80 (by decide) ?_
            exact ih (v2 + (-1 : Int32)) H locs ls hf hP hD hS (lv_sub hl [1, 2, 0] rfl)
          · have hf := ifF hc4 hf
            exact keyB55 v2 H locs ls hf hP hD hS (lv_sub hl [0, 1, 2] rfl)
  unfold f_X4_comparedWith at hf
  refine lv_aload_n hx hb dX4_comparedWith_0 rfl (lv_at hl 0 rfl) ?_
  refine va_get (D := D) (ci := 5) (v := .int p0_size) (C := RX4) (T := TX4) (N := 2) hx hb hts uwX4 hown hK hP 0 rfl rfl 1 (by decide) (hts _ kfX4_15) (fun _ h9 => h9) rfl dX4_comparedWith_1 ?_
  refine lv_aload_n hx hb dX4_comparedWith_4 rfl (lv_at hl 1 rfl) ?_
  refine va_get (D := D) (ci := 5) (v := .int p1_size) (C := RX4) (T := TX4) (N := 2) hx hb hts uwX4 hown hK hP 2 rfl rfl 1 (by decide) (hts _ kfX4_15) (fun _ h9 => h9) rfl dX4_comparedWith_5 ?_
  refine lv_icmp_eq (tgt := 28) hx hb dX4_comparedWith_8 (by decide) (fun hc7 => ?_) (fun hc7 => ?_)
  · have hf := ifT hc7 hf
    refine lv_aload_n hx hb dX4_comparedWith_28 rfl (lv_at hl 0 rfl) ?_
    refine va_get (D := D) (ci := 5) (v := .int p0_size) (C := RX4) (T := TX4) (N := 2) hx hb hts uwX4 hown hK hP 0 rfl rfl 1 (by decide) (hts _ kfX4_15) (fun _ h9 => h9) rfl dX4_comparedWith_29 ?_
    refine lv_iconst (v := 1) hx hb dX4_comparedWith_32 (by decide) ?_
    refine lv_isub hx hb dX4_comparedWith_33 ?_
    refine lv_istore_n (lv' := [(2, .int (p0_size - (1 : Int32))), (0, .ref a_p0), (1, .ref a_p1)]) hx hb dX4_comparedWith_34 rfl hl (by decide) rfl (fun ls hl => ?_)
    exact keyL35 FU (p0_size - (1 : Int32)) H locs ls hf hP hD hS (lv_sub hl [1, 2, 0] rfl)
  · have hf := ifF hc7 hf
    refine lv_aload_n hx hb dX4_comparedWith_11 rfl (lv_at hl 0 rfl) ?_
    refine va_get (D := D) (ci := 5) (v := .int p0_size) (C := RX4) (T := TX4) (N := 2) hx hb hts uwX4 hown hK hP 0 rfl rfl 1 (by decide) (hts _ kfX4_15) (fun _ h9 => h9) rfl dX4_comparedWith_12 ?_
    refine lv_aload_n hx hb dX4_comparedWith_15 rfl (lv_at hl 1 rfl) ?_
    refine va_get (D := D) (ci := 5) (v := .int p1_size) (C := RX4) (T := TX4) (N := 2) hx hb hts uwX4 hown hK hP 2 rfl rfl 1 (by decide) (hts _ kfX4_15) (fun _ h9 => h9) rfl dX4_comparedWith_16 ?_
    refine lv_icmp_ge (tgt := 26) hx hb dX4_comparedWith_19 (by decide) (fun hc6 => ?_) (fun hc6 => ?_)
    · have hf := ifT hc6 hf
      refine lv_iconst (v := 1) hx hb dX4_comparedWith_26 (by decide) ?_
      obtain rfl := opE hf
      exact hret H locs ls 27 dX4_comparedWith_27 hP hD hS
    · have hf := ifF hc6 hf
      refine lv_iconst (v := -1) hx hb dX4_comparedWith_22 (by decide) ?_
      refine lv_goto (tgt := 27) hx hb dX4_comparedWith_23 (by decide) ?_
      obtain rfl := opE hf
      exact hret H locs ls 27 dX4_comparedWith_27 hP hD hS
set_option maxRecDepth 100000 in
set_option maxHeartbeats 4000000 in
theorem c_J6_numberOfLeadingZeros_0f7a4 (l : Launch) (D : va_G) (cI cJ : ClassId) (p0 : Int32)  (u : Int32) (hf : f_J6_numberOfLeadingZeros_0f7a4 p0 = some u) : CtI l yJ6_numberOfLeadingZeros_0f7a4 cJ6_numberOfLeadingZeros_0f7a4 2 0 0 .int [.int p0] D cI cJ [] [] u := by
  refine mkI (own := RJ6) rfl (by decide +kernel) (Nat.le_of_ble_eq_true rfl) (lv := [(0, .int p0)]) rfl ?_
  intro p e s m below meth c Q A ls ar S hA hK hN hret H locs hP hD hS hl
  obtain ⟨hx, hb, hml, hown, hts⟩ := id S
  have keyB61 : ∀ (v0 : Int32) (v1 : Int32) (H : Heap) (locs : List Loc) (ls : Array Slot), f_J6_numberOfLeadingZeros_0f7a4_B61 v0 v1 = some u → va_P D vwCl [] H → va_D A [] → va_S A s.heap H locs → lv_has ls 2 [(0, .int v0), (1, .int v1)] → W p l e (rmz 0 0) s m ar below meth c H locs 0 0 Q (F0 m 61 ls []) := by
    intro v0 v1 H locs ls hf hP hD hS hl
    unfold f_J6_numberOfLeadingZeros_0f7a4_B61 at hf
    refine lv_iload_n hx hb dJ6_numberOfLeadingZeros_0f7a4_61 rfl (lv_at hl 0 rfl) ?_
    refine lv_iconst (v := 4) hx hb dJ6_numberOfLeadingZeros_0f7a4_62 (by decide) ?_
    refine lv_icmp_lt (tgt := 73) hx hb dJ6_numberOfLeadingZeros_0f7a4_63 (by decide) (fun hc1 => ?_) (fun hc1 => ?_)
    · have hf := ifT hc1 hf
      refine lv_iload_n hx hb dJ6_numberOfLeadingZeros_0f7a4_73 rfl (lv_at hl 1 rfl) ?_
      refine lv_iload_n hx hb dJ6_numberOfLeadingZeros_0f7a4_74 rfl (lv_at hl 0 rfl) ?_
      refine lv_iconst (v := 1) hx hb dJ6_numberOfLeadingZeros_0f7a4_75 (by decide) ?_
      refine lv_iushr (v := ius v0 (1 : Int32)) hx hb dJ6_numberOfLeadingZeros_0f7a4_76 rfl ?_
      refine lv_isub hx hb dJ6_numberOfLeadingZeros_0f7a4_77 ?_
      obtain rfl := opE hf
      exact hret H locs ls 78 dJ6_numberOfLeadingZeros_0f7a4_78 hP hD hS
    · have hf := ifF hc1 hf
      refine lv_iinc (v := v1 + (-2 : Int32)) (lv' := [(1, .int (v1 + (-2 : Int32))), (0, .int v0)]) hx hb dJ6_numberOfLeadingZeros_0f7a4_66 hl (k := 1) rfl (by rfl) (by decide) rfl (fun ls hl => ?_)
      refine lv_iload_n hx hb dJ6_numberOfLeadingZeros_0f7a4_69 rfl (lv_at hl 1 rfl) ?_
      refine lv_iconst (v := 2) hx hb dJ6_numberOfLeadingZeros_0f7a4_70 (by decide) ?_
      refine lv_iushr (v := ius v0 (2 : Int32)) hx hb dJ6_numberOfLeadingZeros_0f7a4_71 rfl ?_
      refine lv_istore_n (lv' := [(0, .int (ius v0 (2 : Int32))), (1, .int (v1 + (-2 : Int32)))]) hx hb dJ6_numberOfLeadingZeros_0f7a4_72 rfl hl (by decide) rfl (fun ls hl => ?_)
      refine lv_iload_n hx hb dJ6_numberOfLeadingZeros_0f7a4_73 rfl (lv_at hl 1 rfl) ?_
      refine lv_iload_n hx hb dJ6_numberOfLeadingZeros_0f7a4_74 rfl (lv_at hl 0 rfl) ?_
      refine lv_iconst (v := 1) hx hb dJ6_numberOfLeadingZeros_0f7a4_75 (by decide) ?_
      refine lv_iushr (v := ius (ius v0 (2 : Int32)) (1 : Int32)) hx hb dJ6_numberOfLeadingZeros_0f7a4_76 rfl ?_
      refine lv_isub hx hb dJ6_numberOfLeadingZeros_0f7a4_77 ?_
      obtain rfl := opE hf
      exact hret H locs ls 78 dJ6_numberOfLeadingZeros_0f7a4_78 hP hD hS
  have keyB48 : ∀ (v0 : Int32) (v1 : Int32) (H : Heap) (locs : List Loc) (ls : Array Slot), f_J6_numberOfLeadingZeros_0f7a4_B48 v0 v1 = some u → va_P D vwCl [] H → va_D A [] → va_S A s.heap H locs → lv_has ls 2 [(0, .int v0), (1, .int v1)] → W p l e (rmz 0 0) s m ar below meth c H locs 0 0 Q (F0 m 48 ls []) := by
    intro v0 v1 H locs ls hf hP hD hS hl
    unfold f_J6_numberOfLeadingZeros_0f7a4_B48 at hf
    refine lv_iload_n hx hb dJ6_numberOfLeadingZeros_0f7a4_48 rfl (lv_at hl 0 rfl) ?_
    refine lv_bipush (v := 16) hx hb dJ6_numberOfLeadingZeros_0f7a4_49 (by decide) ?_
    refine lv_icmp_lt (tgt := 61) hx hb dJ6_numberOfLeadingZeros_0f7a4_51 (by decide) (fun hc2 => ?_) (fun hc2 => ?_)
    · have hf := ifT hc2 hf
      exact keyB61 v0 v1 H locs ls hf hP hD hS (lv_sub hl [0, 1] rfl)
    · have hf := ifF hc2 hf
      refine lv_iinc (v := v1 + (-4 : Int32)) (lv' := [(1, .int (v1 + (-4 : Int32))), (0, .int v0)]) hx hb dJ6_numberOfLeadingZeros_0f7a4_54 hl (k := 1) rfl (by rfl) (by decide) rfl (fun ls hl => ?_)
      refine lv_iload_n hx hb dJ6_numberOfLeadingZeros_0f7a4_57 rfl (lv_at hl 1 rfl) ?_
      refine lv_iconst (v := 4) hx hb dJ6_numberOfLeadingZeros_0f7a4_58 (by decide) ?_
      refine lv_iushr (v := ius v0 (4 : Int32)) hx hb dJ6_numberOfLeadingZeros_0f7a4_59 rfl ?_
      refine lv_istore_n (lv' := [(0, .int (ius v0 (4 : Int32))), (1, .int (v1 + (-4 : Int32)))]) hx hb dJ6_numberOfLeadingZeros_0f7a4_60 rfl hl (by decide) rfl (fun ls hl => ?_)
      exact keyB61 (ius v0 (4 : Int32)) (v1 + (-4 : Int32)) H locs ls hf hP hD hS (lv_sub hl [0, 1] rfl)
  have keyB33 : ∀ (v0 : Int32) (v1 : Int32) (H : Heap) (locs : List Loc) (ls : Array Slot), f_J6_numberOfLeadingZeros_0f7a4_B33 v0 v1 = some u → va_P D vwCl [] H → va_D A [] → va_S A s.heap H locs → lv_has ls 2 [(0, .int v0), (1, .int v1)] → W p l e (rmz 0 0) s m ar below meth c H locs 0 0 Q (F0 m 33 ls []) := by
    intro v0 v1 H locs ls hf hP hD hS hl
    unfold f_J6_numberOfLeadingZeros_0f7a4_B33 at hf
    refine lv_iload_n hx hb dJ6_numberOfLeadingZeros_0f7a4_33 rfl (lv_at hl 0 rfl) ?_
    refine lv_sipush (v := 256) hx hb dJ6_numberOfLeadingZeros_0f7a4_34 (by decide) ?_
    refine lv_icmp_lt (tgt := 48) hx hb dJ6_numberOfLeadingZeros_0f7a4_37 (by decide) (fun hc3 => ?_) (fun hc3 => ?_)
    · have hf := ifT hc3 hf
      exact keyB48 v0 v1 H locs ls hf hP hD hS (lv_sub hl [0, 1] rfl)
    · have hf := ifF hc3 hf
      refine lv_iinc (v := v1 + (-8 : Int32)) (lv' := [(1, .int (v1 + (-8 : Int32))), (0, .int v0)]) hx hb dJ6_numberOfLeadingZeros_0f7a4_40 hl (k := 1) rfl (by rfl) (by decide) rfl (fun ls hl => ?_)
      refine lv_iload_n hx hb dJ6_numberOfLeadingZeros_0f7a4_43 rfl (lv_at hl 1 rfl) ?_
      refine lv_bipush (v := 8) hx hb dJ6_numberOfLeadingZeros_0f7a4_44 (by decide) ?_
      refine lv_iushr (v := ius v0 (8 : Int32)) hx hb dJ6_numberOfLeadingZeros_0f7a4_46 rfl ?_
      refine lv_istore_n (lv' := [(0, .int (ius v0 (8 : Int32))), (1, .int (v1 + (-8 : Int32)))]) hx hb dJ6_numberOfLeadingZeros_0f7a4_47 rfl hl (by decide) rfl (fun ls hl => ?_)
      exact keyB48 (ius v0 (8 : Int32)) (v1 + (-8 : Int32)) H locs ls hf hP hD hS (lv_sub hl [0, 1] rfl)
  unfold f_J6_numberOfLeadingZeros_0f7a4 at hf
  refine lv_iload_n hx hb dJ6_numberOfLeadingZeros_0f7a4_0 rfl (lv_at hl 0 rfl) ?_
  refine lv_if_gt (tgt := 15) hx hb dJ6_numberOfLeadingZeros_0f7a4_1 (by decide) (fun hc6 => ?_) (fun hc6 => ?_)
  · have hf := ifT hc6 hf
    refine lv_bipush (v := 31) hx hb dJ6_numberOfLeadingZeros_0f7a4_15 (by decide) ?_
    refine lv_istore_n (lv' := [(1, .int (31 : Int32)), (0, .int p0)]) hx hb dJ6_numberOfLeadingZeros_0f7a4_17 rfl hl (by decide) rfl (fun ls hl => ?_)
    refine lv_iload_n hx hb dJ6_numberOfLeadingZeros_0f7a4_18 rfl (lv_at hl 1 rfl) ?_
    refine lv_ldcw hx hb hown (hts _ kcJ6_264) dJ6_numberOfLeadingZeros_0f7a4_19 ?_
    refine lv_icmp_lt (tgt := 33) hx hb dJ6_numberOfLeadingZeros_0f7a4_22 (by decide) (fun hc4 => ?_) (fun hc4 => ?_)
    · have hf := ifT hc4 hf
      exact keyB33 p0 (31 : Int32) H locs ls hf hP hD hS (lv_sub hl [1, 0] rfl)
    · have hf := ifF hc4 hf
      refine lv_iinc (v := (31 : Int32) + (-16 : Int32)) (lv' := [(1, .int ((31 : Int32) + (-16 : Int32))), (0, .int p0)]) hx hb dJ6_numberOfLeadingZeros_0f7a4_25 hl (k := 0) rfl (by rfl) (by decide) rfl (fun ls hl => ?_)
      refine lv_iload_n hx hb dJ6_numberOfLeadingZeros_0f7a4_28 rfl (lv_at hl 1 rfl) ?_
      refine lv_bipush (v := 16) hx hb dJ6_numberOfLeadingZeros_0f7a4_29 (by decide) ?_
      refine lv_iushr (v := ius p0 (16 : Int32)) hx hb dJ6_numberOfLeadingZeros_0f7a4_31 rfl ?_
      refine lv_istore_n (lv' := [(0, .int (ius p0 (16 : Int32))), (1, .int ((31 : Int32) + (-16 : Int32)))]) hx hb dJ6_numberOfLeadingZeros_0f7a4_32 rfl hl (by decide) rfl (fun ls hl => ?_)
      exact keyB33 (ius p0 (16 : Int32)) ((31 : Int32) + (-16 : Int32)) H locs ls hf hP hD hS (lv_sub hl [0, 1] rfl)
  · have hf := ifF hc6 hf
    refine lv_iload_n hx hb dJ6_numberOfLeadingZeros_0f7a4_4 rfl (lv_at hl 0 rfl) ?_
    refine lv_if_ne (tgt := 13) hx hb dJ6_numberOfLeadingZeros_0f7a4_5 (by decide) (fun hc5 => ?_) (fun hc5 => ?_)
    · have hf := ifF hc5 hf
      refine lv_iconst (v := 0) hx hb dJ6_numberOfLeadingZeros_0f7a4_13 (by decide) ?_
      obtain rfl := opE hf
      exact hret H locs ls 14 dJ6_numberOfLeadingZeros_0f7a4_14 hP hD hS
    · have hf := ifT hc5 hf
      refine lv_bipush (v := 32) hx hb dJ6_numberOfLeadingZeros_0f7a4_8 (by decide) ?_
      refine lv_goto (tgt := 14) hx hb dJ6_numberOfLeadingZeros_0f7a4_10 (by decide) ?_
      obtain rfl := opE hf
      exact hret H locs ls 14 dJ6_numberOfLeadingZeros_0f7a4_14 hP hD hS
set_option maxRecDepth 100000 in
set_option maxHeartbeats 4000000 in
theorem c_J13_numberOfLeadingZeros_95d88 (l : Launch) (D : va_G) (cI cJ : ClassId) (p0 : Int64)  (u : Int32) (hf : f_J13_numberOfLeadingZeros_95d88 p0 = some u) : CtI l yJ13_numberOfLeadingZeros_95d88 cJ13_numberOfLeadingZeros_95d88 3 1 21 .int [.long p0] D cI cJ [] [] u := by
  refine mkI (own := RJ13) rfl (by decide +kernel) (Nat.le_of_ble_eq_true rfl) (lv := [(0, .long p0)]) rfl ?_
  intro p e s m below meth c Q A ls ar S hA hK hN hret H locs hP hD hS hl
  obtain ⟨hx, hb, hml, hown, hts⟩ := id S
  unfold f_J13_numberOfLeadingZeros_95d88 at hf
  refine lv_lload_n hx hb dJ13_numberOfLeadingZeros_95d88_0 rfl (lv_at hl 0 rfl) ?_
  refine lv_bipush (v := 32) hx hb dJ13_numberOfLeadingZeros_95d88_1 (by decide) ?_
  refine lv_lushr (v := lus p0 (32 : Int32)) hx hb dJ13_numberOfLeadingZeros_95d88_3 rfl ?_
  refine lv_l2i (v := (lus p0 (32 : Int32)).toInt32) hx hb dJ13_numberOfLeadingZeros_95d88_4 rfl ?_
  refine lv_istore_n (lv' := [(2, .int ((lus p0 (32 : Int32)).toInt32)), (0, .long p0)]) hx hb dJ13_numberOfLeadingZeros_95d88_5 rfl hl (by decide) rfl (fun ls hl => ?_)
  refine lv_iload_n hx hb dJ13_numberOfLeadingZeros_95d88_6 rfl (lv_at hl 0 rfl) ?_
  refine lv_if_ne (tgt := 21) hx hb dJ13_numberOfLeadingZeros_95d88_7 (by decide) (fun hc5 => ?_) (fun hc5 => ?_)
  · have hf := ifF hc5 hf
    refine lv_iload_n hx hb dJ13_numberOfLeadingZeros_95d88_21 rfl (lv_at hl 0 rfl) ?_
    obtain ⟨u1, hu2, hf⟩ := bdE hf
    refine cS_I (ws' := []) (rest := []) S hK hN hA hP hD hS (c_J6_numberOfLeadingZeros_0f7a4 l D cI cJ  ((lus p0 (32 : Int32)).toInt32)  u1 hu2) mwJ6_numberOfLeadingZeros_0f7a4 msJ6_numberOfLeadingZeros_0f7a4 kmJ13_308 [] rfl (by decide) rfl rfl rfl ⟨Nat.le_of_ble_eq_true rfl, Nat.le_of_ble_eq_true rfl⟩ ⟨Nat.zero_le _, Nat.zero_le _⟩ hl.1 rfl rfl (Nat.le_of_ble_eq_true rfl) dJ13_numberOfLeadingZeros_95d88_22 (fun H locs hP hD hS => ?_)
    obtain rfl := opE hf
    exact hret H locs ls 25 dJ13_numberOfLeadingZeros_95d88_25 hP hD hS
  · have hf := ifT hc5 hf
    refine lv_bipush (v := 32) hx hb dJ13_numberOfLeadingZeros_95d88_10 (by decide) ?_
    refine lv_lload_n hx hb dJ13_numberOfLeadingZeros_95d88_12 rfl (lv_at hl 1 rfl) ?_
    refine lv_l2i (v := p0.toInt32) hx hb dJ13_numberOfLeadingZeros_95d88_13 rfl ?_
    obtain ⟨u3, hu4, hf⟩ := bdE hf
    refine cS_I (ws' := []) (rest := [.int (32 : Int32)]) S hK hN hA hP hD hS (c_J6_numberOfLeadingZeros_0f7a4 l D cI cJ  p0.toInt32  u3 hu4) mwJ6_numberOfLeadingZeros_0f7a4 msJ6_numberOfLeadingZeros_0f7a4 kmJ13_308 [] rfl (by decide) rfl rfl rfl ⟨Nat.le_of_ble_eq_true rfl, Nat.le_of_ble_eq_true rfl⟩ ⟨Nat.zero_le _, Nat.zero_le _⟩ hl.1 rfl rfl (Nat.le_of_ble_eq_true rfl) dJ13_numberOfLeadingZeros_95d88_14 (fun H locs hP hD hS => ?_)
    refine lv_iadd hx hb dJ13_numberOfLeadingZeros_95d88_17 ?_
    refine lv_goto (tgt := 25) hx hb dJ13_numberOfLeadingZeros_95d88_18 (by decide) ?_
    obtain rfl := opE hf
    exact hret H locs ls 25 dJ13_numberOfLeadingZeros_95d88_25 hP hD hS
set_option maxRecDepth 100000 in
set_option maxHeartbeats 4000000 in
theorem c_X4_bits (l : Launch) (D : va_G) (cI cJ : ClassId) (a_p0 a_p0_limbs : Nat) (p0_size : Int32) (p0_limbs : (Nat → Int64)) (u : Int32) (hf : f_X4_bits p0_size p0_limbs = some u) : CtI l yX4_bits cX4_bits 1 2 43 .int [.ref a_p0] D cI cJ [(a_p0, .inr (5, [.ref a_p0_limbs, .int p0_size])), (a_p0_limbs, .inl (cJ, 160, .inr (.inl p0_limbs)))] [(a_p0, .inr (5, [.ref a_p0_limbs, .int p0_size])), (a_p0_limbs, .inl (cJ, 160, .inr (.inl p0_limbs)))] u := by
  refine mkI (own := RX4) rfl (by decide +kernel) (Nat.le_of_ble_eq_true rfl) (lv := [(0, .ref a_p0)]) rfl ?_
  intro p e s m below meth c Q A ls ar S hA hK hN hret H locs hP hD hS hl
  obtain ⟨hx, hb, hml, hown, hts⟩ := id S
  unfold f_X4_bits at hf
  refine lv_bipush (v := 32) hx hb dX4_bits_0 (by decide) ?_
  refine lv_aload_n hx hb dX4_bits_2 rfl (lv_at hl 0 rfl) ?_
  refine va_get (D := D) (ci := 5) (v := .int p0_size) (C := RX4) (T := TX4) (N := 2) hx hb hts uwX4 hown hK hP 0 rfl rfl 1 (by decide) (hts _ kfX4_15) (fun _ h9 => h9) rfl dX4_bits_3 ?_
  refine lv_imul hx hb dX4_bits_6 ?_
  refine lv_aload_n hx hb dX4_bits_7 rfl (lv_at hl 0 rfl) ?_
  refine va_get (D := D) (ci := 5) (v := .int p0_size) (C := RX4) (T := TX4) (N := 2) hx hb hts uwX4 hown hK hP 0 rfl rfl 1 (by decide) (hts _ kfX4_15) (fun _ h9 => h9) rfl dX4_bits_8 ?_
  refine lv_if_ne (tgt := 18) hx hb dX4_bits_11 (by decide) (fun hc5 => ?_) (fun hc5 => ?_)
  · have hf := ifF hc5 hf
    refine lv_aload_n hx hb dX4_bits_18 rfl (lv_at hl 0 rfl) ?_
    refine lv_aload_n hx hb dX4_bits_19 rfl (lv_at hl 0 rfl) ?_
    refine va_get (D := D) (ci := 5) (v := .int p0_size) (C := RX4) (T := TX4) (N := 2) hx hb hts uwX4 hown hK hP 0 rfl rfl 1 (by decide) (hts _ kfX4_15) (fun _ h9 => h9) rfl dX4_bits_20 ?_
    refine lv_iconst (v := 1) hx hb dX4_bits_23 (by decide) ?_
    refine lv_isub hx hb dX4_bits_24 ?_
    obtain ⟨u1, hu2, hf⟩ := bdE hf
    refine cV_L (ws' := [(a_p0, .inr (5, [.ref a_p0_limbs, .int p0_size])), (a_p0_limbs, .inl (cJ, 160, .inr (.inl p0_limbs)))]) (rest := [.int ((32 : Int32) * p0_size)]) S hK hN hA hP hD hS (c_X4_limb l D cI cJ a_p0 a_p0_limbs (p0_size - (1 : Int32)) p0_size p0_limbs u1 hu2) mwX4_limb miX4_limb kmX4_30 [0, 1] rfl (by decide) rfl rfl rfl 0 rfl rfl ⟨Nat.le_of_ble_eq_true rfl, Nat.le_of_ble_eq_true rfl⟩ ⟨Nat.zero_le _, Nat.zero_le _⟩ hl.1 rfl rfl (Nat.le_of_ble_eq_true rfl) dX4_bits_25 (fun H locs hP hD hS => ?_)
    obtain ⟨u3, hu4, hf⟩ := bdE hf
    refine cS_I (ws' := [(a_p0, .inr (5, [.ref a_p0_limbs, .int p0_size])), (a_p0_limbs, .inl (cJ, 160, .inr (.inl p0_limbs)))]) (rest := [.int ((32 : Int32) * p0_size)]) S hK hN hA hP hD hS (c_J13_numberOfLeadingZeros_95d88 l D cI cJ  u1  u3 hu4) mwJ13_numberOfLeadingZeros_95d88 msJ13_numberOfLeadingZeros_95d88 kmX4_40 [] rfl (by decide) rfl rfl rfl ⟨Nat.le_of_ble_eq_true rfl, Nat.le_of_ble_eq_true rfl⟩ ⟨Nat.zero_le _, Nat.zero_le _⟩ hl.1 rfl rfl (Nat.le_of_ble_eq_true rfl) dX4_bits_28 (fun H locs hP hD hS => ?_)
    refine lv_bipush (v := 32) hx hb dX4_bits_31 (by decide) ?_
    refine lv_isub hx hb dX4_bits_33 ?_
    refine lv_isub hx hb dX4_bits_34 ?_
    obtain rfl := opE hf
    exact hret H locs ls 35 dX4_bits_35 hP hD hS
  · have hf := ifT hc5 hf
    refine lv_iconst (v := 0) hx hb dX4_bits_14 (by decide) ?_
    refine lv_goto (tgt := 34) hx hb dX4_bits_15 (by decide) ?_
    refine lv_isub hx hb dX4_bits_34 ?_
    obtain rfl := opE hf
    exact hret H locs ls 35 dX4_bits_35 hP hD hS
set_option maxRecDepth 100000 in
set_option maxHeartbeats 4000000 in
theorem c_X4_bitsFrom (l : Launch) (D : va_G) (cI cJ : ClassId) (a_p0 a_p0_limbs : Nat) (p1 : Int32) (p0_size : Int32) (p0_limbs : (Nat → Int64)) (u : Int64) (hf : f_X4_bitsFrom p0_size p0_limbs p1 = some u) : CtL l yX4_bitsFrom cX4_bitsFrom 6 1 21 [.ref a_p0, .int p1] D cI cJ [(a_p0, .inr (5, [.ref a_p0_limbs, .int p0_size])), (a_p0_limbs, .inl (cJ, 160, .inr (.inl p0_limbs)))] [(a_p0, .inr (5, [.ref a_p0_limbs, .int p0_size])), (a_p0_limbs, .inl (cJ, 160, .inr (.inl p0_limbs)))] u := by
  refine mkL (own := RX4) rfl (by decide +kernel) (Nat.le_of_ble_eq_true rfl) (lv := [(0, .ref a_p0), (1, .int p1)]) rfl ?_
  intro p e s m below meth c Q A ls ar S hA hK hN hret H locs hP hD hS hl
  obtain ⟨hx, hb, hml, hown, hts⟩ := id S
  unfold f_X4_bitsFrom at hf
  refine lv_iload_n hx hb dX4_bitsFrom_0 rfl (lv_at hl 1 rfl) ?_
  refine lv_iconst (v := 5) hx hb dX4_bitsFrom_1 (by decide) ?_
  refine lv_ishr hx hb dX4_bitsFrom_2 ?_
  refine lv_istore_n (lv' := [(2, .int (isr p1 (5 : Int32))), (0, .ref a_p0), (1, .int p1)]) hx hb dX4_bitsFrom_3 rfl hl (by decide) rfl (fun ls hl => ?_)
  refine lv_iload_n hx hb dX4_bitsFrom_4 rfl (lv_at hl 2 rfl) ?_
  refine lv_bipush (v := 31) hx hb dX4_bitsFrom_5 (by decide) ?_
  refine lv_iand hx hb dX4_bitsFrom_7 ?_
  refine lv_istore_n (lv' := [(3, .int (p1 &&& (31 : Int32))), (2, .int (isr p1 (5 : Int32))), (0, .ref a_p0), (1, .int p1)]) hx hb dX4_bitsFrom_8 rfl hl (by decide) rfl (fun ls hl => ?_)
  refine lv_aload_n hx hb dX4_bitsFrom_9 rfl (lv_at hl 2 rfl) ?_
  refine lv_iload_n hx hb dX4_bitsFrom_10 rfl (lv_at hl 1 rfl) ?_
  obtain ⟨u1, hu2, hf⟩ := bdE hf
  refine cV_L (ws' := [(a_p0, .inr (5, [.ref a_p0_limbs, .int p0_size])), (a_p0_limbs, .inl (cJ, 160, .inr (.inl p0_limbs)))]) (rest := []) S hK hN hA hP hD hS (c_X4_limb l D cI cJ a_p0 a_p0_limbs (isr p1 (5 : Int32)) p0_size p0_limbs u1 hu2) mwX4_limb miX4_limb kmX4_30 [0, 1] rfl (by decide) rfl rfl rfl 0 rfl rfl ⟨Nat.le_of_ble_eq_true rfl, Nat.le_of_ble_eq_true rfl⟩ ⟨Nat.zero_le _, Nat.zero_le _⟩ hl.1 rfl rfl (Nat.le_of_ble_eq_true rfl) dX4_bitsFrom_11 (fun H locs hP hD hS => ?_)
  refine lv_iload_n hx hb dX4_bitsFrom_14 rfl (lv_at hl 0 rfl) ?_
  refine lv_lushr (v := lus u1 (p1 &&& (31 : Int32))) hx hb dX4_bitsFrom_15 rfl ?_
  refine lv_aload_n hx hb dX4_bitsFrom_16 rfl (lv_at hl 2 rfl) ?_
  refine lv_iload_n hx hb dX4_bitsFrom_17 rfl (lv_at hl 1 rfl) ?_
  refine lv_iconst (v := 1) hx hb dX4_bitsFrom_18 (by decide) ?_
  refine lv_iadd hx hb dX4_bitsFrom_19 ?_
  obtain ⟨u3, hu4, hf⟩ := bdE hf
  refine cV_L (ws' := [(a_p0, .inr (5, [.ref a_p0_limbs, .int p0_size])), (a_p0_limbs, .inl (cJ, 160, .inr (.inl p0_limbs)))]) (rest := [.long (lus u1 (p1 &&& (31 : Int32)))]) S hK hN hA hP hD hS (c_X4_limb l D cI cJ a_p0 a_p0_limbs ((isr p1 (5 : Int32)) + (1 : Int32)) p0_size p0_limbs u3 hu4) mwX4_limb miX4_limb kmX4_30 [0, 1] rfl (by decide) rfl rfl rfl 0 rfl rfl ⟨Nat.le_of_ble_eq_true rfl, Nat.le_of_ble_eq_true rfl⟩ ⟨Nat.zero_le _, Nat.zero_le _⟩ hl.1 rfl rfl (Nat.le_of_ble_eq_true rfl) dX4_bitsFrom_20 (fun H locs hP hD hS => ?_)
  refine lv_bipush (v := 32) hx hb dX4_bitsFrom_23 (by decide) ?_
  refine lv_iload_n hx hb dX4_bitsFrom_25 rfl (lv_at hl 0 rfl) ?_
  refine lv_isub hx hb dX4_bitsFrom_26 ?_
  refine lv_lshl (v := lsh u3 ((32 : Int32) - (p1 &&& (31 : Int32)))) hx hb dX4_bitsFrom_27 rfl ?_
  refine lv_lor hx hb dX4_bitsFrom_28 ?_
  refine lv_lstore (lv' := [(4, .long ((lus u1 (p1 &&& (31 : Int32))) ||| (lsh u3 ((32 : Int32) - (p1 &&& (31 : Int32)))))), (3, .int (p1 &&& (31 : Int32))), (2, .int (isr p1 (5 : Int32))), (0, .ref a_p0), (1, .int p1)]) hx hb dX4_bitsFrom_29 hl (by decide) rfl (fun ls hl => ?_)
  refine lv_iload_n hx hb dX4_bitsFrom_31 rfl (lv_at hl 1 rfl) ?_
  refine lv_if_ne (tgt := 40) hx hb dX4_bitsFrom_32 (by decide) (fun hc7 => ?_) (fun hc7 => ?_)
  · have hf := ifF hc7 hf
    refine lv_lload hx hb dX4_bitsFrom_40 (lv_at hl 0 rfl) ?_
    refine lv_aload_n hx hb dX4_bitsFrom_42 rfl (lv_at hl 3 rfl) ?_
    refine lv_iload_n hx hb dX4_bitsFrom_43 rfl (lv_at hl 2 rfl) ?_
    refine lv_iconst (v := 2) hx hb dX4_bitsFrom_44 (by decide) ?_
    refine lv_iadd hx hb dX4_bitsFrom_45 ?_
    obtain ⟨u5, hu6, hf⟩ := bdE hf
    refine cV_L (ws' := [(a_p0, .inr (5, [.ref a_p0_limbs, .int p0_size])), (a_p0_limbs, .inl (cJ, 160, .inr (.inl p0_limbs)))]) (rest := [.long ((lus u1 (p1 &&& (31 : Int32))) ||| (lsh u3 ((32 : Int32) - (p1 &&& (31 : Int32)))))]) S hK hN hA hP hD hS (c_X4_limb l D cI cJ a_p0 a_p0_limbs ((isr p1 (5 : Int32)) + (2 : Int32)) p0_size p0_limbs u5 hu6) mwX4_limb miX4_limb kmX4_30 [0, 1] rfl (by decide) rfl rfl rfl 0 rfl rfl ⟨Nat.le_of_ble_eq_true rfl, Nat.le_of_ble_eq_true rfl⟩ ⟨Nat.zero_le _, Nat.zero_le _⟩ hl.1 rfl rfl (Nat.le_of_ble_eq_true rfl) dX4_bitsFrom_46 (fun H locs hP hD hS => ?_)
    refine lv_bipush (v := 64) hx hb dX4_bitsFrom_49 (by decide) ?_
    refine lv_iload_n hx hb dX4_bitsFrom_51 rfl (lv_at hl 1 rfl) ?_
    refine lv_isub hx hb dX4_bitsFrom_52 ?_
    refine lv_lshl (v := lsh u5 ((64 : Int32) - (p1 &&& (31 : Int32)))) hx hb dX4_bitsFrom_53 rfl ?_
    refine lv_lor hx hb dX4_bitsFrom_54 ?_
    obtain rfl := opE hf
    exact hret H locs ls 55 dX4_bitsFrom_55 hP hD hS
  · have hf := ifT hc7 hf
    refine lv_lload hx hb dX4_bitsFrom_35 (lv_at hl 0 rfl) ?_
    refine lv_goto (tgt := 55) hx hb dX4_bitsFrom_37 (by decide) ?_
    obtain rfl := opE hf
    exact hret H locs ls 55 dX4_bitsFrom_55 hP hD hS
set_option maxRecDepth 100000 in
set_option maxHeartbeats 4000000 in
theorem c_X4_bit (l : Launch) (D : va_G) (cI cJ : ClassId) (a_p0 a_p0_limbs : Nat) (p1 : Int32) (p0_size : Int32) (p0_limbs : (Nat → Int64)) (u : Int32) (hf : f_X4_bit p0_size p0_limbs p1 = some u) : CtI l yX4_bit cX4_bit 2 1 21 .boolean [.ref a_p0, .int p1] D cI cJ [(a_p0, .inr (5, [.ref a_p0_limbs, .int p0_size])), (a_p0_limbs, .inl (cJ, 160, .inr (.inl p0_limbs)))] [(a_p0, .inr (5, [.ref a_p0_limbs, .int p0_size])), (a_p0_limbs, .inl (cJ, 160, .inr (.inl p0_limbs)))] u := by
  refine mkZ (own := RX4) rfl (by decide +kernel) (Nat.le_of_ble_eq_true rfl) (lv := [(0, .ref a_p0), (1, .int p1)]) rfl ?_
  intro p e s m below meth c Q A ls ar S hA hK hN hret H locs hP hD hS hl
  obtain ⟨hx, hb, hml, hown, hts⟩ := id S
  unfold f_X4_bit at hf
  refine lv_aload_n hx hb dX4_bit_0 rfl (lv_at hl 0 rfl) ?_
  refine lv_iload_n hx hb dX4_bit_1 rfl (lv_at hl 1 rfl) ?_
  refine lv_iconst (v := 5) hx hb dX4_bit_2 (by decide) ?_
  refine lv_ishr hx hb dX4_bit_3 ?_
  obtain ⟨u1, hu2, hf⟩ := bdE hf
  refine cV_L (ws' := [(a_p0, .inr (5, [.ref a_p0_limbs, .int p0_size])), (a_p0_limbs, .inl (cJ, 160, .inr (.inl p0_limbs)))]) (rest := []) S hK hN hA hP hD hS (c_X4_limb l D cI cJ a_p0 a_p0_limbs (isr p1 (5 : Int32)) p0_size p0_limbs u1 hu2) mwX4_limb miX4_limb kmX4_30 [0, 1] rfl (by decide) rfl rfl rfl 0 rfl rfl ⟨Nat.le_of_ble_eq_true rfl, Nat.le_of_ble_eq_true rfl⟩ ⟨Nat.zero_le _, Nat.zero_le _⟩ hl.1 rfl rfl (Nat.le_of_ble_eq_true rfl) dX4_bit_4 (fun H locs hP hD hS => ?_)
  refine lv_iload_n hx hb dX4_bit_7 rfl (lv_at hl 1 rfl) ?_
  refine lv_bipush (v := 31) hx hb dX4_bit_8 (by decide) ?_
  refine lv_iand hx hb dX4_bit_10 ?_
  refine lv_lushr (v := lus u1 (p1 &&& (31 : Int32))) hx hb dX4_bit_11 rfl ?_
  refine lv_lconst (v := 1) hx hb dX4_bit_12 (by decide) ?_
  refine lv_land hx hb dX4_bit_13 ?_
  refine lv_lconst (v := 0) hx hb dX4_bit_14 (by decide) ?_
  refine W.lcmp hx hb dX4_bit_15 ?_
  refine lv_if_eq (tgt := 23) hx hb dX4_bit_16 (by decide) (fun hc3 => ?_) (fun hc3 => ?_)
  · have hf := ifT hc3 hf
    refine lv_iconst (v := 0) hx hb dX4_bit_23 (by decide) ?_
    obtain rfl := opE hf
    exact hret H locs ls 24 dX4_bit_24 (Or.inl rfl) hP hD hS
  · have hf := ifF hc3 hf
    refine lv_iconst (v := 1) hx hb dX4_bit_19 (by decide) ?_
    refine lv_goto (tgt := 24) hx hb dX4_bit_20 (by decide) ?_
    obtain rfl := opE hf
    exact hret H locs ls 24 dX4_bit_24 (Or.inr rfl) hP hD hS
set_option maxRecDepth 100000 in
set_option maxHeartbeats 4000000 in
theorem c_X4_anyBelow (l : Launch) (D : va_G) (cI cJ : ClassId) (a_p0 a_p0_limbs : Nat) (p1 : Int32) (p0_size : Int32) (p0_limbs : (Nat → Int64)) (u : Int32) (hf : f_X4_anyBelow p0_size p0_limbs p1 = some u) : CtI l yX4_anyBelow cX4_anyBelow 4 1 21 .boolean [.ref a_p0, .int p1] D cI cJ [(a_p0, .inr (5, [.ref a_p0_limbs, .int p0_size])), (a_p0_limbs, .inl (cJ, 160, .inr (.inl p0_limbs)))] [(a_p0, .inr (5, [.ref a_p0_limbs, .int p0_size])), (a_p0_limbs, .inl (cJ, 160, .inr (.inl p0_limbs)))] u := by
  refine mkZ (own := RX4) rfl (by decide +kernel) (Nat.le_of_ble_eq_true rfl) (lv := [(0, .ref a_p0), (1, .int p1)]) rfl ?_
  intro p e s m below meth c Q A ls ar S hA hK hN hret H locs hP hD hS hl
  obtain ⟨hx, hb, hml, hown, hts⟩ := id S
  have keyB38 : ∀ (v1 : Int32) (v2 : Int32) (H : Heap) (locs : List Loc) (ls : Array Slot), f_X4_anyBelow_B38 p0_size p0_limbs v1 v2 = some u → va_P D vwCl [(a_p0, .inr (5, [.ref a_p0_limbs, .int p0_size])), (a_p0_limbs, .inl (cJ, 160, .inr (.inl p0_limbs)))] H → va_D A [(a_p0, .inr (5, [.ref a_p0_limbs, .int p0_size])), (a_p0_limbs, .inl (cJ, 160, .inr (.inl p0_limbs)))] → va_S A s.heap H locs → lv_has ls 4 [(0, .ref a_p0), (1, .int v1), (2, .int v2)] → W p l e (rmz 1 21) s m ar below meth c H locs 0 0 Q (F0 m 38 ls []) := by
    intro v1 v2 H locs ls hf hP hD hS hl
    unfold f_X4_anyBelow_B38 at hf
    refine lv_aload_n hx hb dX4_anyBelow_38 rfl (lv_at hl 0 rfl) ?_
    refine lv_iload_n hx hb dX4_anyBelow_39 rfl (lv_at hl 2 rfl) ?_
    obtain ⟨u1, hu2, hf⟩ := bdE hf
    refine cV_L (ws' := [(a_p0, .inr (5, [.ref a_p0_limbs, .int p0_size])), (a_p0_limbs, .inl (cJ, 160, .inr (.inl p0_limbs)))]) (rest := []) S hK hN hA hP hD hS (c_X4_limb l D cI cJ a_p0 a_p0_limbs v2 p0_size p0_limbs u1 hu2) mwX4_limb miX4_limb kmX4_30 [0, 1] rfl (by decide) rfl rfl rfl 0 rfl rfl ⟨Nat.le_of_ble_eq_true rfl, Nat.le_of_ble_eq_true rfl⟩ ⟨Nat.zero_le _, Nat.zero_le _⟩ hl.1 rfl rfl (Nat.le_of_ble_eq_true rfl) dX4_anyBelow_40 (fun H locs hP hD hS => ?_)
    refine lv_lconst (v := 1) hx hb dX4_anyBelow_43 (by decide) ?_
    refine lv_iload_n hx hb dX4_anyBelow_44 rfl (lv_at hl 1 rfl) ?_
    refine lv_bipush (v := 31) hx hb dX4_anyBelow_45 (by decide) ?_
    refine lv_iand hx hb dX4_anyBelow_47 ?_
    refine lv_lshl (v := lsh (1 : Int64) (v1 &&& (31 : Int32))) hx hb dX4_anyBelow_48 rfl ?_
    refine lv_lconst (v := 1) hx hb dX4_anyBelow_49 (by decide) ?_
    refine lv_lsub hx hb dX4_anyBelow_50 ?_
    refine lv_land hx hb dX4_anyBelow_51 ?_
    refine lv_lconst (v := 0) hx hb dX4_anyBelow_52 (by decide) ?_
    refine W.lcmp hx hb dX4_anyBelow_53 ?_
    refine lv_if_eq (tgt := 61) hx hb dX4_anyBelow_54 (by decide) (fun hc3 => ?_) (fun hc3 => ?_)
    · have hf := ifT hc3 hf
      refine lv_iconst (v := 0) hx hb dX4_anyBelow_61 (by decide) ?_
      obtain rfl := opE hf
      exact hret H locs ls 62 dX4_anyBelow_62 (Or.inl rfl) hP hD hS
    · have hf := ifF hc3 hf
      refine lv_iconst (v := 1) hx hb dX4_anyBelow_57 (by decide) ?_
      refine lv_goto (tgt := 62) hx hb dX4_anyBelow_58 (by decide) ?_
      obtain rfl := opE hf
      exact hret H locs ls 62 dX4_anyBelow_62 (Or.inr rfl) hP hD hS
  have keyL6 : ∀ (n : Nat) (v1 : Int32) (v2 : Int32) (v3 : Int32) (H : Heap) (locs : List Loc) (ls : Array Slot), f_X4_anyBelow_L6 p0_size p0_limbs n v1 v2 v3 = some u → va_P D vwCl [(a_p0, .inr (5, [.ref a_p0_limbs, .int p0_size])), (a_p0_limbs, .inl (cJ, 160, .inr (.inl p0_limbs)))] H → va_D A [(a_p0, .inr (5, [.ref a_p0_limbs, .int p0_size])), (a_p0_limbs, .inl (cJ, 160, .inr (.inl p0_limbs)))] → va_S A s.heap H locs → lv_has ls 4 [(0, .ref a_p0), (1, .int v1), (2, .int v2), (3, .int v3)] → W p l e (rmz 1 21) s m ar below meth c H locs 0 0 Q (F0 m 6 ls []) := by
    intro n
    induction n with
      | zero =>
        intro v1 v2 v3 H locs ls hf
        cases hf
      | succ n ih =>
        intro v1 v2 v3 H locs ls hf hP hD hS hl
        rw [f_X4_anyBelow_L6] at hf
        refine lv_iload_n hx hb dX4_anyBelow_6 rfl (lv_at hl 3 rfl) ?_
        refine lv_iload_n hx hb dX4_anyBelow_7 rfl (lv_at hl 2 rfl) ?_
        refine lv_icmp_ge (tgt := 38) hx hb dX4_anyBelow_8 (by decide) (fun hc7 => ?_) (fun hc7 => ?_)
        · have hf := ifT hc7 hf
          exact keyB38 v1 v2 H locs ls hf hP hD hS (lv_sub hl [0, 1, 2] rfl)
        · have hf := ifF hc7 hf
          refine lv_iload_n hx hb dX4_anyBelow_11 rfl (lv_at hl 3 rfl) ?_
          refine lv_aload_n hx hb dX4_anyBelow_12 rfl (lv_at hl 0 rfl) ?_
          refine va_get (D := D) (ci := 5) (v := .int p0_size) (C := RX4) (T := TX4) (N := 2) hx hb hts uwX4 hown hK hP 0 rfl rfl 1 (by decide) (hts _ kfX4_15) (fun _ h9 => h9) rfl dX4_anyBelow_13 ?_
          refine lv_icmp_ge (tgt := 38) hx hb dX4_anyBelow_16 (by decide) (fun hc6 => ?_) (fun hc6 => ?_)
          · have hf := ifT hc6 hf
            exact keyB38 v1 v2 H locs ls hf hP hD hS (lv_sub hl [0, 1, 2] rfl)
          · have hf := ifF hc6 hf
            refine lv_aload_n hx hb dX4_anyBelow_19 rfl (lv_at hl 0 rfl) ?_
            refine va_get (D := D) (ci := 5) (v := .ref a_p0_limbs) (C := RX4) (T := TX4) (N := 2) hx hb hts uwX4 hown hK hP 0 rfl rfl 0 (by decide) (hts _ kfX4_9) (fun _ h9 => h9) rfl dX4_anyBelow_20 ?_
            refine lv_iload_n hx hb dX4_anyBelow_23 rfl (lv_at hl 3 rfl) ?_
            obtain ⟨hi4, hf⟩ := gdE hf
            refine va_lald hx hb hK hP 1 1 rfl rfl hi4 dX4_anyBelow_24 ?_
            refine lv_lconst (v := 0) hx hb dX4_anyBelow_25 (by decide) ?_
            refine W.lcmp hx hb dX4_anyBelow_26 ?_
            refine lv_if_eq (tgt := 32) hx hb dX4_anyBelow_27 (by decide) (fun hc5 => ?_) (fun hc5 => ?_)
            · have hf := ifT hc5 hf
              refine lv_iinc (v := v3 + (1 : Int32)) (lv' := [(3, .int (v3 + (1 : Int32))), (0, .ref a_p0), (1, .int v1), (2, .int v2)]) hx hb dX4_anyBelow_32 hl (k := 3) rfl (by rfl) (by decide) rfl (fun ls hl => ?_)
              refine lv_goto (tgt := 6) hx hb dX4_anyBelow_35 (by decide) ?_
              exact ih v1 v2 (v3 + (1 : Int32)) H locs ls hf hP hD hS (lv_sub hl [1, 2, 3, 0] rfl)
            · have hf := ifF hc5 hf
              refine lv_iconst (v := 1) hx hb dX4_anyBelow_30 (by decide) ?_
              obtain rfl := opE hf
              exact hret H locs ls 31 dX4_anyBelow_31 (Or.inr rfl) hP hD hS
  unfold f_X4_anyBelow at hf
  refine lv_iload_n hx hb dX4_anyBelow_0 rfl (lv_at hl 1 rfl) ?_
  refine lv_iconst (v := 5) hx hb dX4_anyBelow_1 (by decide) ?_
  refine lv_ishr hx hb dX4_anyBelow_2 ?_
  refine lv_istore_n (lv' := [(2, .int (isr p1 (5 : Int32))), (0, .ref a_p0), (1, .int p1)]) hx hb dX4_anyBelow_3 rfl hl (by decide) rfl (fun ls hl => ?_)
  refine lv_iconst (v := 0) hx hb dX4_anyBelow_4 (by decide) ?_
  refine lv_istore_n (lv' := [(3, .int (0 : Int32)), (2, .int (isr p1 (5 : Int32))), (0, .ref a_p0), (1, .int p1)]) hx hb dX4_anyBelow_5 rfl hl (by decide) rfl (fun ls hl => ?_)
  exact keyL6 FU p1 (isr p1 (5 : Int32)) (0 : Int32) H locs ls hf hP hD hS (lv_sub hl [2, 3, 1, 0] rfl)
set_option maxRecDepth 100000 in
set_option maxHeartbeats 4000000 in
theorem c_X4_cutBillion (l : Launch) (D : va_G) (cI cJ : ClassId) (a_p0 a_p0_limbs : Nat) (p0_size : Int32) (p0_limbs : (Nat → Int64)) (u : Int32 × Int32 × (Nat → Int64)) (hf : f_X4_cutBillion p0_size p0_limbs = some u) : CtI l yX4_cutBillion cX4_cutBillion 4 1 20 .int [.ref a_p0] D cI cJ [(a_p0, .inr (5, [.ref a_p0_limbs, .int p0_size])), (a_p0_limbs, .inl (cJ, 160, .inr (.inl p0_limbs)))] [(a_p0, .inr (5, [.ref a_p0_limbs, .int u.2.1])), (a_p0_limbs, .inl (cJ, 160, .inr (.inl u.2.2)))] u.1 := by
  refine mkI (own := RX4) rfl (by decide +kernel) (Nat.le_of_ble_eq_true rfl) (lv := [(0, .ref a_p0)]) rfl ?_
  intro p e s m below meth c Q A ls ar S hA hK hN hret H locs hP hD hS hl
  obtain ⟨hx, hb, hml, hown, hts⟩ := id S
  have keyB48 : ∀ (v1 : Int64) (p0_size : Int32) (p0_limbs : (Nat → Int64)) (H : Heap) (locs : List Loc) (ls : Array Slot), f_X4_cutBillion_B48 v1 p0_size p0_limbs = some u → va_P D vwCl [(a_p0, .inr (5, [.ref a_p0_limbs, .int p0_size])), (a_p0_limbs, .inl (cJ, 160, .inr (.inl p0_limbs)))] H → va_D A [(a_p0, .inr (5, [.ref a_p0_limbs, .int p0_size])), (a_p0_limbs, .inl (cJ, 160, .inr (.inl p0_limbs)))] → va_S A s.heap H locs → lv_has ls 4 [(0, .ref a_p0), (1, .long v1)] → W p l e (rmz 1 20) s m ar below meth c H locs 0 0 Q (F0 m 48 ls []) := by
    intro v1 p0_size p0_limbs H locs ls hf hP hD hS hl
    unfold f_X4_cutBillion_B48 at hf
    refine lv_aload_n hx hb dX4_cutBillion_48 rfl (lv_at hl 0 rfl) ?_
    obtain ⟨u1, hu2, hf⟩ := bdE hf
    refine cV_V (ws' := [(a_p0, .inr (5, [.ref a_p0_limbs, .int u1])), (a_p0_limbs, .inl (cJ, 160, .inr (.inl p0_limbs)))]) (rest := []) S hK hN hA hP hD hS (c_X4_trim l D cI cJ a_p0 a_p0_limbs  p0_size p0_limbs u1 hu2) mwX4_trim miX4_trim kmX4_19 [0, 1] rfl (by decide) rfl rfl rfl 0 rfl rfl ⟨Nat.le_of_ble_eq_true rfl, Nat.le_of_ble_eq_true rfl⟩ ⟨Nat.zero_le _, Nat.zero_le _⟩ hl.1 rfl rfl (Nat.le_of_ble_eq_true rfl) dX4_cutBillion_49 (fun H locs hP hD hS => ?_)
    refine lv_lload_n hx hb dX4_cutBillion_52 rfl (lv_at hl 1 rfl) ?_
    refine lv_l2i (v := v1.toInt32) hx hb dX4_cutBillion_53 rfl ?_
    obtain rfl := opE hf
    exact hret H locs ls 54 dX4_cutBillion_54 hP hD hS
  have keyL9 : ∀ (n : Nat) (v1 : Int64) (v3 : Int32) (p0_size : Int32) (p0_limbs : (Nat → Int64)) (H : Heap) (locs : List Loc) (ls : Array Slot), f_X4_cutBillion_L9 n v1 v3 p0_size p0_limbs = some u → va_P D vwCl [(a_p0, .inr (5, [.ref a_p0_limbs, .int p0_size])), (a_p0_limbs, .inl (cJ, 160, .inr (.inl p0_limbs)))] H → va_D A [(a_p0, .inr (5, [.ref a_p0_limbs, .int p0_size])), (a_p0_limbs, .inl (cJ, 160, .inr (.inl p0_limbs)))] → va_S A s.heap H locs → lv_has ls 4 [(0, .ref a_p0), (1, .long v1), (3, .int v3)] → W p l e (rmz 1 20) s m ar below meth c H locs 0 0 Q (F0 m 9 ls []) := by
    intro n
    induction n with
      | zero =>
        intro v1 v3 p0_size p0_limbs H locs ls hf
        cases hf
      | succ n ih =>
        intro v1 v3 p0_size p0_limbs H locs ls hf hP hD hS hl
        rw [f_X4_cutBillion_L9] at hf
        refine lv_iload_n hx hb dX4_cutBillion_9 rfl (lv_at hl 2 rfl) ?_
        refine lv_if_lt (tgt := 48) hx hb dX4_cutBillion_10 (by decide) (fun hc4 => ?_) (fun hc4 => ?_)
        · have hf := ifT hc4 hf
          exact keyB48 v1 p0_size p0_limbs H locs ls hf hP hD hS (lv_sub hl [0, 1] rfl)
        · have hf := ifF hc4 hf
          refine lv_lload_n hx hb dX4_cutBillion_13 rfl (lv_at hl 1 rfl) ?_
          refine lv_bipush (v := 32) hx hb dX4_cutBillion_14 (by decide) ?_
          refine lv_lshl (v := lsh v1 (32 : Int32)) hx hb dX4_cutBillion_16 rfl ?_
          refine lv_aload_n hx hb dX4_cutBillion_17 rfl (lv_at hl 0 rfl) ?_
          refine va_get (D := D) (ci := 5) (v := .ref a_p0_limbs) (C := RX4) (T := TX4) (N := 2) hx hb hts uwX4 hown hK hP 0 rfl rfl 0 (by decide) (hts _ kfX4_9) (fun _ h9 => h9) rfl dX4_cutBillion_18 ?_
          refine lv_iload_n hx hb dX4_cutBillion_21 rfl (lv_at hl 2 rfl) ?_
          obtain ⟨hi3, hf⟩ := gdE hf
          refine va_lald hx hb hK hP 1 1 rfl rfl hi3 dX4_cutBillion_22 ?_
          refine lv_lor hx hb dX4_cutBillion_23 ?_
          refine lv_lstore_n (lv' := [(1, .long ((lsh v1 (32 : Int32)) ||| (p0_limbs v3.toNatClampNeg))), (0, .ref a_p0), (3, .int v3)]) hx hb dX4_cutBillion_24 rfl hl (by decide) rfl (fun ls hl => ?_)
          refine lv_aload_n hx hb dX4_cutBillion_25 rfl (lv_at hl 1 rfl) ?_
          refine va_get (D := D) (ci := 5) (v := .ref a_p0_limbs) (C := RX4) (T := TX4) (N := 2) hx hb hts uwX4 hown hK hP 0 rfl rfl 0 (by decide) (hts _ kfX4_9) (fun _ h9 => h9) rfl dX4_cutBillion_26 ?_
          refine lv_iload_n hx hb dX4_cutBillion_29 rfl (lv_at hl 2 rfl) ?_
          refine lv_lload_n hx hb dX4_cutBillion_30 rfl (lv_at hl 0 rfl) ?_
          refine lv_ldc2 hx hb hown (hts _ kcX4_46) dX4_cutBillion_31 ?_
          refine lv_ldiv hx hb dX4_cutBillion_34 (by decide) ?_
          refine va_last hx hb hK hP hD hS 1 1 rfl rfl hi3 dX4_cutBillion_35 (fun H locs hP hD hS => ?_)
          have hP : va_P D vwCl [(a_p0, .inr (5, [.ref a_p0_limbs, .int p0_size])), (a_p0_limbs, .inl (cJ, 160, .inr (.inl (vp_updL p0_limbs v3.toNatClampNeg (((lsh v1 (32 : Int32)) ||| (p0_limbs v3.toNatClampNeg)) / (1000000000 : Int64))))))] H := hP
          have hD : va_D A [(a_p0, .inr (5, [.ref a_p0_limbs, .int p0_size])), (a_p0_limbs, .inl (cJ, 160, .inr (.inl (vp_updL p0_limbs v3.toNatClampNeg (((lsh v1 (32 : Int32)) ||| (p0_limbs v3.toNatClampNeg)) / (1000000000 : Int64))))))] := hD
          refine lv_lload_n hx hb dX4_cutBillion_36 rfl (lv_at hl 0 rfl) ?_
          refine lv_ldc2 hx hb hown (hts _ kcX4_46) dX4_cutBillion_37 ?_
          refine lv_lrem hx hb dX4_cutBillion_40 (by decide) ?_
          refine lv_lstore_n (lv' := [(1, .long (lrm ((lsh v1 (32 : Int32)) ||| (p0_limbs v3.toNatClampNeg)) (1000000000 : Int64))), (0, .ref a_p0), (3, .int v3)]) hx hb dX4_cutBillion_41 rfl hl (by decide) rfl (fun ls hl => ?_)
          refine lv_iinc (v := v3 + (-1 : Int32)) (lv' := [(3, .int (v3 + (-1 : Int32))), (1, .long (lrm ((lsh v1 (32 : Int32)) ||| (p0_limbs v3.toNatClampNeg)) (1000000000 : Int64))), (0, .ref a_p0)]) hx hb dX4_cutBillion_42 hl (k := 2) rfl (by rfl) (by decide) rfl (fun ls hl => ?_)
          refine lv_goto (tgt := 9) hx hb dX4_cutBillion_45 (by decide) ?_
          exact ih (lrm ((lsh v1 (32 : Int32)) ||| (p0_limbs v3.toNatClampNeg)) (1000000000 : Int64)) (v3 + (-1 : Int32)) p0_size (vp_updL p0_limbs v3.toNatClampNeg (((lsh v1 (32 : Int32)) ||| (p0_limbs v3.toNatClampNeg)) / (1000000000 : Int64))) H locs ls hf hP hD hS (lv_sub hl [2, 1, 0] rfl)
  unfold f_X4_cutBillion at hf
  refine lv_lconst (v := 0) hx hb dX4_cutBillion_0 (by decide) ?_
  refine lv_lstore_n (lv' := [(1, .long (0 : Int64)), (0, .ref a_p0)]) hx hb dX4_cutBillion_1 rfl hl (by decide) rfl (fun ls hl => ?_)
  refine lv_aload_n hx hb dX4_cutBillion_2 rfl (lv_at hl 1 rfl) ?_
  refine va_get (D := D) (ci := 5) (v := .int p0_size) (C := RX4) (T := TX4) (N := 2) hx hb hts uwX4 hown hK hP 0 rfl rfl 1 (by decide) (hts _ kfX4_15) (fun _ h9 => h9) rfl dX4_cutBillion_3 ?_
  refine lv_iconst (v := 1) hx hb dX4_cutBillion_6 (by decide) ?_
  refine lv_isub hx hb dX4_cutBillion_7 ?_
  refine lv_istore_n (lv' := [(3, .int (p0_size - (1 : Int32))), (1, .long (0 : Int64)), (0, .ref a_p0)]) hx hb dX4_cutBillion_8 rfl hl (by decide) rfl (fun ls hl => ?_)
  exact keyL9 FU (0 : Int64) (p0_size - (1 : Int32)) p0_size p0_limbs H locs ls hf hP hD hS (lv_sub hl [2, 1, 0] rfl)
set_option maxRecDepth 100000 in
set_option maxHeartbeats 4000000 in
theorem c_J6_compare_7cf53 (l : Launch) (D : va_G) (cI cJ : ClassId) (p0 : Int32) (p1 : Int32)  (u : Int32) (hf : f_J6_compare_7cf53 p0 p1 = some u) : CtI l yJ6_compare_7cf53 cJ6_compare_7cf53 2 0 0 .int [.int p0, .int p1] D cI cJ [] [] u := by
  refine mkI (own := RJ6) rfl (by decide +kernel) (Nat.le_of_ble_eq_true rfl) (lv := [(0, .int p0), (1, .int p1)]) rfl ?_
  intro p e s m below meth c Q A ls ar S hA hK hN hret H locs hP hD hS hl
  obtain ⟨hx, hb, hml, hown, hts⟩ := id S
  unfold f_J6_compare_7cf53 at hf
  refine lv_iload_n hx hb dJ6_compare_7cf53_0 rfl (lv_at hl 0 rfl) ?_
  refine lv_iload_n hx hb dJ6_compare_7cf53_1 rfl (lv_at hl 1 rfl) ?_
  refine lv_icmp_ge (tgt := 9) hx hb dJ6_compare_7cf53_2 (by decide) (fun hc2 => ?_) (fun hc2 => ?_)
  · have hf := ifT hc2 hf
    refine lv_iload_n hx hb dJ6_compare_7cf53_9 rfl (lv_at hl 0 rfl) ?_
    refine lv_iload_n hx hb dJ6_compare_7cf53_10 rfl (lv_at hl 1 rfl) ?_
    refine lv_icmp_ne (tgt := 18) hx hb dJ6_compare_7cf53_11 (by decide) (fun hc1 => ?_) (fun hc1 => ?_)
    · have hf := ifF hc1 hf
      refine lv_iconst (v := 1) hx hb dJ6_compare_7cf53_18 (by decide) ?_
      obtain rfl := opE hf
      exact hret H locs ls 19 dJ6_compare_7cf53_19 hP hD hS
    · have hf := ifT hc1 hf
      refine lv_iconst (v := 0) hx hb dJ6_compare_7cf53_14 (by decide) ?_
      refine lv_goto (tgt := 19) hx hb dJ6_compare_7cf53_15 (by decide) ?_
      obtain rfl := opE hf
      exact hret H locs ls 19 dJ6_compare_7cf53_19 hP hD hS
  · have hf := ifF hc2 hf
    refine lv_iconst (v := -1) hx hb dJ6_compare_7cf53_5 (by decide) ?_
    refine lv_goto (tgt := 19) hx hb dJ6_compare_7cf53_6 (by decide) ?_
    obtain rfl := opE hf
    exact hret H locs ls 19 dJ6_compare_7cf53_19 hP hD hS
set_option maxRecDepth 100000 in
set_option maxHeartbeats 4000000 in
theorem c_J6_numberOfTrailingZeros_0f7a4 (l : Launch) (D : va_G) (cI cJ : ClassId) (p0 : Int32)  (u : Int32) (hf : f_J6_numberOfTrailingZeros_0f7a4 p0 = some u) : CtI l yJ6_numberOfTrailingZeros_0f7a4 cJ6_numberOfTrailingZeros_0f7a4 2 0 0 .int [.int p0] D cI cJ [] [] u := by
  refine mkI (own := RJ6) rfl (by decide +kernel) (Nat.le_of_ble_eq_true rfl) (lv := [(0, .int p0)]) rfl ?_
  intro p e s m below meth c Q A ls ar S hA hK hN hret H locs hP hD hS hl
  obtain ⟨hx, hb, hml, hown, hts⟩ := id S
  have keyB62 : ∀ (v0 : Int32) (v1 : Int32) (H : Heap) (locs : List Loc) (ls : Array Slot), f_J6_numberOfTrailingZeros_0f7a4_B62 v0 v1 = some u → va_P D vwCl [] H → va_D A [] → va_S A s.heap H locs → lv_has ls 2 [(0, .int v0), (1, .int v1)] → W p l e (rmz 0 0) s m ar below meth c H locs 0 0 Q (F0 m 62 ls []) := by
    intro v0 v1 H locs ls hf hP hD hS hl
    unfold f_J6_numberOfTrailingZeros_0f7a4_B62 at hf
    refine lv_iload_n hx hb dJ6_numberOfTrailingZeros_0f7a4_62 rfl (lv_at hl 0 rfl) ?_
    refine lv_iconst (v := 4) hx hb dJ6_numberOfTrailingZeros_0f7a4_63 (by decide) ?_
    refine lv_icmp_le (tgt := 74) hx hb dJ6_numberOfTrailingZeros_0f7a4_64 (by decide) (fun hc1 => ?_) (fun hc1 => ?_)
    · have hf := ifT hc1 hf
      refine lv_iload_n hx hb dJ6_numberOfTrailingZeros_0f7a4_74 rfl (lv_at hl 1 rfl) ?_
      refine lv_iload_n hx hb dJ6_numberOfTrailingZeros_0f7a4_75 rfl (lv_at hl 0 rfl) ?_
      refine lv_iconst (v := 1) hx hb dJ6_numberOfTrailingZeros_0f7a4_76 (by decide) ?_
      refine lv_iushr (v := ius v0 (1 : Int32)) hx hb dJ6_numberOfTrailingZeros_0f7a4_77 rfl ?_
      refine lv_iadd hx hb dJ6_numberOfTrailingZeros_0f7a4_78 ?_
      obtain rfl := opE hf
      exact hret H locs ls 79 dJ6_numberOfTrailingZeros_0f7a4_79 hP hD hS
    · have hf := ifF hc1 hf
      refine lv_iinc (v := v1 + (2 : Int32)) (lv' := [(1, .int (v1 + (2 : Int32))), (0, .int v0)]) hx hb dJ6_numberOfTrailingZeros_0f7a4_67 hl (k := 1) rfl (by rfl) (by decide) rfl (fun ls hl => ?_)
      refine lv_iload_n hx hb dJ6_numberOfTrailingZeros_0f7a4_70 rfl (lv_at hl 1 rfl) ?_
      refine lv_iconst (v := 2) hx hb dJ6_numberOfTrailingZeros_0f7a4_71 (by decide) ?_
      refine lv_iushr (v := ius v0 (2 : Int32)) hx hb dJ6_numberOfTrailingZeros_0f7a4_72 rfl ?_
      refine lv_istore_n (lv' := [(0, .int (ius v0 (2 : Int32))), (1, .int (v1 + (2 : Int32)))]) hx hb dJ6_numberOfTrailingZeros_0f7a4_73 rfl hl (by decide) rfl (fun ls hl => ?_)
      refine lv_iload_n hx hb dJ6_numberOfTrailingZeros_0f7a4_74 rfl (lv_at hl 1 rfl) ?_
      refine lv_iload_n hx hb dJ6_numberOfTrailingZeros_0f7a4_75 rfl (lv_at hl 0 rfl) ?_
      refine lv_iconst (v := 1) hx hb dJ6_numberOfTrailingZeros_0f7a4_76 (by decide) ?_
      refine lv_iushr (v := ius (ius v0 (2 : Int32)) (1 : Int32)) hx hb dJ6_numberOfTrailingZeros_0f7a4_77 rfl ?_
      refine lv_iadd hx hb dJ6_numberOfTrailingZeros_0f7a4_78 ?_
      obtain rfl := opE hf
      exact hret H locs ls 79 dJ6_numberOfTrailingZeros_0f7a4_79 hP hD hS
  have keyB49 : ∀ (v0 : Int32) (v1 : Int32) (H : Heap) (locs : List Loc) (ls : Array Slot), f_J6_numberOfTrailingZeros_0f7a4_B49 v0 v1 = some u → va_P D vwCl [] H → va_D A [] → va_S A s.heap H locs → lv_has ls 2 [(0, .int v0), (1, .int v1)] → W p l e (rmz 0 0) s m ar below meth c H locs 0 0 Q (F0 m 49 ls []) := by
    intro v0 v1 H locs ls hf hP hD hS hl
    unfold f_J6_numberOfTrailingZeros_0f7a4_B49 at hf
    refine lv_iload_n hx hb dJ6_numberOfTrailingZeros_0f7a4_49 rfl (lv_at hl 0 rfl) ?_
    refine lv_bipush (v := 16) hx hb dJ6_numberOfTrailingZeros_0f7a4_50 (by decide) ?_
    refine lv_icmp_le (tgt := 62) hx hb dJ6_numberOfTrailingZeros_0f7a4_52 (by decide) (fun hc2 => ?_) (fun hc2 => ?_)
    · have hf := ifT hc2 hf
      exact keyB62 v0 v1 H locs ls hf hP hD hS (lv_sub hl [0, 1] rfl)
    · have hf := ifF hc2 hf
      refine lv_iinc (v := v1 + (4 : Int32)) (lv' := [(1, .int (v1 + (4 : Int32))), (0, .int v0)]) hx hb dJ6_numberOfTrailingZeros_0f7a4_55 hl (k := 1) rfl (by rfl) (by decide) rfl (fun ls hl => ?_)
      refine lv_iload_n hx hb dJ6_numberOfTrailingZeros_0f7a4_58 rfl (lv_at hl 1 rfl) ?_
      refine lv_iconst (v := 4) hx hb dJ6_numberOfTrailingZeros_0f7a4_59 (by decide) ?_
      refine lv_iushr (v := ius v0 (4 : Int32)) hx hb dJ6_numberOfTrailingZeros_0f7a4_60 rfl ?_
      refine lv_istore_n (lv' := [(0, .int (ius v0 (4 : Int32))), (1, .int (v1 + (4 : Int32)))]) hx hb dJ6_numberOfTrailingZeros_0f7a4_61 rfl hl (by decide) rfl (fun ls hl => ?_)
      exact keyB62 (ius v0 (4 : Int32)) (v1 + (4 : Int32)) H locs ls hf hP hD hS (lv_sub hl [0, 1] rfl)
  have keyB34 : ∀ (v0 : Int32) (v1 : Int32) (H : Heap) (locs : List Loc) (ls : Array Slot), f_J6_numberOfTrailingZeros_0f7a4_B34 v0 v1 = some u → va_P D vwCl [] H → va_D A [] → va_S A s.heap H locs → lv_has ls 2 [(0, .int v0), (1, .int v1)] → W p l e (rmz 0 0) s m ar below meth c H locs 0 0 Q (F0 m 34 ls []) := by
    intro v0 v1 H locs ls hf hP hD hS hl
    unfold f_J6_numberOfTrailingZeros_0f7a4_B34 at hf
    refine lv_iload_n hx hb dJ6_numberOfTrailingZeros_0f7a4_34 rfl (lv_at hl 0 rfl) ?_
    refine lv_sipush (v := 256) hx hb dJ6_numberOfTrailingZeros_0f7a4_35 (by decide) ?_
    refine lv_icmp_le (tgt := 49) hx hb dJ6_numberOfTrailingZeros_0f7a4_38 (by decide) (fun hc3 => ?_) (fun hc3 => ?_)
    · have hf := ifT hc3 hf
      exact keyB49 v0 v1 H locs ls hf hP hD hS (lv_sub hl [0, 1] rfl)
    · have hf := ifF hc3 hf
      refine lv_iinc (v := v1 + (8 : Int32)) (lv' := [(1, .int (v1 + (8 : Int32))), (0, .int v0)]) hx hb dJ6_numberOfTrailingZeros_0f7a4_41 hl (k := 1) rfl (by rfl) (by decide) rfl (fun ls hl => ?_)
      refine lv_iload_n hx hb dJ6_numberOfTrailingZeros_0f7a4_44 rfl (lv_at hl 1 rfl) ?_
      refine lv_bipush (v := 8) hx hb dJ6_numberOfTrailingZeros_0f7a4_45 (by decide) ?_
      refine lv_iushr (v := ius v0 (8 : Int32)) hx hb dJ6_numberOfTrailingZeros_0f7a4_47 rfl ?_
      refine lv_istore_n (lv' := [(0, .int (ius v0 (8 : Int32))), (1, .int (v1 + (8 : Int32)))]) hx hb dJ6_numberOfTrailingZeros_0f7a4_48 rfl hl (by decide) rfl (fun ls hl => ?_)
      exact keyB49 (ius v0 (8 : Int32)) (v1 + (8 : Int32)) H locs ls hf hP hD hS (lv_sub hl [0, 1] rfl)
  unfold f_J6_numberOfTrailingZeros_0f7a4 at hf
  refine lv_iload_n hx hb dJ6_numberOfTrailingZeros_0f7a4_0 rfl (lv_at hl 0 rfl) ?_
  refine lv_iconst (v := -1) hx hb dJ6_numberOfTrailingZeros_0f7a4_1 (by decide) ?_
  refine lv_ixor hx hb dJ6_numberOfTrailingZeros_0f7a4_2 ?_
  refine lv_iload_n hx hb dJ6_numberOfTrailingZeros_0f7a4_3 rfl (lv_at hl 0 rfl) ?_
  refine lv_iconst (v := 1) hx hb dJ6_numberOfTrailingZeros_0f7a4_4 (by decide) ?_
  refine lv_isub hx hb dJ6_numberOfTrailingZeros_0f7a4_5 ?_
  refine lv_iand hx hb dJ6_numberOfTrailingZeros_0f7a4_6 ?_
  refine lv_istore_n (lv' := [(0, .int ((p0 ^^^ (-1 : Int32)) &&& (p0 - (1 : Int32))))]) hx hb dJ6_numberOfTrailingZeros_0f7a4_7 rfl hl (by decide) rfl (fun ls hl => ?_)
  refine lv_iload_n hx hb dJ6_numberOfTrailingZeros_0f7a4_8 rfl (lv_at hl 0 rfl) ?_
  refine lv_if_gt (tgt := 17) hx hb dJ6_numberOfTrailingZeros_0f7a4_9 (by decide) (fun hc5 => ?_) (fun hc5 => ?_)
  · have hf := ifT hc5 hf
    refine lv_iconst (v := 1) hx hb dJ6_numberOfTrailingZeros_0f7a4_17 (by decide) ?_
    refine lv_istore_n (lv' := [(1, .int (1 : Int32)), (0, .int ((p0 ^^^ (-1 : Int32)) &&& (p0 - (1 : Int32))))]) hx hb dJ6_numberOfTrailingZeros_0f7a4_18 rfl hl (by decide) rfl (fun ls hl => ?_)
    refine lv_iload_n hx hb dJ6_numberOfTrailingZeros_0f7a4_19 rfl (lv_at hl 1 rfl) ?_
    refine lv_ldcw hx hb hown (hts _ kcJ6_264) dJ6_numberOfTrailingZeros_0f7a4_20 ?_
    refine lv_icmp_le (tgt := 34) hx hb dJ6_numberOfTrailingZeros_0f7a4_23 (by decide) (fun hc4 => ?_) (fun hc4 => ?_)
    · have hf := ifT hc4 hf
      exact keyB34 ((p0 ^^^ (-1 : Int32)) &&& (p0 - (1 : Int32))) (1 : Int32) H locs ls hf hP hD hS (lv_sub hl [1, 0] rfl)
    · have hf := ifF hc4 hf
      refine lv_iinc (v := (1 : Int32) + (16 : Int32)) (lv' := [(1, .int ((1 : Int32) + (16 : Int32))), (0, .int ((p0 ^^^ (-1 : Int32)) &&& (p0 - (1 : Int32))))]) hx hb dJ6_numberOfTrailingZeros_0f7a4_26 hl (k := 0) rfl (by rfl) (by decide) rfl (fun ls hl => ?_)
      refine lv_iload_n hx hb dJ6_numberOfTrailingZeros_0f7a4_29 rfl (lv_at hl 1 rfl) ?_
      refine lv_bipush (v := 16) hx hb dJ6_numberOfTrailingZeros_0f7a4_30 (by decide) ?_
      refine lv_iushr (v := ius ((p0 ^^^ (-1 : Int32)) &&& (p0 - (1 : Int32))) (16 : Int32)) hx hb dJ6_numberOfTrailingZeros_0f7a4_32 rfl ?_
      refine lv_istore_n (lv' := [(0, .int (ius ((p0 ^^^ (-1 : Int32)) &&& (p0 - (1 : Int32))) (16 : Int32))), (1, .int ((1 : Int32) + (16 : Int32)))]) hx hb dJ6_numberOfTrailingZeros_0f7a4_33 rfl hl (by decide) rfl (fun ls hl => ?_)
      exact keyB34 (ius ((p0 ^^^ (-1 : Int32)) &&& (p0 - (1 : Int32))) (16 : Int32)) ((1 : Int32) + (16 : Int32)) H locs ls hf hP hD hS (lv_sub hl [0, 1] rfl)
  · have hf := ifF hc5 hf
    refine lv_iload_n hx hb dJ6_numberOfTrailingZeros_0f7a4_12 rfl (lv_at hl 0 rfl) ?_
    refine lv_bipush (v := 32) hx hb dJ6_numberOfTrailingZeros_0f7a4_13 (by decide) ?_
    refine lv_iand hx hb dJ6_numberOfTrailingZeros_0f7a4_15 ?_
    obtain rfl := opE hf
    exact hret H locs ls 16 dJ6_numberOfTrailingZeros_0f7a4_16 hP hD hS
set_option maxRecDepth 100000 in
set_option maxHeartbeats 4000000 in
theorem c_J13_compare_74951 (l : Launch) (D : va_G) (cI cJ : ClassId) (p0 : Int64) (p1 : Int64)  (u : Int32) (hf : f_J13_compare_74951 p0 p1 = some u) : CtI l yJ13_compare_74951 cJ13_compare_74951 4 0 0 .int [.long p0, .long p1] D cI cJ [] [] u := by
  refine mkI (own := RJ13) rfl (by decide +kernel) (Nat.le_of_ble_eq_true rfl) (lv := [(0, .long p0), (2, .long p1)]) rfl ?_
  intro p e s m below meth c Q A ls ar S hA hK hN hret H locs hP hD hS hl
  obtain ⟨hx, hb, hml, hown, hts⟩ := id S
  unfold f_J13_compare_74951 at hf
  refine lv_lload_n hx hb dJ13_compare_74951_0 rfl (lv_at hl 0 rfl) ?_
  refine lv_lload_n hx hb dJ13_compare_74951_1 rfl (lv_at hl 1 rfl) ?_
  refine W.lcmp hx hb dJ13_compare_74951_2 ?_
  refine lv_if_ge (tgt := 10) hx hb dJ13_compare_74951_3 (by decide) (fun hc2 => ?_) (fun hc2 => ?_)
  · have hf := ifT hc2 hf
    refine lv_lload_n hx hb dJ13_compare_74951_10 rfl (lv_at hl 0 rfl) ?_
    refine lv_lload_n hx hb dJ13_compare_74951_11 rfl (lv_at hl 1 rfl) ?_
    refine W.lcmp hx hb dJ13_compare_74951_12 ?_
    refine lv_if_ne (tgt := 20) hx hb dJ13_compare_74951_13 (by decide) (fun hc1 => ?_) (fun hc1 => ?_)
    · have hf := ifF hc1 hf
      refine lv_iconst (v := 1) hx hb dJ13_compare_74951_20 (by decide) ?_
      obtain rfl := opE hf
      exact hret H locs ls 21 dJ13_compare_74951_21 hP hD hS
    · have hf := ifT hc1 hf
      refine lv_iconst (v := 0) hx hb dJ13_compare_74951_16 (by decide) ?_
      refine lv_goto (tgt := 21) hx hb dJ13_compare_74951_17 (by decide) ?_
      obtain rfl := opE hf
      exact hret H locs ls 21 dJ13_compare_74951_21 hP hD hS
  · have hf := ifF hc2 hf
    refine lv_iconst (v := -1) hx hb dJ13_compare_74951_6 (by decide) ?_
    refine lv_goto (tgt := 21) hx hb dJ13_compare_74951_7 (by decide) ?_
    obtain rfl := opE hf
    exact hret H locs ls 21 dJ13_compare_74951_21 hP hD hS
set_option maxRecDepth 100000 in
set_option maxHeartbeats 4000000 in
theorem c_J13_numberOfTrailingZeros_95d88 (l : Launch) (D : va_G) (cI cJ : ClassId) (p0 : Int64)  (u : Int32) (hf : f_J13_numberOfTrailingZeros_95d88 p0 = some u) : CtI l yJ13_numberOfTrailingZeros_95d88 cJ13_numberOfTrailingZeros_95d88 3 1 21 .int [.long p0] D cI cJ [] [] u := by
  refine mkI (own := RJ13) rfl (by decide +kernel) (Nat.le_of_ble_eq_true rfl) (lv := [(0, .long p0)]) rfl ?_
  intro p e s m below meth c Q A ls ar S hA hK hN hret H locs hP hD hS hl
  obtain ⟨hx, hb, hml, hown, hts⟩ := id S
  unfold f_J13_numberOfTrailingZeros_95d88 at hf
  refine lv_lload_n hx hb dJ13_numberOfTrailingZeros_95d88_0 rfl (lv_at hl 0 rfl) ?_
  refine lv_l2i (v := p0.toInt32) hx hb dJ13_numberOfTrailingZeros_95d88_1 rfl ?_
  refine lv_istore_n (lv' := [(2, .int p0.toInt32), (0, .long p0)]) hx hb dJ13_numberOfTrailingZeros_95d88_2 rfl hl (by decide) rfl (fun ls hl => ?_)
  refine lv_iload_n hx hb dJ13_numberOfTrailingZeros_95d88_3 rfl (lv_at hl 0 rfl) ?_
  refine lv_if_ne (tgt := 21) hx hb dJ13_numberOfTrailingZeros_95d88_4 (by decide) (fun hc5 => ?_) (fun hc5 => ?_)
  · have hf := ifF hc5 hf
    refine lv_iload_n hx hb dJ13_numberOfTrailingZeros_95d88_21 rfl (lv_at hl 0 rfl) ?_
    obtain ⟨u1, hu2, hf⟩ := bdE hf
    refine cS_I (ws' := []) (rest := []) S hK hN hA hP hD hS (c_J6_numberOfTrailingZeros_0f7a4 l D cI cJ  p0.toInt32  u1 hu2) mwJ6_numberOfTrailingZeros_0f7a4 msJ6_numberOfTrailingZeros_0f7a4 kmJ13_311 [] rfl (by decide) rfl rfl rfl ⟨Nat.le_of_ble_eq_true rfl, Nat.le_of_ble_eq_true rfl⟩ ⟨Nat.zero_le _, Nat.zero_le _⟩ hl.1 rfl rfl (Nat.le_of_ble_eq_true rfl) dJ13_numberOfTrailingZeros_95d88_22 (fun H locs hP hD hS => ?_)
    obtain rfl := opE hf
    exact hret H locs ls 25 dJ13_numberOfTrailingZeros_95d88_25 hP hD hS
  · have hf := ifT hc5 hf
    refine lv_bipush (v := 32) hx hb dJ13_numberOfTrailingZeros_95d88_7 (by decide) ?_
    refine lv_lload_n hx hb dJ13_numberOfTrailingZeros_95d88_9 rfl (lv_at hl 1 rfl) ?_
    refine lv_bipush (v := 32) hx hb dJ13_numberOfTrailingZeros_95d88_10 (by decide) ?_
    refine lv_lushr (v := lus p0 (32 : Int32)) hx hb dJ13_numberOfTrailingZeros_95d88_12 rfl ?_
    refine lv_l2i (v := (lus p0 (32 : Int32)).toInt32) hx hb dJ13_numberOfTrailingZeros_95d88_13 rfl ?_
    obtain ⟨u3, hu4, hf⟩ := bdE hf
    refine cS_I (ws' := []) (rest := [.int (32 : Int32)]) S hK hN hA hP hD hS (c_J6_numberOfTrailingZeros_0f7a4 l D cI cJ  ((lus p0 (32 : Int32)).toInt32)  u3 hu4) mwJ6_numberOfTrailingZeros_0f7a4 msJ6_numberOfTrailingZeros_0f7a4 kmJ13_311 [] rfl (by decide) rfl rfl rfl ⟨Nat.le_of_ble_eq_true rfl, Nat.le_of_ble_eq_true rfl⟩ ⟨Nat.zero_le _, Nat.zero_le _⟩ hl.1 rfl rfl (Nat.le_of_ble_eq_true rfl) dJ13_numberOfTrailingZeros_95d88_14 (fun H locs hP hD hS => ?_)
    refine lv_iadd hx hb dJ13_numberOfTrailingZeros_95d88_17 ?_
    refine lv_goto (tgt := 25) hx hb dJ13_numberOfTrailingZeros_95d88_18 (by decide) ?_
    obtain rfl := opE hf
    exact hret H locs ls 25 dJ13_numberOfTrailingZeros_95d88_25 hP hD hS
set_option maxRecDepth 100000 in
set_option maxHeartbeats 4000000 in
theorem c_J13_bitCount_95d88 (l : Launch) (D : va_G) (cI cJ : ClassId) (p0 : Int64)  (u : Int32) (hf : f_J13_bitCount_95d88 p0 = some u) : CtI l yJ13_bitCount_95d88 cJ13_bitCount_95d88 2 0 0 .int [.long p0] D cI cJ [] [] u := by
  refine mkI (own := RJ13) rfl (by decide +kernel) (Nat.le_of_ble_eq_true rfl) (lv := [(0, .long p0)]) rfl ?_
  intro p e s m below meth c Q A ls ar S hA hK hN hret H locs hP hD hS hl
  obtain ⟨hx, hb, hml, hown, hts⟩ := id S
  unfold f_J13_bitCount_95d88 at hf
  refine lv_lload_n hx hb dJ13_bitCount_95d88_0 rfl (lv_at hl 0 rfl) ?_
  refine lv_lload_n hx hb dJ13_bitCount_95d88_1 rfl (lv_at hl 0 rfl) ?_
  refine lv_iconst (v := 1) hx hb dJ13_bitCount_95d88_2 (by decide) ?_
  refine lv_lushr (v := lus p0 (1 : Int32)) hx hb dJ13_bitCount_95d88_3 rfl ?_
  refine lv_ldc2 hx hb hown (hts _ kcJ13_314) dJ13_bitCount_95d88_4 ?_
  refine lv_land hx hb dJ13_bitCount_95d88_7 ?_
  refine lv_lsub hx hb dJ13_bitCount_95d88_8 ?_
  refine lv_lstore_n (lv' := [(0, .long (p0 - ((lus p0 (1 : Int32)) &&& (6148914691236517205 : Int64))))]) hx hb dJ13_bitCount_95d88_9 rfl hl (by decide) rfl (fun ls hl => ?_)
  refine lv_lload_n hx hb dJ13_bitCount_95d88_10 rfl (lv_at hl 0 rfl) ?_
  refine lv_ldc2 hx hb hown (hts _ kcJ13_316) dJ13_bitCount_95d88_11 ?_
  refine lv_land hx hb dJ13_bitCount_95d88_14 ?_
  refine lv_lload_n hx hb dJ13_bitCount_95d88_15 rfl (lv_at hl 0 rfl) ?_
  refine lv_iconst (v := 2) hx hb dJ13_bitCount_95d88_16 (by decide) ?_
  refine lv_lushr (v := lus (p0 - ((lus p0 (1 : Int32)) &&& (6148914691236517205 : Int64))) (2 : Int32)) hx hb dJ13_bitCount_95d88_17 rfl ?_
  refine lv_ldc2 hx hb hown (hts _ kcJ13_316) dJ13_bitCount_95d88_18 ?_
  refine lv_land hx hb dJ13_bitCount_95d88_21 ?_
  refine lv_ladd hx hb dJ13_bitCount_95d88_22 ?_
  refine lv_lstore_n (lv' := [(0, .long (((p0 - ((lus p0 (1 : Int32)) &&& (6148914691236517205 : Int64))) &&& (3689348814741910323 : Int64)) + ((lus (p0 - ((lus p0 (1 : Int32)) &&& (6148914691236517205 : Int64))) (2 : Int32)) &&& (3689348814741910323 : Int64))))]) hx hb dJ13_bitCount_95d88_23 rfl hl (by decide) rfl (fun ls hl => ?_)
  refine lv_lload_n hx hb dJ13_bitCount_95d88_24 rfl (lv_at hl 0 rfl) ?_
  refine lv_lload_n hx hb dJ13_bitCount_95d88_25 rfl (lv_at hl 0 rfl) ?_
  refine lv_iconst (v := 4) hx hb dJ13_bitCount_95d88_26 (by decide) ?_
  refine lv_lushr (v := lus (((p0 - ((lus p0 (1 : Int32)) &&& (6148914691236517205 : Int64))) &&& (3689348814741910323 : Int64)) + ((lus (p0 - ((lus p0 (1 : Int32)) &&& (6148914691236517205 : Int64))) (2 : Int32)) &&& (3689348814741910323 : Int64))) (4 : Int32)) hx hb dJ13_bitCount_95d88_27 rfl ?_
  refine lv_ladd hx hb dJ13_bitCount_95d88_28 ?_
  refine lv_ldc2 hx hb hown (hts _ kcJ13_318) dJ13_bitCount_95d88_29 ?_
  refine lv_land hx hb dJ13_bitCount_95d88_32 ?_
  refine lv_lstore_n (lv' := [(0, .long (((((p0 - ((lus p0 (1 : Int32)) &&& (6148914691236517205 : Int64))) &&& (3689348814741910323 : Int64)) + ((lus (p0 - ((lus p0 (1 : Int32)) &&& (6148914691236517205 : Int64))) (2 : Int32)) &&& (3689348814741910323 : Int64))) + (lus (((p0 - ((lus p0 (1 : Int32)) &&& (6148914691236517205 : Int64))) &&& (3689348814741910323 : Int64)) + ((lus (p0 - ((lus p0 (1 : Int32)) &&& (6148914691236517205 : Int64))) (2 : Int32)) &&& (3689348814741910323 : Int64))) (4 : Int32))) &&& (1085102592571150095 : Int64)))]) hx hb dJ13_bitCount_95d88_33 rfl hl (by decide) rfl (fun ls hl => ?_)
  refine lv_lload_n hx hb dJ13_bitCount_95d88_34 rfl (lv_at hl 0 rfl) ?_
  refine lv_lload_n hx hb dJ13_bitCount_95d88_35 rfl (lv_at hl 0 rfl) ?_
  refine lv_bipush (v := 8) hx hb dJ13_bitCount_95d88_36 (by decide) ?_
  refine lv_lushr (v := lus (((((p0 - ((lus p0 (1 : Int32)) &&& (6148914691236517205 : Int64))) &&& (3689348814741910323 : Int64)) + ((lus (p0 - ((lus p0 (1 : Int32)) &&& (6148914691236517205 : Int64))) (2 : Int32)) &&& (3689348814741910323 : Int64))) + (lus (((p0 - ((lus p0 (1 : Int32)) &&& (6148914691236517205 : Int64))) &&& (3689348814741910323 : Int64)) + ((lus (p0 - ((lus p0 (1 : Int32)) &&& (6148914691236517205 : Int64))) (2 : Int32)) &&& (3689348814741910323 : Int64))) (4 : Int32))) &&& (1085102592571150095 : Int64)) (8 : Int32)) hx hb dJ13_bitCount_95d88_38 rfl ?_
  refine lv_ladd hx hb dJ13_bitCount_95d88_39 ?_
  refine lv_lstore_n (lv' := [(0, .long ((((((p0 - ((lus p0 (1 : Int32)) &&& (6148914691236517205 : Int64))) &&& (3689348814741910323 : Int64)) + ((lus (p0 - ((lus p0 (1 : Int32)) &&& (6148914691236517205 : Int64))) (2 : Int32)) &&& (3689348814741910323 : Int64))) + (lus (((p0 - ((lus p0 (1 : Int32)) &&& (6148914691236517205 : Int64))) &&& (3689348814741910323 : Int64)) + ((lus (p0 - ((lus p0 (1 : Int32)) &&& (6148914691236517205 : Int64))) (2 : Int32)) &&& (3689348814741910323 : Int64))) (4 : Int32))) &&& (1085102592571150095 : Int64)) + (lus (((((p0 - ((lus p0 (1 : Int32)) &&& (6148914691236517205 : Int64))) &&& (3689348814741910323 : Int64)) + ((lus (p0 - ((lus p0 (1 : Int32)) &&& (6148914691236517205 : Int64))) (2 : Int32)) &&& (3689348814741910323 : Int64))) + (lus (((p0 - ((lus p0 (1 : Int32)) &&& (6148914691236517205 : Int64))) &&& (3689348814741910323 : Int64)) + ((lus (p0 - ((lus p0 (1 : Int32)) &&& (6148914691236517205 : Int64))) (2 : Int32)) &&& (3689348814741910323 : Int64))) (4 : Int32))) &&& (1085102592571150095 : Int64)) (8 : Int32))))]) hx hb dJ13_bitCount_95d88_40 rfl hl (by decide) rfl (fun ls hl => ?_)
  refine lv_lload_n hx hb dJ13_bitCount_95d88_41 rfl (lv_at hl 0 rfl) ?_
  refine lv_lload_n hx hb dJ13_bitCount_95d88_42 rfl (lv_at hl 0 rfl) ?_
  refine lv_bipush (v := 16) hx hb dJ13_bitCount_95d88_43 (by decide) ?_
  refine lv_lushr (v := lus ((((((p0 - ((lus p0 (1 : Int32)) &&& (6148914691236517205 : Int64))) &&& (3689348814741910323 : Int64)) + ((lus (p0 - ((lus p0 (1 : Int32)) &&& (6148914691236517205 : Int64))) (2 : Int32)) &&& (3689348814741910323 : Int64))) + (lus (((p0 - ((lus p0 (1 : Int32)) &&& (6148914691236517205 : Int64))) &&& (3689348814741910323 : Int64)) + ((lus (p0 - ((lus p0 (1 : Int32)) &&& (6148914691236517205 : Int64))) (2 : Int32)) &&& (3689348814741910323 : Int64))) (4 : Int32))) &&& (1085102592571150095 : Int64)) + (lus (((((p0 - ((lus p0 (1 : Int32)) &&& (6148914691236517205 : Int64))) &&& (3689348814741910323 : Int64)) + ((lus (p0 - ((lus p0 (1 : Int32)) &&& (6148914691236517205 : Int64))) (2 : Int32)) &&& (3689348814741910323 : Int64))) + (lus (((p0 - ((lus p0 (1 : Int32)) &&& (6148914691236517205 : Int64))) &&& (3689348814741910323 : Int64)) + ((lus (p0 - ((lus p0 (1 : Int32)) &&& (6148914691236517205 : Int64))) (2 : Int32)) &&& (3689348814741910323 : Int64))) (4 : Int32))) &&& (1085102592571150095 : Int64)) (8 : Int32))) (16 : Int32)) hx hb dJ13_bitCount_95d88_45 rfl ?_
  refine lv_ladd hx hb dJ13_bitCount_95d88_46 ?_
  refine lv_lstore_n (lv' := [(0, .long (((((((p0 - ((lus p0 (1 : Int32)) &&& (6148914691236517205 : Int64))) &&& (3689348814741910323 : Int64)) + ((lus (p0 - ((lus p0 (1 : Int32)) &&& (6148914691236517205 : Int64))) (2 : Int32)) &&& (3689348814741910323 : Int64))) + (lus (((p0 - ((lus p0 (1 : Int32)) &&& (6148914691236517205 : Int64))) &&& (3689348814741910323 : Int64)) + ((lus (p0 - ((lus p0 (1 : Int32)) &&& (6148914691236517205 : Int64))) (2 : Int32)) &&& (3689348814741910323 : Int64))) (4 : Int32))) &&& (1085102592571150095 : Int64)) + (lus (((((p0 - ((lus p0 (1 : Int32)) &&& (6148914691236517205 : Int64))) &&& (3689348814741910323 : Int64)) + ((lus (p0 - ((lus p0 (1 : Int32)) &&& (6148914691236517205 : Int64))) (2 : Int32)) &&& (3689348814741910323 : Int64))) + (lus (((p0 - ((lus p0 (1 : Int32)) &&& (6148914691236517205 : Int64))) &&& (3689348814741910323 : Int64)) + ((lus (p0 - ((lus p0 (1 : Int32)) &&& (6148914691236517205 : Int64))) (2 : Int32)) &&& (3689348814741910323 : Int64))) (4 : Int32))) &&& (1085102592571150095 : Int64)) (8 : Int32))) + (lus ((((((p0 - ((lus p0 (1 : Int32)) &&& (6148914691236517205 : Int64))) &&& (3689348814741910323 : Int64)) + ((lus (p0 - ((lus p0 (1 : Int32)) &&& (6148914691236517205 : Int64))) (2 : Int32)) &&& (3689348814741910323 : Int64))) + (lus (((p0 - ((lus p0 (1 : Int32)) &&& (6148914691236517205 : Int64))) &&& (3689348814741910323 : Int64)) + ((lus (p0 - ((lus p0 (1 : Int32)) &&& (6148914691236517205 : Int64))) (2 : Int32)) &&& (3689348814741910323 : Int64))) (4 : Int32))) &&& (1085102592571150095 : Int64)) + (lus (((((p0 - ((lus p0 (1 : Int32)) &&& (6148914691236517205 : Int64))) &&& (3689348814741910323 : Int64)) + ((lus (p0 - ((lus p0 (1 : Int32)) &&& (6148914691236517205 : Int64))) (2 : Int32)) &&& (3689348814741910323 : Int64))) + (lus (((p0 - ((lus p0 (1 : Int32)) &&& (6148914691236517205 : Int64))) &&& (3689348814741910323 : Int64)) + ((lus (p0 - ((lus p0 (1 : Int32)) &&& (6148914691236517205 : Int64))) (2 : Int32)) &&& (3689348814741910323 : Int64))) (4 : Int32))) &&& (1085102592571150095 : Int64)) (8 : Int32))) (16 : Int32))))]) hx hb dJ13_bitCount_95d88_47 rfl hl (by decide) rfl (fun ls hl => ?_)
  refine lv_lload_n hx hb dJ13_bitCount_95d88_48 rfl (lv_at hl 0 rfl) ?_
  refine lv_lload_n hx hb dJ13_bitCount_95d88_49 rfl (lv_at hl 0 rfl) ?_
  refine lv_bipush (v := 32) hx hb dJ13_bitCount_95d88_50 (by decide) ?_
  refine lv_lushr (v := lus (((((((p0 - ((lus p0 (1 : Int32)) &&& (6148914691236517205 : Int64))) &&& (3689348814741910323 : Int64)) + ((lus (p0 - ((lus p0 (1 : Int32)) &&& (6148914691236517205 : Int64))) (2 : Int32)) &&& (3689348814741910323 : Int64))) + (lus (((p0 - ((lus p0 (1 : Int32)) &&& (6148914691236517205 : Int64))) &&& (3689348814741910323 : Int64)) + ((lus (p0 - ((lus p0 (1 : Int32)) &&& (6148914691236517205 : Int64))) (2 : Int32)) &&& (3689348814741910323 : Int64))) (4 : Int32))) &&& (1085102592571150095 : Int64)) + (lus (((((p0 - ((lus p0 (1 : Int32)) &&& (6148914691236517205 : Int64))) &&& (3689348814741910323 : Int64)) + ((lus (p0 - ((lus p0 (1 : Int32)) &&& (6148914691236517205 : Int64))) (2 : Int32)) &&& (3689348814741910323 : Int64))) + (lus (((p0 - ((lus p0 (1 : Int32)) &&& (6148914691236517205 : Int64))) &&& (3689348814741910323 : Int64)) + ((lus (p0 - ((lus p0 (1 : Int32)) &&& (6148914691236517205 : Int64))) (2 : Int32)) &&& (3689348814741910323 : Int64))) (4 : Int32))) &&& (1085102592571150095 : Int64)) (8 : Int32))) + (lus ((((((p0 - ((lus p0 (1 : Int32)) &&& (6148914691236517205 : Int64))) &&& (3689348814741910323 : Int64)) + ((lus (p0 - ((lus p0 (1 : Int32)) &&& (6148914691236517205 : Int64))) (2 : Int32)) &&& (3689348814741910323 : Int64))) + (lus (((p0 - ((lus p0 (1 : Int32)) &&& (6148914691236517205 : Int64))) &&& (3689348814741910323 : Int64)) + ((lus (p0 - ((lus p0 (1 : Int32)) &&& (6148914691236517205 : Int64))) (2 : Int32)) &&& (3689348814741910323 : Int64))) (4 : Int32))) &&& (1085102592571150095 : Int64)) + (lus (((((p0 - ((lus p0 (1 : Int32)) &&& (6148914691236517205 : Int64))) &&& (3689348814741910323 : Int64)) + ((lus (p0 - ((lus p0 (1 : Int32)) &&& (6148914691236517205 : Int64))) (2 : Int32)) &&& (3689348814741910323 : Int64))) + (lus (((p0 - ((lus p0 (1 : Int32)) &&& (6148914691236517205 : Int64))) &&& (3689348814741910323 : Int64)) + ((lus (p0 - ((lus p0 (1 : Int32)) &&& (6148914691236517205 : Int64))) (2 : Int32)) &&& (3689348814741910323 : Int64))) (4 : Int32))) &&& (1085102592571150095 : Int64)) (8 : Int32))) (16 : Int32))) (32 : Int32)) hx hb dJ13_bitCount_95d88_52 rfl ?_
  refine lv_ladd hx hb dJ13_bitCount_95d88_53 ?_
  refine lv_lstore_n (lv' := [(0, .long ((((((((p0 - ((lus p0 (1 : Int32)) &&& (6148914691236517205 : Int64))) &&& (3689348814741910323 : Int64)) + ((lus (p0 - ((lus p0 (1 : Int32)) &&& (6148914691236517205 : Int64))) (2 : Int32)) &&& (3689348814741910323 : Int64))) + (lus (((p0 - ((lus p0 (1 : Int32)) &&& (6148914691236517205 : Int64))) &&& (3689348814741910323 : Int64)) + ((lus (p0 - ((lus p0 (1 : Int32)) &&& (6148914691236517205 : Int64))) (2 : Int32)) &&& (3689348814741910323 : Int64))) (4 : Int32))) &&& (1085102592571150095 : Int64)) + (lus (((((p0 - ((lus p0 (1 : Int32)) &&& (6148914691236517205 : Int64))) &&& (3689348814741910323 : Int64)) + ((lus (p0 - ((lus p0 (1 : Int32)) &&& (6148914691236517205 : Int64))) (2 : Int32)) &&& (3689348814741910323 : Int64))) + (lus (((p0 - ((lus p0 (1 : Int32)) &&& (6148914691236517205 : Int64))) &&& (3689348814741910323 : Int64)) + ((lus (p0 - ((lus p0 (1 : Int32)) &&& (6148914691236517205 : Int64))) (2 : Int32)) &&& (3689348814741910323 : Int64))) (4 : Int32))) &&& (1085102592571150095 : Int64)) (8 : Int32))) + (lus ((((((p0 - ((lus p0 (1 : Int32)) &&& (6148914691236517205 : Int64))) &&& (3689348814741910323 : Int64)) + ((lus (p0 - ((lus p0 (1 : Int32)) &&& (6148914691236517205 : Int64))) (2 : Int32)) &&& (3689348814741910323 : Int64))) + (lus (((p0 - ((lus p0 (1 : Int32)) &&& (6148914691236517205 : Int64))) &&& (3689348814741910323 : Int64)) + ((lus (p0 - ((lus p0 (1 : Int32)) &&& (6148914691236517205 : Int64))) (2 : Int32)) &&& (3689348814741910323 : Int64))) (4 : Int32))) &&& (1085102592571150095 : Int64)) + (lus (((((p0 - ((lus p0 (1 : Int32)) &&& (6148914691236517205 : Int64))) &&& (3689348814741910323 : Int64)) + ((lus (p0 - ((lus p0 (1 : Int32)) &&& (6148914691236517205 : Int64))) (2 : Int32)) &&& (3689348814741910323 : Int64))) + (lus (((p0 - ((lus p0 (1 : Int32)) &&& (6148914691236517205 : Int64))) &&& (3689348814741910323 : Int64)) + ((lus (p0 - ((lus p0 (1 : Int32)) &&& (6148914691236517205 : Int64))) (2 : Int32)) &&& (3689348814741910323 : Int64))) (4 : Int32))) &&& (1085102592571150095 : Int64)) (8 : Int32))) (16 : Int32))) + (lus (((((((p0 - ((lus p0 (1 : Int32)) &&& (6148914691236517205 : Int64))) &&& (3689348814741910323 : Int64)) + ((lus (p0 - ((lus p0 (1 : Int32)) &&& (6148914691236517205 : Int64))) (2 : Int32)) &&& (3689348814741910323 : Int64))) + (lus (((p0 - ((lus p0 (1 : Int32)) &&& (6148914691236517205 : Int64))) &&& (3689348814741910323 : Int64)) + ((lus (p0 - ((lus p0 (1 : Int32)) &&& (6148914691236517205 : Int64))) (2 : Int32)) &&& (3689348814741910323 : Int64))) (4 : Int32))) &&& (1085102592571150095 : Int64)) + (lus (((((p0 - ((lus p0 (1 : Int32)) &&& (6148914691236517205 : Int64))) &&& (3689348814741910323 : Int64)) + ((lus (p0 - ((lus p0 (1 : Int32)) &&& (6148914691236517205 : Int64))) (2 : Int32)) &&& (3689348814741910323 : Int64))) + (lus (((p0 - ((lus p0 (1 : Int32)) &&& (6148914691236517205 : Int64))) &&& (3689348814741910323 : Int64)) + ((lus (p0 - ((lus p0 (1 : Int32)) &&& (6148914691236517205 : Int64))) (2 : Int32)) &&& (3689348814741910323 : Int64))) (4 : Int32))) &&& (1085102592571150095 : Int64)) (8 : Int32))) + (lus ((((((p0 - ((lus p0 (1 : Int32)) &&& (6148914691236517205 : Int64))) &&& (3689348814741910323 : Int64)) + ((lus (p0 - ((lus p0 (1 : Int32)) &&& (6148914691236517205 : Int64))) (2 : Int32)) &&& (3689348814741910323 : Int64))) + (lus (((p0 - ((lus p0 (1 : Int32)) &&& (6148914691236517205 : Int64))) &&& (3689348814741910323 : Int64)) + ((lus (p0 - ((lus p0 (1 : Int32)) &&& (6148914691236517205 : Int64))) (2 : Int32)) &&& (3689348814741910323 : Int64))) (4 : Int32))) &&& (1085102592571150095 : Int64)) + (lus (((((p0 - ((lus p0 (1 : Int32)) &&& (6148914691236517205 : Int64))) &&& (3689348814741910323 : Int64)) + ((lus (p0 - ((lus p0 (1 : Int32)) &&& (6148914691236517205 : Int64))) (2 : Int32)) &&& (3689348814741910323 : Int64))) + (lus (((p0 - ((lus p0 (1 : Int32)) &&& (6148914691236517205 : Int64))) &&& (3689348814741910323 : Int64)) + ((lus (p0 - ((lus p0 (1 : Int32)) &&& (6148914691236517205 : Int64))) (2 : Int32)) &&& (3689348814741910323 : Int64))) (4 : Int32))) &&& (1085102592571150095 : Int64)) (8 : Int32))) (16 : Int32))) (32 : Int32))))]) hx hb dJ13_bitCount_95d88_54 rfl hl (by decide) rfl (fun ls hl => ?_)
  refine lv_lload_n hx hb dJ13_bitCount_95d88_55 rfl (lv_at hl 0 rfl) ?_
  refine lv_l2i (v := ((((((((p0 - ((lus p0 (1 : Int32)) &&& (6148914691236517205 : Int64))) &&& (3689348814741910323 : Int64)) + ((lus (p0 - ((lus p0 (1 : Int32)) &&& (6148914691236517205 : Int64))) (2 : Int32)) &&& (3689348814741910323 : Int64))) + (lus (((p0 - ((lus p0 (1 : Int32)) &&& (6148914691236517205 : Int64))) &&& (3689348814741910323 : Int64)) + ((lus (p0 - ((lus p0 (1 : Int32)) &&& (6148914691236517205 : Int64))) (2 : Int32)) &&& (3689348814741910323 : Int64))) (4 : Int32))) &&& (1085102592571150095 : Int64)) + (lus (((((p0 - ((lus p0 (1 : Int32)) &&& (6148914691236517205 : Int64))) &&& (3689348814741910323 : Int64)) + ((lus (p0 - ((lus p0 (1 : Int32)) &&& (6148914691236517205 : Int64))) (2 : Int32)) &&& (3689348814741910323 : Int64))) + (lus (((p0 - ((lus p0 (1 : Int32)) &&& (6148914691236517205 : Int64))) &&& (3689348814741910323 : Int64)) + ((lus (p0 - ((lus p0 (1 : Int32)) &&& (6148914691236517205 : Int64))) (2 : Int32)) &&& (3689348814741910323 : Int64))) (4 : Int32))) &&& (1085102592571150095 : Int64)) (8 : Int32))) + (lus ((((((p0 - ((lus p0 (1 : Int32)) &&& (6148914691236517205 : Int64))) &&& (3689348814741910323 : Int64)) + ((lus (p0 - ((lus p0 (1 : Int32)) &&& (6148914691236517205 : Int64))) (2 : Int32)) &&& (3689348814741910323 : Int64))) + (lus (((p0 - ((lus p0 (1 : Int32)) &&& (6148914691236517205 : Int64))) &&& (3689348814741910323 : Int64)) + ((lus (p0 - ((lus p0 (1 : Int32)) &&& (6148914691236517205 : Int64))) (2 : Int32)) &&& (3689348814741910323 : Int64))) (4 : Int32))) &&& (1085102592571150095 : Int64)) + (lus (((((p0 - ((lus p0 (1 : Int32)) &&& (6148914691236517205 : Int64))) &&& (3689348814741910323 : Int64)) + ((lus (p0 - ((lus p0 (1 : Int32)) &&& (6148914691236517205 : Int64))) (2 : Int32)) &&& (3689348814741910323 : Int64))) + (lus (((p0 - ((lus p0 (1 : Int32)) &&& (6148914691236517205 : Int64))) &&& (3689348814741910323 : Int64)) + ((lus (p0 - ((lus p0 (1 : Int32)) &&& (6148914691236517205 : Int64))) (2 : Int32)) &&& (3689348814741910323 : Int64))) (4 : Int32))) &&& (1085102592571150095 : Int64)) (8 : Int32))) (16 : Int32))) + (lus (((((((p0 - ((lus p0 (1 : Int32)) &&& (6148914691236517205 : Int64))) &&& (3689348814741910323 : Int64)) + ((lus (p0 - ((lus p0 (1 : Int32)) &&& (6148914691236517205 : Int64))) (2 : Int32)) &&& (3689348814741910323 : Int64))) + (lus (((p0 - ((lus p0 (1 : Int32)) &&& (6148914691236517205 : Int64))) &&& (3689348814741910323 : Int64)) + ((lus (p0 - ((lus p0 (1 : Int32)) &&& (6148914691236517205 : Int64))) (2 : Int32)) &&& (3689348814741910323 : Int64))) (4 : Int32))) &&& (1085102592571150095 : Int64)) + (lus (((((p0 - ((lus p0 (1 : Int32)) &&& (6148914691236517205 : Int64))) &&& (3689348814741910323 : Int64)) + ((lus (p0 - ((lus p0 (1 : Int32)) &&& (6148914691236517205 : Int64))) (2 : Int32)) &&& (3689348814741910323 : Int64))) + (lus (((p0 - ((lus p0 (1 : Int32)) &&& (6148914691236517205 : Int64))) &&& (3689348814741910323 : Int64)) + ((lus (p0 - ((lus p0 (1 : Int32)) &&& (6148914691236517205 : Int64))) (2 : Int32)) &&& (3689348814741910323 : Int64))) (4 : Int32))) &&& (1085102592571150095 : Int64)) (8 : Int32))) + (lus ((((((p0 - ((lus p0 (1 : Int32)) &&& (6148914691236517205 : Int64))) &&& (3689348814741910323 : Int64)) + ((lus (p0 - ((lus p0 (1 : Int32)) &&& (6148914691236517205 : Int64))) (2 : Int32)) &&& (3689348814741910323 : Int64))) + (lus (((p0 - ((lus p0 (1 : Int32)) &&& (6148914691236517205 : Int64))) &&& (3689348814741910323 : Int64)) + ((lus (p0 - ((lus p0 (1 : Int32)) &&& (6148914691236517205 : Int64))) (2 : Int32)) &&& (3689348814741910323 : Int64))) (4 : Int32))) &&& (1085102592571150095 : Int64)) + (lus (((((p0 - ((lus p0 (1 : Int32)) &&& (6148914691236517205 : Int64))) &&& (3689348814741910323 : Int64)) + ((lus (p0 - ((lus p0 (1 : Int32)) &&& (6148914691236517205 : Int64))) (2 : Int32)) &&& (3689348814741910323 : Int64))) + (lus (((p0 - ((lus p0 (1 : Int32)) &&& (6148914691236517205 : Int64))) &&& (3689348814741910323 : Int64)) + ((lus (p0 - ((lus p0 (1 : Int32)) &&& (6148914691236517205 : Int64))) (2 : Int32)) &&& (3689348814741910323 : Int64))) (4 : Int32))) &&& (1085102592571150095 : Int64)) (8 : Int32))) (16 : Int32))) (32 : Int32))).toInt32) hx hb dJ13_bitCount_95d88_56 rfl ?_
  refine lv_bipush (v := 127) hx hb dJ13_bitCount_95d88_57 (by decide) ?_
  refine lv_iand hx hb dJ13_bitCount_95d88_59 ?_
  obtain rfl := opE hf
  exact hret H locs ls 60 dJ13_bitCount_95d88_60 hP hD hS
set_option maxRecDepth 100000 in
set_option maxHeartbeats 4000000 in
theorem c_J9_floorDiv_f86c9 (l : Launch) (D : va_G) (cI cJ : ClassId) (p0 : Int64) (p1 : Int64)  (u : Int64) (hf : f_J9_floorDiv_f86c9 p0 p1 = some u) : CtL l yJ9_floorDiv_f86c9 cJ9_floorDiv_f86c9 6 0 0 [.long p0, .long p1] D cI cJ [] [] u := by
  refine mkL (own := RJ9) rfl (by decide +kernel) (Nat.le_of_ble_eq_true rfl) (lv := [(0, .long p0), (2, .long p1)]) rfl ?_
  intro p e s m below meth c Q A ls ar S hA hK hN hret H locs hP hD hS hl
  obtain ⟨hx, hb, hml, hown, hts⟩ := id S
  unfold f_J9_floorDiv_f86c9 at hf
  refine lv_lload_n hx hb dJ9_floorDiv_f86c9_0 rfl (lv_at hl 0 rfl) ?_
  refine lv_lload_n hx hb dJ9_floorDiv_f86c9_1 rfl (lv_at hl 1 rfl) ?_
  obtain ⟨hz1, hf⟩ := nzE hf
  refine lv_ldiv hx hb dJ9_floorDiv_f86c9_2 hz1 ?_
  refine lv_lstore (lv' := [(4, .long (p0 / p1)), (0, .long p0), (2, .long p1)]) hx hb dJ9_floorDiv_f86c9_3 hl (by decide) rfl (fun ls hl => ?_)
  refine lv_lload_n hx hb dJ9_floorDiv_f86c9_5 rfl (lv_at hl 1 rfl) ?_
  refine lv_lload_n hx hb dJ9_floorDiv_f86c9_6 rfl (lv_at hl 2 rfl) ?_
  refine lv_lxor hx hb dJ9_floorDiv_f86c9_7 ?_
  refine lv_lconst (v := 0) hx hb dJ9_floorDiv_f86c9_8 (by decide) ?_
  refine W.lcmp hx hb dJ9_floorDiv_f86c9_9 ?_
  refine lv_if_ge (tgt := 27) hx hb dJ9_floorDiv_f86c9_10 (by decide) (fun hc3 => ?_) (fun hc3 => ?_)
  · have hf := ifT hc3 hf
    refine lv_lload hx hb dJ9_floorDiv_f86c9_27 (lv_at hl 0 rfl) ?_
    obtain rfl := opE hf
    exact hret H locs ls 29 dJ9_floorDiv_f86c9_29 hP hD hS
  · have hf := ifF hc3 hf
    refine lv_lload hx hb dJ9_floorDiv_f86c9_13 (lv_at hl 0 rfl) ?_
    refine lv_lload_n hx hb dJ9_floorDiv_f86c9_15 rfl (lv_at hl 2 rfl) ?_
    refine lv_lmul hx hb dJ9_floorDiv_f86c9_16 ?_
    refine lv_lload_n hx hb dJ9_floorDiv_f86c9_17 rfl (lv_at hl 1 rfl) ?_
    refine W.lcmp hx hb dJ9_floorDiv_f86c9_18 ?_
    refine lv_if_eq (tgt := 27) hx hb dJ9_floorDiv_f86c9_19 (by decide) (fun hc2 => ?_) (fun hc2 => ?_)
    · have hf := ifT hc2 hf
      refine lv_lload hx hb dJ9_floorDiv_f86c9_27 (lv_at hl 0 rfl) ?_
      obtain rfl := opE hf
      exact hret H locs ls 29 dJ9_floorDiv_f86c9_29 hP hD hS
    · have hf := ifF hc2 hf
      refine lv_lload hx hb dJ9_floorDiv_f86c9_22 (lv_at hl 0 rfl) ?_
      refine lv_lconst (v := 1) hx hb dJ9_floorDiv_f86c9_24 (by decide) ?_
      refine lv_lsub hx hb dJ9_floorDiv_f86c9_25 ?_
      obtain rfl := opE hf
      exact hret H locs ls 26 dJ9_floorDiv_f86c9_26 hP hD hS
set_option maxRecDepth 100000 in
set_option maxHeartbeats 4000000 in
theorem c_J9_abs_0f7a4 (l : Launch) (D : va_G) (cI cJ : ClassId) (p0 : Int32)  (u : Int32) (hf : f_J9_abs_0f7a4 p0 = some u) : CtI l yJ9_abs_0f7a4 cJ9_abs_0f7a4 1 0 0 .int [.int p0] D cI cJ [] [] u := by
  refine mkI (own := RJ9) rfl (by decide +kernel) (Nat.le_of_ble_eq_true rfl) (lv := [(0, .int p0)]) rfl ?_
  intro p e s m below meth c Q A ls ar S hA hK hN hret H locs hP hD hS hl
  obtain ⟨hx, hb, hml, hown, hts⟩ := id S
  unfold f_J9_abs_0f7a4 at hf
  refine lv_iload_n hx hb dJ9_abs_0f7a4_0 rfl (lv_at hl 0 rfl) ?_
  refine lv_if_ge (tgt := 9) hx hb dJ9_abs_0f7a4_1 (by decide) (fun hc1 => ?_) (fun hc1 => ?_)
  · have hf := ifT hc1 hf
    refine lv_iload_n hx hb dJ9_abs_0f7a4_9 rfl (lv_at hl 0 rfl) ?_
    obtain rfl := opE hf
    exact hret H locs ls 10 dJ9_abs_0f7a4_10 hP hD hS
  · have hf := ifF hc1 hf
    refine lv_iload_n hx hb dJ9_abs_0f7a4_4 rfl (lv_at hl 0 rfl) ?_
    refine lv_ineg hx hb dJ9_abs_0f7a4_5 ?_
    refine lv_goto (tgt := 10) hx hb dJ9_abs_0f7a4_6 (by decide) ?_
    obtain rfl := opE hf
    exact hret H locs ls 10 dJ9_abs_0f7a4_10 hP hD hS
set_option maxRecDepth 100000 in
set_option maxHeartbeats 4000000 in
theorem c_J9_max_f86c9 (l : Launch) (D : va_G) (cI cJ : ClassId) (p0 : Int64) (p1 : Int64)  (u : Int64) (hf : f_J9_max_f86c9 p0 p1 = some u) : CtL l yJ9_max_f86c9 cJ9_max_f86c9 4 0 0 [.long p0, .long p1] D cI cJ [] [] u := by
  refine mkL (own := RJ9) rfl (by decide +kernel) (Nat.le_of_ble_eq_true rfl) (lv := [(0, .long p0), (2, .long p1)]) rfl ?_
  intro p e s m below meth c Q A ls ar S hA hK hN hret H locs hP hD hS hl
  obtain ⟨hx, hb, hml, hown, hts⟩ := id S
  unfold f_J9_max_f86c9 at hf
  refine lv_lload_n hx hb dJ9_max_f86c9_0 rfl (lv_at hl 0 rfl) ?_
  refine lv_lload_n hx hb dJ9_max_f86c9_1 rfl (lv_at hl 1 rfl) ?_
  refine W.lcmp hx hb dJ9_max_f86c9_2 ?_
  refine lv_if_lt (tgt := 10) hx hb dJ9_max_f86c9_3 (by decide) (fun hc1 => ?_) (fun hc1 => ?_)
  · have hf := ifT hc1 hf
    refine lv_lload_n hx hb dJ9_max_f86c9_10 rfl (lv_at hl 1 rfl) ?_
    obtain rfl := opE hf
    exact hret H locs ls 11 dJ9_max_f86c9_11 hP hD hS
  · have hf := ifF hc1 hf
    refine lv_lload_n hx hb dJ9_max_f86c9_6 rfl (lv_at hl 0 rfl) ?_
    refine lv_goto (tgt := 11) hx hb dJ9_max_f86c9_7 (by decide) ?_
    obtain rfl := opE hf
    exact hret H locs ls 11 dJ9_max_f86c9_11 hP hD hS
set_option maxRecDepth 100000 in
set_option maxHeartbeats 4000000 in
theorem c_J9_min_7cf53 (l : Launch) (D : va_G) (cI cJ : ClassId) (p0 : Int32) (p1 : Int32)  (u : Int32) (hf : f_J9_min_7cf53 p0 p1 = some u) : CtI l yJ9_min_7cf53 cJ9_min_7cf53 2 0 0 .int [.int p0, .int p1] D cI cJ [] [] u := by
  refine mkI (own := RJ9) rfl (by decide +kernel) (Nat.le_of_ble_eq_true rfl) (lv := [(0, .int p0), (1, .int p1)]) rfl ?_
  intro p e s m below meth c Q A ls ar S hA hK hN hret H locs hP hD hS hl
  obtain ⟨hx, hb, hml, hown, hts⟩ := id S
  unfold f_J9_min_7cf53 at hf
  refine lv_iload_n hx hb dJ9_min_7cf53_0 rfl (lv_at hl 0 rfl) ?_
  refine lv_iload_n hx hb dJ9_min_7cf53_1 rfl (lv_at hl 1 rfl) ?_
  refine lv_icmp_gt (tgt := 9) hx hb dJ9_min_7cf53_2 (by decide) (fun hc1 => ?_) (fun hc1 => ?_)
  · have hf := ifT hc1 hf
    refine lv_iload_n hx hb dJ9_min_7cf53_9 rfl (lv_at hl 1 rfl) ?_
    obtain rfl := opE hf
    exact hret H locs ls 10 dJ9_min_7cf53_10 hP hD hS
  · have hf := ifF hc1 hf
    refine lv_iload_n hx hb dJ9_min_7cf53_5 rfl (lv_at hl 0 rfl) ?_
    refine lv_goto (tgt := 10) hx hb dJ9_min_7cf53_6 (by decide) ?_
    obtain rfl := opE hf
    exact hret H locs ls 10 dJ9_min_7cf53_10 hP hD hS
