set_option maxRecDepth 100000 in
set_option maxHeartbeats 4000000 in
theorem c_X8_isNumber (l : Launch) (D : va_G) (cI cJ : ClassId) (a_p0 : Nat) (p0_kind : Int32) (p0_minus : Int32) (p0_m : Int64) (p0_e : Int32) (p0_narrowBelow : Int32) (u : Int32) (hf : f_X8_isNumber p0_kind = some u) : CtI l yX8_isNumber cX8_isNumber 1 0 0 .boolean [.ref a_p0] D cI cJ [(a_p0, .inr (9, [.int p0_kind, .int p0_minus, .long p0_m, .int p0_e, .int p0_narrowBelow]))] [(a_p0, .inr (9, [.int p0_kind, .int p0_minus, .long p0_m, .int p0_e, .int p0_narrowBelow]))] u := by
  refine mkZ (own := RX8) rfl (by decide +kernel) (Nat.le_of_ble_eq_true rfl) (lv := [(0, .ref a_p0)]) rfl ?_
  intro p e s m below meth c Q A ls ar S hA hK hN hret H locs hP hD hS hl
  obtain ⟨hx, hb, hml, hown, hts⟩ := id S
  have hret : ∀ (w : Int32), w = u → ∀ (H : Heap) (locs : List Loc) (ls : Array Slot) (pc : Nat), decode cX8_isNumber pc = .ok (.ireturn, 1) → (w = 0 ∨ w = 1) → va_P D vwCl [(a_p0, .inr (9, [.int p0_kind, .int p0_minus, .long p0_m, .int p0_e, .int p0_narrowBelow]))] H → va_D A [(a_p0, .inr (9, [.int p0_kind, .int p0_minus, .long p0_m, .int p0_e, .int p0_narrowBelow]))] → va_S A s.heap H locs → W p l e (rmz 0 0) s m ar below meth c H locs 0 0 Q (F0 m pc ls [.int w]) := fun w hw => hw ▸ hret
  unfold f_X8_isNumber at hf
  refine lv_aload_n hx hb dX8_isNumber_0 rfl (lv_at hl 0 rfl) ?_
  refine va_get (D := D) (ci := 9) (v := .int p0_kind) (C := RX8) (T := TX8) (N := 5) hx hb hts uwX8 hown hK hP 0 rfl rfl 0 (by decide) (hts _ kfX8_41) (fun _ h9 => h9) rfl dX8_isNumber_1 ?_
  refine lv_iconst (v := 3) hx hb dX8_isNumber_4 (by decide) ?_
  refine lv_icmp_ge (tgt := 12) hx hb dX8_isNumber_5 (by decide) (fun hc1 => ?_) (fun hc1 => ?_)
  · have hf := ifT hc1 hf
    refine lv_iconst (v := 0) hx hb dX8_isNumber_12 (by decide) ?_
    exact hret _ (opE hf) H locs ls 13 dX8_isNumber_13 (Or.inl rfl) hP hD hS
  · have hf := ifF hc1 hf
    refine lv_iconst (v := 1) hx hb dX8_isNumber_8 (by decide) ?_
    refine lv_goto (tgt := 13) hx hb dX8_isNumber_9 (by decide) ?_
    exact hret _ (opE hf) H locs ls 13 dX8_isNumber_13 (Or.inr rfl) hP hD hS
set_option maxRecDepth 100000 in
set_option maxHeartbeats 4000000 in
theorem c_J13_bitCount_95d88 (l : Launch) (D : va_G) (cI cJ : ClassId) (p0 : Int64)  (u : Int32) (hf : f_J13_bitCount_95d88 p0 = some u) : CtI l yJ13_bitCount_95d88 cJ13_bitCount_95d88 2 0 0 .int [.long p0] D cI cJ [] [] u := by
  refine mkI (own := RJ13) rfl (by decide +kernel) (Nat.le_of_ble_eq_true rfl) (lv := [(0, .long p0)]) rfl ?_
  intro p e s m below meth c Q A ls ar S hA hK hN hret H locs hP hD hS hl
  obtain ⟨hx, hb, hml, hown, hts⟩ := id S
  have hret : ∀ (w : Int32), w = u → ∀ (H : Heap) (locs : List Loc) (ls : Array Slot) (pc : Nat), decode cJ13_bitCount_95d88 pc = .ok (.ireturn, 1) → va_P D vwCl [] H → va_D A [] → va_S A s.heap H locs → W p l e (rmz 0 0) s m ar below meth c H locs 0 0 Q (F0 m pc ls [.int w]) := fun w hw => hw ▸ hret
  unfold f_J13_bitCount_95d88 at hf
  refine lv_lload_n hx hb dJ13_bitCount_95d88_0 rfl (lv_at hl 0 rfl) ?_
  refine lv_lload_n hx hb dJ13_bitCount_95d88_1 rfl (lv_at hl 0 rfl) ?_
  refine lv_iconst (v := 1) hx hb dJ13_bitCount_95d88_2 (by decide) ?_
  refine lv_lushr (v := lus p0 (1 : Int32)) hx hb dJ13_bitCount_95d88_3 rfl ?_
  refine lv_ldc2 hx hb hown (hts _ kcJ13_314) dJ13_bitCount_95d88_4 ?_
  refine lv_land hx hb dJ13_bitCount_95d88_7 ?_
  refine lv_lsub hx hb dJ13_bitCount_95d88_8 ?_
  refine lv_lstore_n (lv' := [(0, .long (p0 - ((lus p0 (1 : Int32)) &&& (6148914691236517205 : Int64))))]) hx hb dJ13_bitCount_95d88_9 rfl hl (by decide) rfl (fun ls hl => ?_)
  refine lv_lload_n hx hb dJ13_bitCount_95d88_10 rfl (lv_at hl 0 rfl) ?_
  refine lv_ldc2 hx hb hown (hts _ kcJ13_316) dJ13_bitCount_95d88_11 ?_
  refine lv_land hx hb dJ13_bitCount_95d88_14 ?_
  refine lv_lload_n hx hb dJ13_bitCount_95d88_15 rfl (lv_at hl 0 rfl) ?_
  refine lv_iconst (v := 2) hx hb dJ13_bitCount_95d88_16 (by decide) ?_
  refine lv_lushr (v := lus (p0 - ((lus p0 (1 : Int32)) &&& (6148914691236517205 : Int64))) (2 : Int32)) hx hb dJ13_bitCount_95d88_17 rfl ?_
  refine lv_ldc2 hx hb hown (hts _ kcJ13_316) dJ13_bitCount_95d88_18 ?_
  refine lv_land hx hb dJ13_bitCount_95d88_21 ?_
  refine lv_ladd hx hb dJ13_bitCount_95d88_22 ?_
  refine lv_lstore_n (lv' := [(0, .long (((p0 - ((lus p0 (1 : Int32)) &&& (6148914691236517205 : Int64))) &&& (3689348814741910323 : Int64)) + ((lus (p0 - ((lus p0 (1 : Int32)) &&& (6148914691236517205 : Int64))) (2 : Int32)) &&& (3689348814741910323 : Int64))))]) hx hb dJ13_bitCount_95d88_23 rfl hl (by decide) rfl (fun ls hl => ?_)
  refine lv_lload_n hx hb dJ13_bitCount_95d88_24 rfl (lv_at hl 0 rfl) ?_
  refine lv_lload_n hx hb dJ13_bitCount_95d88_25 rfl (lv_at hl 0 rfl) ?_
  refine lv_iconst (v := 4) hx hb dJ13_bitCount_95d88_26 (by decide) ?_
  refine lv_lushr (v := lus (((p0 - ((lus p0 (1 : Int32)) &&& (6148914691236517205 : Int64))) &&& (3689348814741910323 : Int64)) + ((lus (p0 - ((lus p0 (1 : Int32)) &&& (6148914691236517205 : Int64))) (2 : Int32)) &&& (3689348814741910323 : Int64))) (4 : Int32)) hx hb dJ13_bitCount_95d88_27 rfl ?_
  refine lv_ladd hx hb dJ13_bitCount_95d88_28 ?_
  refine lv_ldc2 hx hb hown (hts _ kcJ13_318) dJ13_bitCount_95d88_29 ?_
  refine lv_land hx hb dJ13_bitCount_95d88_32 ?_
  refine lv_lstore_n (lv' := [(0, .long (((((p0 - ((lus p0 (1 : Int32)) &&& (6148914691236517205 : Int64))) &&& (3689348814741910323 : Int64)) + ((lus (p0 - ((lus p0 (1 : Int32)) &&& (6148914691236517205 : Int64))) (2 : Int32)) &&& (3689348814741910323 : Int64))) + (lus (((p0 - ((lus p0 (1 : Int32)) &&& (6148914691236517205 : Int64))) &&& (3689348814741910323 : Int64)) + ((lus (p0 - ((lus p0 (1 : Int32)) &&& (6148914691236517205 : Int64))) (2 : Int32)) &&& (3689348814741910323 : Int64))) (4 : Int32))) &&& (1085102592571150095 : Int64)))]) hx hb dJ13_bitCount_95d88_33 rfl hl (by decide) rfl (fun ls hl => ?_)
  refine lv_lload_n hx hb dJ13_bitCount_95d88_34 rfl (lv_at hl 0 rfl) ?_
  refine lv_lload_n hx hb dJ13_bitCount_95d88_35 rfl (lv_at hl 0 rfl) ?_
  refine lv_bipush (v := 8) hx hb dJ13_bitCount_95d88_36 (by decide) ?_
  refine lv_lushr (v := lus (((((p0 - ((lus p0 (1 : Int32)) &&& (6148914691236517205 : Int64))) &&& (3689348814741910323 : Int64)) + ((lus (p0 - ((lus p0 (1 : Int32)) &&& (6148914691236517205 : Int64))) (2 : Int32)) &&& (3689348814741910323 : Int64))) + (lus (((p0 - ((lus p0 (1 : Int32)) &&& (6148914691236517205 : Int64))) &&& (3689348814741910323 : Int64)) + ((lus (p0 - ((lus p0 (1 : Int32)) &&& (6148914691236517205 : Int64))) (2 : Int32)) &&& (3689348814741910323 : Int64))) (4 : Int32))) &&& (1085102592571150095 : Int64)) (8 : Int32)) hx hb dJ13_bitCount_95d88_38 rfl ?_
  refine lv_ladd hx hb dJ13_bitCount_95d88_39 ?_
  refine lv_lstore_n (lv' := [(0, .long ((((((p0 - ((lus p0 (1 : Int32)) &&& (6148914691236517205 : Int64))) &&& (3689348814741910323 : Int64)) + ((lus (p0 - ((lus p0 (1 : Int32)) &&& (6148914691236517205 : Int64))) (2 : Int32)) &&& (3689348814741910323 : Int64))) + (lus (((p0 - ((lus p0 (1 : Int32)) &&& (6148914691236517205 : Int64))) &&& (3689348814741910323 : Int64)) + ((lus (p0 - ((lus p0 (1 : Int32)) &&& (6148914691236517205 : Int64))) (2 : Int32)) &&& (3689348814741910323 : Int64))) (4 : Int32))) &&& (1085102592571150095 : Int64)) + (lus (((((p0 - ((lus p0 (1 : Int32)) &&& (6148914691236517205 : Int64))) &&& (3689348814741910323 : Int64)) + ((lus (p0 - ((lus p0 (1 : Int32)) &&& (6148914691236517205 : Int64))) (2 : Int32)) &&& (3689348814741910323 : Int64))) + (lus (((p0 - ((lus p0 (1 : Int32)) &&& (6148914691236517205 : Int64))) &&& (3689348814741910323 : Int64)) + ((lus (p0 - ((lus p0 (1 : Int32)) &&& (6148914691236517205 : Int64))) (2 : Int32)) &&& (3689348814741910323 : Int64))) (4 : Int32))) &&& (1085102592571150095 : Int64)) (8 : Int32))))]) hx hb dJ13_bitCount_95d88_40 rfl hl (by decide) rfl (fun ls hl => ?_)
  refine lv_lload_n hx hb dJ13_bitCount_95d88_41 rfl (lv_at hl 0 rfl) ?_
  refine lv_lload_n hx hb dJ13_bitCount_95d88_42 rfl (lv_at hl 0 rfl) ?_
  refine lv_bipush (v := 16) hx hb dJ13_bitCount_95d88_43 (by decide) ?_
  refine lv_lushr (v := lus ((((((p0 - ((lus p0 (1 : Int32)) &&& (6148914691236517205 : Int64))) &&& (3689348814741910323 : Int64)) + ((lus (p0 - ((lus p0 (1 : Int32)) &&& (6148914691236517205 : Int64))) (2 : Int32)) &&& (3689348814741910323 : Int64))) + (lus (((p0 - ((lus p0 (1 : Int32)) &&& (6148914691236517205 : Int64))) &&& (3689348814741910323 : Int64)) + ((lus (p0 - ((lus p0 (1 : Int32)) &&& (6148914691236517205 : Int64))) (2 : Int32)) &&& (3689348814741910323 : Int64))) (4 : Int32))) &&& (1085102592571150095 : Int64)) + (lus (((((p0 - ((lus p0 (1 : Int32)) &&& (6148914691236517205 : Int64))) &&& (3689348814741910323 : Int64)) + ((lus (p0 - ((lus p0 (1 : Int32)) &&& (6148914691236517205 : Int64))) (2 : Int32)) &&& (3689348814741910323 : Int64))) + (lus (((p0 - ((lus p0 (1 : Int32)) &&& (6148914691236517205 : Int64))) &&& (3689348814741910323 : Int64)) + ((lus (p0 - ((lus p0 (1 : Int32)) &&& (6148914691236517205 : Int64))) (2 : Int32)) &&& (3689348814741910323 : Int64))) (4 : Int32))) &&& (1085102592571150095 : Int64)) (8 : Int32))) (16 : Int32)) hx hb dJ13_bitCount_95d88_45 rfl ?_
  refine lv_ladd hx hb dJ13_bitCount_95d88_46 ?_
  refine lv_lstore_n (lv' := [(0, .long (((((((p0 - ((lus p0 (1 : Int32)) &&& (6148914691236517205 : Int64))) &&& (3689348814741910323 : Int64)) + ((lus (p0 - ((lus p0 (1 : Int32)) &&& (6148914691236517205 : Int64))) (2 : Int32)) &&& (3689348814741910323 : Int64))) + (lus (((p0 - ((lus p0 (1 : Int32)) &&& (6148914691236517205 : Int64))) &&& (3689348814741910323 : Int64)) + ((lus (p0 - ((lus p0 (1 : Int32)) &&& (6148914691236517205 : Int64))) (2 : Int32)) &&& (3689348814741910323 : Int64))) (4 : Int32))) &&& (1085102592571150095 : Int64)) + (lus (((((p0 - ((lus p0 (1 : Int32)) &&& (6148914691236517205 : Int64))) &&& (3689348814741910323 : Int64)) + ((lus (p0 - ((lus p0 (1 : Int32)) &&& (6148914691236517205 : Int64))) (2 : Int32)) &&& (3689348814741910323 : Int64))) + (lus (((p0 - ((lus p0 (1 : Int32)) &&& (6148914691236517205 : Int64))) &&& (3689348814741910323 : Int64)) + ((lus (p0 - ((lus p0 (1 : Int32)) &&& (6148914691236517205 : Int64))) (2 : Int32)) &&& (3689348814741910323 : Int64))) (4 : Int32))) &&& (1085102592571150095 : Int64)) (8 : Int32))) + (lus ((((((p0 - ((lus p0 (1 : Int32)) &&& (6148914691236517205 : Int64))) &&& (3689348814741910323 : Int64)) + ((lus (p0 - ((lus p0 (1 : Int32)) &&& (6148914691236517205 : Int64))) (2 : Int32)) &&& (3689348814741910323 : Int64))) + (lus (((p0 - ((lus p0 (1 : Int32)) &&& (6148914691236517205 : Int64))) &&& (3689348814741910323 : Int64)) + ((lus (p0 - ((lus p0 (1 : Int32)) &&& (6148914691236517205 : Int64))) (2 : Int32)) &&& (3689348814741910323 : Int64))) (4 : Int32))) &&& (1085102592571150095 : Int64)) + (lus (((((p0 - ((lus p0 (1 : Int32)) &&& (6148914691236517205 : Int64))) &&& (3689348814741910323 : Int64)) + ((lus (p0 - ((lus p0 (1 : Int32)) &&& (6148914691236517205 : Int64))) (2 : Int32)) &&& (3689348814741910323 : Int64))) + (lus (((p0 - ((lus p0 (1 : Int32)) &&& (6148914691236517205 : Int64))) &&& (3689348814741910323 : Int64)) + ((lus (p0 - ((lus p0 (1 : Int32)) &&& (6148914691236517205 : Int64))) (2 : Int32)) &&& (3689348814741910323 : Int64))) (4 : Int32))) &&& (1085102592571150095 : Int64)) (8 : Int32))) (16 : Int32))))]) hx hb dJ13_bitCount_95d88_47 rfl hl (by decide) rfl (fun ls hl => ?_)
  refine lv_lload_n hx hb dJ13_bitCount_95d88_48 rfl (lv_at hl 0 rfl) ?_
  refine lv_lload_n hx hb dJ13_bitCount_95d88_49 rfl (lv_at hl 0 rfl) ?_
  refine lv_bipush (v := 32) hx hb dJ13_bitCount_95d88_50 (by decide) ?_
  refine lv_lushr (v := lus (((((((p0 - ((lus p0 (1 : Int32)) &&& (6148914691236517205 : Int64))) &&& (3689348814741910323 : Int64)) + ((lus (p0 - ((lus p0 (1 : Int32)) &&& (6148914691236517205 : Int64))) (2 : Int32)) &&& (3689348814741910323 : Int64))) + (lus (((p0 - ((lus p0 (1 : Int32)) &&& (6148914691236517205 : Int64))) &&& (3689348814741910323 : Int64)) + ((lus (p0 - ((lus p0 (1 : Int32)) &&& (6148914691236517205 : Int64))) (2 : Int32)) &&& (3689348814741910323 : Int64))) (4 : Int32))) &&& (1085102592571150095 : Int64)) + (lus (((((p0 - ((lus p0 (1 : Int32)) &&& (6148914691236517205 : Int64))) &&& (3689348814741910323 : Int64)) + ((lus (p0 - ((lus p0 (1 : Int32)) &&& (6148914691236517205 : Int64))) (2 : Int32)) &&& (3689348814741910323 : Int64))) + (lus (((p0 - ((lus p0 (1 : Int32)) &&& (6148914691236517205 : Int64))) &&& (3689348814741910323 : Int64)) + ((lus (p0 - ((lus p0 (1 : Int32)) &&& (6148914691236517205 : Int64))) (2 : Int32)) &&& (3689348814741910323 : Int64))) (4 : Int32))) &&& (1085102592571150095 : Int64)) (8 : Int32))) + (lus ((((((p0 - ((lus p0 (1 : Int32)) &&& (6148914691236517205 : Int64))) &&& (3689348814741910323 : Int64)) + ((lus (p0 - ((lus p0 (1 : Int32)) &&& (6148914691236517205 : Int64))) (2 : Int32)) &&& (3689348814741910323 : Int64))) + (lus (((p0 - ((lus p0 (1 : Int32)) &&& (6148914691236517205 : Int64))) &&& (3689348814741910323 : Int64)) + ((lus (p0 - ((lus p0 (1 : Int32)) &&& (6148914691236517205 : Int64))) (2 : Int32)) &&& (3689348814741910323 : Int64))) (4 : Int32))) &&& (1085102592571150095 : Int64)) + (lus (((((p0 - ((lus p0 (1 : Int32)) &&& (6148914691236517205 : Int64))) &&& (3689348814741910323 : Int64)) + ((lus (p0 - ((lus p0 (1 : Int32)) &&& (6148914691236517205 : Int64))) (2 : Int32)) &&& (3689348814741910323 : Int64))) + (lus (((p0 - ((lus p0 (1 : Int32)) &&& (6148914691236517205 : Int64))) &&& (3689348814741910323 : Int64)) + ((lus (p0 - ((lus p0 (1 : Int32)) &&& (6148914691236517205 : Int64))) (2 : Int32)) &&& (3689348814741910323 : Int64))) (4 : Int32))) &&& (1085102592571150095 : Int64)) (8 : Int32))) (16 : Int32))) (32 : Int32)) hx hb dJ13_bitCount_95d88_52 rfl ?_
  refine lv_ladd hx hb dJ13_bitCount_95d88_53 ?_
  refine lv_lstore_n (lv' := [(0, .long ((((((((p0 - ((lus p0 (1 : Int32)) &&& (6148914691236517205 : Int64))) &&& (3689348814741910323 : Int64)) + ((lus (p0 - ((lus p0 (1 : Int32)) &&& (6148914691236517205 : Int64))) (2 : Int32)) &&& (3689348814741910323 : Int64))) + (lus (((p0 - ((lus p0 (1 : Int32)) &&& (6148914691236517205 : Int64))) &&& (3689348814741910323 : Int64)) + ((lus (p0 - ((lus p0 (1 : Int32)) &&& (6148914691236517205 : Int64))) (2 : Int32)) &&& (3689348814741910323 : Int64))) (4 : Int32))) &&& (1085102592571150095 : Int64)) + (lus (((((p0 - ((lus p0 (1 : Int32)) &&& (6148914691236517205 : Int64))) &&& (3689348814741910323 : Int64)) + ((lus (p0 - ((lus p0 (1 : Int32)) &&& (6148914691236517205 : Int64))) (2 : Int32)) &&& (3689348814741910323 : Int64))) + (lus (((p0 - ((lus p0 (1 : Int32)) &&& (6148914691236517205 : Int64))) &&& (3689348814741910323 : Int64)) + ((lus (p0 - ((lus p0 (1 : Int32)) &&& (6148914691236517205 : Int64))) (2 : Int32)) &&& (3689348814741910323 : Int64))) (4 : Int32))) &&& (1085102592571150095 : Int64)) (8 : Int32))) + (lus ((((((p0 - ((lus p0 (1 : Int32)) &&& (6148914691236517205 : Int64))) &&& (3689348814741910323 : Int64)) + ((lus (p0 - ((lus p0 (1 : Int32)) &&& (6148914691236517205 : Int64))) (2 : Int32)) &&& (3689348814741910323 : Int64))) + (lus (((p0 - ((lus p0 (1 : Int32)) &&& (6148914691236517205 : Int64))) &&& (3689348814741910323 : Int64)) + ((lus (p0 - ((lus p0 (1 : Int32)) &&& (6148914691236517205 : Int64))) (2 : Int32)) &&& (3689348814741910323 : Int64))) (4 : Int32))) &&& (1085102592571150095 : Int64)) + (lus (((((p0 - ((lus p0 (1 : Int32)) &&& (6148914691236517205 : Int64))) &&& (3689348814741910323 : Int64)) + ((lus (p0 - ((lus p0 (1 : Int32)) &&& (6148914691236517205 : Int64))) (2 : Int32)) &&& (3689348814741910323 : Int64))) + (lus (((p0 - ((lus p0 (1 : Int32)) &&& (6148914691236517205 : Int64))) &&& (3689348814741910323 : Int64)) + ((lus (p0 - ((lus p0 (1 : Int32)) &&& (6148914691236517205 : Int64))) (2 : Int32)) &&& (3689348814741910323 : Int64))) (4 : Int32))) &&& (1085102592571150095 : Int64)) (8 : Int32))) (16 : Int32))) + (lus (((((((p0 - ((lus p0 (1 : Int32)) &&& (6148914691236517205 : Int64))) &&& (3689348814741910323 : Int64)) + ((lus (p0 - ((lus p0 (1 : Int32)) &&& (6148914691236517205 : Int64))) (2 : Int32)) &&& (3689348814741910323 : Int64))) + (lus (((p0 - ((lus p0 (1 : Int32)) &&& (6148914691236517205 : Int64))) &&& (3689348814741910323 : Int64)) + ((lus (p0 - ((lus p0 (1 : Int32)) &&& (6148914691236517205 : Int64))) (2 : Int32)) &&& (3689348814741910323 : Int64))) (4 : Int32))) &&& (1085102592571150095 : Int64)) + (lus (((((p0 - ((lus p0 (1 : Int32)) &&& (6148914691236517205 : Int64))) &&& (3689348814741910323 : Int64)) + ((lus (p0 - ((lus p0 (1 : Int32)) &&& (6148914691236517205 : Int64))) (2 : Int32)) &&& (3689348814741910323 : Int64))) + (lus (((p0 - ((lus p0 (1 : Int32)) &&& (6148914691236517205 : Int64))) &&& (3689348814741910323 : Int64)) + ((lus (p0 - ((lus p0 (1 : Int32)) &&& (6148914691236517205 : Int64))) (2 : Int32)) &&& (3689348814741910323 : Int64))) (4 : Int32))) &&& (1085102592571150095 : Int64)) (8 : Int32))) + (lus ((((((p0 - ((lus p0 (1 : Int32)) &&& (6148914691236517205 : Int64))) &&& (3689348814741910323 : Int64)) + ((lus (p0 - ((lus p0 (1 : Int32)) &&& (6148914691236517205 : Int64))) (2 : Int32)) &&& (3689348814741910323 : Int64))) + (lus (((p0 - ((lus p0 (1 : Int32)) &&& (6148914691236517205 : Int64))) &&& (3689348814741910323 : Int64)) + ((lus (p0 - ((lus p0 (1 : Int32)) &&& (6148914691236517205 : Int64))) (2 : Int32)) &&& (3689348814741910323 : Int64))) (4 : Int32))) &&& (1085102592571150095 : Int64)) + (lus (((((p0 - ((lus p0 (1 : Int32)) &&& (6148914691236517205 : Int64))) &&& (3689348814741910323 : Int64)) + ((lus (p0 - ((lus p0 (1 : Int32)) &&& (6148914691236517205 : Int64))) (2 : Int32)) &&& (3689348814741910323 : Int64))) + (lus (((p0 - ((lus p0 (1 : Int32)) &&& (6148914691236517205 : Int64))) &&& (3689348814741910323 : Int64)) + ((lus (p0 - ((lus p0 (1 : Int32)) &&& (6148914691236517205 : Int64))) (2 : Int32)) &&& (3689348814741910323 : Int64))) (4 : Int32))) &&& (1085102592571150095 : Int64)) (8 : Int32))) (16 : Int32))) (32 : Int32))))]) hx hb dJ13_bitCount_95d88_54 rfl hl (by decide) rfl (fun ls hl => ?_)
  refine lv_lload_n hx hb dJ13_bitCount_95d88_55 rfl (lv_at hl 0 rfl) ?_
  refine lv_l2i (v := ((((((((p0 - ((lus p0 (1 : Int32)) &&& (6148914691236517205 : Int64))) &&& (3689348814741910323 : Int64)) + ((lus (p0 - ((lus p0 (1 : Int32)) &&& (6148914691236517205 : Int64))) (2 : Int32)) &&& (3689348814741910323 : Int64))) + (lus (((p0 - ((lus p0 (1 : Int32)) &&& (6148914691236517205 : Int64))) &&& (3689348814741910323 : Int64)) + ((lus (p0 - ((lus p0 (1 : Int32)) &&& (6148914691236517205 : Int64))) (2 : Int32)) &&& (3689348814741910323 : Int64))) (4 : Int32))) &&& (1085102592571150095 : Int64)) + (lus (((((p0 - ((lus p0 (1 : Int32)) &&& (6148914691236517205 : Int64))) &&& (3689348814741910323 : Int64)) + ((lus (p0 - ((lus p0 (1 : Int32)) &&& (6148914691236517205 : Int64))) (2 : Int32)) &&& (3689348814741910323 : Int64))) + (lus (((p0 - ((lus p0 (1 : Int32)) &&& (6148914691236517205 : Int64))) &&& (3689348814741910323 : Int64)) + ((lus (p0 - ((lus p0 (1 : Int32)) &&& (6148914691236517205 : Int64))) (2 : Int32)) &&& (3689348814741910323 : Int64))) (4 : Int32))) &&& (1085102592571150095 : Int64)) (8 : Int32))) + (lus ((((((p0 - ((lus p0 (1 : Int32)) &&& (6148914691236517205 : Int64))) &&& (3689348814741910323 : Int64)) + ((lus (p0 - ((lus p0 (1 : Int32)) &&& (6148914691236517205 : Int64))) (2 : Int32)) &&& (3689348814741910323 : Int64))) + (lus (((p0 - ((lus p0 (1 : Int32)) &&& (6148914691236517205 : Int64))) &&& (3689348814741910323 : Int64)) + ((lus (p0 - ((lus p0 (1 : Int32)) &&& (6148914691236517205 : Int64))) (2 : Int32)) &&& (3689348814741910323 : Int64))) (4 : Int32))) &&& (1085102592571150095 : Int64)) + (lus (((((p0 - ((lus p0 (1 : Int32)) &&& (6148914691236517205 : Int64))) &&& (3689348814741910323 : Int64)) + ((lus (p0 - ((lus p0 (1 : Int32)) &&& (6148914691236517205 : Int64))) (2 : Int32)) &&& (3689348814741910323 : Int64))) + (lus (((p0 - ((lus p0 (1 : Int32)) &&& (6148914691236517205 : Int64))) &&& (3689348814741910323 : Int64)) + ((lus (p0 - ((lus p0 (1 : Int32)) &&& (6148914691236517205 : Int64))) (2 : Int32)) &&& (3689348814741910323 : Int64))) (4 : Int32))) &&& (1085102592571150095 : Int64)) (8 : Int32))) (16 : Int32))) + (lus (((((((p0 - ((lus p0 (1 : Int32)) &&& (6148914691236517205 : Int64))) &&& (3689348814741910323 : Int64)) + ((lus (p0 - ((lus p0 (1 : Int32)) &&& (6148914691236517205 : Int64))) (2 : Int32)) &&& (3689348814741910323 : Int64))) + (lus (((p0 - ((lus p0 (1 : Int32)) &&& (6148914691236517205 : Int64))) &&& (3689348814741910323 : Int64)) + ((lus (p0 - ((lus p0 (1 : Int32)) &&& (6148914691236517205 : Int64))) (2 : Int32)) &&& (3689348814741910323 : Int64))) (4 : Int32))) &&& (1085102592571150095 : Int64)) + (lus (((((p0 - ((lus p0 (1 : Int32)) &&& (6148914691236517205 : Int64))) &&& (3689348814741910323 : Int64)) + ((lus (p0 - ((lus p0 (1 : Int32)) &&& (6148914691236517205 : Int64))) (2 : Int32)) &&& (3689348814741910323 : Int64))) + (lus (((p0 - ((lus p0 (1 : Int32)) &&& (6148914691236517205 : Int64))) &&& (3689348814741910323 : Int64)) + ((lus (p0 - ((lus p0 (1 : Int32)) &&& (6148914691236517205 : Int64))) (2 : Int32)) &&& (3689348814741910323 : Int64))) (4 : Int32))) &&& (1085102592571150095 : Int64)) (8 : Int32))) + (lus ((((((p0 - ((lus p0 (1 : Int32)) &&& (6148914691236517205 : Int64))) &&& (3689348814741910323 : Int64)) + ((lus (p0 - ((lus p0 (1 : Int32)) &&& (6148914691236517205 : Int64))) (2 : Int32)) &&& (3689348814741910323 : Int64))) + (lus (((p0 - ((lus p0 (1 : Int32)) &&& (6148914691236517205 : Int64))) &&& (3689348814741910323 : Int64)) + ((lus (p0 - ((lus p0 (1 : Int32)) &&& (6148914691236517205 : Int64))) (2 : Int32)) &&& (3689348814741910323 : Int64))) (4 : Int32))) &&& (1085102592571150095 : Int64)) + (lus (((((p0 - ((lus p0 (1 : Int32)) &&& (6148914691236517205 : Int64))) &&& (3689348814741910323 : Int64)) + ((lus (p0 - ((lus p0 (1 : Int32)) &&& (6148914691236517205 : Int64))) (2 : Int32)) &&& (3689348814741910323 : Int64))) + (lus (((p0 - ((lus p0 (1 : Int32)) &&& (6148914691236517205 : Int64))) &&& (3689348814741910323 : Int64)) + ((lus (p0 - ((lus p0 (1 : Int32)) &&& (6148914691236517205 : Int64))) (2 : Int32)) &&& (3689348814741910323 : Int64))) (4 : Int32))) &&& (1085102592571150095 : Int64)) (8 : Int32))) (16 : Int32))) (32 : Int32))).toInt32) hx hb dJ13_bitCount_95d88_56 rfl ?_
  refine lv_bipush (v := 127) hx hb dJ13_bitCount_95d88_57 (by decide) ?_
  refine lv_iand hx hb dJ13_bitCount_95d88_59 ?_
  exact hret _ (opE hf) H locs ls 60 dJ13_bitCount_95d88_60 hP hD hS
set_option maxRecDepth 100000 in
set_option maxHeartbeats 4000000 in
theorem c_X8_fitsLong (l : Launch) (D : va_G) (cI cJ : ClassId) (a_p0 : Nat) (p0_kind : Int32) (p0_minus : Int32) (p0_m : Int64) (p0_e : Int32) (p0_narrowBelow : Int32) (u : Int32) (hf : f_X8_fitsLong p0_kind p0_minus p0_m p0_e = some u) : CtI l yX8_fitsLong cX8_fitsLong 2 3 63 .boolean [.ref a_p0] D cI cJ [(a_p0, .inr (9, [.int p0_kind, .int p0_minus, .long p0_m, .int p0_e, .int p0_narrowBelow]))] [(a_p0, .inr (9, [.int p0_kind, .int p0_minus, .long p0_m, .int p0_e, .int p0_narrowBelow]))] u := by
  refine mkZ (own := RX8) rfl (by decide +kernel) (Nat.le_of_ble_eq_true rfl) (lv := [(0, .ref a_p0)]) rfl ?_
  intro p e s m below meth c Q A ls ar S hA hK hN hret H locs hP hD hS hl
  obtain ⟨hx, hb, hml, hown, hts⟩ := id S
  have hret : ∀ (w : Int32), w = u → ∀ (H : Heap) (locs : List Loc) (ls : Array Slot) (pc : Nat), decode cX8_fitsLong pc = .ok (.ireturn, 1) → (w = 0 ∨ w = 1) → va_P D vwCl [(a_p0, .inr (9, [.int p0_kind, .int p0_minus, .long p0_m, .int p0_e, .int p0_narrowBelow]))] H → va_D A [(a_p0, .inr (9, [.int p0_kind, .int p0_minus, .long p0_m, .int p0_e, .int p0_narrowBelow]))] → va_S A s.heap H locs → W p l e (rmz 3 63) s m ar below meth c H locs 0 0 Q (F0 m pc ls [.int w]) := fun w hw => hw ▸ hret
  have keyB46 : ∀ (s0 : Int32) (H : Heap) (locs : List Loc) (ls : Array Slot), f_X8_fitsLong_B46 p0_kind p0_minus p0_m p0_e s0 = some u → va_P D vwCl [(a_p0, .inr (9, [.int p0_kind, .int p0_minus, .long p0_m, .int p0_e, .int p0_narrowBelow]))] H → va_D A [(a_p0, .inr (9, [.int p0_kind, .int p0_minus, .long p0_m, .int p0_e, .int p0_narrowBelow]))] → va_S A s.heap H locs → lv_has ls 2 [(0, .ref a_p0)] → W p l e (rmz 3 63) s m ar below meth c H locs 0 0 Q (F0 m 46 ls [.int s0]) := by
    intro s0 H locs ls hf hP hD hS hl
    unfold f_X8_fitsLong_B46 at hf
    refine lv_istore_n (lv' := [(1, .int s0), (0, .ref a_p0)]) hx hb dX8_fitsLong_46 rfl hl (by decide) rfl (fun ls hl => ?_)
    refine lv_aload_n hx hb dX8_fitsLong_47 rfl (lv_at hl 1 rfl) ?_
    refine va_get (D := D) (ci := 9) (v := .long p0_m) (C := RX8) (T := TX8) (N := 5) hx hb hts uwX8 hown hK hP 0 rfl rfl 2 (by decide) (hts _ kfX8_27) (fun _ h9 => h9) rfl dX8_fitsLong_48 ?_
    refine lv_lconst (v := 0) hx hb dX8_fitsLong_51 (by decide) ?_
    refine W.lcmp hx hb dX8_fitsLong_52 ?_
    refine lv_if_eq (tgt := 74) hx hb dX8_fitsLong_53 (by decide) (fun hc7 => ?_) (fun hc7 => ?_)
    · have hf := ifT hc7 hf
      refine lv_iconst (v := 1) hx hb dX8_fitsLong_74 (by decide) ?_
      refine lv_goto (tgt := 79) hx hb dX8_fitsLong_75 (by decide) ?_
      exact hret _ (opE hf) H locs ls 79 dX8_fitsLong_79 (Or.inr rfl) hP hD hS
    · have hf := ifF hc7 hf
      refine lv_aload_n hx hb dX8_fitsLong_56 rfl (lv_at hl 1 rfl) ?_
      obtain ⟨u3, hu4, hf⟩ := bdE hf
      refine cV_I (ws' := [(a_p0, .inr (9, [.int p0_kind, .int p0_minus, .long p0_m, .int p0_e, .int p0_narrowBelow]))]) (rest := []) S hK hN hA hP hD hS (c_X8_bits l D cI cJ a_p0  p0_kind p0_minus p0_m p0_e p0_narrowBelow u3 hu4) mwX8_bits miX8_bits kmX8_57 [0] rfl (by decide) rfl rfl rfl 0 rfl rfl ⟨Nat.le_of_ble_eq_true rfl, Nat.le_of_ble_eq_true rfl⟩ ⟨Nat.zero_le _, Nat.zero_le _⟩ hl.1 rfl rfl (Nat.le_of_ble_eq_true rfl) dX8_fitsLong_57 (fun H locs hP hD hS => ?_)
      refine lv_aload_n hx hb dX8_fitsLong_60 rfl (lv_at hl 1 rfl) ?_
      refine va_get (D := D) (ci := 9) (v := .int p0_e) (C := RX8) (T := TX8) (N := 5) hx hb hts uwX8 hown hK hP 0 rfl rfl 3 (by decide) (hts _ kfX8_31) (fun _ h9 => h9) rfl dX8_fitsLong_61 ?_
      refine lv_iadd hx hb dX8_fitsLong_64 ?_
      refine lv_bipush (v := 64) hx hb dX8_fitsLong_65 (by decide) ?_
      refine lv_icmp_lt (tgt := 74) hx hb dX8_fitsLong_67 (by decide) (fun hc6 => ?_) (fun hc6 => ?_)
      · have hf := ifT hc6 hf
        refine lv_iconst (v := 1) hx hb dX8_fitsLong_74 (by decide) ?_
        refine lv_goto (tgt := 79) hx hb dX8_fitsLong_75 (by decide) ?_
        exact hret _ (opE hf) H locs ls 79 dX8_fitsLong_79 (Or.inr rfl) hP hD hS
      · have hf := ifF hc6 hf
        refine lv_iload_n hx hb dX8_fitsLong_70 rfl (lv_at hl 0 rfl) ?_
        refine lv_if_eq (tgt := 78) hx hb dX8_fitsLong_71 (by decide) (fun hc5 => ?_) (fun hc5 => ?_)
        · have hf := ifT hc5 hf
          refine lv_iconst (v := 0) hx hb dX8_fitsLong_78 (by decide) ?_
          exact hret _ (opE hf) H locs ls 79 dX8_fitsLong_79 (Or.inl rfl) hP hD hS
        · have hf := ifF hc5 hf
          refine lv_iconst (v := 1) hx hb dX8_fitsLong_74 (by decide) ?_
          refine lv_goto (tgt := 79) hx hb dX8_fitsLong_75 (by decide) ?_
          exact hret _ (opE hf) H locs ls 79 dX8_fitsLong_79 (Or.inr rfl) hP hD hS
  have keyB45 : ∀  (H : Heap) (locs : List Loc) (ls : Array Slot), f_X8_fitsLong_B45 p0_kind p0_minus p0_m p0_e  = some u → va_P D vwCl [(a_p0, .inr (9, [.int p0_kind, .int p0_minus, .long p0_m, .int p0_e, .int p0_narrowBelow]))] H → va_D A [(a_p0, .inr (9, [.int p0_kind, .int p0_minus, .long p0_m, .int p0_e, .int p0_narrowBelow]))] → va_S A s.heap H locs → lv_has ls 2 [(0, .ref a_p0)] → W p l e (rmz 3 63) s m ar below meth c H locs 0 0 Q (F0 m 45 ls []) := by
    intro  H locs ls hf hP hD hS hl
    unfold f_X8_fitsLong_B45 at hf
    refine lv_iconst (v := 0) hx hb dX8_fitsLong_45 (by decide) ?_
    exact keyB46 (0 : Int32) H locs ls hf hP hD hS (lv_sub hl [0] rfl)
  unfold f_X8_fitsLong at hf
  refine lv_aload_n hx hb dX8_fitsLong_0 rfl (lv_at hl 0 rfl) ?_
  obtain ⟨u1, hu2, hf⟩ := bdE hf
  refine cV_I (ws' := [(a_p0, .inr (9, [.int p0_kind, .int p0_minus, .long p0_m, .int p0_e, .int p0_narrowBelow]))]) (rest := []) S hK hN hA hP hD hS (c_X8_isNumber l D cI cJ a_p0  p0_kind p0_minus p0_m p0_e p0_narrowBelow u1 hu2) mwX8_isNumber miX8_isNumber kmX8_53 [0] rfl (by decide) rfl rfl rfl 0 rfl rfl ⟨Nat.le_of_ble_eq_true rfl, Nat.le_of_ble_eq_true rfl⟩ ⟨Nat.zero_le _, Nat.zero_le _⟩ hl.1 rfl rfl (Nat.le_of_ble_eq_true rfl) dX8_fitsLong_1 (fun H locs hP hD hS => ?_)
  refine lv_if_ne (tgt := 9) hx hb dX8_fitsLong_4 (by decide) (fun hc15 => ?_) (fun hc15 => ?_)
  · have hf := ifF hc15 hf
    refine lv_aload_n hx hb dX8_fitsLong_9 rfl (lv_at hl 0 rfl) ?_
    refine va_get (D := D) (ci := 9) (v := .int p0_minus) (C := RX8) (T := TX8) (N := 5) hx hb hts uwX8 hown hK hP 0 rfl rfl 1 (by decide) (hts _ kfX8_21) (fun _ h9 => h9) rfl dX8_fitsLong_10 ?_
    refine lv_if_eq (tgt := 45) hx hb dX8_fitsLong_13 (by decide) (fun hc14 => ?_) (fun hc14 => ?_)
    · have hf := ifT hc14 hf
      exact keyB45  H locs ls hf hP hD hS (lv_sub hl [0] rfl)
    · have hf := ifF hc14 hf
      refine lv_aload_n hx hb dX8_fitsLong_16 rfl (lv_at hl 0 rfl) ?_
      obtain ⟨u8, hu9, hf⟩ := bdE hf
      refine cV_I (ws' := [(a_p0, .inr (9, [.int p0_kind, .int p0_minus, .long p0_m, .int p0_e, .int p0_narrowBelow]))]) (rest := []) S hK hN hA hP hD hS (c_X8_bits l D cI cJ a_p0  p0_kind p0_minus p0_m p0_e p0_narrowBelow u8 hu9) mwX8_bits miX8_bits kmX8_57 [0] rfl (by decide) rfl rfl rfl 0 rfl rfl ⟨Nat.le_of_ble_eq_true rfl, Nat.le_of_ble_eq_true rfl⟩ ⟨Nat.zero_le _, Nat.zero_le _⟩ hl.1 rfl rfl (Nat.le_of_ble_eq_true rfl) dX8_fitsLong_17 (fun H locs hP hD hS => ?_)
      refine lv_aload_n hx hb dX8_fitsLong_20 rfl (lv_at hl 0 rfl) ?_
      refine va_get (D := D) (ci := 9) (v := .int p0_e) (C := RX8) (T := TX8) (N := 5) hx hb hts uwX8 hown hK hP 0 rfl rfl 3 (by decide) (hts _ kfX8_31) (fun _ h9 => h9) rfl dX8_fitsLong_21 ?_
      refine lv_iadd hx hb dX8_fitsLong_24 ?_
      refine lv_bipush (v := 64) hx hb dX8_fitsLong_25 (by decide) ?_
      refine lv_icmp_ne (tgt := 45) hx hb dX8_fitsLong_27 (by decide) (fun hc13 => ?_) (fun hc13 => ?_)
      · have hf := ifF hc13 hf
        exact keyB45  H locs ls hf hP hD hS (lv_sub hl [0] rfl)
      · have hf := ifT hc13 hf
        refine lv_aload_n hx hb dX8_fitsLong_30 rfl (lv_at hl 0 rfl) ?_
        refine va_get (D := D) (ci := 9) (v := .long p0_m) (C := RX8) (T := TX8) (N := 5) hx hb hts uwX8 hown hK hP 0 rfl rfl 2 (by decide) (hts _ kfX8_27) (fun _ h9 => h9) rfl dX8_fitsLong_31 ?_
        obtain ⟨u10, hu11, hf⟩ := bdE hf
        refine cS_I (ws' := [(a_p0, .inr (9, [.int p0_kind, .int p0_minus, .long p0_m, .int p0_e, .int p0_narrowBelow]))]) (rest := []) S hK hN hA hP hD hS (c_J13_bitCount_95d88 l D cI cJ  p0_m  u10 hu11) mwJ13_bitCount_95d88 msJ13_bitCount_95d88 kmX8_61 [] rfl (by decide) rfl rfl rfl ⟨Nat.le_of_ble_eq_true rfl, Nat.le_of_ble_eq_true rfl⟩ ⟨Nat.zero_le _, Nat.zero_le _⟩ hl.1 rfl rfl (Nat.le_of_ble_eq_true rfl) dX8_fitsLong_34 (fun H locs hP hD hS => ?_)
        refine lv_iconst (v := 1) hx hb dX8_fitsLong_37 (by decide) ?_
        refine lv_icmp_ne (tgt := 45) hx hb dX8_fitsLong_38 (by decide) (fun hc12 => ?_) (fun hc12 => ?_)
        · have hf := ifF hc12 hf
          exact keyB45  H locs ls hf hP hD hS (lv_sub hl [0] rfl)
        · have hf := ifT hc12 hf
          refine lv_iconst (v := 1) hx hb dX8_fitsLong_41 (by decide) ?_
          refine lv_goto (tgt := 46) hx hb dX8_fitsLong_42 (by decide) ?_
          exact keyB46 (1 : Int32) H locs ls hf hP hD hS (lv_sub hl [0] rfl)
  · have hf := ifT hc15 hf
    refine lv_iconst (v := 0) hx hb dX8_fitsLong_7 (by decide) ?_
    exact hret _ (opE hf) H locs ls 8 dX8_fitsLong_8 (Or.inl rfl) hP hD hS
set_option maxRecDepth 100000 in
set_option maxHeartbeats 4000000 in
theorem c_X8_asLong (l : Launch) (D : va_G) (cI cJ : ClassId) (a_p0 : Nat) (p1 : Int32) (p0_kind : Int32) (p0_minus : Int32) (p0_m : Int64) (p0_e : Int32) (p0_narrowBelow : Int32) (u : Int64) (hf : f_X8_asLong p0_minus p0_m p0_e p1 = some u) : CtL l yX8_asLong cX8_asLong 11 1 24 [.ref a_p0, .int p1] D cI cJ [(a_p0, .inr (9, [.int p0_kind, .int p0_minus, .long p0_m, .int p0_e, .int p0_narrowBelow]))] [(a_p0, .inr (9, [.int p0_kind, .int p0_minus, .long p0_m, .int p0_e, .int p0_narrowBelow]))] u := by
  refine mkL (own := RX8) rfl (by decide +kernel) (Nat.le_of_ble_eq_true rfl) (lv := [(0, .ref a_p0), (1, .int p1)]) rfl ?_
  intro p e s m below meth c Q A ls ar S hA hK hN hret H locs hP hD hS hl
  obtain ⟨hx, hb, hml, hown, hts⟩ := id S
  have hret : ∀ (w : Int64), w = u → ∀ (H : Heap) (locs : List Loc) (ls : Array Slot) (pc : Nat), decode cX8_asLong pc = .ok (.lreturn, 1) → va_P D vwCl [(a_p0, .inr (9, [.int p0_kind, .int p0_minus, .long p0_m, .int p0_e, .int p0_narrowBelow]))] H → va_D A [(a_p0, .inr (9, [.int p0_kind, .int p0_minus, .long p0_m, .int p0_e, .int p0_narrowBelow]))] → va_S A s.heap H locs → W p l e (rmz 1 24) s m ar below meth c H locs 0 0 Q (F0 m pc ls [.long w]) := fun w hw => hw ▸ hret
  have keyB134 : ∀ (v2 : Int64) (H : Heap) (locs : List Loc) (ls : Array Slot), f_X8_asLong_B134 p0_minus p0_m p0_e v2 = some u → va_P D vwCl [(a_p0, .inr (9, [.int p0_kind, .int p0_minus, .long p0_m, .int p0_e, .int p0_narrowBelow]))] H → va_D A [(a_p0, .inr (9, [.int p0_kind, .int p0_minus, .long p0_m, .int p0_e, .int p0_narrowBelow]))] → va_S A s.heap H locs → lv_has ls 11 [(0, .ref a_p0), (2, .long v2)] → W p l e (rmz 1 24) s m ar below meth c H locs 0 0 Q (F0 m 134 ls []) := by
    intro v2 H locs ls hf hP hD hS hl
    unfold f_X8_asLong_B134 at hf
    refine lv_aload_n hx hb dX8_asLong_134 rfl (lv_at hl 0 rfl) ?_
    refine va_get (D := D) (ci := 9) (v := .int p0_minus) (C := RX8) (T := TX8) (N := 5) hx hb hts uwX8 hown hK hP 0 rfl rfl 1 (by decide) (hts _ kfX8_21) (fun _ h9 => h9) rfl dX8_asLong_135 ?_
    refine lv_if_eq (tgt := 146) hx hb dX8_asLong_138 (by decide) (fun hc5 => ?_) (fun hc5 => ?_)
    · have hf := ifT hc5 hf
      refine lv_lload_n hx hb dX8_asLong_146 rfl (lv_at hl 1 rfl) ?_
      exact hret _ (opE hf) H locs ls 147 dX8_asLong_147 hP hD hS
    · have hf := ifF hc5 hf
      refine lv_lload_n hx hb dX8_asLong_141 rfl (lv_at hl 1 rfl) ?_
      refine lv_lneg hx hb dX8_asLong_142 ?_
      refine lv_goto (tgt := 147) hx hb dX8_asLong_143 (by decide) ?_
      exact hret _ (opE hf) H locs ls 147 dX8_asLong_147 hP hD hS
  have keyB132 : ∀ (s0 : Int64) (s1 : Int64) (H : Heap) (locs : List Loc) (ls : Array Slot), f_X8_asLong_B132 p0_minus p0_m p0_e s0 s1 = some u → va_P D vwCl [(a_p0, .inr (9, [.int p0_kind, .int p0_minus, .long p0_m, .int p0_e, .int p0_narrowBelow]))] H → va_D A [(a_p0, .inr (9, [.int p0_kind, .int p0_minus, .long p0_m, .int p0_e, .int p0_narrowBelow]))] → va_S A s.heap H locs → lv_has ls 11 [(0, .ref a_p0)] → W p l e (rmz 1 24) s m ar below meth c H locs 0 0 Q (F0 m 132 ls [.long s1, .long s0]) := by
    intro s0 s1 H locs ls hf hP hD hS hl
    unfold f_X8_asLong_B132 at hf
    refine lv_ladd hx hb dX8_asLong_132 ?_
    refine lv_lstore_n (lv' := [(2, .long (s0 + s1)), (0, .ref a_p0)]) hx hb dX8_asLong_133 rfl hl (by decide) rfl (fun ls hl => ?_)
    exact keyB134 (s0 + s1) H locs ls hf hP hD hS (lv_sub hl [1, 0] rfl)
  have keyB117 : ∀ (v9 : Int32) (v10 : Int32) (s0 : Int64) (s1 : Int32) (s2 : Int32) (s3 : Int32) (H : Heap) (locs : List Loc) (ls : Array Slot), f_X8_asLong_B117 p0_minus p0_m p0_e v9 v10 s0 s1 s2 s3 = some u → va_P D vwCl [(a_p0, .inr (9, [.int p0_kind, .int p0_minus, .long p0_m, .int p0_e, .int p0_narrowBelow]))] H → va_D A [(a_p0, .inr (9, [.int p0_kind, .int p0_minus, .long p0_m, .int p0_e, .int p0_narrowBelow]))] → va_S A s.heap H locs → lv_has ls 11 [(0, .ref a_p0), (9, .int v9), (10, .int v10)] → W p l e (rmz 1 24) s m ar below meth c H locs 0 0 Q (F0 m 117 ls [.int s3, .int s2, .int s1, .long s0]) := by
    intro v9 v10 s0 s1 s2 s3 H locs ls hf hP hD hS hl
    unfold f_X8_asLong_B117 at hf
    refine lv_iload hx hb dX8_asLong_117 (lv_at hl 1 rfl) ?_
    refine lv_iload hx hb dX8_asLong_119 (lv_at hl 2 rfl) ?_
    obtain ⟨u3, hu4, hf⟩ := bdE hf
    refine cS_I (ws' := [(a_p0, .inr (9, [.int p0_kind, .int p0_minus, .long p0_m, .int p0_e, .int p0_narrowBelow]))]) (rest := [.long s0]) S hK hN hA hP hD hS (c_X2_goesOn l D cI cJ  s1 s2 s3 v9 v10  u3 hu4) mwX2_goesOn msX2_goesOn kmX8_70 [] rfl (by decide) rfl rfl rfl ⟨Nat.le_of_ble_eq_true rfl, Nat.le_of_ble_eq_true rfl⟩ ⟨Nat.zero_le _, Nat.zero_le _⟩ hl.1 rfl rfl (Nat.le_of_ble_eq_true rfl) dX8_asLong_121 (fun H locs hP hD hS => ?_)
    refine lv_if_eq (tgt := 131) hx hb dX8_asLong_124 (by decide) (fun hc6 => ?_) (fun hc6 => ?_)
    · have hf := ifT hc6 hf
      refine lv_lconst (v := 0) hx hb dX8_asLong_131 (by decide) ?_
      exact keyB132 s0 (0 : Int64) H locs ls hf hP hD hS (lv_sub hl [0] rfl)
    · have hf := ifF hc6 hf
      refine lv_lconst (v := 1) hx hb dX8_asLong_127 (by decide) ?_
      refine lv_goto (tgt := 132) hx hb dX8_asLong_128 (by decide) ?_
      exact keyB132 s0 (1 : Int64) H locs ls hf hP hD hS (lv_sub hl [0] rfl)
  have keyB88 : ∀ (v1 : Int32) (v4 : Int32) (v9 : Int32) (s0 : Int32) (H : Heap) (locs : List Loc) (ls : Array Slot), f_X8_asLong_B88 p0_minus p0_m p0_e v1 v4 v9 s0 = some u → va_P D vwCl [(a_p0, .inr (9, [.int p0_kind, .int p0_minus, .long p0_m, .int p0_e, .int p0_narrowBelow]))] H → va_D A [(a_p0, .inr (9, [.int p0_kind, .int p0_minus, .long p0_m, .int p0_e, .int p0_narrowBelow]))] → va_S A s.heap H locs → lv_has ls 11 [(0, .ref a_p0), (1, .int v1), (4, .int v4), (9, .int v9)] → W p l e (rmz 1 24) s m ar below meth c H locs 0 0 Q (F0 m 88 ls [.int s0]) := by
    intro v1 v4 v9 s0 H locs ls hf hP hD hS hl
    unfold f_X8_asLong_B88 at hf
    refine lv_istore (lv' := [(10, .int s0), (0, .ref a_p0), (1, .int v1), (4, .int v4), (9, .int v9)]) hx hb dX8_asLong_88 hl (by decide) rfl (fun ls hl => ?_)
    refine lv_aload_n hx hb dX8_asLong_90 rfl (lv_at hl 1 rfl) ?_
    refine va_get (D := D) (ci := 9) (v := .long p0_m) (C := RX8) (T := TX8) (N := 5) hx hb hts uwX8 hown hK hP 0 rfl rfl 2 (by decide) (hts _ kfX8_27) (fun _ h9 => h9) rfl dX8_asLong_91 ?_
    refine lv_iload hx hb dX8_asLong_94 (lv_at hl 3 rfl) ?_
    refine lv_lushr (v := lus p0_m v4) hx hb dX8_asLong_96 rfl ?_
    refine lv_lstore_n (lv' := [(2, .long (lus p0_m v4)), (10, .int s0), (0, .ref a_p0), (1, .int v1), (4, .int v4), (9, .int v9)]) hx hb dX8_asLong_97 rfl hl (by decide) rfl (fun ls hl => ?_)
    refine lv_lload_n hx hb dX8_asLong_98 rfl (lv_at hl 0 rfl) ?_
    refine lv_iload_n hx hb dX8_asLong_99 rfl (lv_at hl 3 rfl) ?_
    refine lv_aload_n hx hb dX8_asLong_100 rfl (lv_at hl 2 rfl) ?_
    refine va_get (D := D) (ci := 9) (v := .int p0_minus) (C := RX8) (T := TX8) (N := 5) hx hb hts uwX8 hown hK hP 0 rfl rfl 1 (by decide) (hts _ kfX8_21) (fun _ h9 => h9) rfl dX8_asLong_101 ?_
    refine lv_lload_n hx hb dX8_asLong_104 rfl (lv_at hl 0 rfl) ?_
    refine lv_lconst (v := 1) hx hb dX8_asLong_105 (by decide) ?_
    refine lv_land hx hb dX8_asLong_106 ?_
    refine lv_lconst (v := 0) hx hb dX8_asLong_107 (by decide) ?_
    refine W.lcmp hx hb dX8_asLong_108 ?_
    refine lv_if_eq (tgt := 116) hx hb dX8_asLong_109 (by decide) (fun hc7 => ?_) (fun hc7 => ?_)
    · have hf := ifT hc7 hf
      refine lv_iconst (v := 0) hx hb dX8_asLong_116 (by decide) ?_
      exact keyB117 v9 s0 (lus p0_m v4) v1 p0_minus (0 : Int32) H locs ls hf hP hD hS (lv_sub hl [2, 5, 1] rfl)
    · have hf := ifF hc7 hf
      refine lv_iconst (v := 1) hx hb dX8_asLong_112 (by decide) ?_
      refine lv_goto (tgt := 117) hx hb dX8_asLong_113 (by decide) ?_
      exact keyB117 v9 s0 (lus p0_m v4) v1 p0_minus (1 : Int32) H locs ls hf hP hD hS (lv_sub hl [2, 5, 1] rfl)
  have keyB87 : ∀ (v1 : Int32) (v4 : Int32) (v9 : Int32) (H : Heap) (locs : List Loc) (ls : Array Slot), f_X8_asLong_B87 p0_minus p0_m p0_e v1 v4 v9 = some u → va_P D vwCl [(a_p0, .inr (9, [.int p0_kind, .int p0_minus, .long p0_m, .int p0_e, .int p0_narrowBelow]))] H → va_D A [(a_p0, .inr (9, [.int p0_kind, .int p0_minus, .long p0_m, .int p0_e, .int p0_narrowBelow]))] → va_S A s.heap H locs → lv_has ls 11 [(0, .ref a_p0), (1, .int v1), (4, .int v4), (9, .int v9)] → W p l e (rmz 1 24) s m ar below meth c H locs 0 0 Q (F0 m 87 ls []) := by
    intro v1 v4 v9 H locs ls hf hP hD hS hl
    unfold f_X8_asLong_B87 at hf
    refine lv_iconst (v := 0) hx hb dX8_asLong_87 (by decide) ?_
    exact keyB88 v1 v4 v9 (0 : Int32) H locs ls hf hP hD hS (lv_sub hl [0, 1, 2, 3] rfl)
  have keyB66 : ∀ (v1 : Int32) (v4 : Int32) (v5 : Int64) (v7 : Int64) (s0 : Int32) (H : Heap) (locs : List Loc) (ls : Array Slot), f_X8_asLong_B66 p0_minus p0_m p0_e v1 v4 v5 v7 s0 = some u → va_P D vwCl [(a_p0, .inr (9, [.int p0_kind, .int p0_minus, .long p0_m, .int p0_e, .int p0_narrowBelow]))] H → va_D A [(a_p0, .inr (9, [.int p0_kind, .int p0_minus, .long p0_m, .int p0_e, .int p0_narrowBelow]))] → va_S A s.heap H locs → lv_has ls 11 [(0, .ref a_p0), (1, .int v1), (4, .int v4), (5, .long v5), (7, .long v7)] → W p l e (rmz 1 24) s m ar below meth c H locs 0 0 Q (F0 m 66 ls [.int s0]) := by
    intro v1 v4 v5 v7 s0 H locs ls hf hP hD hS hl
    unfold f_X8_asLong_B66 at hf
    refine lv_istore (lv' := [(9, .int s0), (0, .ref a_p0), (1, .int v1), (4, .int v4), (5, .long v5), (7, .long v7)]) hx hb dX8_asLong_66 hl (by decide) rfl (fun ls hl => ?_)
    refine lv_lload hx hb dX8_asLong_68 (lv_at hl 4 rfl) ?_
    refine lv_lconst (v := 0) hx hb dX8_asLong_70 (by decide) ?_
    refine W.lcmp hx hb dX8_asLong_71 ?_
    refine lv_if_eq (tgt := 87) hx hb dX8_asLong_72 (by decide) (fun hc9 => ?_) (fun hc9 => ?_)
    · have hf := ifT hc9 hf
      exact keyB87 v1 v4 s0 H locs ls hf hP hD hS (lv_sub hl [1, 2, 3, 0] rfl)
    · have hf := ifF hc9 hf
      refine lv_lload hx hb dX8_asLong_75 (lv_at hl 4 rfl) ?_
      refine lv_lload hx hb dX8_asLong_77 (lv_at hl 5 rfl) ?_
      refine W.lcmp hx hb dX8_asLong_79 ?_
      refine lv_if_eq (tgt := 87) hx hb dX8_asLong_80 (by decide) (fun hc8 => ?_) (fun hc8 => ?_)
      · have hf := ifT hc8 hf
        exact keyB87 v1 v4 s0 H locs ls hf hP hD hS (lv_sub hl [1, 2, 3, 0] rfl)
      · have hf := ifF hc8 hf
        refine lv_iconst (v := 1) hx hb dX8_asLong_83 (by decide) ?_
        refine lv_goto (tgt := 88) hx hb dX8_asLong_84 (by decide) ?_
        exact keyB88 v1 v4 s0 (1 : Int32) H locs ls hf hP hD hS (lv_sub hl [1, 2, 3, 0] rfl)
  unfold f_X8_asLong at hf
  refine lv_aload_n hx hb dX8_asLong_0 rfl (lv_at hl 0 rfl) ?_
  refine va_get (D := D) (ci := 9) (v := .int p0_e) (C := RX8) (T := TX8) (N := 5) hx hb hts uwX8 hown hK hP 0 rfl rfl 3 (by decide) (hts _ kfX8_31) (fun _ h9 => h9) rfl dX8_asLong_1 ?_
  refine lv_if_lt (tgt := 20) hx hb dX8_asLong_4 (by decide) (fun hc11 => ?_) (fun hc11 => ?_)
  · have hf := ifT hc11 hf
    refine lv_aload_n hx hb dX8_asLong_20 rfl (lv_at hl 0 rfl) ?_
    refine va_get (D := D) (ci := 9) (v := .int p0_e) (C := RX8) (T := TX8) (N := 5) hx hb hts uwX8 hown hK hP 0 rfl rfl 3 (by decide) (hts _ kfX8_31) (fun _ h9 => h9) rfl dX8_asLong_21 ?_
    refine lv_ineg hx hb dX8_asLong_24 ?_
    refine lv_bipush (v := 62) hx hb dX8_asLong_25 (by decide) ?_
    obtain ⟨u1, hu2, hf⟩ := bdE hf
    refine cS_I (ws' := [(a_p0, .inr (9, [.int p0_kind, .int p0_minus, .long p0_m, .int p0_e, .int p0_narrowBelow]))]) (rest := []) S hK hN hA hP hD hS (c_J9_min_7cf53 l D cI cJ  (-p0_e) (62 : Int32)  u1 hu2) mwJ9_min_7cf53 msJ9_min_7cf53 kmX8_64 [] rfl (by decide) rfl rfl rfl ⟨Nat.le_of_ble_eq_true rfl, Nat.le_of_ble_eq_true rfl⟩ ⟨Nat.zero_le _, Nat.zero_le _⟩ hl.1 rfl rfl (Nat.le_of_ble_eq_true rfl) dX8_asLong_27 (fun H locs hP hD hS => ?_)
    refine lv_istore (lv' := [(4, .int u1), (0, .ref a_p0), (1, .int p1)]) hx hb dX8_asLong_30 hl (by decide) rfl (fun ls hl => ?_)
    refine lv_aload_n hx hb dX8_asLong_32 rfl (lv_at hl 1 rfl) ?_
    refine va_get (D := D) (ci := 9) (v := .long p0_m) (C := RX8) (T := TX8) (N := 5) hx hb hts uwX8 hown hK hP 0 rfl rfl 2 (by decide) (hts _ kfX8_27) (fun _ h9 => h9) rfl dX8_asLong_33 ?_
    refine lv_lconst (v := 1) hx hb dX8_asLong_36 (by decide) ?_
    refine lv_iload hx hb dX8_asLong_37 (lv_at hl 0 rfl) ?_
    refine lv_lshl (v := lsh (1 : Int64) u1) hx hb dX8_asLong_39 rfl ?_
    refine lv_lconst (v := 1) hx hb dX8_asLong_40 (by decide) ?_
    refine lv_lsub hx hb dX8_asLong_41 ?_
    refine lv_land hx hb dX8_asLong_42 ?_
    refine lv_lstore (lv' := [(5, .long (p0_m &&& ((lsh (1 : Int64) u1) - (1 : Int64)))), (4, .int u1), (0, .ref a_p0), (1, .int p1)]) hx hb dX8_asLong_43 hl (by decide) rfl (fun ls hl => ?_)
    refine lv_lconst (v := 1) hx hb dX8_asLong_45 (by decide) ?_
    refine lv_iload hx hb dX8_asLong_46 (lv_at hl 1 rfl) ?_
    refine lv_iconst (v := 1) hx hb dX8_asLong_48 (by decide) ?_
    refine lv_isub hx hb dX8_asLong_49 ?_
    refine lv_lshl (v := lsh (1 : Int64) (u1 - (1 : Int32))) hx hb dX8_asLong_50 rfl ?_
    refine lv_lstore (lv' := [(7, .long (lsh (1 : Int64) (u1 - (1 : Int32)))), (5, .long (p0_m &&& ((lsh (1 : Int64) u1) - (1 : Int64)))), (4, .int u1), (0, .ref a_p0), (1, .int p1)]) hx hb dX8_asLong_51 hl (by decide) rfl (fun ls hl => ?_)
    refine lv_lload hx hb dX8_asLong_53 (lv_at hl 1 rfl) ?_
    refine lv_lload hx hb dX8_asLong_55 (lv_at hl 0 rfl) ?_
    refine W.lcmp hx hb dX8_asLong_57 ?_
    refine lv_if_lt (tgt := 65) hx hb dX8_asLong_58 (by decide) (fun hc10 => ?_) (fun hc10 => ?_)
    · have hf := ifT hc10 hf
      refine lv_iconst (v := 0) hx hb dX8_asLong_65 (by decide) ?_
      exact keyB66 p1 u1 (p0_m &&& ((lsh (1 : Int64) u1) - (1 : Int64))) (lsh (1 : Int64) (u1 - (1 : Int32))) (0 : Int32) H locs ls hf hP hD hS (lv_sub hl [3, 4, 2, 1, 0] rfl)
    · have hf := ifF hc10 hf
      refine lv_iconst (v := 1) hx hb dX8_asLong_61 (by decide) ?_
      refine lv_goto (tgt := 66) hx hb dX8_asLong_62 (by decide) ?_
      exact keyB66 p1 u1 (p0_m &&& ((lsh (1 : Int64) u1) - (1 : Int64))) (lsh (1 : Int64) (u1 - (1 : Int32))) (1 : Int32) H locs ls hf hP hD hS (lv_sub hl [3, 4, 2, 1, 0] rfl)
  · have hf := ifF hc11 hf
    refine lv_aload_n hx hb dX8_asLong_7 rfl (lv_at hl 0 rfl) ?_
    refine va_get (D := D) (ci := 9) (v := .long p0_m) (C := RX8) (T := TX8) (N := 5) hx hb hts uwX8 hown hK hP 0 rfl rfl 2 (by decide) (hts _ kfX8_27) (fun _ h9 => h9) rfl dX8_asLong_8 ?_
    refine lv_aload_n hx hb dX8_asLong_11 rfl (lv_at hl 0 rfl) ?_
    refine va_get (D := D) (ci := 9) (v := .int p0_e) (C := RX8) (T := TX8) (N := 5) hx hb hts uwX8 hown hK hP 0 rfl rfl 3 (by decide) (hts _ kfX8_31) (fun _ h9 => h9) rfl dX8_asLong_12 ?_
    refine lv_lshl (v := lsh p0_m p0_e) hx hb dX8_asLong_15 rfl ?_
    refine lv_lstore_n (lv' := [(2, .long (lsh p0_m p0_e)), (0, .ref a_p0), (1, .int p1)]) hx hb dX8_asLong_16 rfl hl (by decide) rfl (fun ls hl => ?_)
    refine lv_goto (tgt := 134) hx hb dX8_asLong_17 (by decide) ?_
    exact keyB134 (lsh p0_m p0_e) H locs ls hf hP hD hS (lv_sub hl [1, 0] rfl)
set_option maxRecDepth 100000 in
set_option maxHeartbeats 4000000 in
theorem c_X8_side (l : Launch) (D : va_G) (cI cJ : ClassId) (a_p0 : Nat) (p0_kind : Int32) (p0_minus : Int32) (p0_m : Int64) (p0_e : Int32) (p0_narrowBelow : Int32) (u : Int32) (hf : f_X8_side p0_kind p0_minus = some u) : CtI l yX8_side cX8_side 1 0 0 .int [.ref a_p0] D cI cJ [(a_p0, .inr (9, [.int p0_kind, .int p0_minus, .long p0_m, .int p0_e, .int p0_narrowBelow]))] [(a_p0, .inr (9, [.int p0_kind, .int p0_minus, .long p0_m, .int p0_e, .int p0_narrowBelow]))] u := by
  refine mkI (own := RX8) rfl (by decide +kernel) (Nat.le_of_ble_eq_true rfl) (lv := [(0, .ref a_p0)]) rfl ?_
  intro p e s m below meth c Q A ls ar S hA hK hN hret H locs hP hD hS hl
  obtain ⟨hx, hb, hml, hown, hts⟩ := id S
  have hret : ∀ (w : Int32), w = u → ∀ (H : Heap) (locs : List Loc) (ls : Array Slot) (pc : Nat), decode cX8_side pc = .ok (.ireturn, 1) → va_P D vwCl [(a_p0, .inr (9, [.int p0_kind, .int p0_minus, .long p0_m, .int p0_e, .int p0_narrowBelow]))] H → va_D A [(a_p0, .inr (9, [.int p0_kind, .int p0_minus, .long p0_m, .int p0_e, .int p0_narrowBelow]))] → va_S A s.heap H locs → W p l e (rmz 0 0) s m ar below meth c H locs 0 0 Q (F0 m pc ls [.int w]) := fun w hw => hw ▸ hret
  unfold f_X8_side at hf
  refine lv_aload_n hx hb dX8_side_0 rfl (lv_at hl 0 rfl) ?_
  refine va_get (D := D) (ci := 9) (v := .int p0_kind) (C := RX8) (T := TX8) (N := 5) hx hb hts uwX8 hown hK hP 0 rfl rfl 0 (by decide) (hts _ kfX8_41) (fun _ h9 => h9) rfl dX8_side_1 ?_
  refine lv_if_ne (tgt := 9) hx hb dX8_side_4 (by decide) (fun hc2 => ?_) (fun hc2 => ?_)
  · have hf := ifF hc2 hf
    refine lv_aload_n hx hb dX8_side_9 rfl (lv_at hl 0 rfl) ?_
    refine va_get (D := D) (ci := 9) (v := .int p0_minus) (C := RX8) (T := TX8) (N := 5) hx hb hts uwX8 hown hK hP 0 rfl rfl 1 (by decide) (hts _ kfX8_21) (fun _ h9 => h9) rfl dX8_side_10 ?_
    refine lv_if_eq (tgt := 20) hx hb dX8_side_13 (by decide) (fun hc1 => ?_) (fun hc1 => ?_)
    · have hf := ifT hc1 hf
      refine lv_iconst (v := 1) hx hb dX8_side_20 (by decide) ?_
      exact hret _ (opE hf) H locs ls 21 dX8_side_21 hP hD hS
    · have hf := ifF hc1 hf
      refine lv_iconst (v := -1) hx hb dX8_side_16 (by decide) ?_
      refine lv_goto (tgt := 21) hx hb dX8_side_17 (by decide) ?_
      exact hret _ (opE hf) H locs ls 21 dX8_side_21 hP hD hS
  · have hf := ifT hc2 hf
    refine lv_iconst (v := 0) hx hb dX8_side_7 (by decide) ?_
    exact hret _ (opE hf) H locs ls 8 dX8_side_8 hP hD hS
set_option maxRecDepth 100000 in
set_option maxHeartbeats 4000000 in
theorem c_J13_compare_74951 (l : Launch) (D : va_G) (cI cJ : ClassId) (p0 : Int64) (p1 : Int64)  (u : Int32) (hf : f_J13_compare_74951 p0 p1 = some u) : CtI l yJ13_compare_74951 cJ13_compare_74951 4 0 0 .int [.long p0, .long p1] D cI cJ [] [] u := by
  refine mkI (own := RJ13) rfl (by decide +kernel) (Nat.le_of_ble_eq_true rfl) (lv := [(0, .long p0), (2, .long p1)]) rfl ?_
  intro p e s m below meth c Q A ls ar S hA hK hN hret H locs hP hD hS hl
  obtain ⟨hx, hb, hml, hown, hts⟩ := id S
  have hret : ∀ (w : Int32), w = u → ∀ (H : Heap) (locs : List Loc) (ls : Array Slot) (pc : Nat), decode cJ13_compare_74951 pc = .ok (.ireturn, 1) → va_P D vwCl [] H → va_D A [] → va_S A s.heap H locs → W p l e (rmz 0 0) s m ar below meth c H locs 0 0 Q (F0 m pc ls [.int w]) := fun w hw => hw ▸ hret
  unfold f_J13_compare_74951 at hf
  refine lv_lload_n hx hb dJ13_compare_74951_0 rfl (lv_at hl 0 rfl) ?_
  refine lv_lload_n hx hb dJ13_compare_74951_1 rfl (lv_at hl 1 rfl) ?_
  refine W.lcmp hx hb dJ13_compare_74951_2 ?_
  refine lv_if_ge (tgt := 10) hx hb dJ13_compare_74951_3 (by decide) (fun hc2 => ?_) (fun hc2 => ?_)
  · have hf := ifT hc2 hf
    refine lv_lload_n hx hb dJ13_compare_74951_10 rfl (lv_at hl 0 rfl) ?_
    refine lv_lload_n hx hb dJ13_compare_74951_11 rfl (lv_at hl 1 rfl) ?_
    refine W.lcmp hx hb dJ13_compare_74951_12 ?_
    refine lv_if_ne (tgt := 20) hx hb dJ13_compare_74951_13 (by decide) (fun hc1 => ?_) (fun hc1 => ?_)
    · have hf := ifF hc1 hf
      refine lv_iconst (v := 1) hx hb dJ13_compare_74951_20 (by decide) ?_
      exact hret _ (opE hf) H locs ls 21 dJ13_compare_74951_21 hP hD hS
    · have hf := ifT hc1 hf
      refine lv_iconst (v := 0) hx hb dJ13_compare_74951_16 (by decide) ?_
      refine lv_goto (tgt := 21) hx hb dJ13_compare_74951_17 (by decide) ?_
      exact hret _ (opE hf) H locs ls 21 dJ13_compare_74951_21 hP hD hS
  · have hf := ifF hc2 hf
    refine lv_iconst (v := -1) hx hb dJ13_compare_74951_6 (by decide) ?_
    refine lv_goto (tgt := 21) hx hb dJ13_compare_74951_7 (by decide) ?_
    exact hret _ (opE hf) H locs ls 21 dJ13_compare_74951_21 hP hD hS
set_option maxRecDepth 100000 in
set_option maxHeartbeats 4000000 in
theorem c_J6_compare_7cf53 (l : Launch) (D : va_G) (cI cJ : ClassId) (p0 : Int32) (p1 : Int32)  (u : Int32) (hf : f_J6_compare_7cf53 p0 p1 = some u) : CtI l yJ6_compare_7cf53 cJ6_compare_7cf53 2 0 0 .int [.int p0, .int p1] D cI cJ [] [] u := by
  refine mkI (own := RJ6) rfl (by decide +kernel) (Nat.le_of_ble_eq_true rfl) (lv := [(0, .int p0), (1, .int p1)]) rfl ?_
  intro p e s m below meth c Q A ls ar S hA hK hN hret H locs hP hD hS hl
  obtain ⟨hx, hb, hml, hown, hts⟩ := id S
  have hret : ∀ (w : Int32), w = u → ∀ (H : Heap) (locs : List Loc) (ls : Array Slot) (pc : Nat), decode cJ6_compare_7cf53 pc = .ok (.ireturn, 1) → va_P D vwCl [] H → va_D A [] → va_S A s.heap H locs → W p l e (rmz 0 0) s m ar below meth c H locs 0 0 Q (F0 m pc ls [.int w]) := fun w hw => hw ▸ hret
  unfold f_J6_compare_7cf53 at hf
  refine lv_iload_n hx hb dJ6_compare_7cf53_0 rfl (lv_at hl 0 rfl) ?_
  refine lv_iload_n hx hb dJ6_compare_7cf53_1 rfl (lv_at hl 1 rfl) ?_
  refine lv_icmp_ge (tgt := 9) hx hb dJ6_compare_7cf53_2 (by decide) (fun hc2 => ?_) (fun hc2 => ?_)
  · have hf := ifT hc2 hf
    refine lv_iload_n hx hb dJ6_compare_7cf53_9 rfl (lv_at hl 0 rfl) ?_
    refine lv_iload_n hx hb dJ6_compare_7cf53_10 rfl (lv_at hl 1 rfl) ?_
    refine lv_icmp_ne (tgt := 18) hx hb dJ6_compare_7cf53_11 (by decide) (fun hc1 => ?_) (fun hc1 => ?_)
    · have hf := ifF hc1 hf
      refine lv_iconst (v := 1) hx hb dJ6_compare_7cf53_18 (by decide) ?_
      exact hret _ (opE hf) H locs ls 19 dJ6_compare_7cf53_19 hP hD hS
    · have hf := ifT hc1 hf
      refine lv_iconst (v := 0) hx hb dJ6_compare_7cf53_14 (by decide) ?_
      refine lv_goto (tgt := 19) hx hb dJ6_compare_7cf53_15 (by decide) ?_
      exact hret _ (opE hf) H locs ls 19 dJ6_compare_7cf53_19 hP hD hS
  · have hf := ifF hc2 hf
    refine lv_iconst (v := -1) hx hb dJ6_compare_7cf53_5 (by decide) ?_
    refine lv_goto (tgt := 19) hx hb dJ6_compare_7cf53_6 (by decide) ?_
    exact hret _ (opE hf) H locs ls 19 dJ6_compare_7cf53_19 hP hD hS
set_option maxRecDepth 100000 in
set_option maxHeartbeats 4000000 in
theorem c_X8_comparedSizes (l : Launch) (D : va_G) (cI cJ : ClassId) (a_p0 a_p1 : Nat) (p0_kind : Int32) (p0_minus : Int32) (p0_m : Int64) (p0_e : Int32) (p0_narrowBelow : Int32) (p1_kind : Int32) (p1_minus : Int32) (p1_m : Int64) (p1_e : Int32) (p1_narrowBelow : Int32) (u : Int32) (hf : f_X8_comparedSizes p0_kind p0_m p0_e p1_kind p1_m p1_e = some u) : CtI l yX8_comparedSizes cX8_comparedSizes 4 3 63 .int [.ref a_p0, .ref a_p1] D cI cJ [(a_p0, .inr (9, [.int p0_kind, .int p0_minus, .long p0_m, .int p0_e, .int p0_narrowBelow])), (a_p1, .inr (9, [.int p1_kind, .int p1_minus, .long p1_m, .int p1_e, .int p1_narrowBelow]))] [(a_p0, .inr (9, [.int p0_kind, .int p0_minus, .long p0_m, .int p0_e, .int p0_narrowBelow])), (a_p1, .inr (9, [.int p1_kind, .int p1_minus, .long p1_m, .int p1_e, .int p1_narrowBelow]))] u := by
  refine mkI (own := RX8) rfl (by decide +kernel) (Nat.le_of_ble_eq_true rfl) (lv := [(0, .ref a_p0), (1, .ref a_p1)]) rfl ?_
  intro p e s m below meth c Q A ls ar S hA hK hN hret H locs hP hD hS hl
  obtain ⟨hx, hb, hml, hown, hts⟩ := id S
  have hret : ∀ (w : Int32), w = u → ∀ (H : Heap) (locs : List Loc) (ls : Array Slot) (pc : Nat), decode cX8_comparedSizes pc = .ok (.ireturn, 1) → va_P D vwCl [(a_p0, .inr (9, [.int p0_kind, .int p0_minus, .long p0_m, .int p0_e, .int p0_narrowBelow])), (a_p1, .inr (9, [.int p1_kind, .int p1_minus, .long p1_m, .int p1_e, .int p1_narrowBelow]))] H → va_D A [(a_p0, .inr (9, [.int p0_kind, .int p0_minus, .long p0_m, .int p0_e, .int p0_narrowBelow])), (a_p1, .inr (9, [.int p1_kind, .int p1_minus, .long p1_m, .int p1_e, .int p1_narrowBelow]))] → va_S A s.heap H locs → W p l e (rmz 3 63) s m ar below meth c H locs 0 0 Q (F0 m pc ls [.int w]) := fun w hw => hw ▸ hret
  have keyB42 : ∀ (s0 : Int32) (s1 : Int32) (H : Heap) (locs : List Loc) (ls : Array Slot), f_X8_comparedSizes_B42 p0_kind p0_m p0_e p1_kind p1_m p1_e s0 s1 = some u → va_P D vwCl [(a_p0, .inr (9, [.int p0_kind, .int p0_minus, .long p0_m, .int p0_e, .int p0_narrowBelow])), (a_p1, .inr (9, [.int p1_kind, .int p1_minus, .long p1_m, .int p1_e, .int p1_narrowBelow]))] H → va_D A [(a_p0, .inr (9, [.int p0_kind, .int p0_minus, .long p0_m, .int p0_e, .int p0_narrowBelow])), (a_p1, .inr (9, [.int p1_kind, .int p1_minus, .long p1_m, .int p1_e, .int p1_narrowBelow]))] → va_S A s.heap H locs → lv_has ls 4 [] → W p l e (rmz 3 63) s m ar below meth c H locs 0 0 Q (F0 m 42 ls [.int s1, .int s0]) := by
    intro s0 s1 H locs ls hf hP hD hS hl
    unfold f_X8_comparedSizes_B42 at hf
    obtain ⟨u1, hu2, hf⟩ := bdE hf
    refine cS_I (ws' := [(a_p0, .inr (9, [.int p0_kind, .int p0_minus, .long p0_m, .int p0_e, .int p0_narrowBelow])), (a_p1, .inr (9, [.int p1_kind, .int p1_minus, .long p1_m, .int p1_e, .int p1_narrowBelow]))]) (rest := []) S hK hN hA hP hD hS (c_J6_compare_7cf53 l D cI cJ  s0 s1  u1 hu2) mwJ6_compare_7cf53 msJ6_compare_7cf53 kmX8_81 [] rfl (by decide) rfl rfl rfl ⟨Nat.le_of_ble_eq_true rfl, Nat.le_of_ble_eq_true rfl⟩ ⟨Nat.zero_le _, Nat.zero_le _⟩ hl.1 rfl rfl (Nat.le_of_ble_eq_true rfl) dX8_comparedSizes_42 (fun H locs hP hD hS => ?_)
    exact hret _ (opE hf) H locs ls 45 dX8_comparedSizes_45 hP hD hS
  have keyB29 : ∀ (s0 : Int32) (H : Heap) (locs : List Loc) (ls : Array Slot), f_X8_comparedSizes_B29 p0_kind p0_m p0_e p1_kind p1_m p1_e s0 = some u → va_P D vwCl [(a_p0, .inr (9, [.int p0_kind, .int p0_minus, .long p0_m, .int p0_e, .int p0_narrowBelow])), (a_p1, .inr (9, [.int p1_kind, .int p1_minus, .long p1_m, .int p1_e, .int p1_narrowBelow]))] H → va_D A [(a_p0, .inr (9, [.int p0_kind, .int p0_minus, .long p0_m, .int p0_e, .int p0_narrowBelow])), (a_p1, .inr (9, [.int p1_kind, .int p1_minus, .long p1_m, .int p1_e, .int p1_narrowBelow]))] → va_S A s.heap H locs → lv_has ls 4 [(1, .ref a_p1)] → W p l e (rmz 3 63) s m ar below meth c H locs 0 0 Q (F0 m 29 ls [.int s0]) := by
    intro s0 H locs ls hf hP hD hS hl
    unfold f_X8_comparedSizes_B29 at hf
    refine lv_aload_n hx hb dX8_comparedSizes_29 rfl (lv_at hl 0 rfl) ?_
    refine va_get (D := D) (ci := 9) (v := .int p1_kind) (C := RX8) (T := TX8) (N := 5) hx hb hts uwX8 hown hK hP 1 rfl rfl 0 (by decide) (hts _ kfX8_41) (fun _ h9 => h9) rfl dX8_comparedSizes_30 ?_
    refine lv_iconst (v := 3) hx hb dX8_comparedSizes_33 (by decide) ?_
    refine lv_icmp_ne (tgt := 41) hx hb dX8_comparedSizes_34 (by decide) (fun hc3 => ?_) (fun hc3 => ?_)
    · have hf := ifF hc3 hf
      refine lv_iconst (v := 0) hx hb dX8_comparedSizes_41 (by decide) ?_
      exact keyB42 s0 (0 : Int32) H locs ls hf hP hD hS (lv_sub hl [] rfl)
    · have hf := ifT hc3 hf
      refine lv_iconst (v := 1) hx hb dX8_comparedSizes_37 (by decide) ?_
      refine lv_goto (tgt := 42) hx hb dX8_comparedSizes_38 (by decide) ?_
      exact keyB42 s0 (1 : Int32) H locs ls hf hP hD hS (lv_sub hl [] rfl)
  have keyB16 : ∀  (H : Heap) (locs : List Loc) (ls : Array Slot), f_X8_comparedSizes_B16 p0_kind p0_m p0_e p1_kind p1_m p1_e  = some u → va_P D vwCl [(a_p0, .inr (9, [.int p0_kind, .int p0_minus, .long p0_m, .int p0_e, .int p0_narrowBelow])), (a_p1, .inr (9, [.int p1_kind, .int p1_minus, .long p1_m, .int p1_e, .int p1_narrowBelow]))] H → va_D A [(a_p0, .inr (9, [.int p0_kind, .int p0_minus, .long p0_m, .int p0_e, .int p0_narrowBelow])), (a_p1, .inr (9, [.int p1_kind, .int p1_minus, .long p1_m, .int p1_e, .int p1_narrowBelow]))] → va_S A s.heap H locs → lv_has ls 4 [(0, .ref a_p0), (1, .ref a_p1)] → W p l e (rmz 3 63) s m ar below meth c H locs 0 0 Q (F0 m 16 ls []) := by
    intro  H locs ls hf hP hD hS hl
    unfold f_X8_comparedSizes_B16 at hf
    refine lv_aload_n hx hb dX8_comparedSizes_16 rfl (lv_at hl 0 rfl) ?_
    refine va_get (D := D) (ci := 9) (v := .int p0_kind) (C := RX8) (T := TX8) (N := 5) hx hb hts uwX8 hown hK hP 0 rfl rfl 0 (by decide) (hts _ kfX8_41) (fun _ h9 => h9) rfl dX8_comparedSizes_17 ?_
    refine lv_iconst (v := 3) hx hb dX8_comparedSizes_20 (by decide) ?_
    refine lv_icmp_ne (tgt := 28) hx hb dX8_comparedSizes_21 (by decide) (fun hc4 => ?_) (fun hc4 => ?_)
    · have hf := ifF hc4 hf
      refine lv_iconst (v := 0) hx hb dX8_comparedSizes_28 (by decide) ?_
      exact keyB29 (0 : Int32) H locs ls hf hP hD hS (lv_sub hl [1] rfl)
    · have hf := ifT hc4 hf
      refine lv_iconst (v := 1) hx hb dX8_comparedSizes_24 (by decide) ?_
      refine lv_goto (tgt := 29) hx hb dX8_comparedSizes_25 (by decide) ?_
      exact keyB29 (1 : Int32) H locs ls hf hP hD hS (lv_sub hl [1] rfl)
  unfold f_X8_comparedSizes at hf
  refine lv_aload_n hx hb dX8_comparedSizes_0 rfl (lv_at hl 0 rfl) ?_
  refine va_get (D := D) (ci := 9) (v := .int p0_kind) (C := RX8) (T := TX8) (N := 5) hx hb hts uwX8 hown hK hP 0 rfl rfl 0 (by decide) (hts _ kfX8_41) (fun _ h9 => h9) rfl dX8_comparedSizes_1 ?_
  refine lv_iconst (v := 3) hx hb dX8_comparedSizes_4 (by decide) ?_
  refine lv_icmp_eq (tgt := 16) hx hb dX8_comparedSizes_5 (by decide) (fun hc18 => ?_) (fun hc18 => ?_)
  · have hf := ifT hc18 hf
    exact keyB16  H locs ls hf hP hD hS (lv_sub hl [0, 1] rfl)
  · have hf := ifF hc18 hf
    refine lv_aload_n hx hb dX8_comparedSizes_8 rfl (lv_at hl 1 rfl) ?_
    refine va_get (D := D) (ci := 9) (v := .int p1_kind) (C := RX8) (T := TX8) (N := 5) hx hb hts uwX8 hown hK hP 1 rfl rfl 0 (by decide) (hts _ kfX8_41) (fun _ h9 => h9) rfl dX8_comparedSizes_9 ?_
    refine lv_iconst (v := 3) hx hb dX8_comparedSizes_12 (by decide) ?_
    refine lv_icmp_ne (tgt := 46) hx hb dX8_comparedSizes_13 (by decide) (fun hc17 => ?_) (fun hc17 => ?_)
    · have hf := ifF hc17 hf
      refine lv_aload_n hx hb dX8_comparedSizes_46 rfl (lv_at hl 0 rfl) ?_
      obtain ⟨u5, hu6, hf⟩ := bdE hf
      refine cV_I (ws' := [(a_p0, .inr (9, [.int p0_kind, .int p0_minus, .long p0_m, .int p0_e, .int p0_narrowBelow])), (a_p1, .inr (9, [.int p1_kind, .int p1_minus, .long p1_m, .int p1_e, .int p1_narrowBelow]))]) (rest := []) S hK hN hA hP hD hS (c_X8_bits l D cI cJ a_p0  p0_kind p0_minus p0_m p0_e p0_narrowBelow u5 hu6) mwX8_bits miX8_bits kmX8_57 [0] rfl (by decide) rfl rfl rfl 0 rfl rfl ⟨Nat.le_of_ble_eq_true rfl, Nat.le_of_ble_eq_true rfl⟩ ⟨Nat.zero_le _, Nat.zero_le _⟩ hl.1 rfl rfl (Nat.le_of_ble_eq_true rfl) dX8_comparedSizes_47 (fun H locs hP hD hS => ?_)
      refine lv_aload_n hx hb dX8_comparedSizes_50 rfl (lv_at hl 0 rfl) ?_
      refine va_get (D := D) (ci := 9) (v := .int p0_e) (C := RX8) (T := TX8) (N := 5) hx hb hts uwX8 hown hK hP 0 rfl rfl 3 (by decide) (hts _ kfX8_31) (fun _ h9 => h9) rfl dX8_comparedSizes_51 ?_
      refine lv_iadd hx hb dX8_comparedSizes_54 ?_
      refine lv_istore_n (lv' := [(2, .int (u5 + p0_e)), (0, .ref a_p0), (1, .ref a_p1)]) hx hb dX8_comparedSizes_55 rfl hl (by decide) rfl (fun ls hl => ?_)
      refine lv_aload_n hx hb dX8_comparedSizes_56 rfl (lv_at hl 2 rfl) ?_
      obtain ⟨u7, hu8, hf⟩ := bdE hf
      refine cV_I (ws' := [(a_p0, .inr (9, [.int p0_kind, .int p0_minus, .long p0_m, .int p0_e, .int p0_narrowBelow])), (a_p1, .inr (9, [.int p1_kind, .int p1_minus, .long p1_m, .int p1_e, .int p1_narrowBelow]))]) (rest := []) S hK hN hA hP hD hS (c_X8_bits l D cI cJ a_p1  p1_kind p1_minus p1_m p1_e p1_narrowBelow u7 hu8) mwX8_bits miX8_bits kmX8_57 [1] rfl (by decide) rfl rfl rfl 0 rfl rfl ⟨Nat.le_of_ble_eq_true rfl, Nat.le_of_ble_eq_true rfl⟩ ⟨Nat.zero_le _, Nat.zero_le _⟩ hl.1 rfl rfl (Nat.le_of_ble_eq_true rfl) dX8_comparedSizes_57 (fun H locs hP hD hS => ?_)
      refine lv_aload_n hx hb dX8_comparedSizes_60 rfl (lv_at hl 2 rfl) ?_
      refine va_get (D := D) (ci := 9) (v := .int p1_e) (C := RX8) (T := TX8) (N := 5) hx hb hts uwX8 hown hK hP 1 rfl rfl 3 (by decide) (hts _ kfX8_31) (fun _ h9 => h9) rfl dX8_comparedSizes_61 ?_
      refine lv_iadd hx hb dX8_comparedSizes_64 ?_
      refine lv_istore_n (lv' := [(3, .int (u7 + p1_e)), (2, .int (u5 + p0_e)), (0, .ref a_p0), (1, .ref a_p1)]) hx hb dX8_comparedSizes_65 rfl hl (by decide) rfl (fun ls hl => ?_)
      refine lv_iload_n hx hb dX8_comparedSizes_66 rfl (lv_at hl 1 rfl) ?_
      refine lv_iload_n hx hb dX8_comparedSizes_67 rfl (lv_at hl 0 rfl) ?_
      refine lv_icmp_eq (tgt := 82) hx hb dX8_comparedSizes_68 (by decide) (fun hc16 => ?_) (fun hc16 => ?_)
      · have hf := ifT hc16 hf
        refine lv_aload_n hx hb dX8_comparedSizes_82 rfl (lv_at hl 2 rfl) ?_
        refine va_get (D := D) (ci := 9) (v := .long p0_m) (C := RX8) (T := TX8) (N := 5) hx hb hts uwX8 hown hK hP 0 rfl rfl 2 (by decide) (hts _ kfX8_27) (fun _ h9 => h9) rfl dX8_comparedSizes_83 ?_
        refine lv_bipush (v := 63) hx hb dX8_comparedSizes_86 (by decide) ?_
        refine lv_aload_n hx hb dX8_comparedSizes_88 rfl (lv_at hl 2 rfl) ?_
        obtain ⟨u9, hu10, hf⟩ := bdE hf
        refine cV_I (ws' := [(a_p0, .inr (9, [.int p0_kind, .int p0_minus, .long p0_m, .int p0_e, .int p0_narrowBelow])), (a_p1, .inr (9, [.int p1_kind, .int p1_minus, .long p1_m, .int p1_e, .int p1_narrowBelow]))]) (rest := [.int (63 : Int32), .long p0_m]) S hK hN hA hP hD hS (c_X8_bits l D cI cJ a_p0  p0_kind p0_minus p0_m p0_e p0_narrowBelow u9 hu10) mwX8_bits miX8_bits kmX8_57 [0] rfl (by decide) rfl rfl rfl 0 rfl rfl ⟨Nat.le_of_ble_eq_true rfl, Nat.le_of_ble_eq_true rfl⟩ ⟨Nat.zero_le _, Nat.zero_le _⟩ hl.1 rfl rfl (Nat.le_of_ble_eq_true rfl) dX8_comparedSizes_89 (fun H locs hP hD hS => ?_)
        refine lv_isub hx hb dX8_comparedSizes_92 ?_
        refine lv_lshl (v := lsh p0_m ((63 : Int32) - u9)) hx hb dX8_comparedSizes_93 rfl ?_
        refine lv_aload_n hx hb dX8_comparedSizes_94 rfl (lv_at hl 3 rfl) ?_
        refine va_get (D := D) (ci := 9) (v := .long p1_m) (C := RX8) (T := TX8) (N := 5) hx hb hts uwX8 hown hK hP 1 rfl rfl 2 (by decide) (hts _ kfX8_27) (fun _ h9 => h9) rfl dX8_comparedSizes_95 ?_
        refine lv_bipush (v := 63) hx hb dX8_comparedSizes_98 (by decide) ?_
        refine lv_aload_n hx hb dX8_comparedSizes_100 rfl (lv_at hl 3 rfl) ?_
        obtain ⟨u11, hu12, hf⟩ := bdE hf
        refine cV_I (ws' := [(a_p0, .inr (9, [.int p0_kind, .int p0_minus, .long p0_m, .int p0_e, .int p0_narrowBelow])), (a_p1, .inr (9, [.int p1_kind, .int p1_minus, .long p1_m, .int p1_e, .int p1_narrowBelow]))]) (rest := [.int (63 : Int32), .long p1_m, .long (lsh p0_m ((63 : Int32) - u9))]) S hK hN hA hP hD hS (c_X8_bits l D cI cJ a_p1  p1_kind p1_minus p1_m p1_e p1_narrowBelow u11 hu12) mwX8_bits miX8_bits kmX8_57 [1] rfl (by decide) rfl rfl rfl 0 rfl rfl ⟨Nat.le_of_ble_eq_true rfl, Nat.le_of_ble_eq_true rfl⟩ ⟨Nat.zero_le _, Nat.zero_le _⟩ hl.1 rfl rfl (Nat.le_of_ble_eq_true rfl) dX8_comparedSizes_101 (fun H locs hP hD hS => ?_)
        refine lv_isub hx hb dX8_comparedSizes_104 ?_
        refine lv_lshl (v := lsh p1_m ((63 : Int32) - u11)) hx hb dX8_comparedSizes_105 rfl ?_
        obtain ⟨u13, hu14, hf⟩ := bdE hf
        refine cS_I (ws' := [(a_p0, .inr (9, [.int p0_kind, .int p0_minus, .long p0_m, .int p0_e, .int p0_narrowBelow])), (a_p1, .inr (9, [.int p1_kind, .int p1_minus, .long p1_m, .int p1_e, .int p1_narrowBelow]))]) (rest := []) S hK hN hA hP hD hS (c_J13_compare_74951 l D cI cJ  (lsh p0_m ((63 : Int32) - u9)) (lsh p1_m ((63 : Int32) - u11))  u13 hu14) mwJ13_compare_74951 msJ13_compare_74951 kmX8_86 [] rfl (by decide) rfl rfl rfl ⟨Nat.le_of_ble_eq_true rfl, Nat.le_of_ble_eq_true rfl⟩ ⟨Nat.zero_le _, Nat.zero_le _⟩ hl.1 rfl rfl (Nat.le_of_ble_eq_true rfl) dX8_comparedSizes_106 (fun H locs hP hD hS => ?_)
        exact hret _ (opE hf) H locs ls 109 dX8_comparedSizes_109 hP hD hS
      · have hf := ifF hc16 hf
        refine lv_iload_n hx hb dX8_comparedSizes_71 rfl (lv_at hl 1 rfl) ?_
        refine lv_iload_n hx hb dX8_comparedSizes_72 rfl (lv_at hl 0 rfl) ?_
        refine lv_icmp_ge (tgt := 80) hx hb dX8_comparedSizes_73 (by decide) (fun hc15 => ?_) (fun hc15 => ?_)
        · have hf := ifT hc15 hf
          refine lv_iconst (v := 1) hx hb dX8_comparedSizes_80 (by decide) ?_
          exact hret _ (opE hf) H locs ls 81 dX8_comparedSizes_81 hP hD hS
        · have hf := ifF hc15 hf
          refine lv_iconst (v := -1) hx hb dX8_comparedSizes_76 (by decide) ?_
          refine lv_goto (tgt := 81) hx hb dX8_comparedSizes_77 (by decide) ?_
          exact hret _ (opE hf) H locs ls 81 dX8_comparedSizes_81 hP hD hS
    · have hf := ifT hc17 hf
      exact keyB16  H locs ls hf hP hD hS (lv_sub hl [0, 1] rfl)
set_option maxRecDepth 100000 in
set_option maxHeartbeats 4000000 in
theorem c_X8_compared (l : Launch) (D : va_G) (cI cJ : ClassId) (a_p0 a_p1 : Nat) (p0_kind : Int32) (p0_minus : Int32) (p0_m : Int64) (p0_e : Int32) (p0_narrowBelow : Int32) (p1_kind : Int32) (p1_minus : Int32) (p1_m : Int64) (p1_e : Int32) (p1_narrowBelow : Int32) (u : Int32) (hf : f_X8_compared p0_kind p0_minus p0_m p0_e p1_kind p1_minus p1_m p1_e = some u) : CtI l yX8_compared cX8_compared 2 4 86 .int [.ref a_p0, .ref a_p1] D cI cJ [(a_p0, .inr (9, [.int p0_kind, .int p0_minus, .long p0_m, .int p0_e, .int p0_narrowBelow])), (a_p1, .inr (9, [.int p1_kind, .int p1_minus, .long p1_m, .int p1_e, .int p1_narrowBelow]))] [(a_p0, .inr (9, [.int p0_kind, .int p0_minus, .long p0_m, .int p0_e, .int p0_narrowBelow])), (a_p1, .inr (9, [.int p1_kind, .int p1_minus, .long p1_m, .int p1_e, .int p1_narrowBelow]))] u := by
  refine mkI (own := RX8) rfl (by decide +kernel) (Nat.le_of_ble_eq_true rfl) (lv := [(0, .ref a_p0), (1, .ref a_p1)]) rfl ?_
  intro p e s m below meth c Q A ls ar S hA hK hN hret H locs hP hD hS hl
  obtain ⟨hx, hb, hml, hown, hts⟩ := id S
  have hret : ∀ (w : Int32), w = u → ∀ (H : Heap) (locs : List Loc) (ls : Array Slot) (pc : Nat), decode cX8_compared pc = .ok (.ireturn, 1) → va_P D vwCl [(a_p0, .inr (9, [.int p0_kind, .int p0_minus, .long p0_m, .int p0_e, .int p0_narrowBelow])), (a_p1, .inr (9, [.int p1_kind, .int p1_minus, .long p1_m, .int p1_e, .int p1_narrowBelow]))] H → va_D A [(a_p0, .inr (9, [.int p0_kind, .int p0_minus, .long p0_m, .int p0_e, .int p0_narrowBelow])), (a_p1, .inr (9, [.int p1_kind, .int p1_minus, .long p1_m, .int p1_e, .int p1_narrowBelow]))] → va_S A s.heap H locs → W p l e (rmz 4 86) s m ar below meth c H locs 0 0 Q (F0 m pc ls [.int w]) := fun w hw => hw ▸ hret
  unfold f_X8_compared at hf
  refine lv_aload_n hx hb dX8_compared_0 rfl (lv_at hl 0 rfl) ?_
  refine va_get (D := D) (ci := 9) (v := .int p0_kind) (C := RX8) (T := TX8) (N := 5) hx hb hts uwX8 hown hK hP 0 rfl rfl 0 (by decide) (hts _ kfX8_41) (fun _ h9 => h9) rfl dX8_compared_1 ?_
  refine lv_iconst (v := 4) hx hb dX8_compared_4 (by decide) ?_
  refine lv_icmp_eq (tgt := 16) hx hb dX8_compared_5 (by decide) (fun hc16 => ?_) (fun hc16 => ?_)
  · have hf := ifT hc16 hf
    refine lv_iconst (v := 2) hx hb dX8_compared_16 (by decide) ?_
    exact hret _ (opE hf) H locs ls 17 dX8_compared_17 hP hD hS
  · have hf := ifF hc16 hf
    refine lv_aload_n hx hb dX8_compared_8 rfl (lv_at hl 1 rfl) ?_
    refine va_get (D := D) (ci := 9) (v := .int p1_kind) (C := RX8) (T := TX8) (N := 5) hx hb hts uwX8 hown hK hP 1 rfl rfl 0 (by decide) (hts _ kfX8_41) (fun _ h9 => h9) rfl dX8_compared_9 ?_
    refine lv_iconst (v := 4) hx hb dX8_compared_12 (by decide) ?_
    refine lv_icmp_ne (tgt := 18) hx hb dX8_compared_13 (by decide) (fun hc15 => ?_) (fun hc15 => ?_)
    · have hf := ifF hc15 hf
      refine lv_aload_n hx hb dX8_compared_18 rfl (lv_at hl 0 rfl) ?_
      obtain ⟨u1, hu2, hf⟩ := bdE hf
      refine cV_I (ws' := [(a_p0, .inr (9, [.int p0_kind, .int p0_minus, .long p0_m, .int p0_e, .int p0_narrowBelow])), (a_p1, .inr (9, [.int p1_kind, .int p1_minus, .long p1_m, .int p1_e, .int p1_narrowBelow]))]) (rest := []) S hK hN hA hP hD hS (c_X8_side l D cI cJ a_p0  p0_kind p0_minus p0_m p0_e p0_narrowBelow u1 hu2) mwX8_side miX8_side kmX8_74 [0] rfl (by decide) rfl rfl rfl 0 rfl rfl ⟨Nat.le_of_ble_eq_true rfl, Nat.le_of_ble_eq_true rfl⟩ ⟨Nat.zero_le _, Nat.zero_le _⟩ hl.1 rfl rfl (Nat.le_of_ble_eq_true rfl) dX8_compared_19 (fun H locs hP hD hS => ?_)
      refine lv_aload_n hx hb dX8_compared_22 rfl (lv_at hl 1 rfl) ?_
      obtain ⟨u3, hu4, hf⟩ := bdE hf
      refine cV_I (ws' := [(a_p0, .inr (9, [.int p0_kind, .int p0_minus, .long p0_m, .int p0_e, .int p0_narrowBelow])), (a_p1, .inr (9, [.int p1_kind, .int p1_minus, .long p1_m, .int p1_e, .int p1_narrowBelow]))]) (rest := [.int u1]) S hK hN hA hP hD hS (c_X8_side l D cI cJ a_p1  p1_kind p1_minus p1_m p1_e p1_narrowBelow u3 hu4) mwX8_side miX8_side kmX8_74 [1] rfl (by decide) rfl rfl rfl 0 rfl rfl ⟨Nat.le_of_ble_eq_true rfl, Nat.le_of_ble_eq_true rfl⟩ ⟨Nat.zero_le _, Nat.zero_le _⟩ hl.1 rfl rfl (Nat.le_of_ble_eq_true rfl) dX8_compared_23 (fun H locs hP hD hS => ?_)
      refine lv_icmp_eq (tgt := 46) hx hb dX8_compared_26 (by decide) (fun hc14 => ?_) (fun hc14 => ?_)
      · have hf := ifT hc14 hf
        refine lv_aload_n hx hb dX8_compared_46 rfl (lv_at hl 0 rfl) ?_
        obtain ⟨u5, hu6, hf⟩ := bdE hf
        refine cV_I (ws' := [(a_p0, .inr (9, [.int p0_kind, .int p0_minus, .long p0_m, .int p0_e, .int p0_narrowBelow])), (a_p1, .inr (9, [.int p1_kind, .int p1_minus, .long p1_m, .int p1_e, .int p1_narrowBelow]))]) (rest := []) S hK hN hA hP hD hS (c_X8_side l D cI cJ a_p0  p0_kind p0_minus p0_m p0_e p0_narrowBelow u5 hu6) mwX8_side miX8_side kmX8_74 [0] rfl (by decide) rfl rfl rfl 0 rfl rfl ⟨Nat.le_of_ble_eq_true rfl, Nat.le_of_ble_eq_true rfl⟩ ⟨Nat.zero_le _, Nat.zero_le _⟩ hl.1 rfl rfl (Nat.le_of_ble_eq_true rfl) dX8_compared_47 (fun H locs hP hD hS => ?_)
        refine lv_aload_n hx hb dX8_compared_50 rfl (lv_at hl 0 rfl) ?_
        refine lv_aload_n hx hb dX8_compared_51 rfl (lv_at hl 1 rfl) ?_
        obtain ⟨u7, hu8, hf⟩ := bdE hf
        refine cS_I (ws' := [(a_p0, .inr (9, [.int p0_kind, .int p0_minus, .long p0_m, .int p0_e, .int p0_narrowBelow])), (a_p1, .inr (9, [.int p1_kind, .int p1_minus, .long p1_m, .int p1_e, .int p1_narrowBelow]))]) (rest := [.int u5]) S hK hN hA hP hD hS (c_X8_comparedSizes l D cI cJ a_p0 a_p1  p0_kind p0_minus p0_m p0_e p0_narrowBelow p1_kind p1_minus p1_m p1_e p1_narrowBelow u7 hu8) mwX8_comparedSizes msX8_comparedSizes kmX8_77 [0, 1] rfl (by decide) rfl rfl rfl ⟨Nat.le_of_ble_eq_true rfl, Nat.le_of_ble_eq_true rfl⟩ ⟨Nat.zero_le _, Nat.zero_le _⟩ hl.1 rfl rfl (Nat.le_of_ble_eq_true rfl) dX8_compared_52 (fun H locs hP hD hS => ?_)
        refine lv_imul hx hb dX8_compared_55 ?_
        exact hret _ (opE hf) H locs ls 56 dX8_compared_56 hP hD hS
      · have hf := ifF hc14 hf
        refine lv_aload_n hx hb dX8_compared_29 rfl (lv_at hl 0 rfl) ?_
        obtain ⟨u9, hu10, hf⟩ := bdE hf
        refine cV_I (ws' := [(a_p0, .inr (9, [.int p0_kind, .int p0_minus, .long p0_m, .int p0_e, .int p0_narrowBelow])), (a_p1, .inr (9, [.int p1_kind, .int p1_minus, .long p1_m, .int p1_e, .int p1_narrowBelow]))]) (rest := []) S hK hN hA hP hD hS (c_X8_side l D cI cJ a_p0  p0_kind p0_minus p0_m p0_e p0_narrowBelow u9 hu10) mwX8_side miX8_side kmX8_74 [0] rfl (by decide) rfl rfl rfl 0 rfl rfl ⟨Nat.le_of_ble_eq_true rfl, Nat.le_of_ble_eq_true rfl⟩ ⟨Nat.zero_le _, Nat.zero_le _⟩ hl.1 rfl rfl (Nat.le_of_ble_eq_true rfl) dX8_compared_30 (fun H locs hP hD hS => ?_)
        refine lv_aload_n hx hb dX8_compared_33 rfl (lv_at hl 1 rfl) ?_
        obtain ⟨u11, hu12, hf⟩ := bdE hf
        refine cV_I (ws' := [(a_p0, .inr (9, [.int p0_kind, .int p0_minus, .long p0_m, .int p0_e, .int p0_narrowBelow])), (a_p1, .inr (9, [.int p1_kind, .int p1_minus, .long p1_m, .int p1_e, .int p1_narrowBelow]))]) (rest := [.int u9]) S hK hN hA hP hD hS (c_X8_side l D cI cJ a_p1  p1_kind p1_minus p1_m p1_e p1_narrowBelow u11 hu12) mwX8_side miX8_side kmX8_74 [1] rfl (by decide) rfl rfl rfl 0 rfl rfl ⟨Nat.le_of_ble_eq_true rfl, Nat.le_of_ble_eq_true rfl⟩ ⟨Nat.zero_le _, Nat.zero_le _⟩ hl.1 rfl rfl (Nat.le_of_ble_eq_true rfl) dX8_compared_34 (fun H locs hP hD hS => ?_)
        refine lv_icmp_ge (tgt := 44) hx hb dX8_compared_37 (by decide) (fun hc13 => ?_) (fun hc13 => ?_)
        · have hf := ifT hc13 hf
          refine lv_iconst (v := 1) hx hb dX8_compared_44 (by decide) ?_
          exact hret _ (opE hf) H locs ls 45 dX8_compared_45 hP hD hS
        · have hf := ifF hc13 hf
          refine lv_iconst (v := -1) hx hb dX8_compared_40 (by decide) ?_
          refine lv_goto (tgt := 45) hx hb dX8_compared_41 (by decide) ?_
          exact hret _ (opE hf) H locs ls 45 dX8_compared_45 hP hD hS
    · have hf := ifT hc15 hf
      refine lv_iconst (v := 2) hx hb dX8_compared_16 (by decide) ?_
      exact hret _ (opE hf) H locs ls 17 dX8_compared_17 hP hD hS
set_option maxRecDepth 100000 in
set_option maxHeartbeats 4000000 in
theorem c_X9_letter (l : Launch) (D : va_G) (cI cJ : ClassId) (a_p0 a_p0_formats a_p0_patterns a_p0_first a_p0_second a_p0_third a_p0_tape a_p0_acts a_p0_sheet a_p0_forms a_p0_sheet_bytes : Nat) (p1 : Int32) (p0_sheet_length : Int32) (p0_sheet_bytes : (Nat → Int32)) (u : Int32) (hf : f_X9_letter p0_sheet_length p0_sheet_bytes p1 = some u) : CtI l yX9_letter cX9_letter 2 1 21 .int [.ref a_p0, .int p1] D cI cJ [(a_p0, .inr (10, [.ref a_p0_formats, .ref a_p0_patterns, .ref a_p0_first, .ref a_p0_second, .ref a_p0_third, .ref a_p0_tape, .ref a_p0_acts, .ref a_p0_sheet, .ref a_p0_forms])), (a_p0_sheet, .inr (6, [.ref a_p0_sheet_bytes, .int p0_sheet_length])), (a_p0_sheet_bytes, .inl (cI, 1077, .inl p0_sheet_bytes))] [(a_p0, .inr (10, [.ref a_p0_formats, .ref a_p0_patterns, .ref a_p0_first, .ref a_p0_second, .ref a_p0_third, .ref a_p0_tape, .ref a_p0_acts, .ref a_p0_sheet, .ref a_p0_forms])), (a_p0_sheet, .inr (6, [.ref a_p0_sheet_bytes, .int p0_sheet_length])), (a_p0_sheet_bytes, .inl (cI, 1077, .inl p0_sheet_bytes))] u := by
  refine mkI (own := RX9) rfl (by decide +kernel) (Nat.le_of_ble_eq_true rfl) (lv := [(0, .ref a_p0), (1, .int p1)]) rfl ?_
  intro p e s m below meth c Q A ls ar S hA hK hN hret H locs hP hD hS hl
  obtain ⟨hx, hb, hml, hown, hts⟩ := id S
  have hret : ∀ (w : Int32), w = u → ∀ (H : Heap) (locs : List Loc) (ls : Array Slot) (pc : Nat), decode cX9_letter pc = .ok (.ireturn, 1) → va_P D vwCl [(a_p0, .inr (10, [.ref a_p0_formats, .ref a_p0_patterns, .ref a_p0_first, .ref a_p0_second, .ref a_p0_third, .ref a_p0_tape, .ref a_p0_acts, .ref a_p0_sheet, .ref a_p0_forms])), (a_p0_sheet, .inr (6, [.ref a_p0_sheet_bytes, .int p0_sheet_length])), (a_p0_sheet_bytes, .inl (cI, 1077, .inl p0_sheet_bytes))] H → va_D A [(a_p0, .inr (10, [.ref a_p0_formats, .ref a_p0_patterns, .ref a_p0_first, .ref a_p0_second, .ref a_p0_third, .ref a_p0_tape, .ref a_p0_acts, .ref a_p0_sheet, .ref a_p0_forms])), (a_p0_sheet, .inr (6, [.ref a_p0_sheet_bytes, .int p0_sheet_length])), (a_p0_sheet_bytes, .inl (cI, 1077, .inl p0_sheet_bytes))] → va_S A s.heap H locs → W p l e (rmz 1 21) s m ar below meth c H locs 0 0 Q (F0 m pc ls [.int w]) := fun w hw => hw ▸ hret
  unfold f_X9_letter at hf
  refine lv_aload_n hx hb dX9_letter_0 rfl (lv_at hl 0 rfl) ?_
  refine va_get (D := D) (ci := 10) (v := .ref a_p0_sheet) (C := RX9) (T := TX9) (N := 9) hx hb hts uwX9 hown hK hP 0 rfl rfl 7 (by decide) (hts _ kfX9_40) (fun _ h9 => h9) rfl dX9_letter_1 ?_
  refine lv_iload_n hx hb dX9_letter_4 rfl (lv_at hl 1 rfl) ?_
  obtain ⟨u1, hu2, hf⟩ := bdE hf
  refine cV_I (ws' := [(a_p0, .inr (10, [.ref a_p0_formats, .ref a_p0_patterns, .ref a_p0_first, .ref a_p0_second, .ref a_p0_third, .ref a_p0_tape, .ref a_p0_acts, .ref a_p0_sheet, .ref a_p0_forms])), (a_p0_sheet, .inr (6, [.ref a_p0_sheet_bytes, .int p0_sheet_length])), (a_p0_sheet_bytes, .inl (cI, 1077, .inl p0_sheet_bytes))]) (rest := []) S hK hN hA hP hD hS (c_X5_at l D cI cJ a_p0_sheet a_p0_sheet_bytes p1 p0_sheet_length p0_sheet_bytes u1 hu2) mwX5_at miX5_at kmX9_194 [1, 2] rfl (by decide) rfl rfl rfl 0 rfl rfl ⟨Nat.le_of_ble_eq_true rfl, Nat.le_of_ble_eq_true rfl⟩ ⟨Nat.zero_le _, Nat.zero_le _⟩ hl.1 rfl rfl (Nat.le_of_ble_eq_true rfl) dX9_letter_5 (fun H locs hP hD hS => ?_)
  exact hret _ (opE hf) H locs ls 8 dX9_letter_8 hP hD hS
set_option maxRecDepth 100000 in
set_option maxHeartbeats 4000000 in
theorem c_X9_put (l : Launch) (D : va_G) (cI cJ : ClassId) (a_p0 a_p0_formats a_p0_patterns a_p0_first a_p0_second a_p0_third a_p0_tape a_p0_acts a_p0_sheet a_p0_forms : Nat) (p1 : Int32) (p2 : Int32) (p3 : Int64) (p0_formats : (Nat → Int32)) (p0_patterns : (Nat → Int64)) (u : (Nat → Int32) × (Nat → Int64)) (hf : f_X9_put p1 p2 p3 p0_formats p0_patterns = some u) : CtV l yX9_put cX9_put 5 0 0 [.ref a_p0, .int p1, .int p2, .long p3] D cI cJ [(a_p0, .inr (10, [.ref a_p0_formats, .ref a_p0_patterns, .ref a_p0_first, .ref a_p0_second, .ref a_p0_third, .ref a_p0_tape, .ref a_p0_acts, .ref a_p0_sheet, .ref a_p0_forms])), (a_p0_formats, .inl (cI, 16, .inl p0_formats)), (a_p0_patterns, .inl (cJ, 16, .inr (.inl p0_patterns)))] [(a_p0, .inr (10, [.ref a_p0_formats, .ref a_p0_patterns, .ref a_p0_first, .ref a_p0_second, .ref a_p0_third, .ref a_p0_tape, .ref a_p0_acts, .ref a_p0_sheet, .ref a_p0_forms])), (a_p0_formats, .inl (cI, 16, .inl u.1)), (a_p0_patterns, .inl (cJ, 16, .inr (.inl u.2)))] := by
  refine mkV (own := RX9) rfl (by decide +kernel) (Nat.le_of_ble_eq_true rfl) (lv := [(0, .ref a_p0), (1, .int p1), (2, .int p2), (3, .long p3)]) rfl ?_
  intro p e s m below meth c Q A ls ar S hA hK hN hret H locs hP hD hS hl
  obtain ⟨hx, hb, hml, hown, hts⟩ := id S
  have hret : ∀ (w : (Nat → Int32) × (Nat → Int64)), w = u → ∀ (H : Heap) (locs : List Loc) (ls : Array Slot) (pc : Nat), decode cX9_put pc = .ok (.return_, 1) → va_P D vwCl [(a_p0, .inr (10, [.ref a_p0_formats, .ref a_p0_patterns, .ref a_p0_first, .ref a_p0_second, .ref a_p0_third, .ref a_p0_tape, .ref a_p0_acts, .ref a_p0_sheet, .ref a_p0_forms])), (a_p0_formats, .inl (cI, 16, .inl w.1)), (a_p0_patterns, .inl (cJ, 16, .inr (.inl w.2)))] H → va_D A [(a_p0, .inr (10, [.ref a_p0_formats, .ref a_p0_patterns, .ref a_p0_first, .ref a_p0_second, .ref a_p0_third, .ref a_p0_tape, .ref a_p0_acts, .ref a_p0_sheet, .ref a_p0_forms])), (a_p0_formats, .inl (cI, 16, .inl w.1)), (a_p0_patterns, .inl (cJ, 16, .inr (.inl w.2)))] → va_S A s.heap H locs → W p l e (rmz 0 0) s m ar below meth c H locs 0 0 Q (F0 m pc ls []) := fun w hw => hw ▸ hret
  unfold f_X9_put at hf
  refine lv_aload_n hx hb dX9_put_0 rfl (lv_at hl 0 rfl) ?_
  refine va_get (D := D) (ci := 10) (v := .ref a_p0_formats) (C := RX9) (T := TX9) (N := 9) hx hb hts uwX9 hown hK hP 0 rfl rfl 0 (by decide) (hts _ kfX9_9) (fun _ h9 => h9) rfl dX9_put_1 ?_
  refine lv_iload_n hx hb dX9_put_4 rfl (lv_at hl 1 rfl) ?_
  refine lv_iload_n hx hb dX9_put_5 rfl (lv_at hl 2 rfl) ?_
  obtain ⟨hi1, hf⟩ := gdE hf
  refine va_iast hx hb hK hP hD hS 1 0 rfl rfl hi1 dX9_put_6 (fun H locs hP hD hS => ?_)
  have hP : va_P D vwCl [(a_p0, .inr (10, [.ref a_p0_formats, .ref a_p0_patterns, .ref a_p0_first, .ref a_p0_second, .ref a_p0_third, .ref a_p0_tape, .ref a_p0_acts, .ref a_p0_sheet, .ref a_p0_forms])), (a_p0_formats, .inl (cI, 16, .inl (upd p0_formats p1.toNatClampNeg p2))), (a_p0_patterns, .inl (cJ, 16, .inr (.inl p0_patterns)))] H := hP
  have hD : va_D A [(a_p0, .inr (10, [.ref a_p0_formats, .ref a_p0_patterns, .ref a_p0_first, .ref a_p0_second, .ref a_p0_third, .ref a_p0_tape, .ref a_p0_acts, .ref a_p0_sheet, .ref a_p0_forms])), (a_p0_formats, .inl (cI, 16, .inl (upd p0_formats p1.toNatClampNeg p2))), (a_p0_patterns, .inl (cJ, 16, .inr (.inl p0_patterns)))] := hD
  refine lv_aload_n hx hb dX9_put_7 rfl (lv_at hl 0 rfl) ?_
  refine va_get (D := D) (ci := 10) (v := .ref a_p0_patterns) (C := RX9) (T := TX9) (N := 9) hx hb hts uwX9 hown hK hP 0 rfl rfl 1 (by decide) (hts _ kfX9_13) (fun _ h9 => h9) rfl dX9_put_8 ?_
  refine lv_iload_n hx hb dX9_put_11 rfl (lv_at hl 1 rfl) ?_
  refine lv_lload_n hx hb dX9_put_12 rfl (lv_at hl 3 rfl) ?_
  refine va_last hx hb hK hP hD hS 2 1 rfl rfl hi1 dX9_put_13 (fun H locs hP hD hS => ?_)
  have hP : va_P D vwCl [(a_p0, .inr (10, [.ref a_p0_formats, .ref a_p0_patterns, .ref a_p0_first, .ref a_p0_second, .ref a_p0_third, .ref a_p0_tape, .ref a_p0_acts, .ref a_p0_sheet, .ref a_p0_forms])), (a_p0_formats, .inl (cI, 16, .inl (upd p0_formats p1.toNatClampNeg p2))), (a_p0_patterns, .inl (cJ, 16, .inr (.inl (vp_updL p0_patterns p1.toNatClampNeg p3))))] H := hP
  have hD : va_D A [(a_p0, .inr (10, [.ref a_p0_formats, .ref a_p0_patterns, .ref a_p0_first, .ref a_p0_second, .ref a_p0_third, .ref a_p0_tape, .ref a_p0_acts, .ref a_p0_sheet, .ref a_p0_forms])), (a_p0_formats, .inl (cI, 16, .inl (upd p0_formats p1.toNatClampNeg p2))), (a_p0_patterns, .inl (cJ, 16, .inr (.inl (vp_updL p0_patterns p1.toNatClampNeg p3))))] := hD
  exact hret _ (opE hf) H locs ls 14 dX9_put_14 hP hD hS
set_option maxRecDepth 100000 in
set_option maxHeartbeats 4000000 in
theorem c_X9_look (l : Launch) (D : va_G) (cI cJ : ClassId) (a_p0 a_p0_formats a_p0_patterns a_p0_first a_p0_second a_p0_third a_p0_tape a_p0_acts a_p0_sheet a_p0_forms a_p2 : Nat) (p1 : Int32) (p0_formats : (Nat → Int32)) (p0_patterns : (Nat → Int64)) (p2_kind : Int32) (p2_minus : Int32) (p2_m : Int64) (p2_e : Int32) (p2_narrowBelow : Int32) (u : Int32 × Int32 × Int64 × Int32 × Int32) (hf : f_X9_look p0_formats p0_patterns p1 p2_kind p2_minus p2_m p2_e p2_narrowBelow = some u) : CtV l yX9_look cX9_look 3 2 49 [.ref a_p0, .int p1, .ref a_p2] D cI cJ [(a_p0, .inr (10, [.ref a_p0_formats, .ref a_p0_patterns, .ref a_p0_first, .ref a_p0_second, .ref a_p0_third, .ref a_p0_tape, .ref a_p0_acts, .ref a_p0_sheet, .ref a_p0_forms])), (a_p0_formats, .inl (cI, 16, .inl p0_formats)), (a_p0_patterns, .inl (cJ, 16, .inr (.inl p0_patterns))), (a_p2, .inr (9, [.int p2_kind, .int p2_minus, .long p2_m, .int p2_e, .int p2_narrowBelow]))] [(a_p0, .inr (10, [.ref a_p0_formats, .ref a_p0_patterns, .ref a_p0_first, .ref a_p0_second, .ref a_p0_third, .ref a_p0_tape, .ref a_p0_acts, .ref a_p0_sheet, .ref a_p0_forms])), (a_p0_formats, .inl (cI, 16, .inl p0_formats)), (a_p0_patterns, .inl (cJ, 16, .inr (.inl p0_patterns))), (a_p2, .inr (9, [.int u.1, .int u.2.1, .long u.2.2.1, .int u.2.2.2.1, .int u.2.2.2.2]))] := by
  refine mkV (own := RX9) rfl (by decide +kernel) (Nat.le_of_ble_eq_true rfl) (lv := [(0, .ref a_p0), (1, .int p1), (2, .ref a_p2)]) rfl ?_
  intro p e s m below meth c Q A ls ar S hA hK hN hret H locs hP hD hS hl
  obtain ⟨hx, hb, hml, hown, hts⟩ := id S
  have hret : ∀ (w : Int32 × Int32 × Int64 × Int32 × Int32), w = u → ∀ (H : Heap) (locs : List Loc) (ls : Array Slot) (pc : Nat), decode cX9_look pc = .ok (.return_, 1) → va_P D vwCl [(a_p0, .inr (10, [.ref a_p0_formats, .ref a_p0_patterns, .ref a_p0_first, .ref a_p0_second, .ref a_p0_third, .ref a_p0_tape, .ref a_p0_acts, .ref a_p0_sheet, .ref a_p0_forms])), (a_p0_formats, .inl (cI, 16, .inl p0_formats)), (a_p0_patterns, .inl (cJ, 16, .inr (.inl p0_patterns))), (a_p2, .inr (9, [.int w.1, .int w.2.1, .long w.2.2.1, .int w.2.2.2.1, .int w.2.2.2.2]))] H → va_D A [(a_p0, .inr (10, [.ref a_p0_formats, .ref a_p0_patterns, .ref a_p0_first, .ref a_p0_second, .ref a_p0_third, .ref a_p0_tape, .ref a_p0_acts, .ref a_p0_sheet, .ref a_p0_forms])), (a_p0_formats, .inl (cI, 16, .inl p0_formats)), (a_p0_patterns, .inl (cJ, 16, .inr (.inl p0_patterns))), (a_p2, .inr (9, [.int w.1, .int w.2.1, .long w.2.2.1, .int w.2.2.2.1, .int w.2.2.2.2]))] → va_S A s.heap H locs → W p l e (rmz 2 49) s m ar below meth c H locs 0 0 Q (F0 m pc ls []) := fun w hw => hw ▸ hret
  unfold f_X9_look at hf
  refine lv_aload_n hx hb dX9_look_0 rfl (lv_at hl 2 rfl) ?_
  refine lv_aload_n hx hb dX9_look_1 rfl (lv_at hl 0 rfl) ?_
  refine va_get (D := D) (ci := 10) (v := .ref a_p0_formats) (C := RX9) (T := TX9) (N := 9) hx hb hts uwX9 hown hK hP 0 rfl rfl 0 (by decide) (hts _ kfX9_9) (fun _ h9 => h9) rfl dX9_look_2 ?_
  refine lv_iload_n hx hb dX9_look_5 rfl (lv_at hl 1 rfl) ?_
  obtain ⟨hi1, hf⟩ := gdE hf
  refine va_iald hx hb hK hP 1 0 rfl rfl hi1 dX9_look_6 ?_
  refine lv_aload_n hx hb dX9_look_7 rfl (lv_at hl 0 rfl) ?_
  refine va_get (D := D) (ci := 10) (v := .ref a_p0_patterns) (C := RX9) (T := TX9) (N := 9) hx hb hts uwX9 hown hK hP 0 rfl rfl 1 (by decide) (hts _ kfX9_13) (fun _ h9 => h9) rfl dX9_look_8 ?_
  refine lv_iload_n hx hb dX9_look_11 rfl (lv_at hl 1 rfl) ?_
  refine va_lald hx hb hK hP 2 1 rfl rfl hi1 dX9_look_12 ?_
  obtain ⟨u2, hu3, hf⟩ := bdE hf
  refine cV_V (ws' := [(a_p0, .inr (10, [.ref a_p0_formats, .ref a_p0_patterns, .ref a_p0_first, .ref a_p0_second, .ref a_p0_third, .ref a_p0_tape, .ref a_p0_acts, .ref a_p0_sheet, .ref a_p0_forms])), (a_p0_formats, .inl (cI, 16, .inl p0_formats)), (a_p0_patterns, .inl (cJ, 16, .inr (.inl p0_patterns))), (a_p2, .inr (9, [.int u2.1, .int u2.2.1, .long u2.2.2.1, .int u2.2.2.2.1, .int u2.2.2.2.2]))]) (rest := []) S hK hN hA hP hD hS (c_X8_unpack l D cI cJ a_p2 (p0_formats p1.toNatClampNeg) (p0_patterns p1.toNatClampNeg) p2_kind p2_minus p2_m p2_e p2_narrowBelow u2 hu3) mwX8_unpack miX8_unpack kmX9_211 [3] rfl (by decide) rfl rfl rfl 0 rfl rfl ⟨Nat.le_of_ble_eq_true rfl, Nat.le_of_ble_eq_true rfl⟩ ⟨Nat.zero_le _, Nat.zero_le _⟩ hl.1 rfl rfl (Nat.le_of_ble_eq_true rfl) dX9_look_13 (fun H locs hP hD hS => ?_)
  exact hret _ (opE hf) H locs ls 16 dX9_look_16 hP hD hS
set_option maxRecDepth 100000 in
set_option maxHeartbeats 4000000 in
theorem c_X10_set (l : Launch) (D : va_G) (cI cJ : ClassId) (a_p0 a_p0_d : Nat) (p1 : Int64) (p0_len : Int32) (p0_d : (Nat → Int32)) (u : Int32 × (Nat → Int32)) (hf : f_X10_set p1 p0_len p0_d = some u) : CtV l yX10_set cX10_set 5 0 0 [.ref a_p0, .long p1] D cI cJ [(a_p0, .inr (11, [.ref a_p0_d, .int p0_len])), (a_p0_d, .inl (cI, 520, .inl p0_d))] [(a_p0, .inr (11, [.ref a_p0_d, .int u.1])), (a_p0_d, .inl (cI, 520, .inl u.2))] := by
  refine mkV (own := RX10) rfl (by decide +kernel) (Nat.le_of_ble_eq_true rfl) (lv := [(0, .ref a_p0), (1, .long p1)]) rfl ?_
  intro p e s m below meth c Q A ls ar S hA hK hN hret H locs hP hD hS hl
  obtain ⟨hx, hb, hml, hown, hts⟩ := id S
  have hret : ∀ (w : Int32 × (Nat → Int32)), w = u → ∀ (H : Heap) (locs : List Loc) (ls : Array Slot) (pc : Nat), decode cX10_set pc = .ok (.return_, 1) → va_P D vwCl [(a_p0, .inr (11, [.ref a_p0_d, .int w.1])), (a_p0_d, .inl (cI, 520, .inl w.2))] H → va_D A [(a_p0, .inr (11, [.ref a_p0_d, .int w.1])), (a_p0_d, .inl (cI, 520, .inl w.2))] → va_S A s.heap H locs → W p l e (rmz 0 0) s m ar below meth c H locs 0 0 Q (F0 m pc ls []) := fun w hw => hw ▸ hret
  have keyL7 : ∀ (n : Nat) (v3 : Int64) (p0_len : Int32) (p0_d : (Nat → Int32)) (H : Heap) (locs : List Loc) (ls : Array Slot), f_X10_set_L7 n v3 p0_len p0_d = some u → va_P D vwCl [(a_p0, .inr (11, [.ref a_p0_d, .int p0_len])), (a_p0_d, .inl (cI, 520, .inl p0_d))] H → va_D A [(a_p0, .inr (11, [.ref a_p0_d, .int p0_len])), (a_p0_d, .inl (cI, 520, .inl p0_d))] → va_S A s.heap H locs → lv_has ls 5 [(0, .ref a_p0), (3, .long v3)] → W p l e (rmz 0 0) s m ar below meth c H locs 0 0 Q (F0 m 7 ls []) := by
    intro n
    induction n with
      | zero =>
        intro v3 p0_len p0_d H locs ls hf
        cases hf
      | succ n ih =>
        intro v3 p0_len p0_d H locs ls hf hP hD hS hl
        rw [f_X10_set_L7] at hf
        refine lv_lload_n hx hb dX10_set_7 rfl (lv_at hl 1 rfl) ?_
        refine lv_lconst (v := 0) hx hb dX10_set_8 (by decide) ?_
        refine W.lcmp hx hb dX10_set_9 ?_
        refine lv_if_eq (tgt := 46) hx hb dX10_set_10 (by decide) (fun hc2 => ?_) (fun hc2 => ?_)
        · have hf := ifT hc2 hf
          exact hret _ (opE hf) H locs ls 46 dX10_set_46 hP hD hS
        · have hf := ifF hc2 hf
          refine lv_aload_n hx hb dX10_set_13 rfl (lv_at hl 0 rfl) ?_
          refine va_get (D := D) (ci := 11) (v := .ref a_p0_d) (C := RX10) (T := TX10) (N := 2) hx hb hts uwX10 hown hK hP 0 rfl rfl 0 (by decide) (hts _ kfX10_9) (fun _ h9 => h9) rfl dX10_set_14 ?_
          refine lv_aload_n hx hb dX10_set_17 rfl (lv_at hl 0 rfl) ?_
          refine va_get (D := D) (ci := 11) (v := .int p0_len) (C := RX10) (T := TX10) (N := 2) hx hb hts uwX10 hown hK hP 0 rfl rfl 1 (by decide) (hts _ kfX10_15) (fun _ h9 => h9) rfl dX10_set_18 ?_
          refine lv_lload_n hx hb dX10_set_21 rfl (lv_at hl 1 rfl) ?_
          refine lv_ldc2 hx hb hown (hts _ kcX10_19) dX10_set_22 ?_
          refine lv_land hx hb dX10_set_25 ?_
          refine lv_l2i (v := (v3 &&& (1073741823 : Int64)).toInt32) hx hb dX10_set_26 rfl ?_
          obtain ⟨hi1, hf⟩ := gdE hf
          refine va_iast hx hb hK hP hD hS 1 0 rfl rfl hi1 dX10_set_27 (fun H locs hP hD hS => ?_)
          have hP : va_P D vwCl [(a_p0, .inr (11, [.ref a_p0_d, .int p0_len])), (a_p0_d, .inl (cI, 520, .inl (upd p0_d p0_len.toNatClampNeg ((v3 &&& (1073741823 : Int64)).toInt32))))] H := hP
          have hD : va_D A [(a_p0, .inr (11, [.ref a_p0_d, .int p0_len])), (a_p0_d, .inl (cI, 520, .inl (upd p0_d p0_len.toNatClampNeg ((v3 &&& (1073741823 : Int64)).toInt32))))] := hD
          refine lv_aload_n hx hb dX10_set_28 rfl (lv_at hl 0 rfl) ?_
          refine lv_dup hx hb dX10_set_29 rfl ?_
          refine va_get (D := D) (ci := 11) (v := .int p0_len) (C := RX10) (T := TX10) (N := 2) hx hb hts uwX10 hown hK hP 0 rfl rfl 1 (by decide) (hts _ kfX10_15) (fun _ h9 => h9) rfl dX10_set_30 ?_
          refine lv_iconst (v := 1) hx hb dX10_set_33 (by decide) ?_
          refine lv_iadd hx hb dX10_set_34 ?_
          refine va_put (D := D) (ci := 11) (v := .int (p0_len + (1 : Int32))) (ty := tyX10 1) (C := RX10) (T := TX10) (N := 2) hx hb hts uwX10 tyX10 tyX10_ok nmX10 hown hK hP hD hS 0 rfl rfl 1 (by decide) (hts _ kfX10_15) (fun _ h9 => h9) rfl (tyX10_ok 1 (by decide)) rfl rfl (Nat.le_of_ble_eq_true rfl) dX10_set_35 (fun H locs hP hD hS => ?_)
          have hP : va_P D vwCl [(a_p0, .inr (11, [.ref a_p0_d, .int (p0_len + (1 : Int32))])), (a_p0_d, .inl (cI, 520, .inl (upd p0_d p0_len.toNatClampNeg ((v3 &&& (1073741823 : Int64)).toInt32))))] H := hP
          have hD : va_D A [(a_p0, .inr (11, [.ref a_p0_d, .int (p0_len + (1 : Int32))])), (a_p0_d, .inl (cI, 520, .inl (upd p0_d p0_len.toNatClampNeg ((v3 &&& (1073741823 : Int64)).toInt32))))] := hD
          refine lv_lload_n hx hb dX10_set_38 rfl (lv_at hl 1 rfl) ?_
          refine lv_bipush (v := 30) hx hb dX10_set_39 (by decide) ?_
          refine lv_lushr (v := lus v3 (30 : Int32)) hx hb dX10_set_41 rfl ?_
          refine lv_lstore_n (lv' := [(3, .long (lus v3 (30 : Int32))), (0, .ref a_p0)]) hx hb dX10_set_42 rfl hl (by decide) rfl (fun ls hl => ?_)
          refine lv_goto (tgt := 7) hx hb dX10_set_43 (by decide) ?_
          exact ih (lus v3 (30 : Int32)) (p0_len + (1 : Int32)) (upd p0_d p0_len.toNatClampNeg ((v3 &&& (1073741823 : Int64)).toInt32)) H locs ls hf hP hD hS (lv_sub hl [1, 0] rfl)
  unfold f_X10_set at hf
  refine lv_aload_n hx hb dX10_set_0 rfl (lv_at hl 0 rfl) ?_
  refine lv_iconst (v := 0) hx hb dX10_set_1 (by decide) ?_
  refine va_put (D := D) (ci := 11) (v := .int (0 : Int32)) (ty := tyX10 1) (C := RX10) (T := TX10) (N := 2) hx hb hts uwX10 tyX10 tyX10_ok nmX10 hown hK hP hD hS 0 rfl rfl 1 (by decide) (hts _ kfX10_15) (fun _ h9 => h9) rfl (tyX10_ok 1 (by decide)) rfl rfl (Nat.le_of_ble_eq_true rfl) dX10_set_2 (fun H locs hP hD hS => ?_)
  have hP : va_P D vwCl [(a_p0, .inr (11, [.ref a_p0_d, .int (0 : Int32)])), (a_p0_d, .inl (cI, 520, .inl p0_d))] H := hP
  have hD : va_D A [(a_p0, .inr (11, [.ref a_p0_d, .int (0 : Int32)])), (a_p0_d, .inl (cI, 520, .inl p0_d))] := hD
  refine lv_lload_n hx hb dX10_set_5 rfl (lv_at hl 1 rfl) ?_
  refine lv_lstore_n (lv' := [(3, .long p1), (0, .ref a_p0), (1, .long p1)]) hx hb dX10_set_6 rfl hl (by decide) rfl (fun ls hl => ?_)
  exact keyL7 FU p1 (0 : Int32) p0_d H locs ls hf hP hD hS (lv_sub hl [1, 0] rfl)
set_option maxRecDepth 100000 in
set_option maxHeartbeats 4000000 in
theorem c_X10_copy (l : Launch) (D : va_G) (cI cJ : ClassId) (a_p0 a_p0_d a_p1 a_p1_d : Nat) (p0_len : Int32) (p0_d : (Nat → Int32)) (p1_len : Int32) (p1_d : (Nat → Int32)) (u : Int32 × (Nat → Int32)) (hf : f_X10_copy p1_len p1_d p0_len p0_d = some u) : CtV l yX10_copy cX10_copy 3 0 0 [.ref a_p0, .ref a_p1] D cI cJ [(a_p0, .inr (11, [.ref a_p0_d, .int p0_len])), (a_p0_d, .inl (cI, 520, .inl p0_d)), (a_p1, .inr (11, [.ref a_p1_d, .int p1_len])), (a_p1_d, .inl (cI, 520, .inl p1_d))] [(a_p0, .inr (11, [.ref a_p0_d, .int u.1])), (a_p0_d, .inl (cI, 520, .inl u.2)), (a_p1, .inr (11, [.ref a_p1_d, .int p1_len])), (a_p1_d, .inl (cI, 520, .inl p1_d))] := by
  refine mkV (own := RX10) rfl (by decide +kernel) (Nat.le_of_ble_eq_true rfl) (lv := [(0, .ref a_p0), (1, .ref a_p1)]) rfl ?_
  intro p e s m below meth c Q A ls ar S hA hK hN hret H locs hP hD hS hl
  obtain ⟨hx, hb, hml, hown, hts⟩ := id S
  have hret : ∀ (w : Int32 × (Nat → Int32)), w = u → ∀ (H : Heap) (locs : List Loc) (ls : Array Slot) (pc : Nat), decode cX10_copy pc = .ok (.return_, 1) → va_P D vwCl [(a_p0, .inr (11, [.ref a_p0_d, .int w.1])), (a_p0_d, .inl (cI, 520, .inl w.2)), (a_p1, .inr (11, [.ref a_p1_d, .int p1_len])), (a_p1_d, .inl (cI, 520, .inl p1_d))] H → va_D A [(a_p0, .inr (11, [.ref a_p0_d, .int w.1])), (a_p0_d, .inl (cI, 520, .inl w.2)), (a_p1, .inr (11, [.ref a_p1_d, .int p1_len])), (a_p1_d, .inl (cI, 520, .inl p1_d))] → va_S A s.heap H locs → W p l e (rmz 0 0) s m ar below meth c H locs 0 0 Q (F0 m pc ls []) := fun w hw => hw ▸ hret
  have keyL10 : ∀ (n : Nat) (v2 : Int32) (p0_len : Int32) (p0_d : (Nat → Int32)) (H : Heap) (locs : List Loc) (ls : Array Slot), f_X10_copy_L10 p1_len p1_d n v2 p0_len p0_d = some u → va_P D vwCl [(a_p0, .inr (11, [.ref a_p0_d, .int p0_len])), (a_p0_d, .inl (cI, 520, .inl p0_d)), (a_p1, .inr (11, [.ref a_p1_d, .int p1_len])), (a_p1_d, .inl (cI, 520, .inl p1_d))] H → va_D A [(a_p0, .inr (11, [.ref a_p0_d, .int p0_len])), (a_p0_d, .inl (cI, 520, .inl p0_d)), (a_p1, .inr (11, [.ref a_p1_d, .int p1_len])), (a_p1_d, .inl (cI, 520, .inl p1_d))] → va_S A s.heap H locs → lv_has ls 3 [(0, .ref a_p0), (1, .ref a_p1), (2, .int v2)] → W p l e (rmz 0 0) s m ar below meth c H locs 0 0 Q (F0 m 10 ls []) := by
    intro n
    induction n with
      | zero =>
        intro v2 p0_len p0_d H locs ls hf
        cases hf
      | succ n ih =>
        intro v2 p0_len p0_d H locs ls hf hP hD hS hl
        rw [f_X10_copy_L10] at hf
        refine lv_iload_n hx hb dX10_copy_10 rfl (lv_at hl 2 rfl) ?_
        refine lv_aload_n hx hb dX10_copy_11 rfl (lv_at hl 0 rfl) ?_
        refine va_get (D := D) (ci := 11) (v := .int p0_len) (C := RX10) (T := TX10) (N := 2) hx hb hts uwX10 hown hK hP 0 rfl rfl 1 (by decide) (hts _ kfX10_15) (fun _ h9 => h9) rfl dX10_copy_12 ?_
        refine lv_icmp_ge (tgt := 36) hx hb dX10_copy_15 (by decide) (fun hc2 => ?_) (fun hc2 => ?_)
        · have hf := ifT hc2 hf
          exact hret _ (opE hf) H locs ls 36 dX10_copy_36 hP hD hS
        · have hf := ifF hc2 hf
          refine lv_aload_n hx hb dX10_copy_18 rfl (lv_at hl 0 rfl) ?_
          refine va_get (D := D) (ci := 11) (v := .ref a_p0_d) (C := RX10) (T := TX10) (N := 2) hx hb hts uwX10 hown hK hP 0 rfl rfl 0 (by decide) (hts _ kfX10_9) (fun _ h9 => h9) rfl dX10_copy_19 ?_
          refine lv_iload_n hx hb dX10_copy_22 rfl (lv_at hl 2 rfl) ?_
          refine lv_aload_n hx hb dX10_copy_23 rfl (lv_at hl 1 rfl) ?_
          refine va_get (D := D) (ci := 11) (v := .ref a_p1_d) (C := RX10) (T := TX10) (N := 2) hx hb hts uwX10 hown hK hP 2 rfl rfl 0 (by decide) (hts _ kfX10_9) (fun _ h9 => h9) rfl dX10_copy_24 ?_
          refine lv_iload_n hx hb dX10_copy_27 rfl (lv_at hl 2 rfl) ?_
          obtain ⟨hi1, hf⟩ := gdE hf
          refine va_iald hx hb hK hP 3 0 rfl rfl hi1 dX10_copy_28 ?_
          refine va_iast hx hb hK hP hD hS 1 0 rfl rfl hi1 dX10_copy_29 (fun H locs hP hD hS => ?_)
          have hP : va_P D vwCl [(a_p0, .inr (11, [.ref a_p0_d, .int p0_len])), (a_p0_d, .inl (cI, 520, .inl (upd p0_d v2.toNatClampNeg (p1_d v2.toNatClampNeg)))), (a_p1, .inr (11, [.ref a_p1_d, .int p1_len])), (a_p1_d, .inl (cI, 520, .inl p1_d))] H := hP
          have hD : va_D A [(a_p0, .inr (11, [.ref a_p0_d, .int p0_len])), (a_p0_d, .inl (cI, 520, .inl (upd p0_d v2.toNatClampNeg (p1_d v2.toNatClampNeg)))), (a_p1, .inr (11, [.ref a_p1_d, .int p1_len])), (a_p1_d, .inl (cI, 520, .inl p1_d))] := hD
          refine lv_iinc (v := v2 + (1 : Int32)) (lv' := [(2, .int (v2 + (1 : Int32))), (0, .ref a_p0), (1, .ref a_p1)]) hx hb dX10_copy_30 hl (k := 2) rfl (by rfl) (by decide) rfl (fun ls hl => ?_)
          refine lv_goto (tgt := 10) hx hb dX10_copy_33 (by decide) ?_
          exact ih (v2 + (1 : Int32)) p0_len (upd p0_d v2.toNatClampNeg (p1_d v2.toNatClampNeg)) H locs ls hf hP hD hS (lv_sub hl [1, 2, 0] rfl)
  unfold f_X10_copy at hf
  refine lv_aload_n hx hb dX10_copy_0 rfl (lv_at hl 0 rfl) ?_
  refine lv_aload_n hx hb dX10_copy_1 rfl (lv_at hl 1 rfl) ?_
  refine va_get (D := D) (ci := 11) (v := .int p1_len) (C := RX10) (T := TX10) (N := 2) hx hb hts uwX10 hown hK hP 2 rfl rfl 1 (by decide) (hts _ kfX10_15) (fun _ h9 => h9) rfl dX10_copy_2 ?_
  refine va_put (D := D) (ci := 11) (v := .int p1_len) (ty := tyX10 1) (C := RX10) (T := TX10) (N := 2) hx hb hts uwX10 tyX10 tyX10_ok nmX10 hown hK hP hD hS 0 rfl rfl 1 (by decide) (hts _ kfX10_15) (fun _ h9 => h9) rfl (tyX10_ok 1 (by decide)) rfl rfl (Nat.le_of_ble_eq_true rfl) dX10_copy_5 (fun H locs hP hD hS => ?_)
  have hP : va_P D vwCl [(a_p0, .inr (11, [.ref a_p0_d, .int p1_len])), (a_p0_d, .inl (cI, 520, .inl p0_d)), (a_p1, .inr (11, [.ref a_p1_d, .int p1_len])), (a_p1_d, .inl (cI, 520, .inl p1_d))] H := hP
  have hD : va_D A [(a_p0, .inr (11, [.ref a_p0_d, .int p1_len])), (a_p0_d, .inl (cI, 520, .inl p0_d)), (a_p1, .inr (11, [.ref a_p1_d, .int p1_len])), (a_p1_d, .inl (cI, 520, .inl p1_d))] := hD
  refine lv_iconst (v := 0) hx hb dX10_copy_8 (by decide) ?_
  refine lv_istore_n (lv' := [(2, .int (0 : Int32)), (0, .ref a_p0), (1, .ref a_p1)]) hx hb dX10_copy_9 rfl hl (by decide) rfl (fun ls hl => ?_)
  exact keyL10 FU (0 : Int32) p1_len p0_d H locs ls hf hP hD hS (lv_sub hl [1, 2, 0] rfl)
