set_option maxRecDepth 100000 in
set_option maxHeartbeats 4000000 in
theorem c_X1_clear (l : Launch) (D : va_G) (cI cJ : ClassId) (a_p0 a_p0_row : Nat) (p0_count : Int32) (p0_top : Int32) (u : Int32 × Int32) (hf : f_X1_clear p0_count p0_top = some u) : CtV l yX1_clear cX1_clear 1 0 0 [.ref a_p0] D cI cJ [(a_p0, .inr (3, [.ref a_p0_row, .int p0_count, .int p0_top]))] [(a_p0, .inr (3, [.ref a_p0_row, .int u.1, .int u.2]))] := by
  refine mkV (own := RX1) rfl (by decide +kernel) (Nat.le_of_ble_eq_true rfl) (lv := [(0, .ref a_p0)]) rfl ?_
  intro p e s m below meth c Q A ls ar S hA hK hN hret H locs hP hD hS hl
  obtain ⟨hx, hb, hml, hown, hts⟩ := id S
  have hret : ∀ (w : Int32 × Int32), w = u → ∀ (H : Heap) (locs : List Loc) (ls : Array Slot) (pc : Nat), decode cX1_clear pc = .ok (.return_, 1) → va_P D vwCl [(a_p0, .inr (3, [.ref a_p0_row, .int w.1, .int w.2]))] H → va_D A [(a_p0, .inr (3, [.ref a_p0_row, .int w.1, .int w.2]))] → va_S A s.heap H locs → W p l e (rmz 0 0) s m ar below meth c H locs 0 0 Q (F0 m pc ls []) := fun w hw => hw ▸ hret
  unfold f_X1_clear at hf
  refine lv_aload_n hx hb dX1_clear_0 rfl (lv_at hl 0 rfl) ?_
  refine lv_iconst (v := 0) hx hb dX1_clear_1 (by decide) ?_
  refine va_put (D := D) (ci := 3) (v := .int (0 : Int32)) (ty := tyX1 1) (C := RX1) (T := TX1) (N := 3) hx hb hts uwX1 tyX1 tyX1_ok nmX1 hown hK hP hD hS 0 rfl rfl 1 (by decide) (hts _ kfX1_13) (fun _ h9 => h9) rfl (tyX1_ok 1 (by decide)) rfl rfl (Nat.le_of_ble_eq_true rfl) dX1_clear_2 (fun H locs hP hD hS => ?_)
  have hP : va_P D vwCl [(a_p0, .inr (3, [.ref a_p0_row, .int (0 : Int32), .int p0_top]))] H := hP
  have hD : va_D A [(a_p0, .inr (3, [.ref a_p0_row, .int (0 : Int32), .int p0_top]))] := hD
  refine lv_aload_n hx hb dX1_clear_5 rfl (lv_at hl 0 rfl) ?_
  refine lv_iconst (v := 0) hx hb dX1_clear_6 (by decide) ?_
  refine va_put (D := D) (ci := 3) (v := .int (0 : Int32)) (ty := tyX1 2) (C := RX1) (T := TX1) (N := 3) hx hb hts uwX1 tyX1 tyX1_ok nmX1 hown hK hP hD hS 0 rfl rfl 2 (by decide) (hts _ kfX1_17) (fun _ h9 => h9) rfl (tyX1_ok 2 (by decide)) rfl rfl (Nat.le_of_ble_eq_true rfl) dX1_clear_7 (fun H locs hP hD hS => ?_)
  have hP : va_P D vwCl [(a_p0, .inr (3, [.ref a_p0_row, .int (0 : Int32), .int (0 : Int32)]))] H := hP
  have hD : va_D A [(a_p0, .inr (3, [.ref a_p0_row, .int (0 : Int32), .int (0 : Int32)]))] := hD
  exact hret _ (opE hf) H locs ls 10 dX1_clear_10 hP hD hS
set_option maxRecDepth 100000 in
set_option maxHeartbeats 4000000 in
theorem c_X1_at (l : Launch) (D : va_G) (cI cJ : ClassId) (a_p0 a_p0_row : Nat) (p1 : Int32) (p0_count : Int32) (p0_top : Int32) (p0_row : (Nat → Int32)) (u : Int32) (hf : f_X1_at p0_count p0_row p1 = some u) : CtI l yX1_at cX1_at 2 0 0 .int [.ref a_p0, .int p1] D cI cJ [(a_p0, .inr (3, [.ref a_p0_row, .int p0_count, .int p0_top])), (a_p0_row, .inl (cI, 792, .inl p0_row))] [(a_p0, .inr (3, [.ref a_p0_row, .int p0_count, .int p0_top])), (a_p0_row, .inl (cI, 792, .inl p0_row))] u := by
  refine mkI (own := RX1) rfl (by decide +kernel) (Nat.le_of_ble_eq_true rfl) (lv := [(0, .ref a_p0), (1, .int p1)]) rfl ?_
  intro p e s m below meth c Q A ls ar S hA hK hN hret H locs hP hD hS hl
  obtain ⟨hx, hb, hml, hown, hts⟩ := id S
  have hret : ∀ (w : Int32), w = u → ∀ (H : Heap) (locs : List Loc) (ls : Array Slot) (pc : Nat), decode cX1_at pc = .ok (.ireturn, 1) → va_P D vwCl [(a_p0, .inr (3, [.ref a_p0_row, .int p0_count, .int p0_top])), (a_p0_row, .inl (cI, 792, .inl p0_row))] H → va_D A [(a_p0, .inr (3, [.ref a_p0_row, .int p0_count, .int p0_top])), (a_p0_row, .inl (cI, 792, .inl p0_row))] → va_S A s.heap H locs → W p l e (rmz 0 0) s m ar below meth c H locs 0 0 Q (F0 m pc ls [.int w]) := fun w hw => hw ▸ hret
  unfold f_X1_at at hf
  refine lv_iload_n hx hb dX1_at_0 rfl (lv_at hl 1 rfl) ?_
  refine lv_if_lt (tgt := 28) hx hb dX1_at_1 (by decide) (fun hc4 => ?_) (fun hc4 => ?_)
  · have hf := ifT hc4 hf
    refine lv_iconst (v := 0) hx hb dX1_at_28 (by decide) ?_
    exact hret _ (opE hf) H locs ls 29 dX1_at_29 hP hD hS
  · have hf := ifF hc4 hf
    refine lv_iload_n hx hb dX1_at_4 rfl (lv_at hl 1 rfl) ?_
    refine lv_aload_n hx hb dX1_at_5 rfl (lv_at hl 0 rfl) ?_
    refine va_get (D := D) (ci := 3) (v := .int p0_count) (C := RX1) (T := TX1) (N := 3) hx hb hts uwX1 hown hK hP 0 rfl rfl 1 (by decide) (hts _ kfX1_13) (fun _ h9 => h9) rfl dX1_at_6 ?_
    refine lv_icmp_ge (tgt := 28) hx hb dX1_at_9 (by decide) (fun hc3 => ?_) (fun hc3 => ?_)
    · have hf := ifT hc3 hf
      refine lv_iconst (v := 0) hx hb dX1_at_28 (by decide) ?_
      exact hret _ (opE hf) H locs ls 29 dX1_at_29 hP hD hS
    · have hf := ifF hc3 hf
      refine lv_iload_n hx hb dX1_at_12 rfl (lv_at hl 1 rfl) ?_
      refine lv_sipush (v := 792) hx hb dX1_at_13 (by decide) ?_
      refine lv_icmp_ge (tgt := 28) hx hb dX1_at_16 (by decide) (fun hc2 => ?_) (fun hc2 => ?_)
      · have hf := ifT hc2 hf
        refine lv_iconst (v := 0) hx hb dX1_at_28 (by decide) ?_
        exact hret _ (opE hf) H locs ls 29 dX1_at_29 hP hD hS
      · have hf := ifF hc2 hf
        refine lv_aload_n hx hb dX1_at_19 rfl (lv_at hl 0 rfl) ?_
        refine va_get (D := D) (ci := 3) (v := .ref a_p0_row) (C := RX1) (T := TX1) (N := 3) hx hb hts uwX1 hown hK hP 0 rfl rfl 0 (by decide) (hts _ kfX1_9) (fun _ h9 => h9) rfl dX1_at_20 ?_
        refine lv_iload_n hx hb dX1_at_23 rfl (lv_at hl 1 rfl) ?_
        obtain ⟨hi1, hf⟩ := gdE hf
        refine va_iald hx hb hK hP 1 0 rfl rfl hi1 dX1_at_24 ?_
        refine lv_goto (tgt := 29) hx hb dX1_at_25 (by decide) ?_
        exact hret _ (opE hf) H locs ls 29 dX1_at_29 hP hD hS
set_option maxRecDepth 100000 in
set_option maxHeartbeats 4000000 in
theorem c_X1_append (l : Launch) (D : va_G) (cI cJ : ClassId) (a_p0 a_p0_row : Nat) (p1 : Int32) (p0_count : Int32) (p0_top : Int32) (p0_row : (Nat → Int32)) (u : Int32 × (Nat → Int32)) (hf : f_X1_append p1 p0_count p0_row = some u) : CtV l yX1_append cX1_append 2 0 0 [.ref a_p0, .int p1] D cI cJ [(a_p0, .inr (3, [.ref a_p0_row, .int p0_count, .int p0_top])), (a_p0_row, .inl (cI, 792, .inl p0_row))] [(a_p0, .inr (3, [.ref a_p0_row, .int u.1, .int p0_top])), (a_p0_row, .inl (cI, 792, .inl u.2))] := by
  refine mkV (own := RX1) rfl (by decide +kernel) (Nat.le_of_ble_eq_true rfl) (lv := [(0, .ref a_p0), (1, .int p1)]) rfl ?_
  intro p e s m below meth c Q A ls ar S hA hK hN hret H locs hP hD hS hl
  obtain ⟨hx, hb, hml, hown, hts⟩ := id S
  have hret : ∀ (w : Int32 × (Nat → Int32)), w = u → ∀ (H : Heap) (locs : List Loc) (ls : Array Slot) (pc : Nat), decode cX1_append pc = .ok (.return_, 1) → va_P D vwCl [(a_p0, .inr (3, [.ref a_p0_row, .int w.1, .int p0_top])), (a_p0_row, .inl (cI, 792, .inl w.2))] H → va_D A [(a_p0, .inr (3, [.ref a_p0_row, .int w.1, .int p0_top])), (a_p0_row, .inl (cI, 792, .inl w.2))] → va_S A s.heap H locs → W p l e (rmz 0 0) s m ar below meth c H locs 0 0 Q (F0 m pc ls []) := fun w hw => hw ▸ hret
  unfold f_X1_append at hf
  refine lv_aload_n hx hb dX1_append_0 rfl (lv_at hl 0 rfl) ?_
  refine va_get (D := D) (ci := 3) (v := .int p0_count) (C := RX1) (T := TX1) (N := 3) hx hb hts uwX1 hown hK hP 0 rfl rfl 1 (by decide) (hts _ kfX1_13) (fun _ h9 => h9) rfl dX1_append_1 ?_
  refine lv_sipush (v := 792) hx hb dX1_append_4 (by decide) ?_
  refine lv_icmp_ge (tgt := 30) hx hb dX1_append_7 (by decide) (fun hc2 => ?_) (fun hc2 => ?_)
  · have hf := ifT hc2 hf
    exact hret _ (opE hf) H locs ls 30 dX1_append_30 hP hD hS
  · have hf := ifF hc2 hf
    refine lv_aload_n hx hb dX1_append_10 rfl (lv_at hl 0 rfl) ?_
    refine va_get (D := D) (ci := 3) (v := .ref a_p0_row) (C := RX1) (T := TX1) (N := 3) hx hb hts uwX1 hown hK hP 0 rfl rfl 0 (by decide) (hts _ kfX1_9) (fun _ h9 => h9) rfl dX1_append_11 ?_
    refine lv_aload_n hx hb dX1_append_14 rfl (lv_at hl 0 rfl) ?_
    refine va_get (D := D) (ci := 3) (v := .int p0_count) (C := RX1) (T := TX1) (N := 3) hx hb hts uwX1 hown hK hP 0 rfl rfl 1 (by decide) (hts _ kfX1_13) (fun _ h9 => h9) rfl dX1_append_15 ?_
    refine lv_iload_n hx hb dX1_append_18 rfl (lv_at hl 1 rfl) ?_
    obtain ⟨hi1, hf⟩ := gdE hf
    refine va_iast hx hb hK hP hD hS 1 0 rfl rfl hi1 dX1_append_19 (fun H locs hP hD hS => ?_)
    have hP : va_P D vwCl [(a_p0, .inr (3, [.ref a_p0_row, .int p0_count, .int p0_top])), (a_p0_row, .inl (cI, 792, .inl (upd p0_row p0_count.toNatClampNeg p1)))] H := hP
    have hD : va_D A [(a_p0, .inr (3, [.ref a_p0_row, .int p0_count, .int p0_top])), (a_p0_row, .inl (cI, 792, .inl (upd p0_row p0_count.toNatClampNeg p1)))] := hD
    refine lv_aload_n hx hb dX1_append_20 rfl (lv_at hl 0 rfl) ?_
    refine lv_dup hx hb dX1_append_21 rfl ?_
    refine va_get (D := D) (ci := 3) (v := .int p0_count) (C := RX1) (T := TX1) (N := 3) hx hb hts uwX1 hown hK hP 0 rfl rfl 1 (by decide) (hts _ kfX1_13) (fun _ h9 => h9) rfl dX1_append_22 ?_
    refine lv_iconst (v := 1) hx hb dX1_append_25 (by decide) ?_
    refine lv_iadd hx hb dX1_append_26 ?_
    refine va_put (D := D) (ci := 3) (v := .int (p0_count + (1 : Int32))) (ty := tyX1 1) (C := RX1) (T := TX1) (N := 3) hx hb hts uwX1 tyX1 tyX1_ok nmX1 hown hK hP hD hS 0 rfl rfl 1 (by decide) (hts _ kfX1_13) (fun _ h9 => h9) rfl (tyX1_ok 1 (by decide)) rfl rfl (Nat.le_of_ble_eq_true rfl) dX1_append_27 (fun H locs hP hD hS => ?_)
    have hP : va_P D vwCl [(a_p0, .inr (3, [.ref a_p0_row, .int (p0_count + (1 : Int32)), .int p0_top])), (a_p0_row, .inl (cI, 792, .inl (upd p0_row p0_count.toNatClampNeg p1)))] H := hP
    have hD : va_D A [(a_p0, .inr (3, [.ref a_p0_row, .int (p0_count + (1 : Int32)), .int p0_top])), (a_p0_row, .inl (cI, 792, .inl (upd p0_row p0_count.toNatClampNeg p1)))] := hD
    exact hret _ (opE hf) H locs ls 30 dX1_append_30 hP hD hS
set_option maxRecDepth 100000 in
set_option maxHeartbeats 4000000 in
theorem c_J6_numberOfTrailingZeros_0f7a4 (l : Launch) (D : va_G) (cI cJ : ClassId) (p0 : Int32)  (u : Int32) (hf : f_J6_numberOfTrailingZeros_0f7a4 p0 = some u) : CtI l yJ6_numberOfTrailingZeros_0f7a4 cJ6_numberOfTrailingZeros_0f7a4 2 0 0 .int [.int p0] D cI cJ [] [] u := by
  refine mkI (own := RJ6) rfl (by decide +kernel) (Nat.le_of_ble_eq_true rfl) (lv := [(0, .int p0)]) rfl ?_
  intro p e s m below meth c Q A ls ar S hA hK hN hret H locs hP hD hS hl
  obtain ⟨hx, hb, hml, hown, hts⟩ := id S
  have hret : ∀ (w : Int32), w = u → ∀ (H : Heap) (locs : List Loc) (ls : Array Slot) (pc : Nat), decode cJ6_numberOfTrailingZeros_0f7a4 pc = .ok (.ireturn, 1) → va_P D vwCl [] H → va_D A [] → va_S A s.heap H locs → W p l e (rmz 0 0) s m ar below meth c H locs 0 0 Q (F0 m pc ls [.int w]) := fun w hw => hw ▸ hret
  have keyB62 : ∀ (v0 : Int32) (v1 : Int32) (H : Heap) (locs : List Loc) (ls : Array Slot), f_J6_numberOfTrailingZeros_0f7a4_B62 v0 v1 = some u → va_P D vwCl [] H → va_D A [] → va_S A s.heap H locs → lv_has ls 2 [(0, .int v0), (1, .int v1)] → W p l e (rmz 0 0) s m ar below meth c H locs 0 0 Q (F0 m 62 ls []) := by
    intro v0 v1 H locs ls hf hP hD hS hl
    unfold f_J6_numberOfTrailingZeros_0f7a4_B62 at hf
    refine lv_iload_n hx hb dJ6_numberOfTrailingZeros_0f7a4_62 rfl (lv_at hl 0 rfl) ?_
    refine lv_iconst (v := 4) hx hb dJ6_numberOfTrailingZeros_0f7a4_63 (by decide) ?_
    refine lv_icmp_le (tgt := 74) hx hb dJ6_numberOfTrailingZeros_0f7a4_64 (by decide) (fun hc1 => ?_) (fun hc1 => ?_)
    · have hf := ifT hc1 hf
      refine lv_iload_n hx hb dJ6_numberOfTrailingZeros_0f7a4_74 rfl (lv_at hl 1 rfl) ?_
      refine lv_iload_n hx hb dJ6_numberOfTrailingZeros_0f7a4_75 rfl (lv_at hl 0 rfl) ?_
      refine lv_iconst (v := 1) hx hb dJ6_numberOfTrailingZeros_0f7a4_76 (by decide) ?_
      refine lv_iushr (v := ius v0 (1 : Int32)) hx hb dJ6_numberOfTrailingZeros_0f7a4_77 rfl ?_
      refine lv_iadd hx hb dJ6_numberOfTrailingZeros_0f7a4_78 ?_
      exact hret _ (opE hf) H locs ls 79 dJ6_numberOfTrailingZeros_0f7a4_79 hP hD hS
    · have hf := ifF hc1 hf
      refine lv_iinc (v := v1 + (2 : Int32)) (lv' := [(1, .int (v1 + (2 : Int32))), (0, .int v0)]) hx hb dJ6_numberOfTrailingZeros_0f7a4_67 hl (k := 1) rfl (by rfl) (by decide) rfl (fun ls hl => ?_)
      refine lv_iload_n hx hb dJ6_numberOfTrailingZeros_0f7a4_70 rfl (lv_at hl 1 rfl) ?_
      refine lv_iconst (v := 2) hx hb dJ6_numberOfTrailingZeros_0f7a4_71 (by decide) ?_
      refine lv_iushr (v := ius v0 (2 : Int32)) hx hb dJ6_numberOfTrailingZeros_0f7a4_72 rfl ?_
      refine lv_istore_n (lv' := [(0, .int (ius v0 (2 : Int32))), (1, .int (v1 + (2 : Int32)))]) hx hb dJ6_numberOfTrailingZeros_0f7a4_73 rfl hl (by decide) rfl (fun ls hl => ?_)
      refine lv_iload_n hx hb dJ6_numberOfTrailingZeros_0f7a4_74 rfl (lv_at hl 1 rfl) ?_
      refine lv_iload_n hx hb dJ6_numberOfTrailingZeros_0f7a4_75 rfl (lv_at hl 0 rfl) ?_
      refine lv_iconst (v := 1) hx hb dJ6_numberOfTrailingZeros_0f7a4_76 (by decide) ?_
      refine lv_iushr (v := ius (ius v0 (2 : Int32)) (1 : Int32)) hx hb dJ6_numberOfTrailingZeros_0f7a4_77 rfl ?_
      refine lv_iadd hx hb dJ6_numberOfTrailingZeros_0f7a4_78 ?_
      exact hret _ (opE hf) H locs ls 79 dJ6_numberOfTrailingZeros_0f7a4_79 hP hD hS
  have keyB49 : ∀ (v0 : Int32) (v1 : Int32) (H : Heap) (locs : List Loc) (ls : Array Slot), f_J6_numberOfTrailingZeros_0f7a4_B49 v0 v1 = some u → va_P D vwCl [] H → va_D A [] → va_S A s.heap H locs → lv_has ls 2 [(0, .int v0), (1, .int v1)] → W p l e (rmz 0 0) s m ar below meth c H locs 0 0 Q (F0 m 49 ls []) := by
    intro v0 v1 H locs ls hf hP hD hS hl
    unfold f_J6_numberOfTrailingZeros_0f7a4_B49 at hf
    refine lv_iload_n hx hb dJ6_numberOfTrailingZeros_0f7a4_49 rfl (lv_at hl 0 rfl) ?_
    refine lv_bipush (v := 16) hx hb dJ6_numberOfTrailingZeros_0f7a4_50 (by decide) ?_
    refine lv_icmp_le (tgt := 62) hx hb dJ6_numberOfTrailingZeros_0f7a4_52 (by decide) (fun hc2 => ?_) (fun hc2 => ?_)
    · have hf := ifT hc2 hf
      exact keyB62 v0 v1 H locs ls hf hP hD hS (lv_sub hl [0, 1] rfl)
    · have hf := ifF hc2 hf
      refine lv_iinc (v := v1 + (4 : Int32)) (lv' := [(1, .int (v1 + (4 : Int32))), (0, .int v0)]) hx hb dJ6_numberOfTrailingZeros_0f7a4_55 hl (k := 1) rfl (by rfl) (by decide) rfl (fun ls hl => ?_)
      refine lv_iload_n hx hb dJ6_numberOfTrailingZeros_0f7a4_58 rfl (lv_at hl 1 rfl) ?_
      refine lv_iconst (v := 4) hx hb dJ6_numberOfTrailingZeros_0f7a4_59 (by decide) ?_
      refine lv_iushr (v := ius v0 (4 : Int32)) hx hb dJ6_numberOfTrailingZeros_0f7a4_60 rfl ?_
      refine lv_istore_n (lv' := [(0, .int (ius v0 (4 : Int32))), (1, .int (v1 + (4 : Int32)))]) hx hb dJ6_numberOfTrailingZeros_0f7a4_61 rfl hl (by decide) rfl (fun ls hl => ?_)
      exact keyB62 (ius v0 (4 : Int32)) (v1 + (4 : Int32)) H locs ls hf hP hD hS (lv_sub hl [0, 1] rfl)
  have keyB34 : ∀ (v0 : Int32) (v1 : Int32) (H : Heap) (locs : List Loc) (ls : Array Slot), f_J6_numberOfTrailingZeros_0f7a4_B34 v0 v1 = some u → va_P D vwCl [] H → va_D A [] → va_S A s.heap H locs → lv_has ls 2 [(0, .int v0), (1, .int v1)] → W p l e (rmz 0 0) s m ar below meth c H locs 0 0 Q (F0 m 34 ls []) := by
    intro v0 v1 H locs ls hf hP hD hS hl
    unfold f_J6_numberOfTrailingZeros_0f7a4_B34 at hf
    refine lv_iload_n hx hb dJ6_numberOfTrailingZeros_0f7a4_34 rfl (lv_at hl 0 rfl) ?_
    refine lv_sipush (v := 256) hx hb dJ6_numberOfTrailingZeros_0f7a4_35 (by decide) ?_
    refine lv_icmp_le (tgt := 49) hx hb dJ6_numberOfTrailingZeros_0f7a4_38 (by decide) (fun hc3 => ?_) (fun hc3 => ?_)
    · have hf := ifT hc3 hf
      exact keyB49 v0 v1 H locs ls hf hP hD hS (lv_sub hl [0, 1] rfl)
    · have hf := ifF hc3 hf
      refine lv_iinc (v := v1 + (8 : Int32)) (lv' := [(1, .int (v1 + (8 : Int32))), (0, .int v0)]) hx hb dJ6_numberOfTrailingZeros_0f7a4_41 hl (k := 1) rfl (by rfl) (by decide) rfl (fun ls hl => ?_)
      refine lv_iload_n hx hb dJ6_numberOfTrailingZeros_0f7a4_44 rfl (lv_at hl 1 rfl) ?_
      refine lv_bipush (v := 8) hx hb dJ6_numberOfTrailingZeros_0f7a4_45 (by decide) ?_
      refine lv_iushr (v := ius v0 (8 : Int32)) hx hb dJ6_numberOfTrailingZeros_0f7a4_47 rfl ?_
      refine lv_istore_n (lv' := [(0, .int (ius v0 (8 : Int32))), (1, .int (v1 + (8 : Int32)))]) hx hb dJ6_numberOfTrailingZeros_0f7a4_48 rfl hl (by decide) rfl (fun ls hl => ?_)
      exact keyB49 (ius v0 (8 : Int32)) (v1 + (8 : Int32)) H locs ls hf hP hD hS (lv_sub hl [0, 1] rfl)
  unfold f_J6_numberOfTrailingZeros_0f7a4 at hf
  refine lv_iload_n hx hb dJ6_numberOfTrailingZeros_0f7a4_0 rfl (lv_at hl 0 rfl) ?_
  refine lv_iconst (v := -1) hx hb dJ6_numberOfTrailingZeros_0f7a4_1 (by decide) ?_
  refine lv_ixor hx hb dJ6_numberOfTrailingZeros_0f7a4_2 ?_
  refine lv_iload_n hx hb dJ6_numberOfTrailingZeros_0f7a4_3 rfl (lv_at hl 0 rfl) ?_
  refine lv_iconst (v := 1) hx hb dJ6_numberOfTrailingZeros_0f7a4_4 (by decide) ?_
  refine lv_isub hx hb dJ6_numberOfTrailingZeros_0f7a4_5 ?_
  refine lv_iand hx hb dJ6_numberOfTrailingZeros_0f7a4_6 ?_
  refine lv_istore_n (lv' := [(0, .int ((p0 ^^^ (-1 : Int32)) &&& (p0 - (1 : Int32))))]) hx hb dJ6_numberOfTrailingZeros_0f7a4_7 rfl hl (by decide) rfl (fun ls hl => ?_)
  refine lv_iload_n hx hb dJ6_numberOfTrailingZeros_0f7a4_8 rfl (lv_at hl 0 rfl) ?_
  refine lv_if_gt (tgt := 17) hx hb dJ6_numberOfTrailingZeros_0f7a4_9 (by decide) (fun hc5 => ?_) (fun hc5 => ?_)
  · have hf := ifT hc5 hf
    refine lv_iconst (v := 1) hx hb dJ6_numberOfTrailingZeros_0f7a4_17 (by decide) ?_
    refine lv_istore_n (lv' := [(1, .int (1 : Int32)), (0, .int ((p0 ^^^ (-1 : Int32)) &&& (p0 - (1 : Int32))))]) hx hb dJ6_numberOfTrailingZeros_0f7a4_18 rfl hl (by decide) rfl (fun ls hl => ?_)
    refine lv_iload_n hx hb dJ6_numberOfTrailingZeros_0f7a4_19 rfl (lv_at hl 1 rfl) ?_
    refine lv_ldcw hx hb hown (hts _ kcJ6_264) dJ6_numberOfTrailingZeros_0f7a4_20 ?_
    refine lv_icmp_le (tgt := 34) hx hb dJ6_numberOfTrailingZeros_0f7a4_23 (by decide) (fun hc4 => ?_) (fun hc4 => ?_)
    · have hf := ifT hc4 hf
      exact keyB34 ((p0 ^^^ (-1 : Int32)) &&& (p0 - (1 : Int32))) (1 : Int32) H locs ls hf hP hD hS (lv_sub hl [1, 0] rfl)
    · have hf := ifF hc4 hf
      refine lv_iinc (v := (1 : Int32) + (16 : Int32)) (lv' := [(1, .int ((1 : Int32) + (16 : Int32))), (0, .int ((p0 ^^^ (-1 : Int32)) &&& (p0 - (1 : Int32))))]) hx hb dJ6_numberOfTrailingZeros_0f7a4_26 hl (k := 0) rfl (by rfl) (by decide) rfl (fun ls hl => ?_)
      refine lv_iload_n hx hb dJ6_numberOfTrailingZeros_0f7a4_29 rfl (lv_at hl 1 rfl) ?_
      refine lv_bipush (v := 16) hx hb dJ6_numberOfTrailingZeros_0f7a4_30 (by decide) ?_
      refine lv_iushr (v := ius ((p0 ^^^ (-1 : Int32)) &&& (p0 - (1 : Int32))) (16 : Int32)) hx hb dJ6_numberOfTrailingZeros_0f7a4_32 rfl ?_
      refine lv_istore_n (lv' := [(0, .int (ius ((p0 ^^^ (-1 : Int32)) &&& (p0 - (1 : Int32))) (16 : Int32))), (1, .int ((1 : Int32) + (16 : Int32)))]) hx hb dJ6_numberOfTrailingZeros_0f7a4_33 rfl hl (by decide) rfl (fun ls hl => ?_)
      exact keyB34 (ius ((p0 ^^^ (-1 : Int32)) &&& (p0 - (1 : Int32))) (16 : Int32)) ((1 : Int32) + (16 : Int32)) H locs ls hf hP hD hS (lv_sub hl [0, 1] rfl)
  · have hf := ifF hc5 hf
    refine lv_iload_n hx hb dJ6_numberOfTrailingZeros_0f7a4_12 rfl (lv_at hl 0 rfl) ?_
    refine lv_bipush (v := 32) hx hb dJ6_numberOfTrailingZeros_0f7a4_13 (by decide) ?_
    refine lv_iand hx hb dJ6_numberOfTrailingZeros_0f7a4_15 ?_
    exact hret _ (opE hf) H locs ls 16 dJ6_numberOfTrailingZeros_0f7a4_16 hP hD hS
set_option maxRecDepth 100000 in
set_option maxHeartbeats 4000000 in
theorem c_J13_numberOfTrailingZeros_95d88 (l : Launch) (D : va_G) (cI cJ : ClassId) (p0 : Int64)  (u : Int32) (hf : f_J13_numberOfTrailingZeros_95d88 p0 = some u) : CtI l yJ13_numberOfTrailingZeros_95d88 cJ13_numberOfTrailingZeros_95d88 3 1 21 .int [.long p0] D cI cJ [] [] u := by
  refine mkI (own := RJ13) rfl (by decide +kernel) (Nat.le_of_ble_eq_true rfl) (lv := [(0, .long p0)]) rfl ?_
  intro p e s m below meth c Q A ls ar S hA hK hN hret H locs hP hD hS hl
  obtain ⟨hx, hb, hml, hown, hts⟩ := id S
  have hret : ∀ (w : Int32), w = u → ∀ (H : Heap) (locs : List Loc) (ls : Array Slot) (pc : Nat), decode cJ13_numberOfTrailingZeros_95d88 pc = .ok (.ireturn, 1) → va_P D vwCl [] H → va_D A [] → va_S A s.heap H locs → W p l e (rmz 1 21) s m ar below meth c H locs 0 0 Q (F0 m pc ls [.int w]) := fun w hw => hw ▸ hret
  unfold f_J13_numberOfTrailingZeros_95d88 at hf
  refine lv_lload_n hx hb dJ13_numberOfTrailingZeros_95d88_0 rfl (lv_at hl 0 rfl) ?_
  refine lv_l2i (v := p0.toInt32) hx hb dJ13_numberOfTrailingZeros_95d88_1 rfl ?_
  refine lv_istore_n (lv' := [(2, .int p0.toInt32), (0, .long p0)]) hx hb dJ13_numberOfTrailingZeros_95d88_2 rfl hl (by decide) rfl (fun ls hl => ?_)
  refine lv_iload_n hx hb dJ13_numberOfTrailingZeros_95d88_3 rfl (lv_at hl 0 rfl) ?_
  refine lv_if_ne (tgt := 21) hx hb dJ13_numberOfTrailingZeros_95d88_4 (by decide) (fun hc5 => ?_) (fun hc5 => ?_)
  · have hf := ifF hc5 hf
    refine lv_iload_n hx hb dJ13_numberOfTrailingZeros_95d88_21 rfl (lv_at hl 0 rfl) ?_
    obtain ⟨u1, hu2, hf⟩ := bdE hf
    refine cS_I (ws' := []) (rest := []) S hK hN hA hP hD hS (c_J6_numberOfTrailingZeros_0f7a4 l D cI cJ  p0.toInt32  u1 hu2) mwJ6_numberOfTrailingZeros_0f7a4 msJ6_numberOfTrailingZeros_0f7a4 kmJ13_311 [] rfl (by decide) rfl rfl rfl ⟨Nat.le_of_ble_eq_true rfl, Nat.le_of_ble_eq_true rfl⟩ ⟨Nat.zero_le _, Nat.zero_le _⟩ hl.1 rfl rfl (Nat.le_of_ble_eq_true rfl) dJ13_numberOfTrailingZeros_95d88_22 (fun H locs hP hD hS => ?_)
    exact hret _ (opE hf) H locs ls 25 dJ13_numberOfTrailingZeros_95d88_25 hP hD hS
  · have hf := ifT hc5 hf
    refine lv_bipush (v := 32) hx hb dJ13_numberOfTrailingZeros_95d88_7 (by decide) ?_
    refine lv_lload_n hx hb dJ13_numberOfTrailingZeros_95d88_9 rfl (lv_at hl 1 rfl) ?_
    refine lv_bipush (v := 32) hx hb dJ13_numberOfTrailingZeros_95d88_10 (by decide) ?_
    refine lv_lushr (v := lus p0 (32 : Int32)) hx hb dJ13_numberOfTrailingZeros_95d88_12 rfl ?_
    refine lv_l2i (v := (lus p0 (32 : Int32)).toInt32) hx hb dJ13_numberOfTrailingZeros_95d88_13 rfl ?_
    obtain ⟨u3, hu4, hf⟩ := bdE hf
    refine cS_I (ws' := []) (rest := [.int (32 : Int32)]) S hK hN hA hP hD hS (c_J6_numberOfTrailingZeros_0f7a4 l D cI cJ  ((lus p0 (32 : Int32)).toInt32)  u3 hu4) mwJ6_numberOfTrailingZeros_0f7a4 msJ6_numberOfTrailingZeros_0f7a4 kmJ13_311 [] rfl (by decide) rfl rfl rfl ⟨Nat.le_of_ble_eq_true rfl, Nat.le_of_ble_eq_true rfl⟩ ⟨Nat.zero_le _, Nat.zero_le _⟩ hl.1 rfl rfl (Nat.le_of_ble_eq_true rfl) dJ13_numberOfTrailingZeros_95d88_14 (fun H locs hP hD hS => ?_)
    refine lv_iadd hx hb dJ13_numberOfTrailingZeros_95d88_17 ?_
    refine lv_goto (tgt := 25) hx hb dJ13_numberOfTrailingZeros_95d88_18 (by decide) ?_
    exact hret _ (opE hf) H locs ls 25 dJ13_numberOfTrailingZeros_95d88_25 hP hD hS
set_option maxRecDepth 100000 in
set_option maxHeartbeats 4000000 in
theorem c_X4_cutBillion (l : Launch) (D : va_G) (cI cJ : ClassId) (a_p0 a_p0_limbs : Nat) (p0_size : Int32) (p0_limbs : (Nat → Int64)) (u : Int32 × Int32 × (Nat → Int64)) (hf : f_X4_cutBillion p0_size p0_limbs = some u) : CtI l yX4_cutBillion cX4_cutBillion 4 1 20 .int [.ref a_p0] D cI cJ [(a_p0, .inr (5, [.ref a_p0_limbs, .int p0_size])), (a_p0_limbs, .inl (cJ, 160, .inr (.inl p0_limbs)))] [(a_p0, .inr (5, [.ref a_p0_limbs, .int u.2.1])), (a_p0_limbs, .inl (cJ, 160, .inr (.inl u.2.2)))] u.1 := by
  refine mkI (own := RX4) rfl (by decide +kernel) (Nat.le_of_ble_eq_true rfl) (lv := [(0, .ref a_p0)]) rfl ?_
  intro p e s m below meth c Q A ls ar S hA hK hN hret H locs hP hD hS hl
  obtain ⟨hx, hb, hml, hown, hts⟩ := id S
  have hret : ∀ (w : Int32 × Int32 × (Nat → Int64)), w = u → ∀ (H : Heap) (locs : List Loc) (ls : Array Slot) (pc : Nat), decode cX4_cutBillion pc = .ok (.ireturn, 1) → va_P D vwCl [(a_p0, .inr (5, [.ref a_p0_limbs, .int w.2.1])), (a_p0_limbs, .inl (cJ, 160, .inr (.inl w.2.2)))] H → va_D A [(a_p0, .inr (5, [.ref a_p0_limbs, .int w.2.1])), (a_p0_limbs, .inl (cJ, 160, .inr (.inl w.2.2)))] → va_S A s.heap H locs → W p l e (rmz 1 20) s m ar below meth c H locs 0 0 Q (F0 m pc ls [.int w.1]) := fun w hw => hw ▸ hret
  have keyB48 : ∀ (v1 : Int64) (p0_size : Int32) (p0_limbs : (Nat → Int64)) (H : Heap) (locs : List Loc) (ls : Array Slot), f_X4_cutBillion_B48 v1 p0_size p0_limbs = some u → va_P D vwCl [(a_p0, .inr (5, [.ref a_p0_limbs, .int p0_size])), (a_p0_limbs, .inl (cJ, 160, .inr (.inl p0_limbs)))] H → va_D A [(a_p0, .inr (5, [.ref a_p0_limbs, .int p0_size])), (a_p0_limbs, .inl (cJ, 160, .inr (.inl p0_limbs)))] → va_S A s.heap H locs → lv_has ls 4 [(0, .ref a_p0), (1, .long v1)] → W p l e (rmz 1 20) s m ar below meth c H locs 0 0 Q (F0 m 48 ls []) := by
    intro v1 p0_size p0_limbs H locs ls hf hP hD hS hl
    unfold f_X4_cutBillion_B48 at hf
    refine lv_aload_n hx hb dX4_cutBillion_48 rfl (lv_at hl 0 rfl) ?_
    obtain ⟨u1, hu2, hf⟩ := bdE hf
    refine cV_V (ws' := [(a_p0, .inr (5, [.ref a_p0_limbs, .int u1])), (a_p0_limbs, .inl (cJ, 160, .inr (.inl p0_limbs)))]) (rest := []) S hK hN hA hP hD hS (c_X4_trim l D cI cJ a_p0 a_p0_limbs  p0_size p0_limbs u1 hu2) mwX4_trim miX4_trim kmX4_19 [0, 1] rfl (by decide) rfl rfl rfl 0 rfl rfl ⟨Nat.le_of_ble_eq_true rfl, Nat.le_of_ble_eq_true rfl⟩ ⟨Nat.zero_le _, Nat.zero_le _⟩ hl.1 rfl rfl (Nat.le_of_ble_eq_true rfl) dX4_cutBillion_49 (fun H locs hP hD hS => ?_)
    refine lv_lload_n hx hb dX4_cutBillion_52 rfl (lv_at hl 1 rfl) ?_
    refine lv_l2i (v := v1.toInt32) hx hb dX4_cutBillion_53 rfl ?_
    exact hret _ (opE hf) H locs ls 54 dX4_cutBillion_54 hP hD hS
  have keyL9 : ∀ (n : Nat) (v1 : Int64) (v3 : Int32) (p0_size : Int32) (p0_limbs : (Nat → Int64)) (H : Heap) (locs : List Loc) (ls : Array Slot), f_X4_cutBillion_L9 n v1 v3 p0_size p0_limbs = some u → va_P D vwCl [(a_p0, .inr (5, [.ref a_p0_limbs, .int p0_size])), (a_p0_limbs, .inl (cJ, 160, .inr (.inl p0_limbs)))] H → va_D A [(a_p0, .inr (5, [.ref a_p0_limbs, .int p0_size])), (a_p0_limbs, .inl (cJ, 160, .inr (.inl p0_limbs)))] → va_S A s.heap H locs → lv_has ls 4 [(0, .ref a_p0), (1, .long v1), (3, .int v3)] → W p l e (rmz 1 20) s m ar below meth c H locs 0 0 Q (F0 m 9 ls []) := by
    intro n
    induction n with
      | zero =>
        intro v1 v3 p0_size p0_limbs H locs ls hf
        cases hf
      | succ n ih =>
        intro v1 v3 p0_size p0_limbs H locs ls hf hP hD hS hl
        rw [f_X4_cutBillion_L9] at hf
        refine lv_iload_n hx hb dX4_cutBillion_9 rfl (lv_at hl 2 rfl) ?_
        refine lv_if_lt (tgt := 48) hx hb dX4_cutBillion_10 (by decide) (fun hc4 => ?_) (fun hc4 => ?_)
        · have hf := ifT hc4 hf
          exact keyB48 v1 p0_size p0_limbs H locs ls hf hP hD hS (lv_sub hl [0, 1] rfl)
        · have hf := ifF hc4 hf
          refine lv_lload_n hx hb dX4_cutBillion_13 rfl (lv_at hl 1 rfl) ?_
          refine lv_bipush (v := 32) hx hb dX4_cutBillion_14 (by decide) ?_
          refine lv_lshl (v := lsh v1 (32 : Int32)) hx hb dX4_cutBillion_16 rfl ?_
          refine lv_aload_n hx hb dX4_cutBillion_17 rfl (lv_at hl 0 rfl) ?_
          refine va_get (D := D) (ci := 5) (v := .ref a_p0_limbs) (C := RX4) (T := TX4) (N := 2) hx hb hts uwX4 hown hK hP 0 rfl rfl 0 (by decide) (hts _ kfX4_9) (fun _ h9 => h9) rfl dX4_cutBillion_18 ?_
          refine lv_iload_n hx hb dX4_cutBillion_21 rfl (lv_at hl 2 rfl) ?_
          obtain ⟨hi3, hf⟩ := gdE hf
          refine va_lald hx hb hK hP 1 1 rfl rfl hi3 dX4_cutBillion_22 ?_
          refine lv_lor hx hb dX4_cutBillion_23 ?_
          refine lv_lstore_n (lv' := [(1, .long ((lsh v1 (32 : Int32)) ||| (p0_limbs v3.toNatClampNeg))), (0, .ref a_p0), (3, .int v3)]) hx hb dX4_cutBillion_24 rfl hl (by decide) rfl (fun ls hl => ?_)
          refine lv_aload_n hx hb dX4_cutBillion_25 rfl (lv_at hl 1 rfl) ?_
          refine va_get (D := D) (ci := 5) (v := .ref a_p0_limbs) (C := RX4) (T := TX4) (N := 2) hx hb hts uwX4 hown hK hP 0 rfl rfl 0 (by decide) (hts _ kfX4_9) (fun _ h9 => h9) rfl dX4_cutBillion_26 ?_
          refine lv_iload_n hx hb dX4_cutBillion_29 rfl (lv_at hl 2 rfl) ?_
          refine lv_lload_n hx hb dX4_cutBillion_30 rfl (lv_at hl 0 rfl) ?_
          refine lv_ldc2 hx hb hown (hts _ kcX4_46) dX4_cutBillion_31 ?_
          refine lv_ldiv hx hb dX4_cutBillion_34 (by decide) ?_
          refine va_last hx hb hK hP hD hS 1 1 rfl rfl hi3 dX4_cutBillion_35 (fun H locs hP hD hS => ?_)
          have hP : va_P D vwCl [(a_p0, .inr (5, [.ref a_p0_limbs, .int p0_size])), (a_p0_limbs, .inl (cJ, 160, .inr (.inl (vp_updL p0_limbs v3.toNatClampNeg (((lsh v1 (32 : Int32)) ||| (p0_limbs v3.toNatClampNeg)) / (1000000000 : Int64))))))] H := hP
          have hD : va_D A [(a_p0, .inr (5, [.ref a_p0_limbs, .int p0_size])), (a_p0_limbs, .inl (cJ, 160, .inr (.inl (vp_updL p0_limbs v3.toNatClampNeg (((lsh v1 (32 : Int32)) ||| (p0_limbs v3.toNatClampNeg)) / (1000000000 : Int64))))))] := hD
          refine lv_lload_n hx hb dX4_cutBillion_36 rfl (lv_at hl 0 rfl) ?_
          refine lv_ldc2 hx hb hown (hts _ kcX4_46) dX4_cutBillion_37 ?_
          refine lv_lrem hx hb dX4_cutBillion_40 (by decide) ?_
          refine lv_lstore_n (lv' := [(1, .long (lrm ((lsh v1 (32 : Int32)) ||| (p0_limbs v3.toNatClampNeg)) (1000000000 : Int64))), (0, .ref a_p0), (3, .int v3)]) hx hb dX4_cutBillion_41 rfl hl (by decide) rfl (fun ls hl => ?_)
          refine lv_iinc (v := v3 + (-1 : Int32)) (lv' := [(3, .int (v3 + (-1 : Int32))), (1, .long (lrm ((lsh v1 (32 : Int32)) ||| (p0_limbs v3.toNatClampNeg)) (1000000000 : Int64))), (0, .ref a_p0)]) hx hb dX4_cutBillion_42 hl (k := 2) rfl (by rfl) (by decide) rfl (fun ls hl => ?_)
          refine lv_goto (tgt := 9) hx hb dX4_cutBillion_45 (by decide) ?_
          exact ih (lrm ((lsh v1 (32 : Int32)) ||| (p0_limbs v3.toNatClampNeg)) (1000000000 : Int64)) (v3 + (-1 : Int32)) p0_size (vp_updL p0_limbs v3.toNatClampNeg (((lsh v1 (32 : Int32)) ||| (p0_limbs v3.toNatClampNeg)) / (1000000000 : Int64))) H locs ls hf hP hD hS (lv_sub hl [2, 1, 0] rfl)
  unfold f_X4_cutBillion at hf
  refine lv_lconst (v := 0) hx hb dX4_cutBillion_0 (by decide) ?_
  refine lv_lstore_n (lv' := [(1, .long (0 : Int64)), (0, .ref a_p0)]) hx hb dX4_cutBillion_1 rfl hl (by decide) rfl (fun ls hl => ?_)
  refine lv_aload_n hx hb dX4_cutBillion_2 rfl (lv_at hl 1 rfl) ?_
  refine va_get (D := D) (ci := 5) (v := .int p0_size) (C := RX4) (T := TX4) (N := 2) hx hb hts uwX4 hown hK hP 0 rfl rfl 1 (by decide) (hts _ kfX4_15) (fun _ h9 => h9) rfl dX4_cutBillion_3 ?_
  refine lv_iconst (v := 1) hx hb dX4_cutBillion_6 (by decide) ?_
  refine lv_isub hx hb dX4_cutBillion_7 ?_
  refine lv_istore_n (lv' := [(3, .int (p0_size - (1 : Int32))), (1, .long (0 : Int64)), (0, .ref a_p0)]) hx hb dX4_cutBillion_8 rfl hl (by decide) rfl (fun ls hl => ?_)
  exact keyL9 FU (0 : Int64) (p0_size - (1 : Int32)) p0_size p0_limbs H locs ls hf hP hD hS (lv_sub hl [2, 1, 0] rfl)
set_option maxRecDepth 100000 in
set_option maxHeartbeats 4000000 in
theorem c_X1_takeBackwards (l : Launch) (D : va_G) (cI cJ : ClassId) (a_p0 a_p0_row a_p1 a_p1_limbs : Nat) (p0_count : Int32) (p0_top : Int32) (p0_row : (Nat → Int32)) (p1_size : Int32) (p1_limbs : (Nat → Int64)) (u : Int32 × (Nat → Int32) × Int32 × (Nat → Int64)) (hf : f_X1_takeBackwards p0_count p0_row p1_size p1_limbs = some u) : CtV l yX1_takeBackwards cX1_takeBackwards 5 2 43 [.ref a_p0, .ref a_p1] D cI cJ [(a_p0, .inr (3, [.ref a_p0_row, .int p0_count, .int p0_top])), (a_p0_row, .inl (cI, 792, .inl p0_row)), (a_p1, .inr (5, [.ref a_p1_limbs, .int p1_size])), (a_p1_limbs, .inl (cJ, 160, .inr (.inl p1_limbs)))] [(a_p0, .inr (3, [.ref a_p0_row, .int u.1, .int p0_top])), (a_p0_row, .inl (cI, 792, .inl u.2.1)), (a_p1, .inr (5, [.ref a_p1_limbs, .int u.2.2.1])), (a_p1_limbs, .inl (cJ, 160, .inr (.inl u.2.2.2)))] := by
  refine mkV (own := RX1) rfl (by decide +kernel) (Nat.le_of_ble_eq_true rfl) (lv := [(0, .ref a_p0), (1, .ref a_p1)]) rfl ?_
  intro p e s m below meth c Q A ls ar S hA hK hN hret H locs hP hD hS hl
  obtain ⟨hx, hb, hml, hown, hts⟩ := id S
  have hret : ∀ (w : Int32 × (Nat → Int32) × Int32 × (Nat → Int64)), w = u → ∀ (H : Heap) (locs : List Loc) (ls : Array Slot) (pc : Nat), decode cX1_takeBackwards pc = .ok (.return_, 1) → va_P D vwCl [(a_p0, .inr (3, [.ref a_p0_row, .int w.1, .int p0_top])), (a_p0_row, .inl (cI, 792, .inl w.2.1)), (a_p1, .inr (5, [.ref a_p1_limbs, .int w.2.2.1])), (a_p1_limbs, .inl (cJ, 160, .inr (.inl w.2.2.2)))] H → va_D A [(a_p0, .inr (3, [.ref a_p0_row, .int w.1, .int p0_top])), (a_p0_row, .inl (cI, 792, .inl w.2.1)), (a_p1, .inr (5, [.ref a_p1_limbs, .int w.2.2.1])), (a_p1_limbs, .inl (cJ, 160, .inr (.inl w.2.2.2)))] → va_S A s.heap H locs → W p l e (rmz 2 43) s m ar below meth c H locs 0 0 Q (F0 m pc ls []) := fun w hw => hw ▸ hret
  have keyL29 : ∀ (kL7 : Int32 → Int32 → (Nat → Int32) → Int32 → (Nat → Int64) → Option (Int32 × (Nat → Int32) × Int32 × (Nat → Int64))) (hL7 : ∀ (v2 : Int32) (p0_count : Int32) (p0_row : (Nat → Int32)) (p1_size : Int32) (p1_limbs : (Nat → Int64)) (H : Heap) (locs : List Loc) (ls : Array Slot), kL7 v2 p0_count p0_row p1_size p1_limbs = some u → va_P D vwCl [(a_p0, .inr (3, [.ref a_p0_row, .int p0_count, .int p0_top])), (a_p0_row, .inl (cI, 792, .inl p0_row)), (a_p1, .inr (5, [.ref a_p1_limbs, .int p1_size])), (a_p1_limbs, .inl (cJ, 160, .inr (.inl p1_limbs)))] H → va_D A [(a_p0, .inr (3, [.ref a_p0_row, .int p0_count, .int p0_top])), (a_p0_row, .inl (cI, 792, .inl p0_row)), (a_p1, .inr (5, [.ref a_p1_limbs, .int p1_size])), (a_p1_limbs, .inl (cJ, 160, .inr (.inl p1_limbs)))] → va_S A s.heap H locs → lv_has ls 5 [(0, .ref a_p0), (1, .ref a_p1), (2, .int v2)] → W p l e (rmz 2 43) s m ar below meth c H locs 0 0 Q (F0 m 7 ls [])) (n : Nat) (v2 : Int32) (v3 : Int32) (v4 : Int32) (p0_count : Int32) (p0_row : (Nat → Int32)) (p1_size : Int32) (p1_limbs : (Nat → Int64)) (H : Heap) (locs : List Loc) (ls : Array Slot), f_X1_takeBackwards_L29 kL7 n v2 v3 v4 p0_count p0_row p1_size p1_limbs = some u → va_P D vwCl [(a_p0, .inr (3, [.ref a_p0_row, .int p0_count, .int p0_top])), (a_p0_row, .inl (cI, 792, .inl p0_row)), (a_p1, .inr (5, [.ref a_p1_limbs, .int p1_size])), (a_p1_limbs, .inl (cJ, 160, .inr (.inl p1_limbs)))] H → va_D A [(a_p0, .inr (3, [.ref a_p0_row, .int p0_count, .int p0_top])), (a_p0_row, .inl (cI, 792, .inl p0_row)), (a_p1, .inr (5, [.ref a_p1_limbs, .int p1_size])), (a_p1_limbs, .inl (cJ, 160, .inr (.inl p1_limbs)))] → va_S A s.heap H locs → lv_has ls 5 [(0, .ref a_p0), (1, .ref a_p1), (2, .int v2), (3, .int v3), (4, .int v4)] → W p l e (rmz 2 43) s m ar below meth c H locs 0 0 Q (F0 m 29 ls []) := by
    intro kL7 hL7 n
    induction n with
      | zero =>
        intro v2 v3 v4 p0_count p0_row p1_size p1_limbs H locs ls hf
        cases hf
      | succ n ih =>
        intro v2 v3 v4 p0_count p0_row p1_size p1_limbs H locs ls hf hP hD hS hl
        rw [f_X1_takeBackwards_L29] at hf
        refine lv_iload hx hb dX1_takeBackwards_29 (lv_at hl 4 rfl) ?_
        refine lv_bipush (v := 9) hx hb dX1_takeBackwards_31 (by decide) ?_
        refine lv_icmp_ge (tgt := 55) hx hb dX1_takeBackwards_33 (by decide) (fun hc7 => ?_) (fun hc7 => ?_)
        · have hf := ifT hc7 hf
          refine lv_iinc (v := v2 + (9 : Int32)) (lv' := [(2, .int (v2 + (9 : Int32))), (0, .ref a_p0), (1, .ref a_p1), (3, .int v3), (4, .int v4)]) hx hb dX1_takeBackwards_55 hl (k := 2) rfl (by rfl) (by decide) rfl (fun ls hl => ?_)
          refine lv_goto (tgt := 7) hx hb dX1_takeBackwards_58 (by decide) ?_
          exact hL7 (v2 + (9 : Int32)) p0_count p0_row p1_size p1_limbs H locs ls hf hP hD hS (lv_sub hl [1, 2, 0] rfl)
        · have hf := ifF hc7 hf
          refine lv_aload_n hx hb dX1_takeBackwards_36 rfl (lv_at hl 0 rfl) ?_
          refine lv_iload_n hx hb dX1_takeBackwards_37 rfl (lv_at hl 3 rfl) ?_
          refine lv_bipush (v := 10) hx hb dX1_takeBackwards_38 (by decide) ?_
          refine lv_irem hx hb dX1_takeBackwards_40 (by decide) ?_
          obtain ⟨u5, hu6, hf⟩ := bdE hf
          refine cV_V (ws' := [(a_p0, .inr (3, [.ref a_p0_row, .int u5.1, .int p0_top])), (a_p0_row, .inl (cI, 792, .inl u5.2)), (a_p1, .inr (5, [.ref a_p1_limbs, .int p1_size])), (a_p1_limbs, .inl (cJ, 160, .inr (.inl p1_limbs)))]) (rest := []) S hK hN hA hP hD hS (c_X1_append l D cI cJ a_p0 a_p0_row (irm v3 (10 : Int32)) p0_count p0_top p0_row u5 hu6) mwX1_append miX1_append kmX1_81 [0, 1] rfl (by decide) rfl rfl rfl 0 rfl rfl ⟨Nat.le_of_ble_eq_true rfl, Nat.le_of_ble_eq_true rfl⟩ ⟨Nat.zero_le _, Nat.zero_le _⟩ hl.1 rfl rfl (Nat.le_of_ble_eq_true rfl) dX1_takeBackwards_41 (fun H locs hP hD hS => ?_)
          refine lv_iload_n hx hb dX1_takeBackwards_44 rfl (lv_at hl 3 rfl) ?_
          refine lv_bipush (v := 10) hx hb dX1_takeBackwards_45 (by decide) ?_
          refine lv_idiv hx hb dX1_takeBackwards_47 (by decide) ?_
          refine lv_istore_n (lv' := [(3, .int (v3 / (10 : Int32))), (0, .ref a_p0), (1, .ref a_p1), (2, .int v2), (4, .int v4)]) hx hb dX1_takeBackwards_48 rfl hl (by decide) rfl (fun ls hl => ?_)
          refine lv_iinc (v := v4 + (1 : Int32)) (lv' := [(4, .int (v4 + (1 : Int32))), (3, .int (v3 / (10 : Int32))), (0, .ref a_p0), (1, .ref a_p1), (2, .int v2)]) hx hb dX1_takeBackwards_49 hl (k := 4) rfl (by rfl) (by decide) rfl (fun ls hl => ?_)
          refine lv_goto (tgt := 29) hx hb dX1_takeBackwards_52 (by decide) ?_
          exact ih v2 (v3 / (10 : Int32)) (v4 + (1 : Int32)) u5.1 u5.2 p1_size p1_limbs H locs ls hf hP hD hS (lv_sub hl [2, 3, 4, 1, 0] rfl)
  have keyL7 : ∀ (n : Nat) (v2 : Int32) (p0_count : Int32) (p0_row : (Nat → Int32)) (p1_size : Int32) (p1_limbs : (Nat → Int64)) (H : Heap) (locs : List Loc) (ls : Array Slot), f_X1_takeBackwards_L7 n v2 p0_count p0_row p1_size p1_limbs = some u → va_P D vwCl [(a_p0, .inr (3, [.ref a_p0_row, .int p0_count, .int p0_top])), (a_p0_row, .inl (cI, 792, .inl p0_row)), (a_p1, .inr (5, [.ref a_p1_limbs, .int p1_size])), (a_p1_limbs, .inl (cJ, 160, .inr (.inl p1_limbs)))] H → va_D A [(a_p0, .inr (3, [.ref a_p0_row, .int p0_count, .int p0_top])), (a_p0_row, .inl (cI, 792, .inl p0_row)), (a_p1, .inr (5, [.ref a_p1_limbs, .int p1_size])), (a_p1_limbs, .inl (cJ, 160, .inr (.inl p1_limbs)))] → va_S A s.heap H locs → lv_has ls 5 [(0, .ref a_p0), (1, .ref a_p1), (2, .int v2)] → W p l e (rmz 2 43) s m ar below meth c H locs 0 0 Q (F0 m 7 ls []) := by
    intro n
    induction n with
      | zero =>
        intro v2 p0_count p0_row p1_size p1_limbs H locs ls hf
        cases hf
      | succ n ih =>
        intro v2 p0_count p0_row p1_size p1_limbs H locs ls hf hP hD hS hl
        rw [f_X1_takeBackwards_L7] at hf
        refine lv_iload_n hx hb dX1_takeBackwards_7 rfl (lv_at hl 2 rfl) ?_
        refine lv_sipush (v := 792) hx hb dX1_takeBackwards_8 (by decide) ?_
        refine lv_icmp_ge (tgt := 61) hx hb dX1_takeBackwards_11 (by decide) (fun hc9 => ?_) (fun hc9 => ?_)
        · have hf := ifT hc9 hf
          exact hret _ (opE hf) H locs ls 61 dX1_takeBackwards_61 hP hD hS
        · have hf := ifF hc9 hf
          refine lv_aload_n hx hb dX1_takeBackwards_14 rfl (lv_at hl 1 rfl) ?_
          obtain ⟨u1, hu2, hf⟩ := bdE hf
          refine cV_I (ws' := [(a_p0, .inr (3, [.ref a_p0_row, .int p0_count, .int p0_top])), (a_p0_row, .inl (cI, 792, .inl p0_row)), (a_p1, .inr (5, [.ref a_p1_limbs, .int p1_size])), (a_p1_limbs, .inl (cJ, 160, .inr (.inl p1_limbs)))]) (rest := []) S hK hN hA hP hD hS (c_X4_isNought l D cI cJ a_p1 a_p1_limbs  p1_size u1 hu2) mwX4_isNought miX4_isNought kmX1_84 [2] rfl (by decide) rfl rfl rfl 0 rfl rfl ⟨Nat.le_of_ble_eq_true rfl, Nat.le_of_ble_eq_true rfl⟩ ⟨Nat.zero_le _, Nat.zero_le _⟩ hl.1 rfl rfl (Nat.le_of_ble_eq_true rfl) dX1_takeBackwards_15 (fun H locs hP hD hS => ?_)
          refine lv_if_ne (tgt := 61) hx hb dX1_takeBackwards_18 (by decide) (fun hc8 => ?_) (fun hc8 => ?_)
          · have hf := ifF hc8 hf
            exact hret _ (opE hf) H locs ls 61 dX1_takeBackwards_61 hP hD hS
          · have hf := ifT hc8 hf
            refine lv_aload_n hx hb dX1_takeBackwards_21 rfl (lv_at hl 1 rfl) ?_
            obtain ⟨u3, hu4, hf⟩ := bdE hf
            refine cV_I (ws' := [(a_p0, .inr (3, [.ref a_p0_row, .int p0_count, .int p0_top])), (a_p0_row, .inl (cI, 792, .inl p0_row)), (a_p1, .inr (5, [.ref a_p1_limbs, .int u3.2.1])), (a_p1_limbs, .inl (cJ, 160, .inr (.inl u3.2.2)))]) (rest := []) S hK hN hA hP hD hS (c_X4_cutBillion l D cI cJ a_p1 a_p1_limbs  p1_size p1_limbs u3 hu4) mwX4_cutBillion miX4_cutBillion kmX1_88 [2, 3] rfl (by decide) rfl rfl rfl 0 rfl rfl ⟨Nat.le_of_ble_eq_true rfl, Nat.le_of_ble_eq_true rfl⟩ ⟨Nat.zero_le _, Nat.zero_le _⟩ hl.1 rfl rfl (Nat.le_of_ble_eq_true rfl) dX1_takeBackwards_22 (fun H locs hP hD hS => ?_)
            refine lv_istore_n (lv' := [(3, .int u3.1), (0, .ref a_p0), (1, .ref a_p1), (2, .int v2)]) hx hb dX1_takeBackwards_25 rfl hl (by decide) rfl (fun ls hl => ?_)
            refine lv_iconst (v := 0) hx hb dX1_takeBackwards_26 (by decide) ?_
            refine lv_istore (lv' := [(4, .int (0 : Int32)), (3, .int u3.1), (0, .ref a_p0), (1, .ref a_p1), (2, .int v2)]) hx hb dX1_takeBackwards_27 hl (by decide) rfl (fun ls hl => ?_)
            exact keyL29 (f_X1_takeBackwards_L7 n) ih FU v2 u3.1 (0 : Int32) p0_count p0_row u3.2.1 u3.2.2 H locs ls hf hP hD hS (lv_sub hl [2, 3, 4, 1, 0] rfl)
  unfold f_X1_takeBackwards at hf
  refine lv_aload_n hx hb dX1_takeBackwards_0 rfl (lv_at hl 0 rfl) ?_
  refine lv_iconst (v := 0) hx hb dX1_takeBackwards_1 (by decide) ?_
  refine va_put (D := D) (ci := 3) (v := .int (0 : Int32)) (ty := tyX1 1) (C := RX1) (T := TX1) (N := 3) hx hb hts uwX1 tyX1 tyX1_ok nmX1 hown hK hP hD hS 0 rfl rfl 1 (by decide) (hts _ kfX1_13) (fun _ h9 => h9) rfl (tyX1_ok 1 (by decide)) rfl rfl (Nat.le_of_ble_eq_true rfl) dX1_takeBackwards_2 (fun H locs hP hD hS => ?_)
  have hP : va_P D vwCl [(a_p0, .inr (3, [.ref a_p0_row, .int (0 : Int32), .int p0_top])), (a_p0_row, .inl (cI, 792, .inl p0_row)), (a_p1, .inr (5, [.ref a_p1_limbs, .int p1_size])), (a_p1_limbs, .inl (cJ, 160, .inr (.inl p1_limbs)))] H := hP
  have hD : va_D A [(a_p0, .inr (3, [.ref a_p0_row, .int (0 : Int32), .int p0_top])), (a_p0_row, .inl (cI, 792, .inl p0_row)), (a_p1, .inr (5, [.ref a_p1_limbs, .int p1_size])), (a_p1_limbs, .inl (cJ, 160, .inr (.inl p1_limbs)))] := hD
  refine lv_iconst (v := 0) hx hb dX1_takeBackwards_5 (by decide) ?_
  refine lv_istore_n (lv' := [(2, .int (0 : Int32)), (0, .ref a_p0), (1, .ref a_p1)]) hx hb dX1_takeBackwards_6 rfl hl (by decide) rfl (fun ls hl => ?_)
  exact keyL7 FU (0 : Int32) (0 : Int32) p0_row p1_size p1_limbs H locs ls hf hP hD hS (lv_sub hl [1, 2, 0] rfl)
set_option maxRecDepth 100000 in
set_option maxHeartbeats 4000000 in
theorem c_X1_trim (l : Launch) (D : va_G) (cI cJ : ClassId) (a_p0 a_p0_row : Nat) (p0_count : Int32) (p0_top : Int32) (p0_row : (Nat → Int32)) (u : Int32) (hf : f_X1_trim p0_row p0_count = some u) : CtV l yX1_trim cX1_trim 1 0 0 [.ref a_p0] D cI cJ [(a_p0, .inr (3, [.ref a_p0_row, .int p0_count, .int p0_top])), (a_p0_row, .inl (cI, 792, .inl p0_row))] [(a_p0, .inr (3, [.ref a_p0_row, .int u, .int p0_top])), (a_p0_row, .inl (cI, 792, .inl p0_row))] := by
  refine mkV (own := RX1) rfl (by decide +kernel) (Nat.le_of_ble_eq_true rfl) (lv := [(0, .ref a_p0)]) rfl ?_
  intro p e s m below meth c Q A ls ar S hA hK hN hret H locs hP hD hS hl
  obtain ⟨hx, hb, hml, hown, hts⟩ := id S
  have hret : ∀ (w : Int32), w = u → ∀ (H : Heap) (locs : List Loc) (ls : Array Slot) (pc : Nat), decode cX1_trim pc = .ok (.return_, 1) → va_P D vwCl [(a_p0, .inr (3, [.ref a_p0_row, .int w, .int p0_top])), (a_p0_row, .inl (cI, 792, .inl p0_row))] H → va_D A [(a_p0, .inr (3, [.ref a_p0_row, .int w, .int p0_top])), (a_p0_row, .inl (cI, 792, .inl p0_row))] → va_S A s.heap H locs → W p l e (rmz 0 0) s m ar below meth c H locs 0 0 Q (F0 m pc ls []) := fun w hw => hw ▸ hret
  have keyL0 : ∀ (n : Nat) (p0_count : Int32) (H : Heap) (locs : List Loc) (ls : Array Slot), f_X1_trim_L0 p0_row n p0_count = some u → va_P D vwCl [(a_p0, .inr (3, [.ref a_p0_row, .int p0_count, .int p0_top])), (a_p0_row, .inl (cI, 792, .inl p0_row))] H → va_D A [(a_p0, .inr (3, [.ref a_p0_row, .int p0_count, .int p0_top])), (a_p0_row, .inl (cI, 792, .inl p0_row))] → va_S A s.heap H locs → lv_has ls 1 [(0, .ref a_p0)] → W p l e (rmz 0 0) s m ar below meth c H locs 0 0 Q (F0 m 0 ls []) := by
    intro n
    induction n with
      | zero =>
        intro p0_count H locs ls hf
        cases hf
      | succ n ih =>
        intro p0_count H locs ls hf hP hD hS hl
        rw [f_X1_trim_L0] at hf
        refine lv_aload_n hx hb dX1_trim_0 rfl (lv_at hl 0 rfl) ?_
        refine va_get (D := D) (ci := 3) (v := .int p0_count) (C := RX1) (T := TX1) (N := 3) hx hb hts uwX1 hown hK hP 0 rfl rfl 1 (by decide) (hts _ kfX1_13) (fun _ h9 => h9) rfl dX1_trim_1 ?_
        refine lv_if_le (tgt := 34) hx hb dX1_trim_4 (by decide) (fun hc3 => ?_) (fun hc3 => ?_)
        · have hf := ifT hc3 hf
          exact hret _ (opE hf) H locs ls 34 dX1_trim_34 hP hD hS
        · have hf := ifF hc3 hf
          refine lv_aload_n hx hb dX1_trim_7 rfl (lv_at hl 0 rfl) ?_
          refine va_get (D := D) (ci := 3) (v := .ref a_p0_row) (C := RX1) (T := TX1) (N := 3) hx hb hts uwX1 hown hK hP 0 rfl rfl 0 (by decide) (hts _ kfX1_9) (fun _ h9 => h9) rfl dX1_trim_8 ?_
          refine lv_aload_n hx hb dX1_trim_11 rfl (lv_at hl 0 rfl) ?_
          refine va_get (D := D) (ci := 3) (v := .int p0_count) (C := RX1) (T := TX1) (N := 3) hx hb hts uwX1 hown hK hP 0 rfl rfl 1 (by decide) (hts _ kfX1_13) (fun _ h9 => h9) rfl dX1_trim_12 ?_
          refine lv_iconst (v := 1) hx hb dX1_trim_15 (by decide) ?_
          refine lv_isub hx hb dX1_trim_16 ?_
          obtain ⟨hi1, hf⟩ := gdE hf
          refine va_iald hx hb hK hP 1 0 rfl rfl hi1 dX1_trim_17 ?_
          refine lv_if_ne (tgt := 34) hx hb dX1_trim_18 (by decide) (fun hc2 => ?_) (fun hc2 => ?_)
          · have hf := ifF hc2 hf
            exact hret _ (opE hf) H locs ls 34 dX1_trim_34 hP hD hS
          · have hf := ifT hc2 hf
            refine lv_aload_n hx hb dX1_trim_21 rfl (lv_at hl 0 rfl) ?_
            refine lv_dup hx hb dX1_trim_22 rfl ?_
            refine va_get (D := D) (ci := 3) (v := .int p0_count) (C := RX1) (T := TX1) (N := 3) hx hb hts uwX1 hown hK hP 0 rfl rfl 1 (by decide) (hts _ kfX1_13) (fun _ h9 => h9) rfl dX1_trim_23 ?_
            refine lv_iconst (v := 1) hx hb dX1_trim_26 (by decide) ?_
            refine lv_isub hx hb dX1_trim_27 ?_
            refine va_put (D := D) (ci := 3) (v := .int (p0_count - (1 : Int32))) (ty := tyX1 1) (C := RX1) (T := TX1) (N := 3) hx hb hts uwX1 tyX1 tyX1_ok nmX1 hown hK hP hD hS 0 rfl rfl 1 (by decide) (hts _ kfX1_13) (fun _ h9 => h9) rfl (tyX1_ok 1 (by decide)) rfl rfl (Nat.le_of_ble_eq_true rfl) dX1_trim_28 (fun H locs hP hD hS => ?_)
            have hP : va_P D vwCl [(a_p0, .inr (3, [.ref a_p0_row, .int (p0_count - (1 : Int32)), .int p0_top])), (a_p0_row, .inl (cI, 792, .inl p0_row))] H := hP
            have hD : va_D A [(a_p0, .inr (3, [.ref a_p0_row, .int (p0_count - (1 : Int32)), .int p0_top])), (a_p0_row, .inl (cI, 792, .inl p0_row))] := hD
            refine lv_goto (tgt := 0) hx hb dX1_trim_31 (by decide) ?_
            exact ih (p0_count - (1 : Int32)) H locs ls hf hP hD hS (lv_sub hl [0] rfl)
  unfold f_X1_trim at hf
  exact keyL0 FU p0_count H locs ls hf hP hD hS (lv_sub hl [0] rfl)
set_option maxRecDepth 100000 in
set_option maxHeartbeats 4000000 in
theorem c_X1_turn (l : Launch) (D : va_G) (cI cJ : ClassId) (a_p0 a_p0_row : Nat) (p0_count : Int32) (p0_top : Int32) (p0_row : (Nat → Int32)) (u : (Nat → Int32)) (hf : f_X1_turn p0_count p0_row = some u) : CtV l yX1_turn cX1_turn 4 0 0 [.ref a_p0] D cI cJ [(a_p0, .inr (3, [.ref a_p0_row, .int p0_count, .int p0_top])), (a_p0_row, .inl (cI, 792, .inl p0_row))] [(a_p0, .inr (3, [.ref a_p0_row, .int p0_count, .int p0_top])), (a_p0_row, .inl (cI, 792, .inl u))] := by
  refine mkV (own := RX1) rfl (by decide +kernel) (Nat.le_of_ble_eq_true rfl) (lv := [(0, .ref a_p0)]) rfl ?_
  intro p e s m below meth c Q A ls ar S hA hK hN hret H locs hP hD hS hl
  obtain ⟨hx, hb, hml, hown, hts⟩ := id S
  have hret : ∀ (w : (Nat → Int32)), w = u → ∀ (H : Heap) (locs : List Loc) (ls : Array Slot) (pc : Nat), decode cX1_turn pc = .ok (.return_, 1) → va_P D vwCl [(a_p0, .inr (3, [.ref a_p0_row, .int p0_count, .int p0_top])), (a_p0_row, .inl (cI, 792, .inl w))] H → va_D A [(a_p0, .inr (3, [.ref a_p0_row, .int p0_count, .int p0_top])), (a_p0_row, .inl (cI, 792, .inl w))] → va_S A s.heap H locs → W p l e (rmz 0 0) s m ar below meth c H locs 0 0 Q (F0 m pc ls []) := fun w hw => hw ▸ hret
  have keyL9 : ∀ (n : Nat) (v1 : Int32) (v2 : Int32) (p0_row : (Nat → Int32)) (H : Heap) (locs : List Loc) (ls : Array Slot), f_X1_turn_L9 p0_count n v1 v2 p0_row = some u → va_P D vwCl [(a_p0, .inr (3, [.ref a_p0_row, .int p0_count, .int p0_top])), (a_p0_row, .inl (cI, 792, .inl p0_row))] H → va_D A [(a_p0, .inr (3, [.ref a_p0_row, .int p0_count, .int p0_top])), (a_p0_row, .inl (cI, 792, .inl p0_row))] → va_S A s.heap H locs → lv_has ls 4 [(0, .ref a_p0), (1, .int v1), (2, .int v2)] → W p l e (rmz 0 0) s m ar below meth c H locs 0 0 Q (F0 m 9 ls []) := by
    intro n
    induction n with
      | zero =>
        intro v1 v2 p0_row H locs ls hf
        cases hf
      | succ n ih =>
        intro v1 v2 p0_row H locs ls hf hP hD hS hl
        rw [f_X1_turn_L9] at hf
        refine lv_iload_n hx hb dX1_turn_9 rfl (lv_at hl 1 rfl) ?_
        refine lv_iload_n hx hb dX1_turn_10 rfl (lv_at hl 2 rfl) ?_
        refine lv_icmp_ge (tgt := 49) hx hb dX1_turn_11 (by decide) (fun hc3 => ?_) (fun hc3 => ?_)
        · have hf := ifT hc3 hf
          exact hret _ (opE hf) H locs ls 49 dX1_turn_49 hP hD hS
        · have hf := ifF hc3 hf
          refine lv_aload_n hx hb dX1_turn_14 rfl (lv_at hl 0 rfl) ?_
          refine va_get (D := D) (ci := 3) (v := .ref a_p0_row) (C := RX1) (T := TX1) (N := 3) hx hb hts uwX1 hown hK hP 0 rfl rfl 0 (by decide) (hts _ kfX1_9) (fun _ h9 => h9) rfl dX1_turn_15 ?_
          refine lv_iload_n hx hb dX1_turn_18 rfl (lv_at hl 1 rfl) ?_
          obtain ⟨hi1, hf⟩ := gdE hf
          refine va_iald hx hb hK hP 1 0 rfl rfl hi1 dX1_turn_19 ?_
          refine lv_istore_n (lv' := [(3, .int (p0_row v1.toNatClampNeg)), (0, .ref a_p0), (1, .int v1), (2, .int v2)]) hx hb dX1_turn_20 rfl hl (by decide) rfl (fun ls hl => ?_)
          refine lv_aload_n hx hb dX1_turn_21 rfl (lv_at hl 1 rfl) ?_
          refine va_get (D := D) (ci := 3) (v := .ref a_p0_row) (C := RX1) (T := TX1) (N := 3) hx hb hts uwX1 hown hK hP 0 rfl rfl 0 (by decide) (hts _ kfX1_9) (fun _ h9 => h9) rfl dX1_turn_22 ?_
          refine lv_iload_n hx hb dX1_turn_25 rfl (lv_at hl 2 rfl) ?_
          refine lv_aload_n hx hb dX1_turn_26 rfl (lv_at hl 1 rfl) ?_
          refine va_get (D := D) (ci := 3) (v := .ref a_p0_row) (C := RX1) (T := TX1) (N := 3) hx hb hts uwX1 hown hK hP 0 rfl rfl 0 (by decide) (hts _ kfX1_9) (fun _ h9 => h9) rfl dX1_turn_27 ?_
          refine lv_iload_n hx hb dX1_turn_30 rfl (lv_at hl 3 rfl) ?_
          obtain ⟨hi2, hf⟩ := gdE hf
          refine va_iald hx hb hK hP 1 0 rfl rfl hi2 dX1_turn_31 ?_
          refine va_iast hx hb hK hP hD hS 1 0 rfl rfl hi1 dX1_turn_32 (fun H locs hP hD hS => ?_)
          have hP : va_P D vwCl [(a_p0, .inr (3, [.ref a_p0_row, .int p0_count, .int p0_top])), (a_p0_row, .inl (cI, 792, .inl (upd p0_row v1.toNatClampNeg (p0_row v2.toNatClampNeg))))] H := hP
          have hD : va_D A [(a_p0, .inr (3, [.ref a_p0_row, .int p0_count, .int p0_top])), (a_p0_row, .inl (cI, 792, .inl (upd p0_row v1.toNatClampNeg (p0_row v2.toNatClampNeg))))] := hD
          refine lv_aload_n hx hb dX1_turn_33 rfl (lv_at hl 1 rfl) ?_
          refine va_get (D := D) (ci := 3) (v := .ref a_p0_row) (C := RX1) (T := TX1) (N := 3) hx hb hts uwX1 hown hK hP 0 rfl rfl 0 (by decide) (hts _ kfX1_9) (fun _ h9 => h9) rfl dX1_turn_34 ?_
          refine lv_iload_n hx hb dX1_turn_37 rfl (lv_at hl 3 rfl) ?_
          refine lv_iload_n hx hb dX1_turn_38 rfl (lv_at hl 0 rfl) ?_
          refine va_iast hx hb hK hP hD hS 1 0 rfl rfl hi2 dX1_turn_39 (fun H locs hP hD hS => ?_)
          have hP : va_P D vwCl [(a_p0, .inr (3, [.ref a_p0_row, .int p0_count, .int p0_top])), (a_p0_row, .inl (cI, 792, .inl (upd (upd p0_row v1.toNatClampNeg (p0_row v2.toNatClampNeg)) v2.toNatClampNeg (p0_row v1.toNatClampNeg))))] H := hP
          have hD : va_D A [(a_p0, .inr (3, [.ref a_p0_row, .int p0_count, .int p0_top])), (a_p0_row, .inl (cI, 792, .inl (upd (upd p0_row v1.toNatClampNeg (p0_row v2.toNatClampNeg)) v2.toNatClampNeg (p0_row v1.toNatClampNeg))))] := hD
          refine lv_iinc (v := v1 + (1 : Int32)) (lv' := [(1, .int (v1 + (1 : Int32))), (3, .int (p0_row v1.toNatClampNeg)), (0, .ref a_p0), (2, .int v2)]) hx hb dX1_turn_40 hl (k := 2) rfl (by rfl) (by decide) rfl (fun ls hl => ?_)
          refine lv_iinc (v := v2 + (-1 : Int32)) (lv' := [(2, .int (v2 + (-1 : Int32))), (1, .int (v1 + (1 : Int32))), (3, .int (p0_row v1.toNatClampNeg)), (0, .ref a_p0)]) hx hb dX1_turn_43 hl (k := 3) rfl (by rfl) (by decide) rfl (fun ls hl => ?_)
          refine lv_goto (tgt := 9) hx hb dX1_turn_46 (by decide) ?_
          exact ih (v1 + (1 : Int32)) (v2 + (-1 : Int32)) (upd (upd p0_row v1.toNatClampNeg (p0_row v2.toNatClampNeg)) v2.toNatClampNeg (p0_row v1.toNatClampNeg)) H locs ls hf hP hD hS (lv_sub hl [3, 1, 0] rfl)
  unfold f_X1_turn at hf
  refine lv_iconst (v := 0) hx hb dX1_turn_0 (by decide) ?_
  refine lv_istore_n (lv' := [(1, .int (0 : Int32)), (0, .ref a_p0)]) hx hb dX1_turn_1 rfl hl (by decide) rfl (fun ls hl => ?_)
  refine lv_aload_n hx hb dX1_turn_2 rfl (lv_at hl 1 rfl) ?_
  refine va_get (D := D) (ci := 3) (v := .int p0_count) (C := RX1) (T := TX1) (N := 3) hx hb hts uwX1 hown hK hP 0 rfl rfl 1 (by decide) (hts _ kfX1_13) (fun _ h9 => h9) rfl dX1_turn_3 ?_
  refine lv_iconst (v := 1) hx hb dX1_turn_6 (by decide) ?_
  refine lv_isub hx hb dX1_turn_7 ?_
  refine lv_istore_n (lv' := [(2, .int (p0_count - (1 : Int32))), (1, .int (0 : Int32)), (0, .ref a_p0)]) hx hb dX1_turn_8 rfl hl (by decide) rfl (fun ls hl => ?_)
  exact keyL9 FU (0 : Int32) (p0_count - (1 : Int32)) p0_row H locs ls hf hP hD hS (lv_sub hl [2, 1, 0] rfl)
set_option maxRecDepth 100000 in
set_option maxHeartbeats 4000000 in
theorem c_X1_takeExactly (l : Launch) (D : va_G) (cI cJ : ClassId) (a_p0 a_p0_row a_p1 a_p2 a_p2_limbs : Nat) (p0_count : Int32) (p0_top : Int32) (p0_row : (Nat → Int32)) (p1_kind : Int32) (p1_minus : Int32) (p1_m : Int64) (p1_e : Int32) (p1_narrowBelow : Int32) (p2_size : Int32) (p2_limbs : (Nat → Int64)) (u : Int32 × Int32 × (Nat → Int32) × Int32 × (Nat → Int64)) (hf : f_X1_takeExactly p1_m p1_e p0_count p0_top p0_row p2_size p2_limbs = some u) : CtV l yX1_takeExactly cX1_takeExactly 5 3 67 [.ref a_p0, .ref a_p1, .ref a_p2] D cI cJ [(a_p0, .inr (3, [.ref a_p0_row, .int p0_count, .int p0_top])), (a_p0_row, .inl (cI, 792, .inl p0_row)), (a_p1, .inr (9, [.int p1_kind, .int p1_minus, .long p1_m, .int p1_e, .int p1_narrowBelow])), (a_p2, .inr (5, [.ref a_p2_limbs, .int p2_size])), (a_p2_limbs, .inl (cJ, 160, .inr (.inl p2_limbs)))] [(a_p0, .inr (3, [.ref a_p0_row, .int u.1, .int u.2.1])), (a_p0_row, .inl (cI, 792, .inl u.2.2.1)), (a_p1, .inr (9, [.int p1_kind, .int p1_minus, .long p1_m, .int p1_e, .int p1_narrowBelow])), (a_p2, .inr (5, [.ref a_p2_limbs, .int u.2.2.2.1])), (a_p2_limbs, .inl (cJ, 160, .inr (.inl u.2.2.2.2)))] := by
  refine mkV (own := RX1) rfl (by decide +kernel) (Nat.le_of_ble_eq_true rfl) (lv := [(0, .ref a_p0), (1, .ref a_p1), (2, .ref a_p2)]) rfl ?_
  intro p e s m below meth c Q A ls ar S hA hK hN hret H locs hP hD hS hl
  obtain ⟨hx, hb, hml, hown, hts⟩ := id S
  have hret : ∀ (w : Int32 × Int32 × (Nat → Int32) × Int32 × (Nat → Int64)), w = u → ∀ (H : Heap) (locs : List Loc) (ls : Array Slot) (pc : Nat), decode cX1_takeExactly pc = .ok (.return_, 1) → va_P D vwCl [(a_p0, .inr (3, [.ref a_p0_row, .int w.1, .int w.2.1])), (a_p0_row, .inl (cI, 792, .inl w.2.2.1)), (a_p1, .inr (9, [.int p1_kind, .int p1_minus, .long p1_m, .int p1_e, .int p1_narrowBelow])), (a_p2, .inr (5, [.ref a_p2_limbs, .int w.2.2.2.1])), (a_p2_limbs, .inl (cJ, 160, .inr (.inl w.2.2.2.2)))] H → va_D A [(a_p0, .inr (3, [.ref a_p0_row, .int w.1, .int w.2.1])), (a_p0_row, .inl (cI, 792, .inl w.2.2.1)), (a_p1, .inr (9, [.int p1_kind, .int p1_minus, .long p1_m, .int p1_e, .int p1_narrowBelow])), (a_p2, .inr (5, [.ref a_p2_limbs, .int w.2.2.2.1])), (a_p2_limbs, .inl (cJ, 160, .inr (.inl w.2.2.2.2)))] → va_S A s.heap H locs → W p l e (rmz 3 67) s m ar below meth c H locs 0 0 Q (F0 m pc ls []) := fun w hw => hw ▸ hret
  have keyB47 : ∀ (v4 : Int32) (p0_count : Int32) (p0_top : Int32) (p0_row : (Nat → Int32)) (p2_size : Int32) (p2_limbs : (Nat → Int64)) (H : Heap) (locs : List Loc) (ls : Array Slot), f_X1_takeExactly_B47 p1_m p1_e v4 p0_count p0_top p0_row p2_size p2_limbs = some u → va_P D vwCl [(a_p0, .inr (3, [.ref a_p0_row, .int p0_count, .int p0_top])), (a_p0_row, .inl (cI, 792, .inl p0_row)), (a_p1, .inr (9, [.int p1_kind, .int p1_minus, .long p1_m, .int p1_e, .int p1_narrowBelow])), (a_p2, .inr (5, [.ref a_p2_limbs, .int p2_size])), (a_p2_limbs, .inl (cJ, 160, .inr (.inl p2_limbs)))] H → va_D A [(a_p0, .inr (3, [.ref a_p0_row, .int p0_count, .int p0_top])), (a_p0_row, .inl (cI, 792, .inl p0_row)), (a_p1, .inr (9, [.int p1_kind, .int p1_minus, .long p1_m, .int p1_e, .int p1_narrowBelow])), (a_p2, .inr (5, [.ref a_p2_limbs, .int p2_size])), (a_p2_limbs, .inl (cJ, 160, .inr (.inl p2_limbs)))] → va_S A s.heap H locs → lv_has ls 5 [(0, .ref a_p0), (2, .ref a_p2), (4, .int v4)] → W p l e (rmz 3 67) s m ar below meth c H locs 0 0 Q (F0 m 47 ls []) := by
    intro v4 p0_count p0_top p0_row p2_size p2_limbs H locs ls hf hP hD hS hl
    unfold f_X1_takeExactly_B47 at hf
    refine lv_aload_n hx hb dX1_takeExactly_47 rfl (lv_at hl 0 rfl) ?_
    refine lv_aload_n hx hb dX1_takeExactly_48 rfl (lv_at hl 1 rfl) ?_
    obtain ⟨u7, hu8, hf⟩ := bdE hf
    refine cV_V (ws' := [(a_p0, .inr (3, [.ref a_p0_row, .int u7.1, .int p0_top])), (a_p0_row, .inl (cI, 792, .inl u7.2.1)), (a_p1, .inr (9, [.int p1_kind, .int p1_minus, .long p1_m, .int p1_e, .int p1_narrowBelow])), (a_p2, .inr (5, [.ref a_p2_limbs, .int u7.2.2.1])), (a_p2_limbs, .inl (cJ, 160, .inr (.inl u7.2.2.2)))]) (rest := []) S hK hN hA hP hD hS (c_X1_takeBackwards l D cI cJ a_p0 a_p0_row a_p2 a_p2_limbs  p0_count p0_top p0_row p2_size p2_limbs u7 hu8) mwX1_takeBackwards miX1_takeBackwards kmX1_48 [0, 1, 3, 4] rfl (by decide) rfl rfl rfl 0 rfl rfl ⟨Nat.le_of_ble_eq_true rfl, Nat.le_of_ble_eq_true rfl⟩ ⟨Nat.zero_le _, Nat.zero_le _⟩ hl.1 rfl rfl (Nat.le_of_ble_eq_true rfl) dX1_takeExactly_49 (fun H locs hP hD hS => ?_)
    refine lv_aload_n hx hb dX1_takeExactly_52 rfl (lv_at hl 0 rfl) ?_
    obtain ⟨u9, hu10, hf⟩ := bdE hf
    refine cV_V (ws' := [(a_p0, .inr (3, [.ref a_p0_row, .int u9, .int p0_top])), (a_p0_row, .inl (cI, 792, .inl u7.2.1)), (a_p1, .inr (9, [.int p1_kind, .int p1_minus, .long p1_m, .int p1_e, .int p1_narrowBelow])), (a_p2, .inr (5, [.ref a_p2_limbs, .int u7.2.2.1])), (a_p2_limbs, .inl (cJ, 160, .inr (.inl u7.2.2.2)))]) (rest := []) S hK hN hA hP hD hS (c_X1_trim l D cI cJ a_p0 a_p0_row  u7.1 p0_top u7.2.1 u9 hu10) mwX1_trim miX1_trim kmX1_52 [0, 1] rfl (by decide) rfl rfl rfl 0 rfl rfl ⟨Nat.le_of_ble_eq_true rfl, Nat.le_of_ble_eq_true rfl⟩ ⟨Nat.zero_le _, Nat.zero_le _⟩ hl.1 rfl rfl (Nat.le_of_ble_eq_true rfl) dX1_takeExactly_53 (fun H locs hP hD hS => ?_)
    refine lv_aload_n hx hb dX1_takeExactly_56 rfl (lv_at hl 0 rfl) ?_
    obtain ⟨u11, hu12, hf⟩ := bdE hf
    refine cV_V (ws' := [(a_p0, .inr (3, [.ref a_p0_row, .int u9, .int p0_top])), (a_p0_row, .inl (cI, 792, .inl u11)), (a_p1, .inr (9, [.int p1_kind, .int p1_minus, .long p1_m, .int p1_e, .int p1_narrowBelow])), (a_p2, .inr (5, [.ref a_p2_limbs, .int u7.2.2.1])), (a_p2_limbs, .inl (cJ, 160, .inr (.inl u7.2.2.2)))]) (rest := []) S hK hN hA hP hD hS (c_X1_turn l D cI cJ a_p0 a_p0_row  u9 p0_top u7.2.1 u11 hu12) mwX1_turn miX1_turn kmX1_55 [0, 1] rfl (by decide) rfl rfl rfl 0 rfl rfl ⟨Nat.le_of_ble_eq_true rfl, Nat.le_of_ble_eq_true rfl⟩ ⟨Nat.zero_le _, Nat.zero_le _⟩ hl.1 rfl rfl (Nat.le_of_ble_eq_true rfl) dX1_takeExactly_57 (fun H locs hP hD hS => ?_)
    refine lv_aload_n hx hb dX1_takeExactly_60 rfl (lv_at hl 0 rfl) ?_
    refine lv_aload_n hx hb dX1_takeExactly_61 rfl (lv_at hl 0 rfl) ?_
    refine va_get (D := D) (ci := 3) (v := .int u9) (C := RX1) (T := TX1) (N := 3) hx hb hts uwX1 hown hK hP 0 rfl rfl 1 (by decide) (hts _ kfX1_13) (fun _ h9 => h9) rfl dX1_takeExactly_62 ?_
    refine lv_iconst (v := 1) hx hb dX1_takeExactly_65 (by decide) ?_
    refine lv_isub hx hb dX1_takeExactly_66 ?_
    refine lv_iload hx hb dX1_takeExactly_67 (lv_at hl 2 rfl) ?_
    refine lv_iconst (v := 0) hx hb dX1_takeExactly_69 (by decide) ?_
    obtain ⟨u13, hu14, hf⟩ := bdE hf
    refine cS_I (ws' := [(a_p0, .inr (3, [.ref a_p0_row, .int u9, .int p0_top])), (a_p0_row, .inl (cI, 792, .inl u11)), (a_p1, .inr (9, [.int p1_kind, .int p1_minus, .long p1_m, .int p1_e, .int p1_narrowBelow])), (a_p2, .inr (5, [.ref a_p2_limbs, .int u7.2.2.1])), (a_p2_limbs, .inl (cJ, 160, .inr (.inl u7.2.2.2)))]) (rest := [.int (u9 - (1 : Int32)), .ref a_p0]) S hK hN hA hP hD hS (c_J9_min_7cf53 l D cI cJ  v4 (0 : Int32)  u13 hu14) mwJ9_min_7cf53 msJ9_min_7cf53 kmX1_58 [] rfl (by decide) rfl rfl rfl ⟨Nat.le_of_ble_eq_true rfl, Nat.le_of_ble_eq_true rfl⟩ ⟨Nat.zero_le _, Nat.zero_le _⟩ hl.1 rfl rfl (Nat.le_of_ble_eq_true rfl) dX1_takeExactly_70 (fun H locs hP hD hS => ?_)
    refine lv_iadd hx hb dX1_takeExactly_73 ?_
    refine va_put (D := D) (ci := 3) (v := .int ((u9 - (1 : Int32)) + u13)) (ty := tyX1 2) (C := RX1) (T := TX1) (N := 3) hx hb hts uwX1 tyX1 tyX1_ok nmX1 hown hK hP hD hS 0 rfl rfl 2 (by decide) (hts _ kfX1_17) (fun _ h9 => h9) rfl (tyX1_ok 2 (by decide)) rfl rfl (Nat.le_of_ble_eq_true rfl) dX1_takeExactly_74 (fun H locs hP hD hS => ?_)
    have hP : va_P D vwCl [(a_p0, .inr (3, [.ref a_p0_row, .int u9, .int ((u9 - (1 : Int32)) + u13)])), (a_p0_row, .inl (cI, 792, .inl u11)), (a_p1, .inr (9, [.int p1_kind, .int p1_minus, .long p1_m, .int p1_e, .int p1_narrowBelow])), (a_p2, .inr (5, [.ref a_p2_limbs, .int u7.2.2.1])), (a_p2_limbs, .inl (cJ, 160, .inr (.inl u7.2.2.2)))] H := hP
    have hD : va_D A [(a_p0, .inr (3, [.ref a_p0_row, .int u9, .int ((u9 - (1 : Int32)) + u13)])), (a_p0_row, .inl (cI, 792, .inl u11)), (a_p1, .inr (9, [.int p1_kind, .int p1_minus, .long p1_m, .int p1_e, .int p1_narrowBelow])), (a_p2, .inr (5, [.ref a_p2_limbs, .int u7.2.2.1])), (a_p2_limbs, .inl (cJ, 160, .inr (.inl u7.2.2.2)))] := hD
    refine lv_aload_n hx hb dX1_takeExactly_77 rfl (lv_at hl 0 rfl) ?_
    obtain ⟨u15, hu16, hf⟩ := bdE hf
    refine cV_V (ws' := [(a_p0, .inr (3, [.ref a_p0_row, .int u15, .int ((u9 - (1 : Int32)) + u13)])), (a_p0_row, .inl (cI, 792, .inl u11)), (a_p1, .inr (9, [.int p1_kind, .int p1_minus, .long p1_m, .int p1_e, .int p1_narrowBelow])), (a_p2, .inr (5, [.ref a_p2_limbs, .int u7.2.2.1])), (a_p2_limbs, .inl (cJ, 160, .inr (.inl u7.2.2.2)))]) (rest := []) S hK hN hA hP hD hS (c_X1_trim l D cI cJ a_p0 a_p0_row  u9 ((u9 - (1 : Int32)) + u13) u11 u15 hu16) mwX1_trim miX1_trim kmX1_52 [0, 1] rfl (by decide) rfl rfl rfl 0 rfl rfl ⟨Nat.le_of_ble_eq_true rfl, Nat.le_of_ble_eq_true rfl⟩ ⟨Nat.zero_le _, Nat.zero_le _⟩ hl.1 rfl rfl (Nat.le_of_ble_eq_true rfl) dX1_takeExactly_78 (fun H locs hP hD hS => ?_)
    exact hret _ (opE hf) H locs ls 81 dX1_takeExactly_81 hP hD hS
  unfold f_X1_takeExactly at hf
  refine lv_aload_n hx hb dX1_takeExactly_0 rfl (lv_at hl 1 rfl) ?_
  refine va_get (D := D) (ci := 9) (v := .long p1_m) (C := RX8) (T := TX8) (N := 5) hx hb hts uwX8 hown hK hP 2 rfl rfl 2 (by decide) (hts _ kfX1_20) (fun _ h9 => h9) rfl dX1_takeExactly_1 ?_
  obtain ⟨u1, hu2, hf⟩ := bdE hf
  refine cS_I (ws' := [(a_p0, .inr (3, [.ref a_p0_row, .int p0_count, .int p0_top])), (a_p0_row, .inl (cI, 792, .inl p0_row)), (a_p1, .inr (9, [.int p1_kind, .int p1_minus, .long p1_m, .int p1_e, .int p1_narrowBelow])), (a_p2, .inr (5, [.ref a_p2_limbs, .int p2_size])), (a_p2_limbs, .inl (cJ, 160, .inr (.inl p2_limbs)))]) (rest := []) S hK hN hA hP hD hS (c_J13_numberOfTrailingZeros_95d88 l D cI cJ  p1_m  u1 hu2) mwJ13_numberOfTrailingZeros_95d88 msJ13_numberOfTrailingZeros_95d88 kmX1_26 [] rfl (by decide) rfl rfl rfl ⟨Nat.le_of_ble_eq_true rfl, Nat.le_of_ble_eq_true rfl⟩ ⟨Nat.zero_le _, Nat.zero_le _⟩ hl.1 rfl rfl (Nat.le_of_ble_eq_true rfl) dX1_takeExactly_4 (fun H locs hP hD hS => ?_)
  refine lv_istore_n (lv' := [(3, .int u1), (0, .ref a_p0), (1, .ref a_p1), (2, .ref a_p2)]) hx hb dX1_takeExactly_7 rfl hl (by decide) rfl (fun ls hl => ?_)
  refine lv_aload_n hx hb dX1_takeExactly_8 rfl (lv_at hl 2 rfl) ?_
  refine va_get (D := D) (ci := 9) (v := .int p1_e) (C := RX8) (T := TX8) (N := 5) hx hb hts uwX8 hown hK hP 2 rfl rfl 3 (by decide) (hts _ kfX1_32) (fun _ h9 => h9) rfl dX1_takeExactly_9 ?_
  refine lv_iload_n hx hb dX1_takeExactly_12 rfl (lv_at hl 0 rfl) ?_
  refine lv_iadd hx hb dX1_takeExactly_13 ?_
  refine lv_istore (lv' := [(4, .int (p1_e + u1)), (3, .int u1), (0, .ref a_p0), (1, .ref a_p1), (2, .ref a_p2)]) hx hb dX1_takeExactly_14 hl (by decide) rfl (fun ls hl => ?_)
  refine lv_aload_n hx hb dX1_takeExactly_16 rfl (lv_at hl 4 rfl) ?_
  refine lv_aload_n hx hb dX1_takeExactly_17 rfl (lv_at hl 3 rfl) ?_
  refine va_get (D := D) (ci := 9) (v := .long p1_m) (C := RX8) (T := TX8) (N := 5) hx hb hts uwX8 hown hK hP 2 rfl rfl 2 (by decide) (hts _ kfX1_20) (fun _ h9 => h9) rfl dX1_takeExactly_18 ?_
  refine lv_iload_n hx hb dX1_takeExactly_21 rfl (lv_at hl 1 rfl) ?_
  refine lv_lushr (v := lus p1_m u1) hx hb dX1_takeExactly_22 rfl ?_
  obtain ⟨u3, hu4, hf⟩ := bdE hf
  refine cV_V (ws' := [(a_p0, .inr (3, [.ref a_p0_row, .int p0_count, .int p0_top])), (a_p0_row, .inl (cI, 792, .inl p0_row)), (a_p1, .inr (9, [.int p1_kind, .int p1_minus, .long p1_m, .int p1_e, .int p1_narrowBelow])), (a_p2, .inr (5, [.ref a_p2_limbs, .int u3.1])), (a_p2_limbs, .inl (cJ, 160, .inr (.inl u3.2)))]) (rest := []) S hK hN hA hP hD hS (c_X4_take l D cI cJ a_p2 a_p2_limbs (lus p1_m u1) p2_size p2_limbs u3 hu4) mwX4_take miX4_take kmX1_35 [3, 4] rfl (by decide) rfl rfl rfl 0 rfl rfl ⟨Nat.le_of_ble_eq_true rfl, Nat.le_of_ble_eq_true rfl⟩ ⟨Nat.zero_le _, Nat.zero_le _⟩ hl.1 rfl rfl (Nat.le_of_ble_eq_true rfl) dX1_takeExactly_23 (fun H locs hP hD hS => ?_)
  refine lv_iload hx hb dX1_takeExactly_26 (lv_at hl 0 rfl) ?_
  refine lv_if_lt (tgt := 40) hx hb dX1_takeExactly_28 (by decide) (fun hc19 => ?_) (fun hc19 => ?_)
  · have hf := ifT hc19 hf
    refine lv_aload_n hx hb dX1_takeExactly_40 rfl (lv_at hl 4 rfl) ?_
    refine lv_iload hx hb dX1_takeExactly_41 (lv_at hl 0 rfl) ?_
    refine lv_ineg hx hb dX1_takeExactly_43 ?_
    obtain ⟨u5, hu6, hf⟩ := bdE hf
    refine cV_V (ws' := [(a_p0, .inr (3, [.ref a_p0_row, .int p0_count, .int p0_top])), (a_p0_row, .inl (cI, 792, .inl p0_row)), (a_p1, .inr (9, [.int p1_kind, .int p1_minus, .long p1_m, .int p1_e, .int p1_narrowBelow])), (a_p2, .inr (5, [.ref a_p2_limbs, .int u5.1])), (a_p2_limbs, .inl (cJ, 160, .inr (.inl u5.2)))]) (rest := []) S hK hN hA hP hD hS (c_X4_scaleByFives l D cI cJ a_p2 a_p2_limbs (-(p1_e + u1)) u3.1 u3.2 u5 hu6) mwX4_scaleByFives miX4_scaleByFives kmX1_45 [3, 4] rfl (by decide) rfl rfl rfl 0 rfl rfl ⟨Nat.le_of_ble_eq_true rfl, Nat.le_of_ble_eq_true rfl⟩ ⟨Nat.zero_le _, Nat.zero_le _⟩ hl.1 rfl rfl (Nat.le_of_ble_eq_true rfl) dX1_takeExactly_44 (fun H locs hP hD hS => ?_)
    exact keyB47 (p1_e + u1) p0_count p0_top p0_row u5.1 u5.2 H locs ls hf hP hD hS (lv_sub hl [2, 4, 0] rfl)
  · have hf := ifF hc19 hf
    refine lv_aload_n hx hb dX1_takeExactly_31 rfl (lv_at hl 4 rfl) ?_
    refine lv_iload hx hb dX1_takeExactly_32 (lv_at hl 0 rfl) ?_
    obtain ⟨u17, hu18, hf⟩ := bdE hf
    refine cV_V (ws' := [(a_p0, .inr (3, [.ref a_p0_row, .int p0_count, .int p0_top])), (a_p0_row, .inl (cI, 792, .inl p0_row)), (a_p1, .inr (9, [.int p1_kind, .int p1_minus, .long p1_m, .int p1_e, .int p1_narrowBelow])), (a_p2, .inr (5, [.ref a_p2_limbs, .int u17.1])), (a_p2_limbs, .inl (cJ, 160, .inr (.inl u17.2)))]) (rest := []) S hK hN hA hP hD hS (c_X4_shiftUp l D cI cJ a_p2 a_p2_limbs (p1_e + u1) u3.1 u3.2 u17 hu18) mwX4_shiftUp miX4_shiftUp kmX1_41 [3, 4] rfl (by decide) rfl rfl rfl 0 rfl rfl ⟨Nat.le_of_ble_eq_true rfl, Nat.le_of_ble_eq_true rfl⟩ ⟨Nat.zero_le _, Nat.zero_le _⟩ hl.1 rfl rfl (Nat.le_of_ble_eq_true rfl) dX1_takeExactly_34 (fun H locs hP hD hS => ?_)
    refine lv_goto (tgt := 47) hx hb dX1_takeExactly_37 (by decide) ?_
    exact keyB47 (p1_e + u1) p0_count p0_top p0_row u17.1 u17.2 H locs ls hf hP hD hS (lv_sub hl [2, 4, 0] rfl)
set_option maxRecDepth 100000 in
set_option maxHeartbeats 4000000 in
theorem c_X1_addOneAt (l : Launch) (D : va_G) (cI cJ : ClassId) (a_p0 a_p0_row : Nat) (p1 : Int32) (p2 : Int32) (p0_count : Int32) (p0_top : Int32) (p0_row : (Nat → Int32)) (u : Int32 × Int32 × (Nat → Int32)) (hf : f_X1_addOneAt p1 p2 p0_count p0_top p0_row = some u) : CtV l yX1_addOneAt cX1_addOneAt 3 1 21 [.ref a_p0, .int p1, .int p2] D cI cJ [(a_p0, .inr (3, [.ref a_p0_row, .int p0_count, .int p0_top])), (a_p0_row, .inl (cI, 792, .inl p0_row))] [(a_p0, .inr (3, [.ref a_p0_row, .int u.1, .int u.2.1])), (a_p0_row, .inl (cI, 792, .inl u.2.2))] := by
  refine mkV (own := RX1) rfl (by decide +kernel) (Nat.le_of_ble_eq_true rfl) (lv := [(0, .ref a_p0), (1, .int p1), (2, .int p2)]) rfl ?_
  intro p e s m below meth c Q A ls ar S hA hK hN hret H locs hP hD hS hl
  obtain ⟨hx, hb, hml, hown, hts⟩ := id S
  have hret : ∀ (w : Int32 × Int32 × (Nat → Int32)), w = u → ∀ (H : Heap) (locs : List Loc) (ls : Array Slot) (pc : Nat), decode cX1_addOneAt pc = .ok (.return_, 1) → va_P D vwCl [(a_p0, .inr (3, [.ref a_p0_row, .int w.1, .int w.2.1])), (a_p0_row, .inl (cI, 792, .inl w.2.2))] H → va_D A [(a_p0, .inr (3, [.ref a_p0_row, .int w.1, .int w.2.1])), (a_p0_row, .inl (cI, 792, .inl w.2.2))] → va_S A s.heap H locs → W p l e (rmz 1 21) s m ar below meth c H locs 0 0 Q (F0 m pc ls []) := fun w hw => hw ▸ hret
  have keyB97 : ∀ (p0_count : Int32) (p0_top : Int32) (p0_row : (Nat → Int32)) (H : Heap) (locs : List Loc) (ls : Array Slot), f_X1_addOneAt_B97 p0_count p0_top p0_row = some u → va_P D vwCl [(a_p0, .inr (3, [.ref a_p0_row, .int p0_count, .int p0_top])), (a_p0_row, .inl (cI, 792, .inl p0_row))] H → va_D A [(a_p0, .inr (3, [.ref a_p0_row, .int p0_count, .int p0_top])), (a_p0_row, .inl (cI, 792, .inl p0_row))] → va_S A s.heap H locs → lv_has ls 3 [(0, .ref a_p0)] → W p l e (rmz 1 21) s m ar below meth c H locs 0 0 Q (F0 m 97 ls []) := by
    intro p0_count p0_top p0_row H locs ls hf hP hD hS hl
    unfold f_X1_addOneAt_B97 at hf
    refine lv_aload_n hx hb dX1_addOneAt_97 rfl (lv_at hl 0 rfl) ?_
    refine va_get (D := D) (ci := 3) (v := .int p0_count) (C := RX1) (T := TX1) (N := 3) hx hb hts uwX1 hown hK hP 0 rfl rfl 1 (by decide) (hts _ kfX1_13) (fun _ h9 => h9) rfl dX1_addOneAt_98 ?_
    refine lv_if_le (tgt := 122) hx hb dX1_addOneAt_101 (by decide) (fun hc4 => ?_) (fun hc4 => ?_)
    · have hf := ifT hc4 hf
      refine lv_aload_n hx hb dX1_addOneAt_122 rfl (lv_at hl 0 rfl) ?_
      refine lv_dup hx hb dX1_addOneAt_123 rfl ?_
      refine va_get (D := D) (ci := 3) (v := .int p0_top) (C := RX1) (T := TX1) (N := 3) hx hb hts uwX1 hown hK hP 0 rfl rfl 2 (by decide) (hts _ kfX1_17) (fun _ h9 => h9) rfl dX1_addOneAt_124 ?_
      refine lv_iconst (v := 1) hx hb dX1_addOneAt_127 (by decide) ?_
      refine lv_iadd hx hb dX1_addOneAt_128 ?_
      refine va_put (D := D) (ci := 3) (v := .int (p0_top + (1 : Int32))) (ty := tyX1 2) (C := RX1) (T := TX1) (N := 3) hx hb hts uwX1 tyX1 tyX1_ok nmX1 hown hK hP hD hS 0 rfl rfl 2 (by decide) (hts _ kfX1_17) (fun _ h9 => h9) rfl (tyX1_ok 2 (by decide)) rfl rfl (Nat.le_of_ble_eq_true rfl) dX1_addOneAt_129 (fun H locs hP hD hS => ?_)
      have hP : va_P D vwCl [(a_p0, .inr (3, [.ref a_p0_row, .int p0_count, .int (p0_top + (1 : Int32))])), (a_p0_row, .inl (cI, 792, .inl p0_row))] H := hP
      have hD : va_D A [(a_p0, .inr (3, [.ref a_p0_row, .int p0_count, .int (p0_top + (1 : Int32))])), (a_p0_row, .inl (cI, 792, .inl p0_row))] := hD
      refine lv_aload_n hx hb dX1_addOneAt_132 rfl (lv_at hl 0 rfl) ?_
      refine lv_iconst (v := 1) hx hb dX1_addOneAt_133 (by decide) ?_
      obtain ⟨u1, hu2, hf⟩ := bdE hf
      refine cV_V (ws' := [(a_p0, .inr (3, [.ref a_p0_row, .int u1.1, .int (p0_top + (1 : Int32))])), (a_p0_row, .inl (cI, 792, .inl u1.2))]) (rest := []) S hK hN hA hP hD hS (c_X1_append l D cI cJ a_p0 a_p0_row (1 : Int32) p0_count (p0_top + (1 : Int32)) p0_row u1 hu2) mwX1_append miX1_append kmX1_81 [0, 1] rfl (by decide) rfl rfl rfl 0 rfl rfl ⟨Nat.le_of_ble_eq_true rfl, Nat.le_of_ble_eq_true rfl⟩ ⟨Nat.zero_le _, Nat.zero_le _⟩ hl.1 rfl rfl (Nat.le_of_ble_eq_true rfl) dX1_addOneAt_134 (fun H locs hP hD hS => ?_)
      exact hret _ (opE hf) H locs ls 137 dX1_addOneAt_137 hP hD hS
    · have hf := ifF hc4 hf
      refine lv_aload_n hx hb dX1_addOneAt_104 rfl (lv_at hl 0 rfl) ?_
      refine va_get (D := D) (ci := 3) (v := .ref a_p0_row) (C := RX1) (T := TX1) (N := 3) hx hb hts uwX1 hown hK hP 0 rfl rfl 0 (by decide) (hts _ kfX1_9) (fun _ h9 => h9) rfl dX1_addOneAt_105 ?_
      refine lv_aload_n hx hb dX1_addOneAt_108 rfl (lv_at hl 0 rfl) ?_
      refine va_get (D := D) (ci := 3) (v := .int p0_count) (C := RX1) (T := TX1) (N := 3) hx hb hts uwX1 hown hK hP 0 rfl rfl 1 (by decide) (hts _ kfX1_13) (fun _ h9 => h9) rfl dX1_addOneAt_109 ?_
      refine lv_iconst (v := 1) hx hb dX1_addOneAt_112 (by decide) ?_
      refine lv_isub hx hb dX1_addOneAt_113 ?_
      refine lv_dup2_11 hx hb dX1_addOneAt_114 rfl rfl ?_
      obtain ⟨hi3, hf⟩ := gdE hf
      refine va_iald hx hb hK hP 1 0 rfl rfl hi3 dX1_addOneAt_115 ?_
      refine lv_iconst (v := 1) hx hb dX1_addOneAt_116 (by decide) ?_
      refine lv_iadd hx hb dX1_addOneAt_117 ?_
      refine va_iast hx hb hK hP hD hS 1 0 rfl rfl hi3 dX1_addOneAt_118 (fun H locs hP hD hS => ?_)
      have hP : va_P D vwCl [(a_p0, .inr (3, [.ref a_p0_row, .int p0_count, .int p0_top])), (a_p0_row, .inl (cI, 792, .inl (upd p0_row (p0_count - (1 : Int32)).toNatClampNeg ((p0_row (p0_count - (1 : Int32)).toNatClampNeg) + (1 : Int32)))))] H := hP
      have hD : va_D A [(a_p0, .inr (3, [.ref a_p0_row, .int p0_count, .int p0_top])), (a_p0_row, .inl (cI, 792, .inl (upd p0_row (p0_count - (1 : Int32)).toNatClampNeg ((p0_row (p0_count - (1 : Int32)).toNatClampNeg) + (1 : Int32)))))] := hD
      refine lv_goto (tgt := 137) hx hb dX1_addOneAt_119 (by decide) ?_
      exact hret _ (opE hf) H locs ls 137 dX1_addOneAt_137 hP hD hS
  have keyL61 : ∀ (n : Nat) (p0_count : Int32) (p0_top : Int32) (p0_row : (Nat → Int32)) (H : Heap) (locs : List Loc) (ls : Array Slot), f_X1_addOneAt_L61 n p0_count p0_top p0_row = some u → va_P D vwCl [(a_p0, .inr (3, [.ref a_p0_row, .int p0_count, .int p0_top])), (a_p0_row, .inl (cI, 792, .inl p0_row))] H → va_D A [(a_p0, .inr (3, [.ref a_p0_row, .int p0_count, .int p0_top])), (a_p0_row, .inl (cI, 792, .inl p0_row))] → va_S A s.heap H locs → lv_has ls 3 [(0, .ref a_p0)] → W p l e (rmz 1 21) s m ar below meth c H locs 0 0 Q (F0 m 61 ls []) := by
    intro n
    induction n with
      | zero =>
        intro p0_count p0_top p0_row H locs ls hf
        cases hf
      | succ n ih =>
        intro p0_count p0_top p0_row H locs ls hf hP hD hS hl
        rw [f_X1_addOneAt_L61] at hf
        refine lv_aload_n hx hb dX1_addOneAt_61 rfl (lv_at hl 0 rfl) ?_
        refine va_get (D := D) (ci := 3) (v := .int p0_count) (C := RX1) (T := TX1) (N := 3) hx hb hts uwX1 hown hK hP 0 rfl rfl 1 (by decide) (hts _ kfX1_13) (fun _ h9 => h9) rfl dX1_addOneAt_62 ?_
        refine lv_if_le (tgt := 97) hx hb dX1_addOneAt_65 (by decide) (fun hc7 => ?_) (fun hc7 => ?_)
        · have hf := ifT hc7 hf
          exact keyB97 p0_count p0_top p0_row H locs ls hf hP hD hS (lv_sub hl [0] rfl)
        · have hf := ifF hc7 hf
          refine lv_aload_n hx hb dX1_addOneAt_68 rfl (lv_at hl 0 rfl) ?_
          refine va_get (D := D) (ci := 3) (v := .ref a_p0_row) (C := RX1) (T := TX1) (N := 3) hx hb hts uwX1 hown hK hP 0 rfl rfl 0 (by decide) (hts _ kfX1_9) (fun _ h9 => h9) rfl dX1_addOneAt_69 ?_
          refine lv_aload_n hx hb dX1_addOneAt_72 rfl (lv_at hl 0 rfl) ?_
          refine va_get (D := D) (ci := 3) (v := .int p0_count) (C := RX1) (T := TX1) (N := 3) hx hb hts uwX1 hown hK hP 0 rfl rfl 1 (by decide) (hts _ kfX1_13) (fun _ h9 => h9) rfl dX1_addOneAt_73 ?_
          refine lv_iconst (v := 1) hx hb dX1_addOneAt_76 (by decide) ?_
          refine lv_isub hx hb dX1_addOneAt_77 ?_
          obtain ⟨hi5, hf⟩ := gdE hf
          refine va_iald hx hb hK hP 1 0 rfl rfl hi5 dX1_addOneAt_78 ?_
          refine lv_bipush (v := 9) hx hb dX1_addOneAt_79 (by decide) ?_
          refine lv_icmp_ne (tgt := 97) hx hb dX1_addOneAt_81 (by decide) (fun hc6 => ?_) (fun hc6 => ?_)
          · have hf := ifF hc6 hf
            exact keyB97 p0_count p0_top p0_row H locs ls hf hP hD hS (lv_sub hl [0] rfl)
          · have hf := ifT hc6 hf
            refine lv_aload_n hx hb dX1_addOneAt_84 rfl (lv_at hl 0 rfl) ?_
            refine lv_dup hx hb dX1_addOneAt_85 rfl ?_
            refine va_get (D := D) (ci := 3) (v := .int p0_count) (C := RX1) (T := TX1) (N := 3) hx hb hts uwX1 hown hK hP 0 rfl rfl 1 (by decide) (hts _ kfX1_13) (fun _ h9 => h9) rfl dX1_addOneAt_86 ?_
            refine lv_iconst (v := 1) hx hb dX1_addOneAt_89 (by decide) ?_
            refine lv_isub hx hb dX1_addOneAt_90 ?_
            refine va_put (D := D) (ci := 3) (v := .int (p0_count - (1 : Int32))) (ty := tyX1 1) (C := RX1) (T := TX1) (N := 3) hx hb hts uwX1 tyX1 tyX1_ok nmX1 hown hK hP hD hS 0 rfl rfl 1 (by decide) (hts _ kfX1_13) (fun _ h9 => h9) rfl (tyX1_ok 1 (by decide)) rfl rfl (Nat.le_of_ble_eq_true rfl) dX1_addOneAt_91 (fun H locs hP hD hS => ?_)
            have hP : va_P D vwCl [(a_p0, .inr (3, [.ref a_p0_row, .int (p0_count - (1 : Int32)), .int p0_top])), (a_p0_row, .inl (cI, 792, .inl p0_row))] H := hP
            have hD : va_D A [(a_p0, .inr (3, [.ref a_p0_row, .int (p0_count - (1 : Int32)), .int p0_top])), (a_p0_row, .inl (cI, 792, .inl p0_row))] := hD
            refine lv_goto (tgt := 61) hx hb dX1_addOneAt_94 (by decide) ?_
            exact ih (p0_count - (1 : Int32)) p0_top p0_row H locs ls hf hP hD hS (lv_sub hl [0] rfl)
  have keyL20 : ∀ (n : Nat) (v2 : Int32) (p0_count : Int32) (p0_top : Int32) (p0_row : (Nat → Int32)) (H : Heap) (locs : List Loc) (ls : Array Slot), f_X1_addOneAt_L20 n v2 p0_count p0_top p0_row = some u → va_P D vwCl [(a_p0, .inr (3, [.ref a_p0_row, .int p0_count, .int p0_top])), (a_p0_row, .inl (cI, 792, .inl p0_row))] H → va_D A [(a_p0, .inr (3, [.ref a_p0_row, .int p0_count, .int p0_top])), (a_p0_row, .inl (cI, 792, .inl p0_row))] → va_S A s.heap H locs → lv_has ls 3 [(0, .ref a_p0), (2, .int v2)] → W p l e (rmz 1 21) s m ar below meth c H locs 0 0 Q (F0 m 20 ls []) := by
    intro n
    induction n with
      | zero =>
        intro v2 p0_count p0_top p0_row H locs ls hf
        cases hf
      | succ n ih =>
        intro v2 p0_count p0_top p0_row H locs ls hf hP hD hS hl
        rw [f_X1_addOneAt_L20] at hf
        refine lv_aload_n hx hb dX1_addOneAt_20 rfl (lv_at hl 0 rfl) ?_
        refine va_get (D := D) (ci := 3) (v := .int p0_count) (C := RX1) (T := TX1) (N := 3) hx hb hts uwX1 hown hK hP 0 rfl rfl 1 (by decide) (hts _ kfX1_13) (fun _ h9 => h9) rfl dX1_addOneAt_21 ?_
        refine lv_iload_n hx hb dX1_addOneAt_24 rfl (lv_at hl 1 rfl) ?_
        refine lv_icmp_ge (tgt := 61) hx hb dX1_addOneAt_25 (by decide) (fun hc10 => ?_) (fun hc10 => ?_)
        · have hf := ifT hc10 hf
          exact keyL61 FU p0_count p0_top p0_row H locs ls hf hP hD hS (lv_sub hl [0] rfl)
        · have hf := ifF hc10 hf
          refine lv_aload_n hx hb dX1_addOneAt_28 rfl (lv_at hl 0 rfl) ?_
          refine va_get (D := D) (ci := 3) (v := .int p0_count) (C := RX1) (T := TX1) (N := 3) hx hb hts uwX1 hown hK hP 0 rfl rfl 1 (by decide) (hts _ kfX1_13) (fun _ h9 => h9) rfl dX1_addOneAt_29 ?_
          refine lv_sipush (v := 792) hx hb dX1_addOneAt_32 (by decide) ?_
          refine lv_icmp_ge (tgt := 61) hx hb dX1_addOneAt_35 (by decide) (fun hc9 => ?_) (fun hc9 => ?_)
          · have hf := ifT hc9 hf
            exact keyL61 FU p0_count p0_top p0_row H locs ls hf hP hD hS (lv_sub hl [0] rfl)
          · have hf := ifF hc9 hf
            refine lv_aload_n hx hb dX1_addOneAt_38 rfl (lv_at hl 0 rfl) ?_
            refine va_get (D := D) (ci := 3) (v := .ref a_p0_row) (C := RX1) (T := TX1) (N := 3) hx hb hts uwX1 hown hK hP 0 rfl rfl 0 (by decide) (hts _ kfX1_9) (fun _ h9 => h9) rfl dX1_addOneAt_39 ?_
            refine lv_aload_n hx hb dX1_addOneAt_42 rfl (lv_at hl 0 rfl) ?_
            refine va_get (D := D) (ci := 3) (v := .int p0_count) (C := RX1) (T := TX1) (N := 3) hx hb hts uwX1 hown hK hP 0 rfl rfl 1 (by decide) (hts _ kfX1_13) (fun _ h9 => h9) rfl dX1_addOneAt_43 ?_
            refine lv_iconst (v := 0) hx hb dX1_addOneAt_46 (by decide) ?_
            obtain ⟨hi8, hf⟩ := gdE hf
            refine va_iast hx hb hK hP hD hS 1 0 rfl rfl hi8 dX1_addOneAt_47 (fun H locs hP hD hS => ?_)
            have hP : va_P D vwCl [(a_p0, .inr (3, [.ref a_p0_row, .int p0_count, .int p0_top])), (a_p0_row, .inl (cI, 792, .inl (upd p0_row p0_count.toNatClampNeg (0 : Int32))))] H := hP
            have hD : va_D A [(a_p0, .inr (3, [.ref a_p0_row, .int p0_count, .int p0_top])), (a_p0_row, .inl (cI, 792, .inl (upd p0_row p0_count.toNatClampNeg (0 : Int32))))] := hD
            refine lv_aload_n hx hb dX1_addOneAt_48 rfl (lv_at hl 0 rfl) ?_
            refine lv_dup hx hb dX1_addOneAt_49 rfl ?_
            refine va_get (D := D) (ci := 3) (v := .int p0_count) (C := RX1) (T := TX1) (N := 3) hx hb hts uwX1 hown hK hP 0 rfl rfl 1 (by decide) (hts _ kfX1_13) (fun _ h9 => h9) rfl dX1_addOneAt_50 ?_
            refine lv_iconst (v := 1) hx hb dX1_addOneAt_53 (by decide) ?_
            refine lv_iadd hx hb dX1_addOneAt_54 ?_
            refine va_put (D := D) (ci := 3) (v := .int (p0_count + (1 : Int32))) (ty := tyX1 1) (C := RX1) (T := TX1) (N := 3) hx hb hts uwX1 tyX1 tyX1_ok nmX1 hown hK hP hD hS 0 rfl rfl 1 (by decide) (hts _ kfX1_13) (fun _ h9 => h9) rfl (tyX1_ok 1 (by decide)) rfl rfl (Nat.le_of_ble_eq_true rfl) dX1_addOneAt_55 (fun H locs hP hD hS => ?_)
            have hP : va_P D vwCl [(a_p0, .inr (3, [.ref a_p0_row, .int (p0_count + (1 : Int32)), .int p0_top])), (a_p0_row, .inl (cI, 792, .inl (upd p0_row p0_count.toNatClampNeg (0 : Int32))))] H := hP
            have hD : va_D A [(a_p0, .inr (3, [.ref a_p0_row, .int (p0_count + (1 : Int32)), .int p0_top])), (a_p0_row, .inl (cI, 792, .inl (upd p0_row p0_count.toNatClampNeg (0 : Int32))))] := hD
            refine lv_goto (tgt := 20) hx hb dX1_addOneAt_58 (by decide) ?_
            exact ih v2 (p0_count + (1 : Int32)) p0_top (upd p0_row p0_count.toNatClampNeg (0 : Int32)) H locs ls hf hP hD hS (lv_sub hl [0, 1] rfl)
  unfold f_X1_addOneAt at hf
  refine lv_iload_n hx hb dX1_addOneAt_0 rfl (lv_at hl 2 rfl) ?_
  refine lv_if_gt (tgt := 20) hx hb dX1_addOneAt_1 (by decide) (fun hc13 => ?_) (fun hc13 => ?_)
  · have hf := ifT hc13 hf
    exact keyL20 FU p2 p0_count p0_top p0_row H locs ls hf hP hD hS (lv_sub hl [0, 2] rfl)
  · have hf := ifF hc13 hf
    refine lv_aload_n hx hb dX1_addOneAt_4 rfl (lv_at hl 0 rfl) ?_
    refine lv_iconst (v := 0) hx hb dX1_addOneAt_5 (by decide) ?_
    refine va_put (D := D) (ci := 3) (v := .int (0 : Int32)) (ty := tyX1 1) (C := RX1) (T := TX1) (N := 3) hx hb hts uwX1 tyX1 tyX1_ok nmX1 hown hK hP hD hS 0 rfl rfl 1 (by decide) (hts _ kfX1_13) (fun _ h9 => h9) rfl (tyX1_ok 1 (by decide)) rfl rfl (Nat.le_of_ble_eq_true rfl) dX1_addOneAt_6 (fun H locs hP hD hS => ?_)
    have hP : va_P D vwCl [(a_p0, .inr (3, [.ref a_p0_row, .int (0 : Int32), .int p0_top])), (a_p0_row, .inl (cI, 792, .inl p0_row))] H := hP
    have hD : va_D A [(a_p0, .inr (3, [.ref a_p0_row, .int (0 : Int32), .int p0_top])), (a_p0_row, .inl (cI, 792, .inl p0_row))] := hD
    refine lv_aload_n hx hb dX1_addOneAt_9 rfl (lv_at hl 0 rfl) ?_
    refine lv_iload_n hx hb dX1_addOneAt_10 rfl (lv_at hl 1 rfl) ?_
    refine va_put (D := D) (ci := 3) (v := .int p1) (ty := tyX1 2) (C := RX1) (T := TX1) (N := 3) hx hb hts uwX1 tyX1 tyX1_ok nmX1 hown hK hP hD hS 0 rfl rfl 2 (by decide) (hts _ kfX1_17) (fun _ h9 => h9) rfl (tyX1_ok 2 (by decide)) rfl rfl (Nat.le_of_ble_eq_true rfl) dX1_addOneAt_11 (fun H locs hP hD hS => ?_)
    have hP : va_P D vwCl [(a_p0, .inr (3, [.ref a_p0_row, .int (0 : Int32), .int p1])), (a_p0_row, .inl (cI, 792, .inl p0_row))] H := hP
    have hD : va_D A [(a_p0, .inr (3, [.ref a_p0_row, .int (0 : Int32), .int p1])), (a_p0_row, .inl (cI, 792, .inl p0_row))] := hD
    refine lv_aload_n hx hb dX1_addOneAt_14 rfl (lv_at hl 0 rfl) ?_
    refine lv_iconst (v := 1) hx hb dX1_addOneAt_15 (by decide) ?_
    obtain ⟨u11, hu12, hf⟩ := bdE hf
    refine cV_V (ws' := [(a_p0, .inr (3, [.ref a_p0_row, .int u11.1, .int p1])), (a_p0_row, .inl (cI, 792, .inl u11.2))]) (rest := []) S hK hN hA hP hD hS (c_X1_append l D cI cJ a_p0 a_p0_row (1 : Int32) (0 : Int32) p1 p0_row u11 hu12) mwX1_append miX1_append kmX1_81 [0, 1] rfl (by decide) rfl rfl rfl 0 rfl rfl ⟨Nat.le_of_ble_eq_true rfl, Nat.le_of_ble_eq_true rfl⟩ ⟨Nat.zero_le _, Nat.zero_le _⟩ hl.1 rfl rfl (Nat.le_of_ble_eq_true rfl) dX1_addOneAt_16 (fun H locs hP hD hS => ?_)
    exact hret _ (opE hf) H locs ls 19 dX1_addOneAt_19 hP hD hS
set_option maxRecDepth 100000 in
set_option maxHeartbeats 4000000 in
theorem c_X1_cut (l : Launch) (D : va_G) (cI cJ : ClassId) (a_p0 a_p0_row : Nat) (p1 : Int32) (p2 : Int32) (p3 : Int32) (p0_count : Int32) (p0_top : Int32) (p0_row : (Nat → Int32)) (u : Int32 × Int32 × (Nat → Int32)) (hf : f_X1_cut p1 p2 p3 p0_count p0_top p0_row = some u) : CtV l yX1_cut cX1_cut 10 2 43 [.ref a_p0, .int p1, .int p2, .int p3] D cI cJ [(a_p0, .inr (3, [.ref a_p0_row, .int p0_count, .int p0_top])), (a_p0_row, .inl (cI, 792, .inl p0_row))] [(a_p0, .inr (3, [.ref a_p0_row, .int u.1, .int u.2.1])), (a_p0_row, .inl (cI, 792, .inl u.2.2))] := by
  refine mkV (own := RX1) rfl (by decide +kernel) (Nat.le_of_ble_eq_true rfl) (lv := [(0, .ref a_p0), (1, .int p1), (2, .int p2), (3, .int p3)]) rfl ?_
  intro p e s m below meth c Q A ls ar S hA hK hN hret H locs hP hD hS hl
  obtain ⟨hx, hb, hml, hown, hts⟩ := id S
  have hret : ∀ (w : Int32 × Int32 × (Nat → Int32)), w = u → ∀ (H : Heap) (locs : List Loc) (ls : Array Slot) (pc : Nat), decode cX1_cut pc = .ok (.return_, 1) → va_P D vwCl [(a_p0, .inr (3, [.ref a_p0_row, .int w.1, .int w.2.1])), (a_p0_row, .inl (cI, 792, .inl w.2.2))] H → va_D A [(a_p0, .inr (3, [.ref a_p0_row, .int w.1, .int w.2.1])), (a_p0_row, .inl (cI, 792, .inl w.2.2))] → va_S A s.heap H locs → W p l e (rmz 2 43) s m ar below meth c H locs 0 0 Q (F0 m pc ls []) := fun w hw => hw ▸ hret
  have keyB78 : ∀ (v1 : Int32) (v2 : Int32) (v3 : Int32) (v5 : Int32) (v6 : Int32) (s0 : Int32) (p0_count : Int32) (p0_top : Int32) (p0_row : (Nat → Int32)) (H : Heap) (locs : List Loc) (ls : Array Slot), f_X1_cut_B78 v1 v2 v3 v5 v6 s0 p0_count p0_top p0_row = some u → va_P D vwCl [(a_p0, .inr (3, [.ref a_p0_row, .int p0_count, .int p0_top])), (a_p0_row, .inl (cI, 792, .inl p0_row))] H → va_D A [(a_p0, .inr (3, [.ref a_p0_row, .int p0_count, .int p0_top])), (a_p0_row, .inl (cI, 792, .inl p0_row))] → va_S A s.heap H locs → lv_has ls 10 [(0, .ref a_p0), (1, .int v1), (2, .int v2), (3, .int v3), (5, .int v5), (6, .int v6)] → W p l e (rmz 2 43) s m ar below meth c H locs 0 0 Q (F0 m 78 ls [.int s0]) := by
    intro v1 v2 v3 v5 v6 s0 p0_count p0_top p0_row H locs ls hf hP hD hS hl
    unfold f_X1_cut_B78 at hf
    refine lv_istore (lv' := [(7, .int s0), (0, .ref a_p0), (1, .int v1), (2, .int v2), (3, .int v3), (5, .int v5), (6, .int v6)]) hx hb dX1_cut_78 hl (by decide) rfl (fun ls hl => ?_)
    refine lv_iload_n hx hb dX1_cut_80 rfl (lv_at hl 4 rfl) ?_
    refine lv_iload_n hx hb dX1_cut_81 rfl (lv_at hl 3 rfl) ?_
    refine lv_iload hx hb dX1_cut_82 (lv_at hl 0 rfl) ?_
    refine lv_iload hx hb dX1_cut_84 (lv_at hl 5 rfl) ?_
    refine lv_iload hx hb dX1_cut_86 (lv_at hl 6 rfl) ?_
    obtain ⟨u5, hu6, hf⟩ := bdE hf
    refine cS_I (ws' := [(a_p0, .inr (3, [.ref a_p0_row, .int p0_count, .int p0_top])), (a_p0_row, .inl (cI, 792, .inl p0_row))]) (rest := []) S hK hN hA hP hD hS (c_X2_goesOn l D cI cJ  v3 v2 s0 v5 v6  u5 hu6) mwX2_goesOn msX2_goesOn kmX1_68 [] rfl (by decide) rfl rfl rfl ⟨Nat.le_of_ble_eq_true rfl, Nat.le_of_ble_eq_true rfl⟩ ⟨Nat.zero_le _, Nat.zero_le _⟩ hl.1 rfl rfl (Nat.le_of_ble_eq_true rfl) dX1_cut_88 (fun H locs hP hD hS => ?_)
    refine lv_istore (lv' := [(8, .int u5), (7, .int s0), (0, .ref a_p0), (1, .int v1), (2, .int v2), (3, .int v3), (5, .int v5), (6, .int v6)]) hx hb dX1_cut_91 hl (by decide) rfl (fun ls hl => ?_)
    refine lv_aload_n hx hb dX1_cut_93 rfl (lv_at hl 2 rfl) ?_
    refine va_get (D := D) (ci := 3) (v := .int p0_top) (C := RX1) (T := TX1) (N := 3) hx hb hts uwX1 hown hK hP 0 rfl rfl 2 (by decide) (hts _ kfX1_17) (fun _ h9 => h9) rfl dX1_cut_94 ?_
    refine lv_iload_n hx hb dX1_cut_97 rfl (lv_at hl 3 rfl) ?_
    refine lv_isub hx hb dX1_cut_98 ?_
    refine lv_iconst (v := 1) hx hb dX1_cut_99 (by decide) ?_
    refine lv_iadd hx hb dX1_cut_100 ?_
    refine lv_istore (lv' := [(9, .int ((p0_top - v1) + (1 : Int32))), (8, .int u5), (7, .int s0), (0, .ref a_p0), (1, .int v1), (2, .int v2), (3, .int v3), (5, .int v5), (6, .int v6)]) hx hb dX1_cut_101 hl (by decide) rfl (fun ls hl => ?_)
    refine lv_aload_n hx hb dX1_cut_103 rfl (lv_at hl 3 rfl) ?_
    refine lv_iload_n hx hb dX1_cut_104 rfl (lv_at hl 4 rfl) ?_
    refine lv_iconst (v := 0) hx hb dX1_cut_105 (by decide) ?_
    obtain ⟨u7, hu8, hf⟩ := bdE hf
    refine cS_I (ws' := [(a_p0, .inr (3, [.ref a_p0_row, .int p0_count, .int p0_top])), (a_p0_row, .inl (cI, 792, .inl p0_row))]) (rest := [.ref a_p0]) S hK hN hA hP hD hS (c_J9_max_7cf53 l D cI cJ  v1 (0 : Int32)  u7 hu8) mwJ9_max_7cf53 msJ9_max_7cf53 kmX1_74 [] rfl (by decide) rfl rfl rfl ⟨Nat.le_of_ble_eq_true rfl, Nat.le_of_ble_eq_true rfl⟩ ⟨Nat.zero_le _, Nat.zero_le _⟩ hl.1 rfl rfl (Nat.le_of_ble_eq_true rfl) dX1_cut_106 (fun H locs hP hD hS => ?_)
    refine va_put (D := D) (ci := 3) (v := .int u7) (ty := tyX1 1) (C := RX1) (T := TX1) (N := 3) hx hb hts uwX1 tyX1 tyX1_ok nmX1 hown hK hP hD hS 0 rfl rfl 1 (by decide) (hts _ kfX1_13) (fun _ h9 => h9) rfl (tyX1_ok 1 (by decide)) rfl rfl (Nat.le_of_ble_eq_true rfl) dX1_cut_109 (fun H locs hP hD hS => ?_)
    have hP : va_P D vwCl [(a_p0, .inr (3, [.ref a_p0_row, .int u7, .int p0_top])), (a_p0_row, .inl (cI, 792, .inl p0_row))] H := hP
    have hD : va_D A [(a_p0, .inr (3, [.ref a_p0_row, .int u7, .int p0_top])), (a_p0_row, .inl (cI, 792, .inl p0_row))] := hD
    refine lv_aload_n hx hb dX1_cut_112 rfl (lv_at hl 3 rfl) ?_
    obtain ⟨u9, hu10, hf⟩ := bdE hf
    refine cV_V (ws' := [(a_p0, .inr (3, [.ref a_p0_row, .int u9, .int p0_top])), (a_p0_row, .inl (cI, 792, .inl p0_row))]) (rest := []) S hK hN hA hP hD hS (c_X1_trim l D cI cJ a_p0 a_p0_row  u7 p0_top p0_row u9 hu10) mwX1_trim miX1_trim kmX1_52 [0, 1] rfl (by decide) rfl rfl rfl 0 rfl rfl ⟨Nat.le_of_ble_eq_true rfl, Nat.le_of_ble_eq_true rfl⟩ ⟨Nat.zero_le _, Nat.zero_le _⟩ hl.1 rfl rfl (Nat.le_of_ble_eq_true rfl) dX1_cut_113 (fun H locs hP hD hS => ?_)
    refine lv_iload hx hb dX1_cut_116 (lv_at hl 1 rfl) ?_
    refine lv_if_eq (tgt := 128) hx hb dX1_cut_118 (by decide) (fun hc13 => ?_) (fun hc13 => ?_)
    · have hf := ifT hc13 hf
      exact hret _ (opE hf) H locs ls 128 dX1_cut_128 hP hD hS
    · have hf := ifF hc13 hf
      refine lv_aload_n hx hb dX1_cut_121 rfl (lv_at hl 3 rfl) ?_
      refine lv_iload hx hb dX1_cut_122 (lv_at hl 0 rfl) ?_
      refine lv_iload_n hx hb dX1_cut_124 rfl (lv_at hl 4 rfl) ?_
      obtain ⟨u11, hu12, hf⟩ := bdE hf
      refine cV_V (ws' := [(a_p0, .inr (3, [.ref a_p0_row, .int u11.1, .int u11.2.1])), (a_p0_row, .inl (cI, 792, .inl u11.2.2))]) (rest := []) S hK hN hA hP hD hS (c_X1_addOneAt l D cI cJ a_p0 a_p0_row ((p0_top - v1) + (1 : Int32)) v1 u9 p0_top p0_row u11 hu12) mwX1_addOneAt miX1_addOneAt kmX1_77 [0, 1] rfl (by decide) rfl rfl rfl 0 rfl rfl ⟨Nat.le_of_ble_eq_true rfl, Nat.le_of_ble_eq_true rfl⟩ ⟨Nat.zero_le _, Nat.zero_le _⟩ hl.1 rfl rfl (Nat.le_of_ble_eq_true rfl) dX1_cut_125 (fun H locs hP hD hS => ?_)
      exact hret _ (opE hf) H locs ls 128 dX1_cut_128 hP hD hS
  have keyB59 : ∀ (v1 : Int32) (v2 : Int32) (v3 : Int32) (v5 : Int32) (s0 : Int32) (p0_count : Int32) (p0_top : Int32) (p0_row : (Nat → Int32)) (H : Heap) (locs : List Loc) (ls : Array Slot), f_X1_cut_B59 v1 v2 v3 v5 s0 p0_count p0_top p0_row = some u → va_P D vwCl [(a_p0, .inr (3, [.ref a_p0_row, .int p0_count, .int p0_top])), (a_p0_row, .inl (cI, 792, .inl p0_row))] H → va_D A [(a_p0, .inr (3, [.ref a_p0_row, .int p0_count, .int p0_top])), (a_p0_row, .inl (cI, 792, .inl p0_row))] → va_S A s.heap H locs → lv_has ls 10 [(0, .ref a_p0), (1, .int v1), (2, .int v2), (3, .int v3), (5, .int v5)] → W p l e (rmz 2 43) s m ar below meth c H locs 0 0 Q (F0 m 59 ls [.int s0]) := by
    intro v1 v2 v3 v5 s0 p0_count p0_top p0_row H locs ls hf hP hD hS hl
    unfold f_X1_cut_B59 at hf
    refine lv_istore (lv' := [(6, .int s0), (0, .ref a_p0), (1, .int v1), (2, .int v2), (3, .int v3), (5, .int v5)]) hx hb dX1_cut_59 hl (by decide) rfl (fun ls hl => ?_)
    refine lv_aload_n hx hb dX1_cut_61 rfl (lv_at hl 1 rfl) ?_
    refine lv_iload_n hx hb dX1_cut_62 rfl (lv_at hl 2 rfl) ?_
    refine lv_iconst (v := 1) hx hb dX1_cut_63 (by decide) ?_
    refine lv_isub hx hb dX1_cut_64 ?_
    obtain ⟨u3, hu4, hf⟩ := bdE hf
    refine cV_I (ws' := [(a_p0, .inr (3, [.ref a_p0_row, .int p0_count, .int p0_top])), (a_p0_row, .inl (cI, 792, .inl p0_row))]) (rest := []) S hK hN hA hP hD hS (c_X1_at l D cI cJ a_p0 a_p0_row (v1 - (1 : Int32)) p0_count p0_top p0_row u3 hu4) mwX1_at miX1_at kmX1_64 [0, 1] rfl (by decide) rfl rfl rfl 0 rfl rfl ⟨Nat.le_of_ble_eq_true rfl, Nat.le_of_ble_eq_true rfl⟩ ⟨Nat.zero_le _, Nat.zero_le _⟩ hl.1 rfl rfl (Nat.le_of_ble_eq_true rfl) dX1_cut_65 (fun H locs hP hD hS => ?_)
    refine lv_iconst (v := 1) hx hb dX1_cut_68 (by decide) ?_
    refine lv_iand hx hb dX1_cut_69 ?_
    refine lv_if_eq (tgt := 77) hx hb dX1_cut_70 (by decide) (fun hc14 => ?_) (fun hc14 => ?_)
    · have hf := ifT hc14 hf
      refine lv_iconst (v := 0) hx hb dX1_cut_77 (by decide) ?_
      exact keyB78 v1 v2 v3 v5 s0 (0 : Int32) p0_count p0_top p0_row H locs ls hf hP hD hS (lv_sub hl [1, 2, 3, 4, 5, 0] rfl)
    · have hf := ifF hc14 hf
      refine lv_iconst (v := 1) hx hb dX1_cut_73 (by decide) ?_
      refine lv_goto (tgt := 78) hx hb dX1_cut_74 (by decide) ?_
      exact keyB78 v1 v2 v3 v5 s0 (1 : Int32) p0_count p0_top p0_row H locs ls hf hP hD hS (lv_sub hl [1, 2, 3, 4, 5, 0] rfl)
  have keyB54 : ∀ (v1 : Int32) (v2 : Int32) (v3 : Int32) (v5 : Int32) (p0_count : Int32) (p0_top : Int32) (p0_row : (Nat → Int32)) (H : Heap) (locs : List Loc) (ls : Array Slot), f_X1_cut_B54 v1 v2 v3 v5 p0_count p0_top p0_row = some u → va_P D vwCl [(a_p0, .inr (3, [.ref a_p0_row, .int p0_count, .int p0_top])), (a_p0_row, .inl (cI, 792, .inl p0_row))] H → va_D A [(a_p0, .inr (3, [.ref a_p0_row, .int p0_count, .int p0_top])), (a_p0_row, .inl (cI, 792, .inl p0_row))] → va_S A s.heap H locs → lv_has ls 10 [(0, .ref a_p0), (1, .int v1), (2, .int v2), (3, .int v3), (5, .int v5)] → W p l e (rmz 2 43) s m ar below meth c H locs 0 0 Q (F0 m 54 ls []) := by
    intro v1 v2 v3 v5 p0_count p0_top p0_row H locs ls hf hP hD hS hl
    unfold f_X1_cut_B54 at hf
    refine lv_iconst (v := 1) hx hb dX1_cut_54 (by decide) ?_
    refine lv_goto (tgt := 59) hx hb dX1_cut_55 (by decide) ?_
    exact keyB59 v1 v2 v3 v5 (1 : Int32) p0_count p0_top p0_row H locs ls hf hP hD hS (lv_sub hl [0, 1, 2, 3, 4] rfl)
  have keyB35 : ∀ (v1 : Int32) (v2 : Int32) (v3 : Int32) (v4 : Int32) (s0 : Int32) (p0_count : Int32) (p0_top : Int32) (p0_row : (Nat → Int32)) (H : Heap) (locs : List Loc) (ls : Array Slot), f_X1_cut_B35 v1 v2 v3 v4 s0 p0_count p0_top p0_row = some u → va_P D vwCl [(a_p0, .inr (3, [.ref a_p0_row, .int p0_count, .int p0_top])), (a_p0_row, .inl (cI, 792, .inl p0_row))] H → va_D A [(a_p0, .inr (3, [.ref a_p0_row, .int p0_count, .int p0_top])), (a_p0_row, .inl (cI, 792, .inl p0_row))] → va_S A s.heap H locs → lv_has ls 10 [(0, .ref a_p0), (1, .int v1), (2, .int v2), (3, .int v3), (4, .int v4)] → W p l e (rmz 2 43) s m ar below meth c H locs 0 0 Q (F0 m 35 ls [.int s0]) := by
    intro v1 v2 v3 v4 s0 p0_count p0_top p0_row H locs ls hf hP hD hS hl
    unfold f_X1_cut_B35 at hf
    refine lv_istore (lv' := [(5, .int s0), (0, .ref a_p0), (1, .int v1), (2, .int v2), (3, .int v3), (4, .int v4)]) hx hb dX1_cut_35 hl (by decide) rfl (fun ls hl => ?_)
    refine lv_iload hx hb dX1_cut_37 (lv_at hl 5 rfl) ?_
    refine lv_iconst (v := 5) hx hb dX1_cut_39 (by decide) ?_
    refine lv_irem hx hb dX1_cut_40 (by decide) ?_
    refine lv_if_ne (tgt := 54) hx hb dX1_cut_41 (by decide) (fun hc16 => ?_) (fun hc16 => ?_)
    · have hf := ifF hc16 hf
      exact keyB54 v1 v2 v3 s0 p0_count p0_top p0_row H locs ls hf hP hD hS (lv_sub hl [1, 2, 3, 4, 0] rfl)
    · have hf := ifT hc16 hf
      refine lv_iload_n hx hb dX1_cut_44 rfl (lv_at hl 2 rfl) ?_
      refine lv_iconst (v := 1) hx hb dX1_cut_45 (by decide) ?_
      refine lv_iadd hx hb dX1_cut_46 ?_
      refine lv_aload_n hx hb dX1_cut_47 rfl (lv_at hl 1 rfl) ?_
      refine va_get (D := D) (ci := 3) (v := .int p0_count) (C := RX1) (T := TX1) (N := 3) hx hb hts uwX1 hown hK hP 0 rfl rfl 1 (by decide) (hts _ kfX1_13) (fun _ h9 => h9) rfl dX1_cut_48 ?_
      refine lv_icmp_ge (tgt := 58) hx hb dX1_cut_51 (by decide) (fun hc15 => ?_) (fun hc15 => ?_)
      · have hf := ifT hc15 hf
        refine lv_iconst (v := 0) hx hb dX1_cut_58 (by decide) ?_
        exact keyB59 v1 v2 v3 s0 (0 : Int32) p0_count p0_top p0_row H locs ls hf hP hD hS (lv_sub hl [1, 2, 3, 4, 0] rfl)
      · have hf := ifF hc15 hf
        exact keyB54 v1 v2 v3 s0 p0_count p0_top p0_row H locs ls hf hP hD hS (lv_sub hl [1, 2, 3, 4, 0] rfl)
  have keyB22 : ∀ (v1 : Int32) (v2 : Int32) (v3 : Int32) (s0 : Int32) (p0_count : Int32) (p0_top : Int32) (p0_row : (Nat → Int32)) (H : Heap) (locs : List Loc) (ls : Array Slot), f_X1_cut_B22 v1 v2 v3 s0 p0_count p0_top p0_row = some u → va_P D vwCl [(a_p0, .inr (3, [.ref a_p0_row, .int p0_count, .int p0_top])), (a_p0_row, .inl (cI, 792, .inl p0_row))] H → va_D A [(a_p0, .inr (3, [.ref a_p0_row, .int p0_count, .int p0_top])), (a_p0_row, .inl (cI, 792, .inl p0_row))] → va_S A s.heap H locs → lv_has ls 10 [(0, .ref a_p0), (1, .int v1), (2, .int v2), (3, .int v3)] → W p l e (rmz 2 43) s m ar below meth c H locs 0 0 Q (F0 m 22 ls [.int s0]) := by
    intro v1 v2 v3 s0 p0_count p0_top p0_row H locs ls hf hP hD hS hl
    unfold f_X1_cut_B22 at hf
    refine lv_istore (lv' := [(4, .int s0), (0, .ref a_p0), (1, .int v1), (2, .int v2), (3, .int v3)]) hx hb dX1_cut_22 hl (by decide) rfl (fun ls hl => ?_)
    refine lv_iload hx hb dX1_cut_24 (lv_at hl 0 rfl) ?_
    refine lv_iconst (v := 5) hx hb dX1_cut_26 (by decide) ?_
    refine lv_icmp_lt (tgt := 34) hx hb dX1_cut_27 (by decide) (fun hc17 => ?_) (fun hc17 => ?_)
    · have hf := ifT hc17 hf
      refine lv_iconst (v := 0) hx hb dX1_cut_34 (by decide) ?_
      exact keyB35 v1 v2 v3 s0 (0 : Int32) p0_count p0_top p0_row H locs ls hf hP hD hS (lv_sub hl [1, 2, 3, 4, 0] rfl)
    · have hf := ifF hc17 hf
      refine lv_iconst (v := 1) hx hb dX1_cut_30 (by decide) ?_
      refine lv_goto (tgt := 35) hx hb dX1_cut_31 (by decide) ?_
      exact keyB35 v1 v2 v3 s0 (1 : Int32) p0_count p0_top p0_row H locs ls hf hP hD hS (lv_sub hl [1, 2, 3, 4, 0] rfl)
  unfold f_X1_cut at hf
  refine lv_iload_n hx hb dX1_cut_0 rfl (lv_at hl 1 rfl) ?_
  refine lv_aload_n hx hb dX1_cut_1 rfl (lv_at hl 0 rfl) ?_
  refine va_get (D := D) (ci := 3) (v := .int p0_count) (C := RX1) (T := TX1) (N := 3) hx hb hts uwX1 hown hK hP 0 rfl rfl 1 (by decide) (hts _ kfX1_13) (fun _ h9 => h9) rfl dX1_cut_2 ?_
  refine lv_icmp_lt (tgt := 9) hx hb dX1_cut_5 (by decide) (fun hc19 => ?_) (fun hc19 => ?_)
  · have hf := ifT hc19 hf
    refine lv_iload_n hx hb dX1_cut_9 rfl (lv_at hl 1 rfl) ?_
    refine lv_if_ge (tgt := 17) hx hb dX1_cut_10 (by decide) (fun hc18 => ?_) (fun hc18 => ?_)
    · have hf := ifT hc18 hf
      refine lv_aload_n hx hb dX1_cut_17 rfl (lv_at hl 0 rfl) ?_
      refine lv_iload_n hx hb dX1_cut_18 rfl (lv_at hl 1 rfl) ?_
      obtain ⟨u1, hu2, hf⟩ := bdE hf
      refine cV_I (ws' := [(a_p0, .inr (3, [.ref a_p0_row, .int p0_count, .int p0_top])), (a_p0_row, .inl (cI, 792, .inl p0_row))]) (rest := []) S hK hN hA hP hD hS (c_X1_at l D cI cJ a_p0 a_p0_row p1 p0_count p0_top p0_row u1 hu2) mwX1_at miX1_at kmX1_64 [0, 1] rfl (by decide) rfl rfl rfl 0 rfl rfl ⟨Nat.le_of_ble_eq_true rfl, Nat.le_of_ble_eq_true rfl⟩ ⟨Nat.zero_le _, Nat.zero_le _⟩ hl.1 rfl rfl (Nat.le_of_ble_eq_true rfl) dX1_cut_19 (fun H locs hP hD hS => ?_)
      exact keyB22 p1 p2 p3 u1 p0_count p0_top p0_row H locs ls hf hP hD hS (lv_sub hl [0, 1, 2, 3] rfl)
    · have hf := ifF hc18 hf
      refine lv_iconst (v := 0) hx hb dX1_cut_13 (by decide) ?_
      refine lv_goto (tgt := 22) hx hb dX1_cut_14 (by decide) ?_
      exact keyB22 p1 p2 p3 (0 : Int32) p0_count p0_top p0_row H locs ls hf hP hD hS (lv_sub hl [0, 1, 2, 3] rfl)
  · have hf := ifF hc19 hf
    exact hret _ (opE hf) H locs ls 8 dX1_cut_8 hP hD hS
